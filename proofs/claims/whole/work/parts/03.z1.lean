theorem dX7_copyFrom_19 : decode cX7_copyFrom 19 = .ok (.invokevirtual 66, 3) := by decide +kernel
theorem dX7_copyFrom_22 : decode cX7_copyFrom 22 = .ok (.aload_n 0, 1) := by decide +kernel
theorem dX7_copyFrom_23 : decode cX7_copyFrom 23 = .ok (.aload_n 1, 1) := by decide +kernel
theorem dX7_copyFrom_24 : decode cX7_copyFrom 24 = .ok (.getfield 29, 3) := by decide +kernel
theorem dX7_copyFrom_27 : decode cX7_copyFrom 27 = .ok (.putfield 29, 3) := by decide +kernel
theorem dX7_copyFrom_30 : decode cX7_copyFrom 30 = .ok (.aload_n 0, 1) := by decide +kernel
theorem dX7_copyFrom_31 : decode cX7_copyFrom 31 = .ok (.aload_n 1, 1) := by decide +kernel
theorem dX7_copyFrom_32 : decode cX7_copyFrom 32 = .ok (.getfield 41, 3) := by decide +kernel
theorem dX7_copyFrom_35 : decode cX7_copyFrom 35 = .ok (.putfield 41, 3) := by decide +kernel
theorem dX7_copyFrom_38 : decode cX7_copyFrom 38 = .ok (.aload_n 0, 1) := by decide +kernel
theorem dX7_copyFrom_39 : decode cX7_copyFrom 39 = .ok (.aload_n 1, 1) := by decide +kernel
theorem dX7_copyFrom_40 : decode cX7_copyFrom 40 = .ok (.getfield 45, 3) := by decide +kernel
theorem dX7_copyFrom_43 : decode cX7_copyFrom 43 = .ok (.putfield 45, 3) := by decide +kernel
theorem dX7_copyFrom_46 : decode cX7_copyFrom 46 = .ok (.aload_n 0, 1) := by decide +kernel
theorem dX7_copyFrom_47 : decode cX7_copyFrom 47 = .ok (.aload_n 1, 1) := by decide +kernel
theorem dX7_copyFrom_48 : decode cX7_copyFrom 48 = .ok (.getfield 48, 3) := by decide +kernel
theorem dX7_copyFrom_51 : decode cX7_copyFrom 51 = .ok (.putfield 48, 3) := by decide +kernel
theorem dX7_copyFrom_54 : decode cX7_copyFrom 54 = .ok (.aload_n 0, 1) := by decide +kernel
theorem dX7_copyFrom_55 : decode cX7_copyFrom 55 = .ok (.aload_n 1, 1) := by decide +kernel
theorem dX7_copyFrom_56 : decode cX7_copyFrom 56 = .ok (.getfield 51, 3) := by decide +kernel
theorem dX7_copyFrom_59 : decode cX7_copyFrom 59 = .ok (.putfield 51, 3) := by decide +kernel
theorem dX7_copyFrom_62 : decode cX7_copyFrom 62 = .ok (.aload_n 0, 1) := by decide +kernel
theorem dX7_copyFrom_63 : decode cX7_copyFrom 63 = .ok (.aload_n 1, 1) := by decide +kernel
theorem dX7_copyFrom_64 : decode cX7_copyFrom 64 = .ok (.getfield 54, 3) := by decide +kernel
theorem dX7_copyFrom_67 : decode cX7_copyFrom 67 = .ok (.putfield 54, 3) := by decide +kernel
theorem dX7_copyFrom_70 : decode cX7_copyFrom 70 = .ok (.aload_n 0, 1) := by decide +kernel
theorem dX7_copyFrom_71 : decode cX7_copyFrom 71 = .ok (.aload_n 1, 1) := by decide +kernel
theorem dX7_copyFrom_72 : decode cX7_copyFrom 72 = .ok (.getfield 57, 3) := by decide +kernel
theorem dX7_copyFrom_75 : decode cX7_copyFrom 75 = .ok (.putfield 57, 3) := by decide +kernel
theorem dX7_copyFrom_78 : decode cX7_copyFrom 78 = .ok (.aload_n 0, 1) := by decide +kernel
theorem dX7_copyFrom_79 : decode cX7_copyFrom 79 = .ok (.dup, 1) := by decide +kernel
theorem dX7_copyFrom_80 : decode cX7_copyFrom 80 = .ok (.getfield 63, 3) := by decide +kernel
theorem dX7_copyFrom_83 : decode cX7_copyFrom 83 = .ok (.iconst 1, 1) := by decide +kernel
theorem dX7_copyFrom_84 : decode cX7_copyFrom 84 = .ok (.iadd, 1) := by decide +kernel
theorem dX7_copyFrom_85 : decode cX7_copyFrom 85 = .ok (.putfield 63, 3) := by decide +kernel
theorem dX7_copyFrom_88 : decode cX7_copyFrom 88 = .ok (.return_, 1) := by decide +kernel
theorem dX7_needOf_0 : decode cX7_needOf 0 = .ok (.iconst 1, 1) := by decide +kernel
theorem dX7_needOf_1 : decode cX7_needOf 1 = .ok (.iconst 4, 1) := by decide +kernel
theorem dX7_needOf_2 : decode cX7_needOf 2 = .ok (.iload_n 1, 1) := by decide +kernel
theorem dX7_needOf_3 : decode cX7_needOf 3 = .ok (.bipush 20, 2) := by decide +kernel
theorem dX7_needOf_5 : decode cX7_needOf 5 = .ok (.idiv, 1) := by decide +kernel
theorem dX7_needOf_6 : decode cX7_needOf 6 = .ok (.iadd, 1) := by decide +kernel
theorem dX7_needOf_7 : decode cX7_needOf 7 = .ok (.iconst 2, 1) := by decide +kernel
theorem dX7_needOf_8 : decode cX7_needOf 8 = .ok (.aload_n 0, 1) := by decide +kernel
theorem dX7_needOf_9 : decode cX7_needOf 9 = .ok (.getfield 48, 3) := by decide +kernel
theorem dX7_needOf_12 : decode cX7_needOf 12 = .ok (.imul, 1) := by decide +kernel
theorem dX7_needOf_13 : decode cX7_needOf 13 = .ok (.iadd, 1) := by decide +kernel
theorem dX7_needOf_14 : decode cX7_needOf 14 = .ok (.aload_n 0, 1) := by decide +kernel
theorem dX7_needOf_15 : decode cX7_needOf 15 = .ok (.getfield 45, 3) := by decide +kernel
theorem dX7_needOf_18 : decode cX7_needOf 18 = .ok (.iconst 4, 1) := by decide +kernel
theorem dX7_needOf_19 : decode cX7_needOf 19 = .ok (.idiv, 1) := by decide +kernel
theorem dX7_needOf_20 : decode cX7_needOf 20 = .ok (.isub, 1) := by decide +kernel
theorem dX7_needOf_21 : decode cX7_needOf 21 = .ok (.invokestatic 69, 3) := by decide +kernel
theorem dX7_needOf_24 : decode cX7_needOf 24 = .ok (.ireturn, 1) := by decide +kernel
theorem dX7_limit_0 : decode cX7_limit 0 = .ok (.bipush 24, 2) := by decide +kernel
theorem dX7_limit_2 : decode cX7_limit 2 = .ok (.iconst 4, 1) := by decide +kernel
theorem dX7_limit_3 : decode cX7_limit 3 = .ok (.aload_n 0, 1) := by decide +kernel
theorem dX7_limit_4 : decode cX7_limit 4 = .ok (.getfield 45, 3) := by decide +kernel
theorem dX7_limit_7 : decode cX7_limit 7 = .ok (.imul, 1) := by decide +kernel
theorem dX7_limit_8 : decode cX7_limit 8 = .ok (.iadd, 1) := by decide +kernel
theorem dX7_limit_9 : decode cX7_limit 9 = .ok (.ireturn, 1) := by decide +kernel
theorem dX7_room_0 : decode cX7_room 0 = .ok (.aload_n 0, 1) := by decide +kernel
theorem dX7_room_1 : decode cX7_room 1 = .ok (.getfield 41, 3) := by decide +kernel
theorem dX7_room_4 : decode cX7_room 4 = .ok (.iconst 2, 1) := by decide +kernel
theorem dX7_room_5 : decode cX7_room 5 = .ok (.idiv, 1) := by decide +kernel
theorem dX7_room_6 : decode cX7_room 6 = .ok (.ireturn, 1) := by decide +kernel
theorem dX7_pieces_0 : decode cX7_pieces 0 = .ok (.aload_n 0, 1) := by decide +kernel
theorem dX7_pieces_1 : decode cX7_pieces 1 = .ok (.getfield 41, 3) := by decide +kernel
theorem dX7_pieces_4 : decode cX7_pieces 4 = .ok (.bipush 10, 2) := by decide +kernel
theorem dX7_pieces_6 : decode cX7_pieces 6 = .ok (.idiv, 1) := by decide +kernel
theorem dX7_pieces_7 : decode cX7_pieces 7 = .ok (.ireturn, 1) := by decide +kernel
theorem dX7_greatestOpen_0 : decode cX7_greatestOpen 0 = .ok (.sipush 400, 3) := by decide +kernel
theorem dX7_greatestOpen_3 : decode cX7_greatestOpen 3 = .ok (.istore_n 2, 1) := by decide +kernel
theorem dX7_greatestOpen_4 : decode cX7_greatestOpen 4 = .ok (.iload_n 2, 1) := by decide +kernel
theorem dX7_greatestOpen_5 : decode cX7_greatestOpen 5 = .ok (.ifCond .lt 20, 3) := by decide +kernel
theorem dX7_greatestOpen_8 : decode cX7_greatestOpen 8 = .ok (.iload_n 1, 1) := by decide +kernel
theorem dX7_greatestOpen_9 : decode cX7_greatestOpen 9 = .ok (.aload_n 0, 1) := by decide +kernel
theorem dX7_greatestOpen_10 : decode cX7_greatestOpen 10 = .ok (.iload_n 2, 1) := by decide +kernel
theorem dX7_greatestOpen_11 : decode cX7_greatestOpen 11 = .ok (.invokevirtual 75, 3) := by decide +kernel
theorem dX7_greatestOpen_14 : decode cX7_greatestOpen 14 = .ok (.if_icmp .lt 5, 3) := by decide +kernel
theorem dX7_greatestOpen_17 : decode cX7_greatestOpen 17 = .ok (.iload_n 2, 1) := by decide +kernel
theorem dX7_greatestOpen_18 : decode cX7_greatestOpen 18 = .ok (.ireturn, 1) := by decide +kernel
theorem dX7_greatestOpen_19 : decode cX7_greatestOpen 19 = .ok (.iinc 2 (-1), 3) := by decide +kernel
theorem dX7_greatestOpen_22 : decode cX7_greatestOpen 22 = .ok (.goto (-18), 3) := by decide +kernel
theorem dX7_greatestOpen_25 : decode cX7_greatestOpen 25 = .ok (.ldc 79, 2) := by decide +kernel
theorem dX7_greatestOpen_27 : decode cX7_greatestOpen 27 = .ok (.ireturn, 1) := by decide +kernel
theorem dX7_distance_0 : decode cX7_distance 0 = .ok (.iload_n 1, 1) := by decide +kernel
theorem dX7_distance_1 : decode cX7_distance 1 = .ok (.aload_n 0, 1) := by decide +kernel
theorem dX7_distance_2 : decode cX7_distance 2 = .ok (.getfield 51, 3) := by decide +kernel
theorem dX7_distance_5 : decode cX7_distance 5 = .ok (.iload_n 2, 1) := by decide +kernel
theorem dX7_distance_6 : decode cX7_distance 6 = .ok (.imul, 1) := by decide +kernel
theorem dX7_distance_7 : decode cX7_distance 7 = .ok (.isub, 1) := by decide +kernel
theorem dX7_distance_8 : decode cX7_distance 8 = .ok (.aload_n 0, 1) := by decide +kernel
theorem dX7_distance_9 : decode cX7_distance 9 = .ok (.getfield 54, 3) := by decide +kernel
theorem dX7_distance_12 : decode cX7_distance 12 = .ok (.iload_n 1, 1) := by decide +kernel
theorem dX7_distance_13 : decode cX7_distance 13 = .ok (.invokestatic 80, 3) := by decide +kernel
theorem dX7_distance_16 : decode cX7_distance 16 = .ok (.invokestatic 69, 3) := by decide +kernel
theorem dX7_distance_19 : decode cX7_distance 19 = .ok (.ireturn, 1) := by decide +kernel
theorem dX7_leastTurn_0 : decode cX7_leastTurn 0 = .ok (.iconst 0, 1) := by decide +kernel
theorem dX7_leastTurn_1 : decode cX7_leastTurn 1 = .ok (.istore_n 3, 1) := by decide +kernel
theorem dX7_leastTurn_2 : decode cX7_leastTurn 2 = .ok (.iload_n 3, 1) := by decide +kernel
theorem dX7_leastTurn_3 : decode cX7_leastTurn 3 = .ok (.bipush 15, 2) := by decide +kernel
theorem dX7_leastTurn_5 : decode cX7_leastTurn 5 = .ok (.if_icmp .gt 22, 3) := by decide +kernel
theorem dX7_leastTurn_8 : decode cX7_leastTurn 8 = .ok (.aload_n 0, 1) := by decide +kernel
theorem dX7_leastTurn_9 : decode cX7_leastTurn 9 = .ok (.iload_n 1, 1) := by decide +kernel
theorem dX7_leastTurn_10 : decode cX7_leastTurn 10 = .ok (.iload_n 3, 1) := by decide +kernel
theorem dX7_leastTurn_11 : decode cX7_leastTurn 11 = .ok (.isub, 1) := by decide +kernel
theorem dX7_leastTurn_12 : decode cX7_leastTurn 12 = .ok (.iload_n 2, 1) := by decide +kernel
theorem dX7_leastTurn_13 : decode cX7_leastTurn 13 = .ok (.invokevirtual 83, 3) := by decide +kernel
theorem dX7_leastTurn_16 : decode cX7_leastTurn 16 = .ok (.ifCond .eq 5, 3) := by decide +kernel
theorem dX7_leastTurn_19 : decode cX7_leastTurn 19 = .ok (.iload_n 3, 1) := by decide +kernel
theorem dX7_leastTurn_20 : decode cX7_leastTurn 20 = .ok (.ireturn, 1) := by decide +kernel
theorem dX7_leastTurn_21 : decode cX7_leastTurn 21 = .ok (.iinc 3 1, 3) := by decide +kernel
theorem dX7_leastTurn_24 : decode cX7_leastTurn 24 = .ok (.goto (-22), 3) := by decide +kernel
theorem dX7_leastTurn_27 : decode cX7_leastTurn 27 = .ok (.ldc 79, 2) := by decide +kernel
theorem dX7_leastTurn_29 : decode cX7_leastTurn 29 = .ok (.ireturn, 1) := by decide +kernel
theorem dX7_staysFree_0 : decode cX7_staysFree 0 = .ok (.aload_n 0, 1) := by decide +kernel
theorem dX7_staysFree_1 : decode cX7_staysFree 1 = .ok (.getfield 21, 3) := by decide +kernel
theorem dX7_staysFree_4 : decode cX7_staysFree 4 = .ok (.getfield 87, 3) := by decide +kernel
theorem dX7_staysFree_7 : decode cX7_staysFree 7 = .ok (.istore_n 3, 1) := by decide +kernel
theorem dX7_staysFree_8 : decode cX7_staysFree 8 = .ok (.iconst 0, 1) := by decide +kernel
theorem dX7_staysFree_9 : decode cX7_staysFree 9 = .ok (.istore 4, 2) := by decide +kernel
theorem dX7_staysFree_11 : decode cX7_staysFree 11 = .ok (.iload 4, 2) := by decide +kernel
theorem dX7_staysFree_13 : decode cX7_staysFree 13 = .ok (.iload_n 2, 1) := by decide +kernel
theorem dX7_staysFree_14 : decode cX7_staysFree 14 = .ok (.if_icmp .ge 26, 3) := by decide +kernel
theorem dX7_staysFree_17 : decode cX7_staysFree 17 = .ok (.iload_n 3, 1) := by decide +kernel
theorem dX7_staysFree_18 : decode cX7_staysFree 18 = .ok (.iload_n 1, 1) := by decide +kernel
theorem dX7_staysFree_19 : decode cX7_staysFree 19 = .ok (.iadd, 1) := by decide +kernel
theorem dX7_staysFree_20 : decode cX7_staysFree 20 = .ok (.istore_n 3, 1) := by decide +kernel
theorem dX7_staysFree_21 : decode cX7_staysFree 21 = .ok (.iload_n 3, 1) := by decide +kernel
theorem dX7_staysFree_22 : decode cX7_staysFree 22 = .ok (.invokestatic 90, 3) := by decide +kernel
theorem dX7_staysFree_25 : decode cX7_staysFree 25 = .ok (.aload_n 0, 1) := by decide +kernel
theorem dX7_staysFree_26 : decode cX7_staysFree 26 = .ok (.invokevirtual 93, 3) := by decide +kernel
theorem dX7_staysFree_29 : decode cX7_staysFree 29 = .ok (.if_icmp .le 5, 3) := by decide +kernel
theorem dX7_staysFree_32 : decode cX7_staysFree 32 = .ok (.iconst 0, 1) := by decide +kernel
theorem dX7_staysFree_33 : decode cX7_staysFree 33 = .ok (.ireturn, 1) := by decide +kernel
theorem dX7_staysFree_34 : decode cX7_staysFree 34 = .ok (.iinc 4 1, 3) := by decide +kernel
theorem dX7_staysFree_37 : decode cX7_staysFree 37 = .ok (.goto (-26), 3) := by decide +kernel
theorem dX7_staysFree_40 : decode cX7_staysFree 40 = .ok (.iconst 1, 1) := by decide +kernel
theorem dX7_staysFree_41 : decode cX7_staysFree 41 = .ok (.ireturn, 1) := by decide +kernel
theorem dX8_init_0 : decode cX8_init 0 = .ok (.aload_n 0, 1) := by decide +kernel
theorem dX8_init_1 : decode cX8_init 1 = .ok (.invokespecial 5, 3) := by decide +kernel
theorem dX8_init_4 : decode cX8_init 4 = .ok (.aload_n 0, 1) := by decide +kernel
theorem dX8_init_5 : decode cX8_init 5 = .ok (.sipush 384, 3) := by decide +kernel
theorem dX8_init_8 : decode cX8_init 8 = .ok (.newarray .int, 2) := by decide +kernel
theorem dX8_init_10 : decode cX8_init 10 = .ok (.putfield 13, 3) := by decide +kernel
theorem dX8_init_13 : decode cX8_init 13 = .ok (.aload_n 0, 1) := by decide +kernel
theorem dX8_init_14 : decode cX8_init 14 = .ok (.bipush 6, 2) := by decide +kernel
theorem dX8_init_16 : decode cX8_init 16 = .ok (.newarray .int, 2) := by decide +kernel
theorem dX8_init_18 : decode cX8_init 18 = .ok (.putfield 17, 3) := by decide +kernel
theorem dX8_init_21 : decode cX8_init 21 = .ok (.aload_n 0, 1) := by decide +kernel
theorem dX8_init_22 : decode cX8_init 22 = .ok (.bipush 101, 2) := by decide +kernel
theorem dX8_init_24 : decode cX8_init 24 = .ok (.newarray .int, 2) := by decide +kernel
theorem dX8_init_26 : decode cX8_init 26 = .ok (.putfield 20, 3) := by decide +kernel
theorem dX8_init_29 : decode cX8_init 29 = .ok (.aload_n 0, 1) := by decide +kernel
theorem dX8_init_30 : decode cX8_init 30 = .ok (.new 23, 3) := by decide +kernel
theorem dX8_init_33 : decode cX8_init 33 = .ok (.dup, 1) := by decide +kernel
theorem dX8_init_34 : decode cX8_init 34 = .ok (.invokespecial 25, 3) := by decide +kernel
theorem dX8_init_37 : decode cX8_init 37 = .ok (.putfield 26, 3) := by decide +kernel
theorem dX8_init_40 : decode cX8_init 40 = .ok (.return_, 1) := by decide +kernel
theorem dX8_seekShow_0 : decode cX8_seekShow 0 = .ok (.aload_n 1, 1) := by decide +kernel
theorem dX8_seekShow_1 : decode cX8_seekShow 1 = .ok (.iconst 3, 1) := by decide +kernel
theorem dX8_seekShow_2 : decode cX8_seekShow 2 = .ok (.invokevirtual 30, 3) := by decide +kernel
theorem dX8_seekShow_5 : decode cX8_seekShow 5 = .ok (.istore_n 2, 1) := by decide +kernel
theorem dX8_seekShow_6 : decode cX8_seekShow 6 = .ok (.iconst 1, 1) := by decide +kernel
theorem dX8_seekShow_7 : decode cX8_seekShow 7 = .ok (.iload_n 2, 1) := by decide +kernel
theorem dX8_seekShow_8 : decode cX8_seekShow 8 = .ok (.ishl, 1) := by decide +kernel
theorem dX8_seekShow_9 : decode cX8_seekShow 9 = .ok (.iconst 1, 1) := by decide +kernel
theorem dX8_seekShow_10 : decode cX8_seekShow 10 = .ok (.isub, 1) := by decide +kernel
theorem dX8_seekShow_11 : decode cX8_seekShow 11 = .ok (.istore_n 3, 1) := by decide +kernel
theorem dX8_seekShow_12 : decode cX8_seekShow 12 = .ok (.iload_n 3, 1) := by decide +kernel
theorem dX8_seekShow_13 : decode cX8_seekShow 13 = .ok (.ifCond .le 74, 3) := by decide +kernel
theorem dX8_seekShow_16 : decode cX8_seekShow 16 = .ok (.iconst 0, 1) := by decide +kernel
theorem dX8_seekShow_17 : decode cX8_seekShow 17 = .ok (.istore 4, 2) := by decide +kernel
theorem dX8_seekShow_19 : decode cX8_seekShow 19 = .ok (.iload 4, 2) := by decide +kernel
theorem dX8_seekShow_21 : decode cX8_seekShow 21 = .ok (.iload_n 2, 1) := by decide +kernel
theorem dX8_seekShow_22 : decode cX8_seekShow 22 = .ok (.if_icmp .ge 59, 3) := by decide +kernel
theorem dX8_seekShow_25 : decode cX8_seekShow 25 = .ok (.aload_n 0, 1) := by decide +kernel
theorem dX8_seekShow_26 : decode cX8_seekShow 26 = .ok (.aload_n 1, 1) := by decide +kernel
theorem dX8_seekShow_27 : decode cX8_seekShow 27 = .ok (.iload_n 3, 1) := by decide +kernel
theorem dX8_seekShow_28 : decode cX8_seekShow 28 = .ok (.iload 4, 2) := by decide +kernel
theorem dX8_seekShow_30 : decode cX8_seekShow 30 = .ok (.invokevirtual 34, 3) := by decide +kernel
theorem dX8_seekShow_33 : decode cX8_seekShow 33 = .ok (.istore 5, 2) := by decide +kernel
theorem dX8_seekShow_35 : decode cX8_seekShow 35 = .ok (.aload_n 0, 1) := by decide +kernel
theorem dX8_seekShow_36 : decode cX8_seekShow 36 = .ok (.getfield 13, 3) := by decide +kernel
theorem dX8_seekShow_39 : decode cX8_seekShow 39 = .ok (.iload_n 3, 1) := by decide +kernel
theorem dX8_seekShow_40 : decode cX8_seekShow 40 = .ok (.iload 4, 2) := by decide +kernel
theorem dX8_seekShow_42 : decode cX8_seekShow 42 = .ok (.invokestatic 38, 3) := by decide +kernel
theorem dX8_seekShow_45 : decode cX8_seekShow 45 = .ok (.iload 5, 2) := by decide +kernel
theorem dX8_seekShow_47 : decode cX8_seekShow 47 = .ok (.ldc 42, 2) := by decide +kernel
theorem dX8_seekShow_49 : decode cX8_seekShow 49 = .ok (.if_icmp .ne 7, 3) := by decide +kernel
theorem dX8_seekShow_52 : decode cX8_seekShow 52 = .ok (.iconst 1, 1) := by decide +kernel
theorem dX8_seekShow_53 : decode cX8_seekShow 53 = .ok (.goto 21, 3) := by decide +kernel
theorem dX8_seekShow_56 : decode cX8_seekShow 56 = .ok (.iconst 1, 1) := by decide +kernel
theorem dX8_seekShow_57 : decode cX8_seekShow 57 = .ok (.aload_n 0, 1) := by decide +kernel
theorem dX8_seekShow_58 : decode cX8_seekShow 58 = .ok (.getfield 13, 3) := by decide +kernel
theorem dX8_seekShow_61 : decode cX8_seekShow 61 = .ok (.iload_n 3, 1) := by decide +kernel
theorem dX8_seekShow_62 : decode cX8_seekShow 62 = .ok (.iconst 1, 1) := by decide +kernel
theorem dX8_seekShow_63 : decode cX8_seekShow 63 = .ok (.iload 5, 2) := by decide +kernel
theorem dX8_seekShow_65 : decode cX8_seekShow 65 = .ok (.ishl, 1) := by decide +kernel
theorem dX8_seekShow_66 : decode cX8_seekShow 66 = .ok (.ior, 1) := by decide +kernel
theorem dX8_seekShow_67 : decode cX8_seekShow 67 = .ok (.iload 5, 2) := by decide +kernel
theorem dX8_seekShow_69 : decode cX8_seekShow 69 = .ok (.invokestatic 38, 3) := by decide +kernel
theorem dX8_seekShow_72 : decode cX8_seekShow 72 = .ok (.iaload, 1) := by decide +kernel
theorem dX8_seekShow_73 : decode cX8_seekShow 73 = .ok (.iadd, 1) := by decide +kernel
theorem dX8_seekShow_74 : decode cX8_seekShow 74 = .ok (.iastore, 1) := by decide +kernel
theorem dX8_seekShow_75 : decode cX8_seekShow 75 = .ok (.iinc 4 1, 3) := by decide +kernel
theorem dX8_seekShow_78 : decode cX8_seekShow 78 = .ok (.goto (-59), 3) := by decide +kernel
theorem dX8_seekShow_81 : decode cX8_seekShow 81 = .ok (.iinc 3 (-1), 3) := by decide +kernel
theorem dX8_seekShow_84 : decode cX8_seekShow 84 = .ok (.goto (-72), 3) := by decide +kernel
theorem dX8_seekShow_87 : decode cX8_seekShow 87 = .ok (.aload_n 0, 1) := by decide +kernel
theorem dX8_seekShow_88 : decode cX8_seekShow 88 = .ok (.iconst 0, 1) := by decide +kernel
theorem dX8_seekShow_89 : decode cX8_seekShow 89 = .ok (.putfield 43, 3) := by decide +kernel
theorem dX8_seekShow_92 : decode cX8_seekShow 92 = .ok (.iconst 0, 1) := by decide +kernel
theorem dX8_seekShow_93 : decode cX8_seekShow 93 = .ok (.istore_n 3, 1) := by decide +kernel
theorem dX8_seekShow_94 : decode cX8_seekShow 94 = .ok (.aload_n 0, 1) := by decide +kernel
theorem dX8_seekShow_95 : decode cX8_seekShow 95 = .ok (.aload_n 1, 1) := by decide +kernel
theorem dX8_seekShow_96 : decode cX8_seekShow 96 = .ok (.iconst 0, 1) := by decide +kernel
theorem dX8_seekShow_97 : decode cX8_seekShow 97 = .ok (.ldc 42, 2) := by decide +kernel
theorem dX8_seekShow_99 : decode cX8_seekShow 99 = .ok (.invokevirtual 34, 3) := by decide +kernel
theorem dX8_seekShow_102 : decode cX8_seekShow 102 = .ok (.istore 4, 2) := by decide +kernel
theorem dX8_seekShow_104 : decode cX8_seekShow 104 = .ok (.iload 4, 2) := by decide +kernel
theorem dX8_seekShow_106 : decode cX8_seekShow 106 = .ok (.ldc 42, 2) := by decide +kernel
theorem dX8_seekShow_108 : decode cX8_seekShow 108 = .ok (.if_icmp .eq 52, 3) := by decide +kernel
theorem dX8_seekShow_111 : decode cX8_seekShow 111 = .ok (.aload_n 0, 1) := by decide +kernel
theorem dX8_seekShow_112 : decode cX8_seekShow 112 = .ok (.getfield 43, 3) := by decide +kernel
theorem dX8_seekShow_115 : decode cX8_seekShow 115 = .ok (.iload_n 2, 1) := by decide +kernel
theorem dX8_seekShow_116 : decode cX8_seekShow 116 = .ok (.if_icmp .ge 44, 3) := by decide +kernel
theorem dX8_seekShow_119 : decode cX8_seekShow 119 = .ok (.aload_n 0, 1) := by decide +kernel
theorem dX8_seekShow_120 : decode cX8_seekShow 120 = .ok (.getfield 17, 3) := by decide +kernel
theorem dX8_seekShow_123 : decode cX8_seekShow 123 = .ok (.aload_n 0, 1) := by decide +kernel
theorem dX8_seekShow_124 : decode cX8_seekShow 124 = .ok (.getfield 43, 3) := by decide +kernel
theorem dX8_seekShow_127 : decode cX8_seekShow 127 = .ok (.iload 4, 2) := by decide +kernel
theorem dX8_seekShow_129 : decode cX8_seekShow 129 = .ok (.iastore, 1) := by decide +kernel
theorem dX8_seekShow_130 : decode cX8_seekShow 130 = .ok (.aload_n 0, 1) := by decide +kernel
theorem dX8_seekShow_131 : decode cX8_seekShow 131 = .ok (.dup, 1) := by decide +kernel
theorem dX8_seekShow_132 : decode cX8_seekShow 132 = .ok (.getfield 43, 3) := by decide +kernel
theorem dX8_seekShow_135 : decode cX8_seekShow 135 = .ok (.iconst 1, 1) := by decide +kernel
theorem dX8_seekShow_136 : decode cX8_seekShow 136 = .ok (.iadd, 1) := by decide +kernel
theorem dX8_seekShow_137 : decode cX8_seekShow 137 = .ok (.putfield 43, 3) := by decide +kernel
theorem dX8_seekShow_140 : decode cX8_seekShow 140 = .ok (.iload_n 3, 1) := by decide +kernel
theorem dX8_seekShow_141 : decode cX8_seekShow 141 = .ok (.iconst 1, 1) := by decide +kernel
theorem dX8_seekShow_142 : decode cX8_seekShow 142 = .ok (.iload 4, 2) := by decide +kernel
theorem dX8_seekShow_144 : decode cX8_seekShow 144 = .ok (.ishl, 1) := by decide +kernel
theorem dX8_seekShow_145 : decode cX8_seekShow 145 = .ok (.ior, 1) := by decide +kernel
theorem dX8_seekShow_146 : decode cX8_seekShow 146 = .ok (.istore_n 3, 1) := by decide +kernel
theorem dX8_seekShow_147 : decode cX8_seekShow 147 = .ok (.aload_n 0, 1) := by decide +kernel
theorem dX8_seekShow_148 : decode cX8_seekShow 148 = .ok (.aload_n 1, 1) := by decide +kernel
theorem dX8_seekShow_149 : decode cX8_seekShow 149 = .ok (.iload_n 3, 1) := by decide +kernel
theorem dX8_seekShow_150 : decode cX8_seekShow 150 = .ok (.iload 4, 2) := by decide +kernel
theorem dX8_seekShow_152 : decode cX8_seekShow 152 = .ok (.invokevirtual 34, 3) := by decide +kernel
theorem dX8_seekShow_155 : decode cX8_seekShow 155 = .ok (.istore 4, 2) := by decide +kernel
theorem dX8_seekShow_157 : decode cX8_seekShow 157 = .ok (.goto (-53), 3) := by decide +kernel
theorem dX8_seekShow_160 : decode cX8_seekShow 160 = .ok (.return_, 1) := by decide +kernel
theorem dX8_placeOf_0 : decode cX8_placeOf 0 = .ok (.iload_n 0, 1) := by decide +kernel
theorem dX8_placeOf_1 : decode cX8_placeOf 1 = .ok (.bipush 6, 2) := by decide +kernel
theorem dX8_placeOf_3 : decode cX8_placeOf 3 = .ok (.imul, 1) := by decide +kernel
theorem dX8_placeOf_4 : decode cX8_placeOf 4 = .ok (.iload_n 1, 1) := by decide +kernel
theorem dX8_placeOf_5 : decode cX8_placeOf 5 = .ok (.iadd, 1) := by decide +kernel
theorem dX8_placeOf_6 : decode cX8_placeOf 6 = .ok (.ireturn, 1) := by decide +kernel
theorem dX8_showLength_0 : decode cX8_showLength 0 = .ok (.aload_n 0, 1) := by decide +kernel
theorem dX8_showLength_1 : decode cX8_showLength 1 = .ok (.getfield 43, 3) := by decide +kernel
theorem dX8_showLength_4 : decode cX8_showLength 4 = .ok (.ireturn, 1) := by decide +kernel
theorem dX8_formAt_0 : decode cX8_formAt 0 = .ok (.iload_n 1, 1) := by decide +kernel
theorem dX8_formAt_1 : decode cX8_formAt 1 = .ok (.ifCond .lt 20, 3) := by decide +kernel
theorem dX8_formAt_4 : decode cX8_formAt 4 = .ok (.iload_n 1, 1) := by decide +kernel
theorem dX8_formAt_5 : decode cX8_formAt 5 = .ok (.aload_n 0, 1) := by decide +kernel
theorem dX8_formAt_6 : decode cX8_formAt 6 = .ok (.getfield 43, 3) := by decide +kernel
theorem dX8_formAt_9 : decode cX8_formAt 9 = .ok (.if_icmp .ge 12, 3) := by decide +kernel
theorem dX8_formAt_12 : decode cX8_formAt 12 = .ok (.aload_n 0, 1) := by decide +kernel
theorem dX8_formAt_13 : decode cX8_formAt 13 = .ok (.getfield 17, 3) := by decide +kernel
theorem dX8_formAt_16 : decode cX8_formAt 16 = .ok (.iload_n 1, 1) := by decide +kernel
theorem dX8_formAt_17 : decode cX8_formAt 17 = .ok (.iaload, 1) := by decide +kernel
theorem dX8_formAt_18 : decode cX8_formAt 18 = .ok (.goto 5, 3) := by decide +kernel
theorem dX8_formAt_21 : decode cX8_formAt 21 = .ok (.ldc 42, 2) := by decide +kernel
theorem dX8_formAt_23 : decode cX8_formAt 23 = .ok (.ireturn, 1) := by decide +kernel
theorem dX8_nextForm_0 : decode cX8_nextForm 0 = .ok (.aload_n 1, 1) := by decide +kernel
theorem dX8_nextForm_1 : decode cX8_nextForm 1 = .ok (.iconst 3, 1) := by decide +kernel
theorem dX8_nextForm_2 : decode cX8_nextForm 2 = .ok (.invokevirtual 30, 3) := by decide +kernel
theorem dX8_nextForm_5 : decode cX8_nextForm 5 = .ok (.istore 4, 2) := by decide +kernel
theorem dX8_nextForm_7 : decode cX8_nextForm 7 = .ok (.iconst 0, 1) := by decide +kernel
theorem dX8_nextForm_8 : decode cX8_nextForm 8 = .ok (.istore 5, 2) := by decide +kernel
theorem dX8_nextForm_10 : decode cX8_nextForm 10 = .ok (.ldc 42, 2) := by decide +kernel
theorem dX8_nextForm_12 : decode cX8_nextForm 12 = .ok (.istore 6, 2) := by decide +kernel
theorem dX8_nextForm_14 : decode cX8_nextForm 14 = .ok (.iconst 0, 1) := by decide +kernel
theorem dX8_nextForm_15 : decode cX8_nextForm 15 = .ok (.istore 7, 2) := by decide +kernel
theorem dX8_nextForm_17 : decode cX8_nextForm 17 = .ok (.iload 7, 2) := by decide +kernel
theorem dX8_nextForm_19 : decode cX8_nextForm 19 = .ok (.iload 4, 2) := by decide +kernel
theorem dX8_nextForm_21 : decode cX8_nextForm 21 = .ok (.if_icmp .ge 83, 3) := by decide +kernel
theorem dX8_nextForm_24 : decode cX8_nextForm 24 = .ok (.iload_n 2, 1) := by decide +kernel
theorem dX8_nextForm_25 : decode cX8_nextForm 25 = .ok (.iconst 1, 1) := by decide +kernel
theorem dX8_nextForm_26 : decode cX8_nextForm 26 = .ok (.iload 7, 2) := by decide +kernel
theorem dX8_nextForm_28 : decode cX8_nextForm 28 = .ok (.ishl, 1) := by decide +kernel
theorem dX8_nextForm_29 : decode cX8_nextForm 29 = .ok (.iand, 1) := by decide +kernel
theorem dX8_nextForm_30 : decode cX8_nextForm 30 = .ok (.ifCond .ne 7, 3) := by decide +kernel
theorem dX8_nextForm_33 : decode cX8_nextForm 33 = .ok (.iconst 1, 1) := by decide +kernel
theorem dX8_nextForm_34 : decode cX8_nextForm 34 = .ok (.goto 4, 3) := by decide +kernel
theorem dX8_nextForm_37 : decode cX8_nextForm 37 = .ok (.iconst 0, 1) := by decide +kernel
theorem dX8_nextForm_38 : decode cX8_nextForm 38 = .ok (.istore 8, 2) := by decide +kernel
theorem dX8_nextForm_40 : decode cX8_nextForm 40 = .ok (.iload 8, 2) := by decide +kernel
theorem dX8_nextForm_42 : decode cX8_nextForm 42 = .ok (.ifCond .eq 22, 3) := by decide +kernel
theorem dX8_nextForm_45 : decode cX8_nextForm 45 = .ok (.aload_n 0, 1) := by decide +kernel
theorem dX8_nextForm_46 : decode cX8_nextForm 46 = .ok (.getfield 13, 3) := by decide +kernel
theorem dX8_nextForm_49 : decode cX8_nextForm 49 = .ok (.iload_n 2, 1) := by decide +kernel
theorem dX8_nextForm_50 : decode cX8_nextForm 50 = .ok (.iconst 1, 1) := by decide +kernel
theorem dX8_nextForm_51 : decode cX8_nextForm 51 = .ok (.iload 7, 2) := by decide +kernel
theorem dX8_nextForm_53 : decode cX8_nextForm 53 = .ok (.ishl, 1) := by decide +kernel
theorem dX8_nextForm_54 : decode cX8_nextForm 54 = .ok (.ior, 1) := by decide +kernel
theorem dX8_nextForm_55 : decode cX8_nextForm 55 = .ok (.iload 7, 2) := by decide +kernel
theorem dX8_nextForm_57 : decode cX8_nextForm 57 = .ok (.invokestatic 38, 3) := by decide +kernel
theorem dX8_nextForm_60 : decode cX8_nextForm 60 = .ok (.iaload, 1) := by decide +kernel
theorem dX8_nextForm_61 : decode cX8_nextForm 61 = .ok (.goto 4, 3) := by decide +kernel
theorem dX8_nextForm_64 : decode cX8_nextForm 64 = .ok (.iconst 0, 1) := by decide +kernel
theorem dX8_nextForm_65 : decode cX8_nextForm 65 = .ok (.istore 9, 2) := by decide +kernel
theorem dX8_nextForm_67 : decode cX8_nextForm 67 = .ok (.iload 9, 2) := by decide +kernel
theorem dX8_nextForm_69 : decode cX8_nextForm 69 = .ok (.iload 5, 2) := by decide +kernel
theorem dX8_nextForm_71 : decode cX8_nextForm 71 = .ok (.if_icmp .le 27, 3) := by decide +kernel
theorem dX8_nextForm_74 : decode cX8_nextForm 74 = .ok (.iload_n 3, 1) := by decide +kernel
theorem dX8_nextForm_75 : decode cX8_nextForm 75 = .ok (.ldc 42, 2) := by decide +kernel
theorem dX8_nextForm_77 : decode cX8_nextForm 77 = .ok (.if_icmp .eq 13, 3) := by decide +kernel
theorem dX8_nextForm_80 : decode cX8_nextForm 80 = .ok (.aload_n 1, 1) := by decide +kernel
theorem dX8_nextForm_81 : decode cX8_nextForm 81 = .ok (.iload_n 3, 1) := by decide +kernel
theorem dX8_nextForm_82 : decode cX8_nextForm 82 = .ok (.iload 7, 2) := by decide +kernel
theorem dX8_nextForm_84 : decode cX8_nextForm 84 = .ok (.invokestatic 47, 3) := by decide +kernel
theorem dX8_nextForm_87 : decode cX8_nextForm 87 = .ok (.ifCond .eq 11, 3) := by decide +kernel
theorem dX8_nextForm_90 : decode cX8_nextForm 90 = .ok (.iload 9, 2) := by decide +kernel
theorem dX8_nextForm_92 : decode cX8_nextForm 92 = .ok (.istore 5, 2) := by decide +kernel
theorem dX8_nextForm_94 : decode cX8_nextForm 94 = .ok (.iload 7, 2) := by decide +kernel
theorem dX8_nextForm_96 : decode cX8_nextForm 96 = .ok (.istore 6, 2) := by decide +kernel
theorem dX8_nextForm_98 : decode cX8_nextForm 98 = .ok (.iinc 7 1, 3) := by decide +kernel
theorem dX8_nextForm_101 : decode cX8_nextForm 101 = .ok (.goto (-84), 3) := by decide +kernel
theorem dX8_nextForm_104 : decode cX8_nextForm 104 = .ok (.iload 6, 2) := by decide +kernel
theorem dX8_nextForm_106 : decode cX8_nextForm 106 = .ok (.ireturn, 1) := by decide +kernel
theorem dX8_goes_0 : decode cX8_goes 0 = .ok (.aload_n 0, 1) := by decide +kernel
theorem dX8_goes_1 : decode cX8_goes 1 = .ok (.iload_n 1, 1) := by decide +kernel
theorem dX8_goes_2 : decode cX8_goes 2 = .ok (.iload_n 2, 1) := by decide +kernel
theorem dX8_goes_3 : decode cX8_goes 3 = .ok (.iconst 0, 1) := by decide +kernel
theorem dX8_goes_4 : decode cX8_goes 4 = .ok (.iconst 2, 1) := by decide +kernel
theorem dX8_goes_5 : decode cX8_goes 5 = .ok (.invokestatic 51, 3) := by decide +kernel
theorem dX8_goes_8 : decode cX8_goes 8 = .ok (.ifCond .eq 19, 3) := by decide +kernel
theorem dX8_goes_11 : decode cX8_goes 11 = .ok (.aload_n 0, 1) := by decide +kernel
theorem dX8_goes_12 : decode cX8_goes 12 = .ok (.iload_n 1, 1) := by decide +kernel
theorem dX8_goes_13 : decode cX8_goes 13 = .ok (.iload_n 2, 1) := by decide +kernel
theorem dX8_goes_14 : decode cX8_goes 14 = .ok (.iconst 2, 1) := by decide +kernel
theorem dX8_goes_15 : decode cX8_goes 15 = .ok (.bipush 20, 2) := by decide +kernel
theorem dX8_goes_17 : decode cX8_goes 17 = .ok (.invokestatic 51, 3) := by decide +kernel
theorem dX8_goes_20 : decode cX8_goes 20 = .ok (.ifCond .eq 7, 3) := by decide +kernel
theorem dX8_goes_23 : decode cX8_goes 23 = .ok (.iconst 1, 1) := by decide +kernel
theorem dX8_goes_24 : decode cX8_goes 24 = .ok (.goto 4, 3) := by decide +kernel
theorem dX8_goes_27 : decode cX8_goes 27 = .ok (.iconst 0, 1) := by decide +kernel
theorem dX8_goes_28 : decode cX8_goes 28 = .ok (.ireturn, 1) := by decide +kernel
theorem dX8_areNear_0 : decode cX8_areNear 0 = .ok (.aload_n 0, 1) := by decide +kernel
theorem dX8_areNear_1 : decode cX8_areNear 1 = .ok (.iconst 3, 1) := by decide +kernel
theorem dX8_areNear_2 : decode cX8_areNear 2 = .ok (.iload_n 1, 1) := by decide +kernel
theorem dX8_areNear_3 : decode cX8_areNear 3 = .ok (.iload_n 3, 1) := by decide +kernel
theorem dX8_areNear_4 : decode cX8_areNear 4 = .ok (.invokevirtual 55, 3) := by decide +kernel
theorem dX8_areNear_7 : decode cX8_areNear 7 = .ok (.istore 5, 2) := by decide +kernel
theorem dX8_areNear_9 : decode cX8_areNear 9 = .ok (.aload_n 0, 1) := by decide +kernel
theorem dX8_areNear_10 : decode cX8_areNear 10 = .ok (.iconst 3, 1) := by decide +kernel
theorem dX8_areNear_11 : decode cX8_areNear 11 = .ok (.iload_n 1, 1) := by decide +kernel
theorem dX8_areNear_12 : decode cX8_areNear 12 = .ok (.iload_n 3, 1) := by decide +kernel
theorem dX8_areNear_13 : decode cX8_areNear 13 = .ok (.iconst 1, 1) := by decide +kernel
theorem dX8_areNear_14 : decode cX8_areNear 14 = .ok (.iadd, 1) := by decide +kernel
theorem dX8_areNear_15 : decode cX8_areNear 15 = .ok (.invokevirtual 55, 3) := by decide +kernel
theorem dX8_areNear_18 : decode cX8_areNear 18 = .ok (.istore 6, 2) := by decide +kernel
theorem dX8_areNear_20 : decode cX8_areNear 20 = .ok (.aload_n 0, 1) := by decide +kernel
theorem dX8_areNear_21 : decode cX8_areNear 21 = .ok (.iconst 3, 1) := by decide +kernel
theorem dX8_areNear_22 : decode cX8_areNear 22 = .ok (.iload_n 2, 1) := by decide +kernel
theorem dX8_areNear_23 : decode cX8_areNear 23 = .ok (.iload_n 3, 1) := by decide +kernel
theorem dX8_areNear_24 : decode cX8_areNear 24 = .ok (.invokevirtual 55, 3) := by decide +kernel
theorem dX8_areNear_27 : decode cX8_areNear 27 = .ok (.istore 7, 2) := by decide +kernel
theorem dX8_areNear_29 : decode cX8_areNear 29 = .ok (.aload_n 0, 1) := by decide +kernel
theorem dX8_areNear_30 : decode cX8_areNear 30 = .ok (.iconst 3, 1) := by decide +kernel
theorem dX8_areNear_31 : decode cX8_areNear 31 = .ok (.iload_n 2, 1) := by decide +kernel
theorem dX8_areNear_32 : decode cX8_areNear 32 = .ok (.iload_n 3, 1) := by decide +kernel
theorem dX8_areNear_33 : decode cX8_areNear 33 = .ok (.iconst 1, 1) := by decide +kernel
theorem dX8_areNear_34 : decode cX8_areNear 34 = .ok (.iadd, 1) := by decide +kernel
theorem dX8_areNear_35 : decode cX8_areNear 35 = .ok (.invokevirtual 55, 3) := by decide +kernel
theorem dX8_areNear_38 : decode cX8_areNear 38 = .ok (.istore 8, 2) := by decide +kernel
theorem dX8_areNear_40 : decode cX8_areNear 40 = .ok (.iload 7, 2) := by decide +kernel
theorem dX8_areNear_42 : decode cX8_areNear 42 = .ok (.iload 6, 2) := by decide +kernel
theorem dX8_areNear_44 : decode cX8_areNear 44 = .ok (.isub, 1) := by decide +kernel
theorem dX8_areNear_45 : decode cX8_areNear 45 = .ok (.iload 4, 2) := by decide +kernel
theorem dX8_areNear_47 : decode cX8_areNear 47 = .ok (.if_icmp .gt 17, 3) := by decide +kernel
theorem dX8_areNear_50 : decode cX8_areNear 50 = .ok (.iload 5, 2) := by decide +kernel
theorem dX8_areNear_52 : decode cX8_areNear 52 = .ok (.iload 8, 2) := by decide +kernel
theorem dX8_areNear_54 : decode cX8_areNear 54 = .ok (.isub, 1) := by decide +kernel
theorem dX8_areNear_55 : decode cX8_areNear 55 = .ok (.iload 4, 2) := by decide +kernel
theorem dX8_areNear_57 : decode cX8_areNear 57 = .ok (.if_icmp .gt 7, 3) := by decide +kernel
theorem dX8_areNear_60 : decode cX8_areNear 60 = .ok (.iconst 1, 1) := by decide +kernel
theorem dX8_areNear_61 : decode cX8_areNear 61 = .ok (.goto 4, 3) := by decide +kernel
theorem dX8_areNear_64 : decode cX8_areNear 64 = .ok (.iconst 0, 1) := by decide +kernel
theorem dX8_areNear_65 : decode cX8_areNear 65 = .ok (.ireturn, 1) := by decide +kernel
theorem dX8_seekTries_0 : decode cX8_seekTries 0 = .ok (.bipush 100, 2) := by decide +kernel
theorem dX8_seekTries_2 : decode cX8_seekTries 2 = .ok (.istore_n 3, 1) := by decide +kernel
theorem dX8_seekTries_3 : decode cX8_seekTries 3 = .ok (.iload_n 3, 1) := by decide +kernel
theorem dX8_seekTries_4 : decode cX8_seekTries 4 = .ok (.ifCond .lt 69, 3) := by decide +kernel
theorem dX8_seekTries_7 : decode cX8_seekTries 7 = .ok (.bipush 31, 2) := by decide +kernel
theorem dX8_seekTries_9 : decode cX8_seekTries 9 = .ok (.istore 4, 2) := by decide +kernel
theorem dX8_seekTries_11 : decode cX8_seekTries 11 = .ok (.iconst 0, 1) := by decide +kernel
theorem dX8_seekTries_12 : decode cX8_seekTries 12 = .ok (.istore 5, 2) := by decide +kernel
theorem dX8_seekTries_14 : decode cX8_seekTries 14 = .ok (.iload_n 3, 1) := by decide +kernel
theorem dX8_seekTries_15 : decode cX8_seekTries 15 = .ok (.iload_n 2, 1) := by decide +kernel
theorem dX8_seekTries_16 : decode cX8_seekTries 16 = .ok (.if_icmp .ge 34, 3) := by decide +kernel
theorem dX8_seekTries_19 : decode cX8_seekTries 19 = .ok (.iload 5, 2) := by decide +kernel
theorem dX8_seekTries_21 : decode cX8_seekTries 21 = .ok (.aload_n 1, 1) := by decide +kernel
theorem dX8_seekTries_22 : decode cX8_seekTries 22 = .ok (.iconst 0, 1) := by decide +kernel
theorem dX8_seekTries_23 : decode cX8_seekTries 23 = .ok (.invokevirtual 30, 3) := by decide +kernel
theorem dX8_seekTries_26 : decode cX8_seekTries 26 = .ok (.if_icmp .ge 24, 3) := by decide +kernel
theorem dX8_seekTries_29 : decode cX8_seekTries 29 = .ok (.iload 4, 2) := by decide +kernel
theorem dX8_seekTries_31 : decode cX8_seekTries 31 = .ok (.aload_n 0, 1) := by decide +kernel
theorem dX8_seekTries_32 : decode cX8_seekTries 32 = .ok (.aload_n 1, 1) := by decide +kernel
theorem dX8_seekTries_33 : decode cX8_seekTries 33 = .ok (.iload 5, 2) := by decide +kernel
theorem dX8_seekTries_35 : decode cX8_seekTries 35 = .ok (.iload_n 3, 1) := by decide +kernel
theorem dX8_seekTries_36 : decode cX8_seekTries 36 = .ok (.invokevirtual 59, 3) := by decide +kernel
theorem dX8_seekTries_39 : decode cX8_seekTries 39 = .ok (.invokestatic 62, 3) := by decide +kernel
theorem dX8_seekTries_42 : decode cX8_seekTries 42 = .ok (.istore 4, 2) := by decide +kernel
theorem dX8_seekTries_44 : decode cX8_seekTries 44 = .ok (.iinc 5 1, 3) := by decide +kernel
theorem dX8_seekTries_47 : decode cX8_seekTries 47 = .ok (.goto (-33), 3) := by decide +kernel
theorem dX8_seekTries_50 : decode cX8_seekTries 50 = .ok (.aload_n 0, 1) := by decide +kernel
theorem dX8_seekTries_51 : decode cX8_seekTries 51 = .ok (.getfield 20, 3) := by decide +kernel
theorem dX8_seekTries_54 : decode cX8_seekTries 54 = .ok (.iload_n 3, 1) := by decide +kernel
theorem dX8_seekTries_55 : decode cX8_seekTries 55 = .ok (.iload_n 3, 1) := by decide +kernel
theorem dX8_seekTries_56 : decode cX8_seekTries 56 = .ok (.iload_n 2, 1) := by decide +kernel
theorem dX8_seekTries_57 : decode cX8_seekTries 57 = .ok (.if_icmp .lt 7, 3) := by decide +kernel
theorem dX8_seekTries_60 : decode cX8_seekTries 60 = .ok (.iconst 0, 1) := by decide +kernel
theorem dX8_seekTries_61 : decode cX8_seekTries 61 = .ok (.goto 5, 3) := by decide +kernel
theorem dX8_seekTries_64 : decode cX8_seekTries 64 = .ok (.iload 4, 2) := by decide +kernel
theorem dX8_seekTries_66 : decode cX8_seekTries 66 = .ok (.iastore, 1) := by decide +kernel
theorem dX8_seekTries_67 : decode cX8_seekTries 67 = .ok (.iinc 3 (-1), 3) := by decide +kernel
theorem dX8_seekTries_70 : decode cX8_seekTries 70 = .ok (.goto (-67), 3) := by decide +kernel
theorem dX8_seekTries_73 : decode cX8_seekTries 73 = .ok (.return_, 1) := by decide +kernel
theorem dX8_triesFrom_0 : decode cX8_triesFrom 0 = .ok (.iload_n 1, 1) := by decide +kernel
theorem dX8_triesFrom_1 : decode cX8_triesFrom 1 = .ok (.ifCond .lt 13, 3) := by decide +kernel
theorem dX8_triesFrom_4 : decode cX8_triesFrom 4 = .ok (.iload_n 1, 1) := by decide +kernel
theorem dX8_triesFrom_5 : decode cX8_triesFrom 5 = .ok (.bipush 100, 2) := by decide +kernel
theorem dX8_triesFrom_7 : decode cX8_triesFrom 7 = .ok (.if_icmp .gt 7, 3) := by decide +kernel
theorem dX8_triesFrom_10 : decode cX8_triesFrom 10 = .ok (.iconst 1, 1) := by decide +kernel
theorem dX8_triesFrom_11 : decode cX8_triesFrom 11 = .ok (.goto 4, 3) := by decide +kernel
theorem dX8_triesFrom_14 : decode cX8_triesFrom 14 = .ok (.iconst 0, 1) := by decide +kernel
theorem dX8_triesFrom_15 : decode cX8_triesFrom 15 = .ok (.istore_n 2, 1) := by decide +kernel
theorem dX8_triesFrom_16 : decode cX8_triesFrom 16 = .ok (.iload_n 2, 1) := by decide +kernel
theorem dX8_triesFrom_17 : decode cX8_triesFrom 17 = .ok (.ifCond .eq 23, 3) := by decide +kernel
theorem dX8_triesFrom_20 : decode cX8_triesFrom 20 = .ok (.aload_n 0, 1) := by decide +kernel
theorem dX8_triesFrom_21 : decode cX8_triesFrom 21 = .ok (.getfield 20, 3) := by decide +kernel
theorem dX8_triesFrom_24 : decode cX8_triesFrom 24 = .ok (.iload_n 1, 1) := by decide +kernel
theorem dX8_triesFrom_25 : decode cX8_triesFrom 25 = .ok (.iaload, 1) := by decide +kernel
theorem dX8_triesFrom_26 : decode cX8_triesFrom 26 = .ok (.bipush 30, 2) := by decide +kernel
theorem dX8_triesFrom_28 : decode cX8_triesFrom 28 = .ok (.if_icmp .gt 12, 3) := by decide +kernel
theorem dX8_triesFrom_31 : decode cX8_triesFrom 31 = .ok (.aload_n 0, 1) := by decide +kernel
theorem dX8_triesFrom_32 : decode cX8_triesFrom 32 = .ok (.getfield 20, 3) := by decide +kernel
theorem dX8_triesFrom_35 : decode cX8_triesFrom 35 = .ok (.iload_n 1, 1) := by decide +kernel
theorem dX8_triesFrom_36 : decode cX8_triesFrom 36 = .ok (.iaload, 1) := by decide +kernel
theorem dX8_triesFrom_37 : decode cX8_triesFrom 37 = .ok (.goto 5, 3) := by decide +kernel
theorem dX8_triesFrom_40 : decode cX8_triesFrom 40 = .ok (.ldc 42, 2) := by decide +kernel
theorem dX8_triesFrom_42 : decode cX8_triesFrom 42 = .ok (.ireturn, 1) := by decide +kernel
theorem dX8_firstRope_0 : decode cX8_firstRope 0 = .ok (.aload_n 0, 1) := by decide +kernel
theorem dX8_firstRope_1 : decode cX8_firstRope 1 = .ok (.iload_n 2, 1) := by decide +kernel
theorem dX8_firstRope_2 : decode cX8_firstRope 2 = .ok (.invokevirtual 67, 3) := by decide +kernel
theorem dX8_firstRope_5 : decode cX8_firstRope 5 = .ok (.istore_n 3, 1) := by decide +kernel
theorem dX8_firstRope_6 : decode cX8_firstRope 6 = .ok (.iconst 0, 1) := by decide +kernel
theorem dX8_firstRope_7 : decode cX8_firstRope 7 = .ok (.istore 4, 2) := by decide +kernel
theorem dX8_firstRope_9 : decode cX8_firstRope 9 = .ok (.iload_n 3, 1) := by decide +kernel
theorem dX8_firstRope_10 : decode cX8_firstRope 10 = .ok (.ifCond .le 34, 3) := by decide +kernel
theorem dX8_firstRope_13 : decode cX8_firstRope 13 = .ok (.iload 4, 2) := by decide +kernel
theorem dX8_firstRope_15 : decode cX8_firstRope 15 = .ok (.aload_n 1, 1) := by decide +kernel
theorem dX8_firstRope_16 : decode cX8_firstRope 16 = .ok (.iconst 0, 1) := by decide +kernel
theorem dX8_firstRope_17 : decode cX8_firstRope 17 = .ok (.invokevirtual 30, 3) := by decide +kernel
theorem dX8_firstRope_20 : decode cX8_firstRope 20 = .ok (.if_icmp .ge 24, 3) := by decide +kernel
theorem dX8_firstRope_23 : decode cX8_firstRope 23 = .ok (.aload_n 0, 1) := by decide +kernel
theorem dX8_firstRope_24 : decode cX8_firstRope 24 = .ok (.aload_n 1, 1) := by decide +kernel
theorem dX8_firstRope_25 : decode cX8_firstRope 25 = .ok (.iload 4, 2) := by decide +kernel
theorem dX8_firstRope_27 : decode cX8_firstRope 27 = .ok (.iload_n 2, 1) := by decide +kernel
theorem dX8_firstRope_28 : decode cX8_firstRope 28 = .ok (.invokevirtual 59, 3) := by decide +kernel
theorem dX8_firstRope_31 : decode cX8_firstRope 31 = .ok (.iload_n 3, 1) := by decide +kernel
theorem dX8_firstRope_32 : decode cX8_firstRope 32 = .ok (.if_icmp .ne 6, 3) := by decide +kernel
theorem dX8_firstRope_35 : decode cX8_firstRope 35 = .ok (.iload 4, 2) := by decide +kernel
theorem dX8_firstRope_37 : decode cX8_firstRope 37 = .ok (.ireturn, 1) := by decide +kernel
theorem dX8_firstRope_38 : decode cX8_firstRope 38 = .ok (.iinc 4 1, 3) := by decide +kernel
theorem dX8_firstRope_41 : decode cX8_firstRope 41 = .ok (.goto (-32), 3) := by decide +kernel
theorem dX8_firstRope_44 : decode cX8_firstRope 44 = .ok (.ldc 42, 2) := by decide +kernel
theorem dX8_firstRope_46 : decode cX8_firstRope 46 = .ok (.ireturn, 1) := by decide +kernel
theorem dX8_triesBy_0 : decode cX8_triesBy 0 = .ok (.aload_n 1, 1) := by decide +kernel
theorem dX8_triesBy_1 : decode cX8_triesBy 1 = .ok (.iload_n 2, 1) := by decide +kernel
theorem dX8_triesBy_2 : decode cX8_triesBy 2 = .ok (.iload_n 3, 1) := by decide +kernel
theorem dX8_triesBy_3 : decode cX8_triesBy 3 = .ok (.invokestatic 70, 3) := by decide +kernel
theorem dX8_triesBy_6 : decode cX8_triesBy 6 = .ok (.istore 4, 2) := by decide +kernel
theorem dX8_triesBy_8 : decode cX8_triesBy 8 = .ok (.iload 4, 2) := by decide +kernel
theorem dX8_triesBy_10 : decode cX8_triesBy 10 = .ok (.iload_n 3, 1) := by decide +kernel
theorem dX8_triesBy_11 : decode cX8_triesBy 11 = .ok (.if_icmp .le 22, 3) := by decide +kernel
theorem dX8_triesBy_14 : decode cX8_triesBy 14 = .ok (.iload 4, 2) := by decide +kernel
theorem dX8_triesBy_16 : decode cX8_triesBy 16 = .ok (.bipush 100, 2) := by decide +kernel
theorem dX8_triesBy_18 : decode cX8_triesBy 18 = .ok (.if_icmp .gt 15, 3) := by decide +kernel
theorem dX8_triesBy_21 : decode cX8_triesBy 21 = .ok (.iconst 1, 1) := by decide +kernel
theorem dX8_triesBy_22 : decode cX8_triesBy 22 = .ok (.aload_n 0, 1) := by decide +kernel
theorem dX8_triesBy_23 : decode cX8_triesBy 23 = .ok (.getfield 20, 3) := by decide +kernel
theorem dX8_triesBy_26 : decode cX8_triesBy 26 = .ok (.iload 4, 2) := by decide +kernel
theorem dX8_triesBy_28 : decode cX8_triesBy 28 = .ok (.iaload, 1) := by decide +kernel
theorem dX8_triesBy_29 : decode cX8_triesBy 29 = .ok (.iadd, 1) := by decide +kernel
theorem dX8_triesBy_30 : decode cX8_triesBy 30 = .ok (.goto 5, 3) := by decide +kernel
theorem dX8_triesBy_33 : decode cX8_triesBy 33 = .ok (.bipush 31, 2) := by decide +kernel
theorem dX8_triesBy_35 : decode cX8_triesBy 35 = .ok (.ireturn, 1) := by decide +kernel
theorem dX8_skillBehind_0 : decode cX8_skillBehind 0 = .ok (.aload_n 0, 1) := by decide +kernel
theorem dX8_skillBehind_1 : decode cX8_skillBehind 1 = .ok (.iconst 0, 1) := by decide +kernel
theorem dX8_skillBehind_2 : decode cX8_skillBehind 2 = .ok (.iload_n 1, 1) := by decide +kernel
theorem dX8_skillBehind_3 : decode cX8_skillBehind 3 = .ok (.iconst 1, 1) := by decide +kernel
theorem dX8_skillBehind_4 : decode cX8_skillBehind 4 = .ok (.invokevirtual 55, 3) := by decide +kernel
theorem dX8_skillBehind_7 : decode cX8_skillBehind 7 = .ok (.istore_n 3, 1) := by decide +kernel
theorem dX8_skillBehind_8 : decode cX8_skillBehind 8 = .ok (.aload_n 0, 1) := by decide +kernel
theorem dX8_skillBehind_9 : decode cX8_skillBehind 9 = .ok (.iconst 0, 1) := by decide +kernel
theorem dX8_skillBehind_10 : decode cX8_skillBehind 10 = .ok (.iload_n 1, 1) := by decide +kernel
theorem dX8_skillBehind_11 : decode cX8_skillBehind 11 = .ok (.iconst 0, 1) := by decide +kernel
theorem dX8_skillBehind_12 : decode cX8_skillBehind 12 = .ok (.invokevirtual 55, 3) := by decide +kernel
theorem dX8_skillBehind_15 : decode cX8_skillBehind 15 = .ok (.istore 4, 2) := by decide +kernel
theorem dX8_skillBehind_17 : decode cX8_skillBehind 17 = .ok (.iload_n 2, 1) := by decide +kernel
theorem dX8_skillBehind_18 : decode cX8_skillBehind 18 = .ok (.bipush 10, 2) := by decide +kernel
theorem dX8_skillBehind_20 : decode cX8_skillBehind 20 = .ok (.idiv, 1) := by decide +kernel
theorem dX8_skillBehind_21 : decode cX8_skillBehind 21 = .ok (.iload_n 3, 1) := by decide +kernel
theorem dX8_skillBehind_22 : decode cX8_skillBehind 22 = .ok (.isub, 1) := by decide +kernel
theorem dX8_skillBehind_23 : decode cX8_skillBehind 23 = .ok (.iload 4, 2) := by decide +kernel
theorem dX8_skillBehind_25 : decode cX8_skillBehind 25 = .ok (.bipush 50, 2) := by decide +kernel
theorem dX8_skillBehind_27 : decode cX8_skillBehind 27 = .ok (.idiv, 1) := by decide +kernel
theorem dX8_skillBehind_28 : decode cX8_skillBehind 28 = .ok (.isub, 1) := by decide +kernel
theorem dX8_skillBehind_29 : decode cX8_skillBehind 29 = .ok (.invokestatic 73, 3) := by decide +kernel
theorem dX8_skillBehind_32 : decode cX8_skillBehind 32 = .ok (.istore 5, 2) := by decide +kernel
theorem dX8_skillBehind_34 : decode cX8_skillBehind 34 = .ok (.bipush 100, 2) := by decide +kernel
theorem dX8_skillBehind_36 : decode cX8_skillBehind 36 = .ok (.iload_n 2, 1) := by decide +kernel
theorem dX8_skillBehind_37 : decode cX8_skillBehind 37 = .ok (.iconst 0, 1) := by decide +kernel
theorem dX8_skillBehind_38 : decode cX8_skillBehind 38 = .ok (.bipush 10, 2) := by decide +kernel
theorem dX8_skillBehind_40 : decode cX8_skillBehind 40 = .ok (.iload 5, 2) := by decide +kernel
theorem dX8_skillBehind_42 : decode cX8_skillBehind 42 = .ok (.isub, 1) := by decide +kernel
theorem dX8_skillBehind_43 : decode cX8_skillBehind 43 = .ok (.invokestatic 76, 3) := by decide +kernel
theorem dX8_skillBehind_46 : decode cX8_skillBehind 46 = .ok (.iadd, 1) := by decide +kernel
theorem dX8_skillBehind_47 : decode cX8_skillBehind 47 = .ok (.invokestatic 62, 3) := by decide +kernel
theorem dX8_skillBehind_50 : decode cX8_skillBehind 50 = .ok (.ireturn, 1) := by decide +kernel
theorem dX8_isHandOf_0 : decode cX8_isHandOf 0 = .ok (.aload_n 0, 1) := by decide +kernel
theorem dX8_isHandOf_1 : decode cX8_isHandOf 1 = .ok (.getfield 26, 3) := by decide +kernel
theorem dX8_isHandOf_4 : decode cX8_isHandOf 4 = .ok (.invokevirtual 79, 3) := by decide +kernel
theorem dX8_isHandOf_7 : decode cX8_isHandOf 7 = .ok (.iconst 0, 1) := by decide +kernel
theorem dX8_isHandOf_8 : decode cX8_isHandOf 8 = .ok (.istore 7, 2) := by decide +kernel
theorem dX8_isHandOf_10 : decode cX8_isHandOf 10 = .ok (.iload 7, 2) := by decide +kernel
theorem dX8_isHandOf_12 : decode cX8_isHandOf 12 = .ok (.iload 6, 2) := by decide +kernel
theorem dX8_isHandOf_14 : decode cX8_isHandOf 14 = .ok (.if_icmp .ge 74, 3) := by decide +kernel
theorem dX8_isHandOf_17 : decode cX8_isHandOf 17 = .ok (.aload_n 0, 1) := by decide +kernel
theorem dX8_isHandOf_18 : decode cX8_isHandOf 18 = .ok (.getfield 26, 3) := by decide +kernel
theorem dX8_isHandOf_21 : decode cX8_isHandOf 21 = .ok (.invokevirtual 82, 3) := by decide +kernel
theorem dX8_isHandOf_24 : decode cX8_isHandOf 24 = .ok (.ifCond .ne 35, 3) := by decide +kernel
theorem dX8_isHandOf_27 : decode cX8_isHandOf 27 = .ok (.iconst 1, 1) := by decide +kernel
theorem dX8_isHandOf_28 : decode cX8_isHandOf 28 = .ok (.iload_n 1, 1) := by decide +kernel
theorem dX8_isHandOf_29 : decode cX8_isHandOf 29 = .ok (.iconst 3, 1) := by decide +kernel
theorem dX8_isHandOf_30 : decode cX8_isHandOf 30 = .ok (.idiv, 1) := by decide +kernel
theorem dX8_isHandOf_31 : decode cX8_isHandOf 31 = .ok (.iadd, 1) := by decide +kernel
theorem dX8_isHandOf_32 : decode cX8_isHandOf 32 = .ok (.istore 8, 2) := by decide +kernel
theorem dX8_isHandOf_34 : decode cX8_isHandOf 34 = .ok (.aload_n 0, 1) := by decide +kernel
theorem dX8_isHandOf_35 : decode cX8_isHandOf 35 = .ok (.getfield 26, 3) := by decide +kernel
theorem dX8_isHandOf_38 : decode cX8_isHandOf 38 = .ok (.aload_n 2, 1) := by decide +kernel
theorem dX8_isHandOf_39 : decode cX8_isHandOf 39 = .ok (.iconst 0, 1) := by decide +kernel
theorem dX8_isHandOf_40 : decode cX8_isHandOf 40 = .ok (.iload 8, 2) := by decide +kernel
theorem dX8_isHandOf_42 : decode cX8_isHandOf 42 = .ok (.iconst 4, 1) := by decide +kernel
theorem dX8_isHandOf_43 : decode cX8_isHandOf 43 = .ok (.iload_n 1, 1) := by decide +kernel
theorem dX8_isHandOf_44 : decode cX8_isHandOf 44 = .ok (.iconst 3, 1) := by decide +kernel
theorem dX8_isHandOf_45 : decode cX8_isHandOf 45 = .ok (.irem, 1) := by decide +kernel
theorem dX8_isHandOf_46 : decode cX8_isHandOf 46 = .ok (.imul, 1) := by decide +kernel
theorem dX8_isHandOf_47 : decode cX8_isHandOf 47 = .ok (.aload_n 0, 1) := by decide +kernel
theorem dX8_isHandOf_48 : decode cX8_isHandOf 48 = .ok (.getfield 26, 3) := by decide +kernel
theorem dX8_isHandOf_51 : decode cX8_isHandOf 51 = .ok (.iload 8, 2) := by decide +kernel
theorem dX8_isHandOf_53 : decode cX8_isHandOf 53 = .ok (.invokevirtual 86, 3) := by decide +kernel
theorem dX8_isHandOf_56 : decode cX8_isHandOf 56 = .ok (.invokevirtual 89, 3) := by decide +kernel
theorem dX8_isHandOf_59 : decode cX8_isHandOf 59 = .ok (.aload_n 0, 1) := by decide +kernel
theorem dX8_isHandOf_60 : decode cX8_isHandOf 60 = .ok (.getfield 26, 3) := by decide +kernel
theorem dX8_isHandOf_63 : decode cX8_isHandOf 63 = .ok (.getfield 93, 3) := by decide +kernel
theorem dX8_isHandOf_66 : decode cX8_isHandOf 66 = .ok (.aload_n 3, 1) := by decide +kernel
theorem dX8_isHandOf_67 : decode cX8_isHandOf 67 = .ok (.iload 4, 2) := by decide +kernel
theorem dX8_isHandOf_69 : decode cX8_isHandOf 69 = .ok (.iload 5, 2) := by decide +kernel
theorem dX8_isHandOf_71 : decode cX8_isHandOf 71 = .ok (.iload 7, 2) := by decide +kernel
theorem dX8_isHandOf_73 : decode cX8_isHandOf 73 = .ok (.iadd, 1) := by decide +kernel
theorem dX8_isHandOf_74 : decode cX8_isHandOf 74 = .ok (.invokevirtual 96, 3) := by decide +kernel
theorem dX8_isHandOf_77 : decode cX8_isHandOf 77 = .ok (.if_icmp .eq 5, 3) := by decide +kernel
theorem dX8_isHandOf_80 : decode cX8_isHandOf 80 = .ok (.iconst 0, 1) := by decide +kernel
theorem dX8_isHandOf_81 : decode cX8_isHandOf 81 = .ok (.ireturn, 1) := by decide +kernel
theorem dX8_isHandOf_82 : decode cX8_isHandOf 82 = .ok (.iinc 7 1, 3) := by decide +kernel
theorem dX8_isHandOf_85 : decode cX8_isHandOf 85 = .ok (.goto (-75), 3) := by decide +kernel
theorem dX8_isHandOf_88 : decode cX8_isHandOf 88 = .ok (.iconst 1, 1) := by decide +kernel
theorem dX8_isHandOf_89 : decode cX8_isHandOf 89 = .ok (.ireturn, 1) := by decide +kernel
theorem dX9_init_0 : decode cX9_init 0 = .ok (.aload_n 0, 1) := by decide +kernel
theorem dX9_init_1 : decode cX9_init 1 = .ok (.invokespecial 1, 3) := by decide +kernel
theorem dX9_init_4 : decode cX9_init 4 = .ok (.return_, 1) := by decide +kernel
theorem dX9_aim_0 : decode cX9_aim 0 = .ok (.aload_n 0, 1) := by decide +kernel
theorem dX9_aim_1 : decode cX9_aim 1 = .ok (.aload_n 1, 1) := by decide +kernel
theorem dX9_aim_2 : decode cX9_aim 2 = .ok (.aload_n 2, 1) := by decide +kernel
theorem dX9_aim_3 : decode cX9_aim 3 = .ok (.getfield 7, 3) := by decide +kernel
theorem dX9_aim_6 : decode cX9_aim 6 = .ok (.iload_n 3, 1) := by decide +kernel
theorem dX9_aim_7 : decode cX9_aim 7 = .ok (.iload 4, 2) := by decide +kernel
theorem dX9_aim_9 : decode cX9_aim 9 = .ok (.invokevirtual 13, 3) := by decide +kernel
theorem dX9_aim_12 : decode cX9_aim 12 = .ok (.aload_n 0, 1) := by decide +kernel
theorem dX9_aim_13 : decode cX9_aim 13 = .ok (.iconst 0, 1) := by decide +kernel
theorem dX9_aim_14 : decode cX9_aim 14 = .ok (.putfield 19, 3) := by decide +kernel
theorem dX9_aim_17 : decode cX9_aim 17 = .ok (.aload_n 0, 1) := by decide +kernel
theorem dX9_aim_18 : decode cX9_aim 18 = .ok (.iconst 0, 1) := by decide +kernel
theorem dX9_aim_19 : decode cX9_aim 19 = .ok (.putfield 22, 3) := by decide +kernel
theorem dX9_aim_22 : decode cX9_aim 22 = .ok (.aload_n 0, 1) := by decide +kernel
theorem dX9_aim_23 : decode cX9_aim 23 = .ok (.sipush 999, 3) := by decide +kernel
theorem dX9_aim_26 : decode cX9_aim 26 = .ok (.putfield 25, 3) := by decide +kernel
theorem dX9_aim_29 : decode cX9_aim 29 = .ok (.aload_n 2, 1) := by decide +kernel
theorem dX9_aim_30 : decode cX9_aim 30 = .ok (.invokevirtual 28, 3) := by decide +kernel
theorem dX9_aim_33 : decode cX9_aim 33 = .ok (.ifCond .eq 4, 3) := by decide +kernel
theorem dX9_aim_36 : decode cX9_aim 36 = .ok (.return_, 1) := by decide +kernel
theorem dX9_aim_37 : decode cX9_aim 37 = .ok (.aload_n 0, 1) := by decide +kernel
theorem dX9_aim_38 : decode cX9_aim 38 = .ok (.aload_n 0, 1) := by decide +kernel
theorem dX9_aim_39 : decode cX9_aim 39 = .ok (.aload_n 2, 1) := by decide +kernel
theorem dX9_aim_40 : decode cX9_aim 40 = .ok (.getfield 32, 3) := by decide +kernel
theorem dX9_aim_43 : decode cX9_aim 43 = .ok (.aload_n 2, 1) := by decide +kernel
theorem dX9_aim_44 : decode cX9_aim 44 = .ok (.getfield 35, 3) := by decide +kernel
theorem dX9_aim_47 : decode cX9_aim 47 = .ok (.invokevirtual 38, 3) := by decide +kernel
theorem dX9_aim_50 : decode cX9_aim 50 = .ok (.putfield 19, 3) := by decide +kernel
theorem dX9_aim_53 : decode cX9_aim 53 = .ok (.aload_n 0, 1) := by decide +kernel
theorem dX9_aim_54 : decode cX9_aim 54 = .ok (.aload_n 2, 1) := by decide +kernel
theorem dX9_aim_55 : decode cX9_aim 55 = .ok (.getfield 35, 3) := by decide +kernel
theorem dX9_aim_58 : decode cX9_aim 58 = .ok (.invokevirtual 42, 3) := by decide +kernel
theorem dX9_aim_61 : decode cX9_aim 61 = .ok (.istore 5, 2) := by decide +kernel
theorem dX9_aim_63 : decode cX9_aim 63 = .ok (.aload_n 2, 1) := by decide +kernel
theorem dX9_aim_64 : decode cX9_aim 64 = .ok (.getfield 32, 3) := by decide +kernel
theorem dX9_aim_67 : decode cX9_aim 67 = .ok (.aload_n 0, 1) := by decide +kernel
theorem dX9_aim_68 : decode cX9_aim 68 = .ok (.iload 5, 2) := by decide +kernel
theorem dX9_aim_70 : decode cX9_aim 70 = .ok (.invokevirtual 46, 3) := by decide +kernel
theorem dX9_aim_73 : decode cX9_aim 73 = .ok (.isub, 1) := by decide +kernel
theorem dX9_aim_74 : decode cX9_aim 74 = .ok (.istore 6, 2) := by decide +kernel
theorem dX9_aim_76 : decode cX9_aim 76 = .ok (.aload_n 0, 1) := by decide +kernel
theorem dX9_aim_77 : decode cX9_aim 77 = .ok (.iload 5, 2) := by decide +kernel
theorem dX9_aim_79 : decode cX9_aim 79 = .ok (.ifCond .ne 7, 3) := by decide +kernel
theorem dX9_aim_82 : decode cX9_aim 82 = .ok (.iconst 0, 1) := by decide +kernel
theorem dX9_aim_83 : decode cX9_aim 83 = .ok (.goto 9, 3) := by decide +kernel
theorem dX9_aim_86 : decode cX9_aim 86 = .ok (.iconst 0, 1) := by decide +kernel
theorem dX9_aim_87 : decode cX9_aim 87 = .ok (.iload 6, 2) := by decide +kernel
theorem dX9_aim_89 : decode cX9_aim 89 = .ok (.invokestatic 49, 3) := by decide +kernel
theorem dX9_aim_92 : decode cX9_aim 92 = .ok (.putfield 22, 3) := by decide +kernel
theorem dX9_aim_95 : decode cX9_aim 95 = .ok (.aload_n 0, 1) := by decide +kernel
theorem dX9_aim_96 : decode cX9_aim 96 = .ok (.iload 5, 2) := by decide +kernel
theorem dX9_aim_98 : decode cX9_aim 98 = .ok (.ifCond .ne 9, 3) := by decide +kernel
theorem dX9_aim_101 : decode cX9_aim 101 = .ok (.sipush 500, 3) := by decide +kernel
theorem dX9_aim_104 : decode cX9_aim 104 = .ok (.goto 10, 3) := by decide +kernel
theorem dX9_aim_107 : decode cX9_aim 107 = .ok (.iconst 0, 1) := by decide +kernel
theorem dX9_aim_108 : decode cX9_aim 108 = .ok (.iload 6, 2) := by decide +kernel
theorem dX9_aim_110 : decode cX9_aim 110 = .ok (.ineg, 1) := by decide +kernel
theorem dX9_aim_111 : decode cX9_aim 111 = .ok (.invokestatic 49, 3) := by decide +kernel
theorem dX9_aim_114 : decode cX9_aim 114 = .ok (.putfield 25, 3) := by decide +kernel
theorem dX9_aim_117 : decode cX9_aim 117 = .ok (.return_, 1) := by decide +kernel
theorem dX9_isLikely_0 : decode cX9_isLikely 0 = .ok (.iconst 2, 1) := by decide +kernel
theorem dX9_isLikely_1 : decode cX9_isLikely 1 = .ok (.aload_n 0, 1) := by decide +kernel
theorem dX9_isLikely_2 : decode cX9_isLikely 2 = .ok (.getfield 19, 3) := by decide +kernel
theorem dX9_isLikely_5 : decode cX9_isLikely 5 = .ok (.imul, 1) := by decide +kernel
theorem dX9_isLikely_6 : decode cX9_isLikely 6 = .ok (.aload_n 0, 1) := by decide +kernel
theorem dX9_isLikely_7 : decode cX9_isLikely 7 = .ok (.getfield 54, 3) := by decide +kernel
theorem dX9_isLikely_10 : decode cX9_isLikely 10 = .ok (.if_icmp .lt 7, 3) := by decide +kernel
theorem dX9_isLikely_13 : decode cX9_isLikely 13 = .ok (.iconst 1, 1) := by decide +kernel
theorem dX9_isLikely_14 : decode cX9_isLikely 14 = .ok (.goto 4, 3) := by decide +kernel
theorem dX9_isLikely_17 : decode cX9_isLikely 17 = .ok (.iconst 0, 1) := by decide +kernel
theorem dX9_isLikely_18 : decode cX9_isLikely 18 = .ok (.ireturn, 1) := by decide +kernel
theorem dX9_likelyFrom_0 : decode cX9_likelyFrom 0 = .ok (.aload_n 0, 1) := by decide +kernel
theorem dX9_likelyFrom_1 : decode cX9_likelyFrom 1 = .ok (.aload_n 1, 1) := by decide +kernel
theorem dX9_likelyFrom_2 : decode cX9_likelyFrom 2 = .ok (.iload_n 2, 1) := by decide +kernel
theorem dX9_likelyFrom_3 : decode cX9_likelyFrom 3 = .ok (.iload 4, 2) := by decide +kernel
theorem dX9_likelyFrom_5 : decode cX9_likelyFrom 5 = .ok (.iload 5, 2) := by decide +kernel
theorem dX9_likelyFrom_7 : decode cX9_likelyFrom 7 = .ok (.invokevirtual 13, 3) := by decide +kernel
theorem dX9_likelyFrom_10 : decode cX9_likelyFrom 10 = .ok (.ldc 57, 2) := by decide +kernel
theorem dX9_likelyFrom_12 : decode cX9_likelyFrom 12 = .ok (.istore 6, 2) := by decide +kernel
theorem dX9_likelyFrom_14 : decode cX9_likelyFrom 14 = .ok (.aload_n 0, 1) := by decide +kernel
theorem dX9_likelyFrom_15 : decode cX9_likelyFrom 15 = .ok (.getfield 58, 3) := by decide +kernel
theorem dX9_likelyFrom_18 : decode cX9_likelyFrom 18 = .ok (.ineg, 1) := by decide +kernel
theorem dX9_likelyFrom_19 : decode cX9_likelyFrom 19 = .ok (.istore 7, 2) := by decide +kernel
theorem dX9_likelyFrom_21 : decode cX9_likelyFrom 21 = .ok (.iload 7, 2) := by decide +kernel
theorem dX9_likelyFrom_23 : decode cX9_likelyFrom 23 = .ok (.aload_n 0, 1) := by decide +kernel
theorem dX9_likelyFrom_24 : decode cX9_likelyFrom 24 = .ok (.getfield 58, 3) := by decide +kernel
theorem dX9_likelyFrom_27 : decode cX9_likelyFrom 27 = .ok (.if_icmp .gt 63, 3) := by decide +kernel
theorem dX9_likelyFrom_30 : decode cX9_likelyFrom 30 = .ok (.aload_n 0, 1) := by decide +kernel
theorem dX9_likelyFrom_31 : decode cX9_likelyFrom 31 = .ok (.iload_n 3, 1) := by decide +kernel
theorem dX9_likelyFrom_32 : decode cX9_likelyFrom 32 = .ok (.iload 7, 2) := by decide +kernel
theorem dX9_likelyFrom_34 : decode cX9_likelyFrom 34 = .ok (.iadd, 1) := by decide +kernel
theorem dX9_likelyFrom_35 : decode cX9_likelyFrom 35 = .ok (.invokevirtual 42, 3) := by decide +kernel
theorem dX9_likelyFrom_38 : decode cX9_likelyFrom 38 = .ok (.istore 8, 2) := by decide +kernel
theorem dX9_likelyFrom_40 : decode cX9_likelyFrom 40 = .ok (.iload 8, 2) := by decide +kernel
theorem dX9_likelyFrom_42 : decode cX9_likelyFrom 42 = .ok (.ifCond .le 42, 3) := by decide +kernel
theorem dX9_likelyFrom_45 : decode cX9_likelyFrom 45 = .ok (.aload_n 0, 1) := by decide +kernel
theorem dX9_likelyFrom_46 : decode cX9_likelyFrom 46 = .ok (.iload 8, 2) := by decide +kernel
theorem dX9_likelyFrom_48 : decode cX9_likelyFrom 48 = .ok (.invokevirtual 46, 3) := by decide +kernel
theorem dX9_likelyFrom_51 : decode cX9_likelyFrom 51 = .ok (.iload 6, 2) := by decide +kernel
theorem dX9_likelyFrom_53 : decode cX9_likelyFrom 53 = .ok (.if_icmp .ge 31, 3) := by decide +kernel
theorem dX9_likelyFrom_56 : decode cX9_likelyFrom 56 = .ok (.iconst 2, 1) := by decide +kernel
theorem dX9_likelyFrom_57 : decode cX9_likelyFrom 57 = .ok (.aload_n 0, 1) := by decide +kernel
theorem dX9_likelyFrom_58 : decode cX9_likelyFrom 58 = .ok (.aload_n 0, 1) := by decide +kernel
theorem dX9_likelyFrom_59 : decode cX9_likelyFrom 59 = .ok (.iload 8, 2) := by decide +kernel
theorem dX9_likelyFrom_61 : decode cX9_likelyFrom 61 = .ok (.invokevirtual 46, 3) := by decide +kernel
theorem dX9_likelyFrom_64 : decode cX9_likelyFrom 64 = .ok (.iload_n 3, 1) := by decide +kernel
theorem dX9_likelyFrom_65 : decode cX9_likelyFrom 65 = .ok (.invokevirtual 38, 3) := by decide +kernel
theorem dX9_likelyFrom_68 : decode cX9_likelyFrom 68 = .ok (.imul, 1) := by decide +kernel
theorem dX9_likelyFrom_69 : decode cX9_likelyFrom 69 = .ok (.aload_n 0, 1) := by decide +kernel
theorem dX9_likelyFrom_70 : decode cX9_likelyFrom 70 = .ok (.getfield 54, 3) := by decide +kernel
theorem dX9_likelyFrom_73 : decode cX9_likelyFrom 73 = .ok (.if_icmp .lt 11, 3) := by decide +kernel
theorem dX9_likelyFrom_76 : decode cX9_likelyFrom 76 = .ok (.aload_n 0, 1) := by decide +kernel
theorem dX9_likelyFrom_77 : decode cX9_likelyFrom 77 = .ok (.iload 8, 2) := by decide +kernel
theorem dX9_likelyFrom_79 : decode cX9_likelyFrom 79 = .ok (.invokevirtual 46, 3) := by decide +kernel
theorem dX9_likelyFrom_82 : decode cX9_likelyFrom 82 = .ok (.istore 6, 2) := by decide +kernel
theorem dX9_likelyFrom_84 : decode cX9_likelyFrom 84 = .ok (.iinc 7 1, 3) := by decide +kernel
theorem dX9_likelyFrom_87 : decode cX9_likelyFrom 87 = .ok (.goto (-66), 3) := by decide +kernel
theorem dX9_likelyFrom_90 : decode cX9_likelyFrom 90 = .ok (.iload 6, 2) := by decide +kernel
theorem dX9_likelyFrom_92 : decode cX9_likelyFrom 92 = .ok (.ireturn, 1) := by decide +kernel
theorem dX9_face_0 : decode cX9_face 0 = .ok (.aload_n 0, 1) := by decide +kernel
theorem dX9_face_1 : decode cX9_face 1 = .ok (.iload_n 3, 1) := by decide +kernel
theorem dX9_face_2 : decode cX9_face 2 = .ok (.iconst 1, 1) := by decide +kernel
theorem dX9_face_3 : decode cX9_face 3 = .ok (.if_icmp .ne 7, 3) := by decide +kernel
theorem dX9_face_6 : decode cX9_face 6 = .ok (.iconst 1, 1) := by decide +kernel
theorem dX9_face_7 : decode cX9_face 7 = .ok (.goto 4, 3) := by decide +kernel
theorem dX9_face_10 : decode cX9_face 10 = .ok (.iconst 0, 1) := by decide +kernel
theorem dX9_face_11 : decode cX9_face 11 = .ok (.putfield 61, 3) := by decide +kernel
theorem dX9_face_14 : decode cX9_face 14 = .ok (.aload_n 0, 1) := by decide +kernel
theorem dX9_face_15 : decode cX9_face 15 = .ok (.aload_n 1, 1) := by decide +kernel
theorem dX9_face_16 : decode cX9_face 16 = .ok (.getfield 65, 3) := by decide +kernel
theorem dX9_face_19 : decode cX9_face 19 = .ok (.putfield 58, 3) := by decide +kernel
theorem dX9_face_22 : decode cX9_face 22 = .ok (.aload_n 0, 1) := by decide +kernel
theorem dX9_face_23 : decode cX9_face 23 = .ok (.bipush 12, 2) := by decide +kernel
theorem dX9_face_25 : decode cX9_face 25 = .ok (.iconst 2, 1) := by decide +kernel
theorem dX9_face_26 : decode cX9_face 26 = .ok (.aload_n 0, 1) := by decide +kernel
theorem dX9_face_27 : decode cX9_face 27 = .ok (.getfield 58, 3) := by decide +kernel
theorem dX9_face_30 : decode cX9_face 30 = .ok (.imul, 1) := by decide +kernel
theorem dX9_face_31 : decode cX9_face 31 = .ok (.iconst 1, 1) := by decide +kernel
theorem dX9_face_32 : decode cX9_face 32 = .ok (.iadd, 1) := by decide +kernel
theorem dX9_face_33 : decode cX9_face 33 = .ok (.imul, 1) := by decide +kernel
theorem dX9_face_34 : decode cX9_face 34 = .ok (.putfield 54, 3) := by decide +kernel
theorem dX9_face_37 : decode cX9_face 37 = .ok (.aload_n 0, 1) := by decide +kernel
theorem dX9_face_38 : decode cX9_face 38 = .ok (.aload_n 1, 1) := by decide +kernel
theorem dX9_face_39 : decode cX9_face 39 = .ok (.aload_n 1, 1) := by decide +kernel
theorem dX9_face_40 : decode cX9_face 40 = .ok (.getfield 68, 3) := by decide +kernel
theorem dX9_face_43 : decode cX9_face 43 = .ok (.iconst 2, 1) := by decide +kernel
theorem dX9_face_44 : decode cX9_face 44 = .ok (.iload 4, 2) := by decide +kernel
theorem dX9_face_46 : decode cX9_face 46 = .ok (.iconst 0, 1) := by decide +kernel
theorem dX9_face_47 : decode cX9_face 47 = .ok (.invokevirtual 74, 3) := by decide +kernel
theorem dX9_face_50 : decode cX9_face 50 = .ok (.iload_n 2, 1) := by decide +kernel
theorem dX9_face_51 : decode cX9_face 51 = .ok (.invokevirtual 78, 3) := by decide +kernel
theorem dX9_face_54 : decode cX9_face 54 = .ok (.putfield 81, 3) := by decide +kernel
theorem dX9_face_57 : decode cX9_face 57 = .ok (.aload_n 0, 1) := by decide +kernel
theorem dX9_face_58 : decode cX9_face 58 = .ok (.aload_n 1, 1) := by decide +kernel
theorem dX9_face_59 : decode cX9_face 59 = .ok (.getfield 68, 3) := by decide +kernel
theorem dX9_face_62 : decode cX9_face 62 = .ok (.iconst 2, 1) := by decide +kernel
theorem dX9_face_63 : decode cX9_face 63 = .ok (.iload 4, 2) := by decide +kernel
theorem dX9_face_65 : decode cX9_face 65 = .ok (.iconst 1, 1) := by decide +kernel
theorem dX9_face_66 : decode cX9_face 66 = .ok (.invokevirtual 74, 3) := by decide +kernel
theorem dX9_face_69 : decode cX9_face 69 = .ok (.putfield 83, 3) := by decide +kernel
theorem dX9_face_72 : decode cX9_face 72 = .ok (.aload_n 0, 1) := by decide +kernel
theorem dX9_face_73 : decode cX9_face 73 = .ok (.aload_n 1, 1) := by decide +kernel
theorem dX9_face_74 : decode cX9_face 74 = .ok (.getfield 68, 3) := by decide +kernel
theorem dX9_face_77 : decode cX9_face 77 = .ok (.iconst 2, 1) := by decide +kernel
theorem dX9_face_78 : decode cX9_face 78 = .ok (.iload 4, 2) := by decide +kernel
theorem dX9_face_80 : decode cX9_face 80 = .ok (.iconst 2, 1) := by decide +kernel
theorem dX9_face_81 : decode cX9_face 81 = .ok (.invokevirtual 74, 3) := by decide +kernel
theorem dX9_face_84 : decode cX9_face 84 = .ok (.putfield 86, 3) := by decide +kernel
theorem dX9_face_87 : decode cX9_face 87 = .ok (.aload_n 0, 1) := by decide +kernel
theorem dX9_face_88 : decode cX9_face 88 = .ok (.aload_n 1, 1) := by decide +kernel
theorem dX9_face_89 : decode cX9_face 89 = .ok (.getfield 68, 3) := by decide +kernel
theorem dX9_face_92 : decode cX9_face 92 = .ok (.iconst 2, 1) := by decide +kernel
theorem dX9_face_93 : decode cX9_face 93 = .ok (.iload 4, 2) := by decide +kernel
theorem dX9_face_95 : decode cX9_face 95 = .ok (.iconst 3, 1) := by decide +kernel
theorem dX9_face_96 : decode cX9_face 96 = .ok (.invokevirtual 74, 3) := by decide +kernel
theorem dX9_face_99 : decode cX9_face 99 = .ok (.putfield 89, 3) := by decide +kernel
theorem dX9_face_102 : decode cX9_face 102 = .ok (.aload_n 0, 1) := by decide +kernel
theorem dX9_face_103 : decode cX9_face 103 = .ok (.aload_n 1, 1) := by decide +kernel
theorem dX9_face_104 : decode cX9_face 104 = .ok (.getfield 68, 3) := by decide +kernel
theorem dX9_face_107 : decode cX9_face 107 = .ok (.iconst 2, 1) := by decide +kernel
theorem dX9_face_108 : decode cX9_face 108 = .ok (.iload 4, 2) := by decide +kernel
theorem dX9_face_110 : decode cX9_face 110 = .ok (.iconst 4, 1) := by decide +kernel
theorem dX9_face_111 : decode cX9_face 111 = .ok (.invokevirtual 74, 3) := by decide +kernel
theorem dX9_face_114 : decode cX9_face 114 = .ok (.putfield 92, 3) := by decide +kernel
theorem dX9_face_117 : decode cX9_face 117 = .ok (.return_, 1) := by decide +kernel
theorem dX9_sumAt_0 : decode cX9_sumAt 0 = .ok (.iconst 0, 1) := by decide +kernel
theorem dX9_sumAt_1 : decode cX9_sumAt 1 = .ok (.istore_n 3, 1) := by decide +kernel
theorem dX9_sumAt_2 : decode cX9_sumAt 2 = .ok (.aload_n 0, 1) := by decide +kernel
theorem dX9_sumAt_3 : decode cX9_sumAt 3 = .ok (.getfield 58, 3) := by decide +kernel
theorem dX9_sumAt_6 : decode cX9_sumAt 6 = .ok (.ineg, 1) := by decide +kernel
theorem dX9_sumAt_7 : decode cX9_sumAt 7 = .ok (.istore 4, 2) := by decide +kernel
theorem dX9_sumAt_9 : decode cX9_sumAt 9 = .ok (.iload 4, 2) := by decide +kernel
theorem dX9_sumAt_11 : decode cX9_sumAt 11 = .ok (.aload_n 0, 1) := by decide +kernel
theorem dX9_sumAt_12 : decode cX9_sumAt 12 = .ok (.getfield 58, 3) := by decide +kernel
theorem dX9_sumAt_15 : decode cX9_sumAt 15 = .ok (.if_icmp .gt 43, 3) := by decide +kernel
theorem dX9_sumAt_18 : decode cX9_sumAt 18 = .ok (.aload_n 0, 1) := by decide +kernel
theorem dX9_sumAt_19 : decode cX9_sumAt 19 = .ok (.iload_n 2, 1) := by decide +kernel
theorem dX9_sumAt_20 : decode cX9_sumAt 20 = .ok (.iload 4, 2) := by decide +kernel
theorem dX9_sumAt_22 : decode cX9_sumAt 22 = .ok (.iadd, 1) := by decide +kernel
theorem dX9_sumAt_23 : decode cX9_sumAt 23 = .ok (.invokevirtual 42, 3) := by decide +kernel
theorem dX9_sumAt_26 : decode cX9_sumAt 26 = .ok (.istore 5, 2) := by decide +kernel
theorem dX9_sumAt_28 : decode cX9_sumAt 28 = .ok (.iload 5, 2) := by decide +kernel
theorem dX9_sumAt_30 : decode cX9_sumAt 30 = .ok (.ifCond .le 22, 3) := by decide +kernel
theorem dX9_sumAt_33 : decode cX9_sumAt 33 = .ok (.iload_n 1, 1) := by decide +kernel
theorem dX9_sumAt_34 : decode cX9_sumAt 34 = .ok (.aload_n 0, 1) := by decide +kernel
theorem dX9_sumAt_35 : decode cX9_sumAt 35 = .ok (.iload 5, 2) := by decide +kernel
theorem dX9_sumAt_37 : decode cX9_sumAt 37 = .ok (.invokevirtual 46, 3) := by decide +kernel
theorem dX9_sumAt_40 : decode cX9_sumAt 40 = .ok (.if_icmp .lt 12, 3) := by decide +kernel
theorem dX9_sumAt_43 : decode cX9_sumAt 43 = .ok (.iload_n 3, 1) := by decide +kernel
theorem dX9_sumAt_44 : decode cX9_sumAt 44 = .ok (.aload_n 0, 1) := by decide +kernel
theorem dX9_sumAt_45 : decode cX9_sumAt 45 = .ok (.iload 5, 2) := by decide +kernel
theorem dX9_sumAt_47 : decode cX9_sumAt 47 = .ok (.invokevirtual 95, 3) := by decide +kernel
theorem dX9_sumAt_50 : decode cX9_sumAt 50 = .ok (.iadd, 1) := by decide +kernel
theorem dX9_sumAt_51 : decode cX9_sumAt 51 = .ok (.istore_n 3, 1) := by decide +kernel
theorem dX9_sumAt_52 : decode cX9_sumAt 52 = .ok (.iinc 4 1, 3) := by decide +kernel
theorem dX9_sumAt_55 : decode cX9_sumAt 55 = .ok (.goto (-46), 3) := by decide +kernel
theorem dX9_sumAt_58 : decode cX9_sumAt 58 = .ok (.iload_n 3, 1) := by decide +kernel
theorem dX9_sumAt_59 : decode cX9_sumAt 59 = .ok (.ireturn, 1) := by decide +kernel
theorem dX9_flightBy_0 : decode cX9_flightBy 0 = .ok (.iconst 0, 1) := by decide +kernel
theorem dX9_flightBy_1 : decode cX9_flightBy 1 = .ok (.iload_n 1, 1) := by decide +kernel
theorem dX9_flightBy_2 : decode cX9_flightBy 2 = .ok (.invokestatic 49, 3) := by decide +kernel
theorem dX9_flightBy_5 : decode cX9_flightBy 5 = .ok (.aload_n 0, 1) := by decide +kernel
theorem dX9_flightBy_6 : decode cX9_flightBy 6 = .ok (.getfield 83, 3) := by decide +kernel
theorem dX9_flightBy_9 : decode cX9_flightBy 9 = .ok (.isub, 1) := by decide +kernel
theorem dX9_flightBy_10 : decode cX9_flightBy 10 = .ok (.istore_n 2, 1) := by decide +kernel
theorem dX9_flightBy_11 : decode cX9_flightBy 11 = .ok (.aload_n 0, 1) := by decide +kernel
theorem dX9_flightBy_12 : decode cX9_flightBy 12 = .ok (.getfield 81, 3) := by decide +kernel
theorem dX9_flightBy_15 : decode cX9_flightBy 15 = .ok (.ifCond .gt 13, 3) := by decide +kernel
theorem dX9_flightBy_18 : decode cX9_flightBy 18 = .ok (.iload_n 2, 1) := by decide +kernel
theorem dX9_flightBy_19 : decode cX9_flightBy 19 = .ok (.ifCond .lt 7, 3) := by decide +kernel
theorem dX9_flightBy_22 : decode cX9_flightBy 22 = .ok (.iconst 1, 1) := by decide +kernel
theorem dX9_flightBy_23 : decode cX9_flightBy 23 = .ok (.goto 4, 3) := by decide +kernel
theorem dX9_flightBy_26 : decode cX9_flightBy 26 = .ok (.iconst 0, 1) := by decide +kernel
theorem dX9_flightBy_27 : decode cX9_flightBy 27 = .ok (.ireturn, 1) := by decide +kernel
theorem dX9_flightBy_28 : decode cX9_flightBy 28 = .ok (.iload_n 2, 1) := by decide +kernel
theorem dX9_flightBy_29 : decode cX9_flightBy 29 = .ok (.ifCond .gt 5, 3) := by decide +kernel
theorem dX9_flightBy_32 : decode cX9_flightBy 32 = .ok (.iconst 0, 1) := by decide +kernel
theorem dX9_flightBy_33 : decode cX9_flightBy 33 = .ok (.ireturn, 1) := by decide +kernel
theorem dX9_flightBy_34 : decode cX9_flightBy 34 = .ok (.aload_n 0, 1) := by decide +kernel
theorem dX9_flightBy_35 : decode cX9_flightBy 35 = .ok (.getfield 81, 3) := by decide +kernel
theorem dX9_flightBy_38 : decode cX9_flightBy 38 = .ok (.iload_n 2, 1) := by decide +kernel
theorem dX9_flightBy_39 : decode cX9_flightBy 39 = .ok (.iadd, 1) := by decide +kernel
theorem dX9_flightBy_40 : decode cX9_flightBy 40 = .ok (.iconst 1, 1) := by decide +kernel
theorem dX9_flightBy_41 : decode cX9_flightBy 41 = .ok (.isub, 1) := by decide +kernel
theorem dX9_flightBy_42 : decode cX9_flightBy 42 = .ok (.iload_n 2, 1) := by decide +kernel
theorem dX9_flightBy_43 : decode cX9_flightBy 43 = .ok (.idiv, 1) := by decide +kernel
theorem dX9_flightBy_44 : decode cX9_flightBy 44 = .ok (.istore_n 3, 1) := by decide +kernel
theorem dX9_flightBy_45 : decode cX9_flightBy 45 = .ok (.iload_n 3, 1) := by decide +kernel
theorem dX9_flightBy_46 : decode cX9_flightBy 46 = .ok (.bipush 30, 2) := by decide +kernel
theorem dX9_flightBy_48 : decode cX9_flightBy 48 = .ok (.if_icmp .gt 7, 3) := by decide +kernel
theorem dX9_flightBy_51 : decode cX9_flightBy 51 = .ok (.iload_n 3, 1) := by decide +kernel
theorem dX9_flightBy_52 : decode cX9_flightBy 52 = .ok (.goto 4, 3) := by decide +kernel
theorem dX9_flightBy_55 : decode cX9_flightBy 55 = .ok (.iconst 0, 1) := by decide +kernel
theorem dX9_flightBy_56 : decode cX9_flightBy 56 = .ok (.ireturn, 1) := by decide +kernel
theorem dX9_sizeFor_0 : decode cX9_sizeFor 0 = .ok (.aload_n 0, 1) := by decide +kernel
theorem dX9_sizeFor_1 : decode cX9_sizeFor 1 = .ok (.getfield 61, 3) := by decide +kernel
theorem dX9_sizeFor_4 : decode cX9_sizeFor 4 = .ok (.ifCond .eq 16, 3) := by decide +kernel
theorem dX9_sizeFor_7 : decode cX9_sizeFor 7 = .ok (.iconst 4, 1) := by decide +kernel
theorem dX9_sizeFor_8 : decode cX9_sizeFor 8 = .ok (.iload_n 1, 1) := by decide +kernel
theorem dX9_sizeFor_9 : decode cX9_sizeFor 9 = .ok (.imul, 1) := by decide +kernel
theorem dX9_sizeFor_10 : decode cX9_sizeFor 10 = .ok (.aload_n 0, 1) := by decide +kernel
theorem dX9_sizeFor_11 : decode cX9_sizeFor 11 = .ok (.getfield 86, 3) := by decide +kernel
theorem dX9_sizeFor_14 : decode cX9_sizeFor 14 = .ok (.iconst 2, 1) := by decide +kernel
theorem dX9_sizeFor_15 : decode cX9_sizeFor 15 = .ok (.idiv, 1) := by decide +kernel
theorem dX9_sizeFor_16 : decode cX9_sizeFor 16 = .ok (.iadd, 1) := by decide +kernel
theorem dX9_sizeFor_17 : decode cX9_sizeFor 17 = .ok (.goto 12, 3) := by decide +kernel
theorem dX9_sizeFor_20 : decode cX9_sizeFor 20 = .ok (.bipush 6, 2) := by decide +kernel
theorem dX9_sizeFor_22 : decode cX9_sizeFor 22 = .ok (.iload_n 1, 1) := by decide +kernel
theorem dX9_sizeFor_23 : decode cX9_sizeFor 23 = .ok (.imul, 1) := by decide +kernel
theorem dX9_sizeFor_24 : decode cX9_sizeFor 24 = .ok (.aload_n 0, 1) := by decide +kernel
theorem dX9_sizeFor_25 : decode cX9_sizeFor 25 = .ok (.getfield 86, 3) := by decide +kernel
theorem dX9_sizeFor_28 : decode cX9_sizeFor 28 = .ok (.iadd, 1) := by decide +kernel
theorem dX9_sizeFor_29 : decode cX9_sizeFor 29 = .ok (.ireturn, 1) := by decide +kernel
theorem dX9_ofTwelve_0 : decode cX9_ofTwelve 0 = .ok (.aload_n 0, 1) := by decide +kernel
theorem dX9_ofTwelve_1 : decode cX9_ofTwelve 1 = .ok (.getfield 61, 3) := by decide +kernel
theorem dX9_ofTwelve_4 : decode cX9_ofTwelve 4 = .ok (.ifCond .ne 11, 3) := by decide +kernel
theorem dX9_ofTwelve_7 : decode cX9_ofTwelve 7 = .ok (.bipush 12, 2) := by decide +kernel
theorem dX9_ofTwelve_9 : decode cX9_ofTwelve 9 = .ok (.aload_n 0, 1) := by decide +kernel
theorem dX9_ofTwelve_10 : decode cX9_ofTwelve 10 = .ok (.getfield 92, 3) := by decide +kernel
theorem dX9_ofTwelve_13 : decode cX9_ofTwelve 13 = .ok (.isub, 1) := by decide +kernel
theorem dX9_ofTwelve_14 : decode cX9_ofTwelve 14 = .ok (.ireturn, 1) := by decide +kernel
theorem dX9_ofTwelve_15 : decode cX9_ofTwelve 15 = .ok (.aload_n 0, 1) := by decide +kernel
theorem dX9_ofTwelve_16 : decode cX9_ofTwelve 16 = .ok (.getfield 89, 3) := by decide +kernel
theorem dX9_ofTwelve_19 : decode cX9_ofTwelve 19 = .ok (.ifCond .le 17, 3) := by decide +kernel
theorem dX9_ofTwelve_22 : decode cX9_ofTwelve 22 = .ok (.iload_n 1, 1) := by decide +kernel
theorem dX9_ofTwelve_23 : decode cX9_ofTwelve 23 = .ok (.aload_n 0, 1) := by decide +kernel
theorem dX9_ofTwelve_24 : decode cX9_ofTwelve 24 = .ok (.getfield 89, 3) := by decide +kernel
theorem dX9_ofTwelve_27 : decode cX9_ofTwelve 27 = .ok (.irem, 1) := by decide +kernel
theorem dX9_ofTwelve_28 : decode cX9_ofTwelve 28 = .ok (.ifCond .ne 8, 3) := by decide +kernel
theorem dX9_ofTwelve_31 : decode cX9_ofTwelve 31 = .ok (.bipush 12, 2) := by decide +kernel
theorem dX9_ofTwelve_33 : decode cX9_ofTwelve 33 = .ok (.goto 4, 3) := by decide +kernel
theorem dX9_ofTwelve_36 : decode cX9_ofTwelve 36 = .ok (.iconst 4, 1) := by decide +kernel
theorem dX9_ofTwelve_37 : decode cX9_ofTwelve 37 = .ok (.ireturn, 1) := by decide +kernel
theorem dX10_init_0 : decode cX10_init 0 = .ok (.aload_n 0, 1) := by decide +kernel
theorem dX10_init_1 : decode cX10_init 1 = .ok (.invokespecial 1, 3) := by decide +kernel
theorem dX10_init_4 : decode cX10_init 4 = .ok (.aload_n 0, 1) := by decide +kernel
theorem dX10_init_5 : decode cX10_init 5 = .ok (.bipush 6, 2) := by decide +kernel
theorem dX10_init_7 : decode cX10_init 7 = .ok (.newarray .int, 2) := by decide +kernel
theorem dX10_init_9 : decode cX10_init 9 = .ok (.putfield 9, 3) := by decide +kernel
theorem dX10_init_12 : decode cX10_init 12 = .ok (.aload_n 0, 1) := by decide +kernel
theorem dX10_init_13 : decode cX10_init 13 = .ok (.sipush 185, 3) := by decide +kernel
theorem dX10_init_16 : decode cX10_init 16 = .ok (.newarray .int, 2) := by decide +kernel
theorem dX10_init_18 : decode cX10_init 18 = .ok (.putfield 13, 3) := by decide +kernel
theorem dX10_init_21 : decode cX10_init 21 = .ok (.return_, 1) := by decide +kernel
theorem dX10_clear_0 : decode cX10_clear 0 = .ok (.aload_n 0, 1) := by decide +kernel
theorem dX10_clear_1 : decode cX10_clear 1 = .ok (.getfield 9, 3) := by decide +kernel
theorem dX10_clear_4 : decode cX10_clear 4 = .ok (.iconst 0, 1) := by decide +kernel
theorem dX10_clear_5 : decode cX10_clear 5 = .ok (.invokestatic 16, 3) := by decide +kernel
theorem dX10_clear_8 : decode cX10_clear 8 = .ok (.aload_n 0, 1) := by decide +kernel
theorem dX10_clear_9 : decode cX10_clear 9 = .ok (.getfield 13, 3) := by decide +kernel
theorem dX10_clear_12 : decode cX10_clear 12 = .ok (.iconst 0, 1) := by decide +kernel
theorem dX10_clear_13 : decode cX10_clear 13 = .ok (.invokestatic 16, 3) := by decide +kernel
theorem dX10_clear_16 : decode cX10_clear 16 = .ok (.aload_n 0, 1) := by decide +kernel
theorem dX10_clear_17 : decode cX10_clear 17 = .ok (.iconst 4, 1) := by decide +kernel
theorem dX10_clear_18 : decode cX10_clear 18 = .ok (.iconst 0, 1) := by decide +kernel
theorem dX10_clear_19 : decode cX10_clear 19 = .ok (.iconst 0, 1) := by decide +kernel
theorem dX10_clear_20 : decode cX10_clear 20 = .ok (.sipush 200, 3) := by decide +kernel
theorem dX10_clear_23 : decode cX10_clear 23 = .ok (.invokevirtual 22, 3) := by decide +kernel
theorem dX10_clear_26 : decode cX10_clear 26 = .ok (.aload_n 0, 1) := by decide +kernel
theorem dX10_clear_27 : decode cX10_clear 27 = .ok (.iconst 4, 1) := by decide +kernel
theorem dX10_clear_28 : decode cX10_clear 28 = .ok (.iconst 0, 1) := by decide +kernel
theorem dX10_clear_29 : decode cX10_clear 29 = .ok (.iconst 1, 1) := by decide +kernel
theorem dX10_clear_30 : decode cX10_clear 30 = .ok (.iconst 1, 1) := by decide +kernel
theorem dX10_clear_31 : decode cX10_clear 31 = .ok (.invokevirtual 22, 3) := by decide +kernel
theorem dX10_clear_34 : decode cX10_clear 34 = .ok (.aload_n 0, 1) := by decide +kernel
theorem dX10_clear_35 : decode cX10_clear 35 = .ok (.iconst 4, 1) := by decide +kernel
theorem dX10_clear_36 : decode cX10_clear 36 = .ok (.iconst 0, 1) := by decide +kernel
theorem dX10_clear_37 : decode cX10_clear 37 = .ok (.iconst 2, 1) := by decide +kernel
theorem dX10_clear_38 : decode cX10_clear 38 = .ok (.iconst 1, 1) := by decide +kernel
theorem dX10_clear_39 : decode cX10_clear 39 = .ok (.invokevirtual 22, 3) := by decide +kernel
theorem dX10_clear_42 : decode cX10_clear 42 = .ok (.return_, 1) := by decide +kernel
theorem dX10_copyFrom_0 : decode cX10_copyFrom 0 = .ok (.aload_n 1, 1) := by decide +kernel
theorem dX10_copyFrom_1 : decode cX10_copyFrom 1 = .ok (.getfield 9, 3) := by decide +kernel
theorem dX10_copyFrom_4 : decode cX10_copyFrom 4 = .ok (.iconst 0, 1) := by decide +kernel
theorem dX10_copyFrom_5 : decode cX10_copyFrom 5 = .ok (.aload_n 0, 1) := by decide +kernel
theorem dX10_copyFrom_6 : decode cX10_copyFrom 6 = .ok (.getfield 9, 3) := by decide +kernel
theorem dX10_copyFrom_9 : decode cX10_copyFrom 9 = .ok (.iconst 0, 1) := by decide +kernel
theorem dX10_copyFrom_10 : decode cX10_copyFrom 10 = .ok (.bipush 6, 2) := by decide +kernel
theorem dX10_copyFrom_12 : decode cX10_copyFrom 12 = .ok (.invokestatic 26, 3) := by decide +kernel
theorem dX10_copyFrom_15 : decode cX10_copyFrom 15 = .ok (.aload_n 1, 1) := by decide +kernel
theorem dX10_copyFrom_16 : decode cX10_copyFrom 16 = .ok (.getfield 13, 3) := by decide +kernel
theorem dX10_copyFrom_19 : decode cX10_copyFrom 19 = .ok (.iconst 0, 1) := by decide +kernel
theorem dX10_copyFrom_20 : decode cX10_copyFrom 20 = .ok (.aload_n 0, 1) := by decide +kernel
theorem dX10_copyFrom_21 : decode cX10_copyFrom 21 = .ok (.getfield 13, 3) := by decide +kernel
theorem dX10_copyFrom_24 : decode cX10_copyFrom 24 = .ok (.iconst 0, 1) := by decide +kernel
theorem dX10_copyFrom_25 : decode cX10_copyFrom 25 = .ok (.sipush 185, 3) := by decide +kernel
theorem dX10_copyFrom_28 : decode cX10_copyFrom 28 = .ok (.invokestatic 26, 3) := by decide +kernel
theorem dX10_copyFrom_31 : decode cX10_copyFrom 31 = .ok (.return_, 1) := by decide +kernel
theorem dX10_howMany_0 : decode cX10_howMany 0 = .ok (.iload_n 1, 1) := by decide +kernel
theorem dX10_howMany_1 : decode cX10_howMany 1 = .ok (.ifCond .lt 18, 3) := by decide +kernel
theorem dX10_howMany_4 : decode cX10_howMany 4 = .ok (.iload_n 1, 1) := by decide +kernel
theorem dX10_howMany_5 : decode cX10_howMany 5 = .ok (.bipush 6, 2) := by decide +kernel
theorem dX10_howMany_7 : decode cX10_howMany 7 = .ok (.if_icmp .ge 12, 3) := by decide +kernel
theorem dX10_howMany_10 : decode cX10_howMany 10 = .ok (.aload_n 0, 1) := by decide +kernel
theorem dX10_howMany_11 : decode cX10_howMany 11 = .ok (.getfield 9, 3) := by decide +kernel
theorem dX10_howMany_14 : decode cX10_howMany 14 = .ok (.iload_n 1, 1) := by decide +kernel
theorem dX10_howMany_15 : decode cX10_howMany 15 = .ok (.iaload, 1) := by decide +kernel
theorem dX10_howMany_16 : decode cX10_howMany 16 = .ok (.goto 4, 3) := by decide +kernel
theorem dX10_howMany_19 : decode cX10_howMany 19 = .ok (.iconst 0, 1) := by decide +kernel
theorem dX10_howMany_20 : decode cX10_howMany 20 = .ok (.ireturn, 1) := by decide +kernel
theorem dX10_has_0 : decode cX10_has 0 = .ok (.iload_n 2, 1) := by decide +kernel
theorem dX10_has_1 : decode cX10_has 1 = .ok (.ifCond .lt 16, 3) := by decide +kernel
theorem dX10_has_4 : decode cX10_has 4 = .ok (.iload_n 2, 1) := by decide +kernel
theorem dX10_has_5 : decode cX10_has 5 = .ok (.aload_n 0, 1) := by decide +kernel
theorem dX10_has_6 : decode cX10_has 6 = .ok (.iload_n 1, 1) := by decide +kernel
theorem dX10_has_7 : decode cX10_has 7 = .ok (.invokevirtual 32, 3) := by decide +kernel
theorem dX10_has_10 : decode cX10_has 10 = .ok (.if_icmp .ge 7, 3) := by decide +kernel
theorem dX10_has_13 : decode cX10_has 13 = .ok (.iconst 1, 1) := by decide +kernel
theorem dX10_has_14 : decode cX10_has 14 = .ok (.goto 4, 3) := by decide +kernel
theorem dX10_has_17 : decode cX10_has 17 = .ok (.iconst 0, 1) := by decide +kernel
theorem dX10_has_18 : decode cX10_has 18 = .ok (.ireturn, 1) := by decide +kernel
theorem dX10_isFull_0 : decode cX10_isFull 0 = .ok (.iload_n 1, 1) := by decide +kernel
theorem dX10_isFull_1 : decode cX10_isFull 1 = .ok (.ifCond .lt 23, 3) := by decide +kernel
theorem dX10_isFull_4 : decode cX10_isFull 4 = .ok (.iload_n 1, 1) := by decide +kernel
theorem dX10_isFull_5 : decode cX10_isFull 5 = .ok (.bipush 6, 2) := by decide +kernel
theorem dX10_isFull_7 : decode cX10_isFull 7 = .ok (.if_icmp .ge 17, 3) := by decide +kernel
theorem dX10_isFull_10 : decode cX10_isFull 10 = .ok (.aload_n 0, 1) := by decide +kernel
theorem dX10_isFull_11 : decode cX10_isFull 11 = .ok (.getfield 9, 3) := by decide +kernel
theorem dX10_isFull_14 : decode cX10_isFull 14 = .ok (.iload_n 1, 1) := by decide +kernel
theorem dX10_isFull_15 : decode cX10_isFull 15 = .ok (.iaload, 1) := by decide +kernel
theorem dX10_isFull_16 : decode cX10_isFull 16 = .ok (.getstatic 36, 3) := by decide +kernel
theorem dX10_isFull_19 : decode cX10_isFull 19 = .ok (.iload_n 1, 1) := by decide +kernel
theorem dX10_isFull_20 : decode cX10_isFull 20 = .ok (.iaload, 1) := by decide +kernel
theorem dX10_isFull_21 : decode cX10_isFull 21 = .ok (.if_icmp .lt 7, 3) := by decide +kernel
theorem dX10_isFull_24 : decode cX10_isFull 24 = .ok (.iconst 1, 1) := by decide +kernel
theorem dX10_isFull_25 : decode cX10_isFull 25 = .ok (.goto 4, 3) := by decide +kernel
theorem dX10_isFull_28 : decode cX10_isFull 28 = .ok (.iconst 0, 1) := by decide +kernel
theorem dX10_isFull_29 : decode cX10_isFull 29 = .ok (.ireturn, 1) := by decide +kernel
theorem dX10_add_0 : decode cX10_add 0 = .ok (.aload_n 0, 1) := by decide +kernel
theorem dX10_add_1 : decode cX10_add 1 = .ok (.iload_n 1, 1) := by decide +kernel
theorem dX10_add_2 : decode cX10_add 2 = .ok (.invokevirtual 39, 3) := by decide +kernel
theorem dX10_add_5 : decode cX10_add 5 = .ok (.ifCond .ne 13, 3) := by decide +kernel
theorem dX10_add_8 : decode cX10_add 8 = .ok (.aload_n 0, 1) := by decide +kernel
theorem dX10_add_9 : decode cX10_add 9 = .ok (.getfield 9, 3) := by decide +kernel
theorem dX10_add_12 : decode cX10_add 12 = .ok (.iload_n 1, 1) := by decide +kernel
theorem dX10_add_13 : decode cX10_add 13 = .ok (.dup2, 1) := by decide +kernel
theorem dX10_add_14 : decode cX10_add 14 = .ok (.iaload, 1) := by decide +kernel
theorem dX10_add_15 : decode cX10_add 15 = .ok (.iconst 1, 1) := by decide +kernel
theorem dX10_add_16 : decode cX10_add 16 = .ok (.iadd, 1) := by decide +kernel
theorem dX10_add_17 : decode cX10_add 17 = .ok (.iastore, 1) := by decide +kernel
theorem dX10_add_18 : decode cX10_add 18 = .ok (.return_, 1) := by decide +kernel
theorem dX10_value_0 : decode cX10_value 0 = .ok (.iload_n 1, 1) := by decide +kernel
theorem dX10_value_1 : decode cX10_value 1 = .ok (.ifCond .lt 31, 3) := by decide +kernel
theorem dX10_value_4 : decode cX10_value 4 = .ok (.iload_n 1, 1) := by decide +kernel
theorem dX10_value_5 : decode cX10_value 5 = .ok (.bipush 6, 2) := by decide +kernel
theorem dX10_value_7 : decode cX10_value 7 = .ok (.if_icmp .ge 25, 3) := by decide +kernel
theorem dX10_value_10 : decode cX10_value 10 = .ok (.iload_n 2, 1) := by decide +kernel
theorem dX10_value_11 : decode cX10_value 11 = .ok (.ifCond .lt 21, 3) := by decide +kernel
theorem dX10_value_14 : decode cX10_value 14 = .ok (.iload_n 2, 1) := by decide +kernel
theorem dX10_value_15 : decode cX10_value 15 = .ok (.getstatic 36, 3) := by decide +kernel
theorem dX10_value_18 : decode cX10_value 18 = .ok (.iload_n 1, 1) := by decide +kernel
theorem dX10_value_19 : decode cX10_value 19 = .ok (.iaload, 1) := by decide +kernel
theorem dX10_value_20 : decode cX10_value 20 = .ok (.if_icmp .ge 12, 3) := by decide +kernel
theorem dX10_value_23 : decode cX10_value 23 = .ok (.iload_n 3, 1) := by decide +kernel
theorem dX10_value_24 : decode cX10_value 24 = .ok (.ifCond .lt 8, 3) := by decide +kernel
theorem dX10_value_27 : decode cX10_value 27 = .ok (.iload_n 3, 1) := by decide +kernel
theorem dX10_value_28 : decode cX10_value 28 = .ok (.iconst 5, 1) := by decide +kernel
theorem dX10_value_29 : decode cX10_value 29 = .ok (.if_icmp .lt 5, 3) := by decide +kernel
theorem dX10_value_32 : decode cX10_value 32 = .ok (.iconst 0, 1) := by decide +kernel
theorem dX10_value_33 : decode cX10_value 33 = .ok (.ireturn, 1) := by decide +kernel
theorem dX10_value_34 : decode cX10_value 34 = .ok (.aload_n 0, 1) := by decide +kernel
theorem dX10_value_35 : decode cX10_value 35 = .ok (.getfield 13, 3) := by decide +kernel
theorem dX10_value_38 : decode cX10_value 38 = .ok (.getstatic 43, 3) := by decide +kernel
theorem dX10_value_41 : decode cX10_value 41 = .ok (.iload_n 1, 1) := by decide +kernel
theorem dX10_value_42 : decode cX10_value 42 = .ok (.iaload, 1) := by decide +kernel
theorem dX10_value_43 : decode cX10_value 43 = .ok (.iload_n 2, 1) := by decide +kernel
theorem dX10_value_44 : decode cX10_value 44 = .ok (.iadd, 1) := by decide +kernel
theorem dX10_value_45 : decode cX10_value 45 = .ok (.iconst 5, 1) := by decide +kernel
theorem dX10_value_46 : decode cX10_value 46 = .ok (.imul, 1) := by decide +kernel
theorem dX10_value_47 : decode cX10_value 47 = .ok (.iload_n 3, 1) := by decide +kernel
theorem dX10_value_48 : decode cX10_value 48 = .ok (.iadd, 1) := by decide +kernel
theorem dX10_value_49 : decode cX10_value 49 = .ok (.iaload, 1) := by decide +kernel
theorem dX10_value_50 : decode cX10_value 50 = .ok (.ireturn, 1) := by decide +kernel
theorem dX10_put_0 : decode cX10_put 0 = .ok (.iload_n 1, 1) := by decide +kernel
theorem dX10_put_1 : decode cX10_put 1 = .ok (.ifCond .lt 31, 3) := by decide +kernel
theorem dX10_put_4 : decode cX10_put 4 = .ok (.iload_n 1, 1) := by decide +kernel
theorem dX10_put_5 : decode cX10_put 5 = .ok (.bipush 6, 2) := by decide +kernel
theorem dX10_put_7 : decode cX10_put 7 = .ok (.if_icmp .ge 25, 3) := by decide +kernel
theorem dX10_put_10 : decode cX10_put 10 = .ok (.iload_n 2, 1) := by decide +kernel
theorem dX10_put_11 : decode cX10_put 11 = .ok (.ifCond .lt 21, 3) := by decide +kernel
theorem dX10_put_14 : decode cX10_put 14 = .ok (.iload_n 2, 1) := by decide +kernel
theorem dX10_put_15 : decode cX10_put 15 = .ok (.getstatic 36, 3) := by decide +kernel
theorem dX10_put_18 : decode cX10_put 18 = .ok (.iload_n 1, 1) := by decide +kernel
theorem dX10_put_19 : decode cX10_put 19 = .ok (.iaload, 1) := by decide +kernel
theorem dX10_put_20 : decode cX10_put 20 = .ok (.if_icmp .ge 12, 3) := by decide +kernel
theorem dX10_put_23 : decode cX10_put 23 = .ok (.iload_n 3, 1) := by decide +kernel
theorem dX10_put_24 : decode cX10_put 24 = .ok (.ifCond .lt 8, 3) := by decide +kernel
theorem dX10_put_27 : decode cX10_put 27 = .ok (.iload_n 3, 1) := by decide +kernel
theorem dX10_put_28 : decode cX10_put 28 = .ok (.iconst 5, 1) := by decide +kernel
theorem dX10_put_29 : decode cX10_put 29 = .ok (.if_icmp .lt 4, 3) := by decide +kernel
theorem dX10_put_32 : decode cX10_put 32 = .ok (.return_, 1) := by decide +kernel
theorem dX10_put_33 : decode cX10_put 33 = .ok (.aload_n 0, 1) := by decide +kernel
theorem dX10_put_34 : decode cX10_put 34 = .ok (.getfield 13, 3) := by decide +kernel
theorem dX10_put_37 : decode cX10_put 37 = .ok (.getstatic 43, 3) := by decide +kernel
theorem dX10_put_40 : decode cX10_put 40 = .ok (.iload_n 1, 1) := by decide +kernel
theorem dX10_put_41 : decode cX10_put 41 = .ok (.iaload, 1) := by decide +kernel
theorem dX10_put_42 : decode cX10_put 42 = .ok (.iload_n 2, 1) := by decide +kernel
theorem dX10_put_43 : decode cX10_put 43 = .ok (.iadd, 1) := by decide +kernel
theorem dX10_put_44 : decode cX10_put 44 = .ok (.iconst 5, 1) := by decide +kernel
theorem dX10_put_45 : decode cX10_put 45 = .ok (.imul, 1) := by decide +kernel
theorem dX10_put_46 : decode cX10_put 46 = .ok (.iload_n 3, 1) := by decide +kernel
theorem dX10_put_47 : decode cX10_put 47 = .ok (.iadd, 1) := by decide +kernel
theorem dX10_put_48 : decode cX10_put 48 = .ok (.iload 4, 2) := by decide +kernel
theorem dX10_put_50 : decode cX10_put 50 = .ok (.iastore, 1) := by decide +kernel
theorem dX10_put_51 : decode cX10_put 51 = .ok (.return_, 1) := by decide +kernel
theorem dX10_kindOf_0 : decode cX10_kindOf 0 = .ok (.aload_n 0, 1) := by decide +kernel
theorem dX10_kindOf_1 : decode cX10_kindOf 1 = .ok (.iconst 5, 1) := by decide +kernel
theorem dX10_kindOf_2 : decode cX10_kindOf 2 = .ok (.iload_n 1, 1) := by decide +kernel
theorem dX10_kindOf_3 : decode cX10_kindOf 3 = .ok (.iconst 0, 1) := by decide +kernel
theorem dX10_kindOf_4 : decode cX10_kindOf 4 = .ok (.invokevirtual 46, 3) := by decide +kernel
theorem dX10_kindOf_7 : decode cX10_kindOf 7 = .ok (.ireturn, 1) := by decide +kernel
theorem dX10_isA_0 : decode cX10_isA 0 = .ok (.aload_n 0, 1) := by decide +kernel
theorem dX10_isA_1 : decode cX10_isA 1 = .ok (.iload_n 1, 1) := by decide +kernel
theorem dX10_isA_2 : decode cX10_isA 2 = .ok (.invokevirtual 50, 3) := by decide +kernel
theorem dX10_isA_5 : decode cX10_isA 5 = .ok (.istore_n 3, 1) := by decide +kernel
theorem dX10_isA_6 : decode cX10_isA 6 = .ok (.iconst 0, 1) := by decide +kernel
theorem dX10_isA_7 : decode cX10_isA 7 = .ok (.istore 4, 2) := by decide +kernel
theorem dX10_isA_9 : decode cX10_isA 9 = .ok (.iload 4, 2) := by decide +kernel
theorem dX10_isA_11 : decode cX10_isA 11 = .ok (.getstatic 53, 3) := by decide +kernel
theorem dX10_isA_14 : decode cX10_isA 14 = .ok (.arraylength, 1) := by decide +kernel
theorem dX10_isA_15 : decode cX10_isA 15 = .ok (.if_icmp .ge 34, 3) := by decide +kernel
theorem dX10_isA_18 : decode cX10_isA 18 = .ok (.iload_n 3, 1) := by decide +kernel
theorem dX10_isA_19 : decode cX10_isA 19 = .ok (.ifCond .lt 30, 3) := by decide +kernel
theorem dX10_isA_22 : decode cX10_isA 22 = .ok (.iload_n 3, 1) := by decide +kernel
theorem dX10_isA_23 : decode cX10_isA 23 = .ok (.getstatic 53, 3) := by decide +kernel
theorem dX10_isA_26 : decode cX10_isA 26 = .ok (.arraylength, 1) := by decide +kernel
theorem dX10_isA_27 : decode cX10_isA 27 = .ok (.if_icmp .ge 22, 3) := by decide +kernel
theorem dX10_isA_30 : decode cX10_isA 30 = .ok (.iload_n 3, 1) := by decide +kernel
theorem dX10_isA_31 : decode cX10_isA 31 = .ok (.iload_n 2, 1) := by decide +kernel
theorem dX10_isA_32 : decode cX10_isA 32 = .ok (.if_icmp .ne 5, 3) := by decide +kernel
theorem dX10_isA_35 : decode cX10_isA 35 = .ok (.iconst 1, 1) := by decide +kernel
theorem dX10_isA_36 : decode cX10_isA 36 = .ok (.ireturn, 1) := by decide +kernel
theorem dX10_isA_37 : decode cX10_isA 37 = .ok (.getstatic 53, 3) := by decide +kernel
theorem dX10_isA_40 : decode cX10_isA 40 = .ok (.iload_n 3, 1) := by decide +kernel
theorem dX10_isA_41 : decode cX10_isA 41 = .ok (.iaload, 1) := by decide +kernel
theorem dX10_isA_42 : decode cX10_isA 42 = .ok (.istore_n 3, 1) := by decide +kernel
theorem dX10_isA_43 : decode cX10_isA 43 = .ok (.iinc 4 1, 3) := by decide +kernel
theorem dX10_isA_46 : decode cX10_isA 46 = .ok (.goto (-37), 3) := by decide +kernel
theorem dX10_isA_49 : decode cX10_isA 49 = .ok (.iconst 0, 1) := by decide +kernel
theorem dX10_isA_50 : decode cX10_isA 50 = .ok (.ireturn, 1) := by decide +kernel
theorem dX10_pointsFor_0 : decode cX10_pointsFor 0 = .ok (.iload_n 2, 1) := by decide +kernel
theorem dX10_pointsFor_1 : decode cX10_pointsFor 1 = .ok (.aload_n 0, 1) := by decide +kernel
theorem dX10_pointsFor_2 : decode cX10_pointsFor 2 = .ok (.iconst 4, 1) := by decide +kernel
theorem dX10_pointsFor_3 : decode cX10_pointsFor 3 = .ok (.iconst 0, 1) := by decide +kernel
theorem dX10_pointsFor_4 : decode cX10_pointsFor 4 = .ok (.iconst 0, 1) := by decide +kernel
theorem dX10_pointsFor_5 : decode cX10_pointsFor 5 = .ok (.invokevirtual 46, 3) := by decide +kernel
theorem dX10_pointsFor_8 : decode cX10_pointsFor 8 = .ok (.if_icmp .le 5, 3) := by decide +kernel
theorem dX10_pointsFor_11 : decode cX10_pointsFor 11 = .ok (.iconst 0, 1) := by decide +kernel
theorem dX10_pointsFor_12 : decode cX10_pointsFor 12 = .ok (.ireturn, 1) := by decide +kernel
theorem dX10_pointsFor_13 : decode cX10_pointsFor 13 = .ok (.iload_n 3, 1) := by decide +kernel
theorem dX10_pointsFor_14 : decode cX10_pointsFor 14 = .ok (.ifCond .ne 12, 3) := by decide +kernel
theorem dX10_pointsFor_17 : decode cX10_pointsFor 17 = .ok (.aload_n 0, 1) := by decide +kernel
theorem dX10_pointsFor_18 : decode cX10_pointsFor 18 = .ok (.iconst 4, 1) := by decide +kernel
theorem dX10_pointsFor_19 : decode cX10_pointsFor 19 = .ok (.iconst 0, 1) := by decide +kernel
theorem dX10_pointsFor_20 : decode cX10_pointsFor 20 = .ok (.iconst 3, 1) := by decide +kernel
theorem dX10_pointsFor_21 : decode cX10_pointsFor 21 = .ok (.invokevirtual 46, 3) := by decide +kernel
theorem dX10_pointsFor_24 : decode cX10_pointsFor 24 = .ok (.ineg, 1) := by decide +kernel
theorem dX10_pointsFor_25 : decode cX10_pointsFor 25 = .ok (.ireturn, 1) := by decide +kernel
theorem dX10_pointsFor_26 : decode cX10_pointsFor 26 = .ok (.aload_n 0, 1) := by decide +kernel
theorem dX10_pointsFor_27 : decode cX10_pointsFor 27 = .ok (.iconst 4, 1) := by decide +kernel
theorem dX10_pointsFor_28 : decode cX10_pointsFor 28 = .ok (.iconst 0, 1) := by decide +kernel
theorem dX10_pointsFor_29 : decode cX10_pointsFor 29 = .ok (.iload_n 1, 1) := by decide +kernel
theorem dX10_pointsFor_30 : decode cX10_pointsFor 30 = .ok (.ifCond .ne 7, 3) := by decide +kernel
theorem dX10_pointsFor_33 : decode cX10_pointsFor 33 = .ok (.iconst 1, 1) := by decide +kernel
theorem dX10_pointsFor_34 : decode cX10_pointsFor 34 = .ok (.goto 4, 3) := by decide +kernel
theorem dX10_pointsFor_37 : decode cX10_pointsFor 37 = .ok (.iconst 2, 1) := by decide +kernel
theorem dX10_pointsFor_38 : decode cX10_pointsFor 38 = .ok (.invokevirtual 46, 3) := by decide +kernel
theorem dX10_pointsFor_41 : decode cX10_pointsFor 41 = .ok (.ireturn, 1) := by decide +kernel
theorem dX10_howManyThrows_0 : decode cX10_howManyThrows 0 = .ok (.iconst 0, 1) := by decide +kernel
theorem dX10_howManyThrows_1 : decode cX10_howManyThrows 1 = .ok (.istore_n 1, 1) := by decide +kernel
theorem dX10_howManyThrows_2 : decode cX10_howManyThrows 2 = .ok (.iconst 0, 1) := by decide +kernel
theorem dX10_howManyThrows_3 : decode cX10_howManyThrows 3 = .ok (.istore_n 2, 1) := by decide +kernel
theorem dX10_howManyThrows_4 : decode cX10_howManyThrows 4 = .ok (.iload_n 2, 1) := by decide +kernel
theorem dX10_howManyThrows_5 : decode cX10_howManyThrows 5 = .ok (.aload_n 0, 1) := by decide +kernel
theorem dX10_howManyThrows_6 : decode cX10_howManyThrows 6 = .ok (.getfield 9, 3) := by decide +kernel
theorem dX10_howManyThrows_9 : decode cX10_howManyThrows 9 = .ok (.iconst 5, 1) := by decide +kernel
theorem dX10_howManyThrows_10 : decode cX10_howManyThrows 10 = .ok (.iaload, 1) := by decide +kernel
theorem dX10_howManyThrows_11 : decode cX10_howManyThrows 11 = .ok (.if_icmp .ge 21, 3) := by decide +kernel
theorem dX10_howManyThrows_14 : decode cX10_howManyThrows 14 = .ok (.aload_n 0, 1) := by decide +kernel
theorem dX10_howManyThrows_15 : decode cX10_howManyThrows 15 = .ok (.iload_n 2, 1) := by decide +kernel
theorem dX10_howManyThrows_16 : decode cX10_howManyThrows 16 = .ok (.iconst 4, 1) := by decide +kernel
theorem dX10_howManyThrows_17 : decode cX10_howManyThrows 17 = .ok (.invokevirtual 56, 3) := by decide +kernel
theorem dX10_howManyThrows_20 : decode cX10_howManyThrows 20 = .ok (.ifCond .eq 6, 3) := by decide +kernel
theorem dX10_howManyThrows_23 : decode cX10_howManyThrows 23 = .ok (.iinc 1 1, 3) := by decide +kernel
theorem dX10_howManyThrows_26 : decode cX10_howManyThrows 26 = .ok (.iinc 2 1, 3) := by decide +kernel
theorem dX10_howManyThrows_29 : decode cX10_howManyThrows 29 = .ok (.goto (-25), 3) := by decide +kernel
theorem dX10_howManyThrows_32 : decode cX10_howManyThrows 32 = .ok (.iload_n 1, 1) := by decide +kernel
theorem dX10_howManyThrows_33 : decode cX10_howManyThrows 33 = .ok (.ireturn, 1) := by decide +kernel
theorem dX11_init_0 : decode cX11_init 0 = .ok (.aload_n 0, 1) := by decide +kernel
theorem dX11_init_1 : decode cX11_init 1 = .ok (.invokespecial 3, 3) := by decide +kernel
theorem dX11_init_4 : decode cX11_init 4 = .ok (.aload_n 0, 1) := by decide +kernel
theorem dX11_init_5 : decode cX11_init 5 = .ok (.new 9, 3) := by decide +kernel
theorem dX11_init_8 : decode cX11_init 8 = .ok (.dup, 1) := by decide +kernel
theorem dX11_init_9 : decode cX11_init 9 = .ok (.invokespecial 11, 3) := by decide +kernel
theorem dX11_init_12 : decode cX11_init 12 = .ok (.putfield 12, 3) := by decide +kernel
theorem dX11_init_15 : decode cX11_init 15 = .ok (.aload_n 0, 1) := by decide +kernel
theorem dX11_init_16 : decode cX11_init 16 = .ok (.new 16, 3) := by decide +kernel
theorem dX11_init_19 : decode cX11_init 19 = .ok (.dup, 1) := by decide +kernel
theorem dX11_init_20 : decode cX11_init 20 = .ok (.invokespecial 18, 3) := by decide +kernel
theorem dX11_init_23 : decode cX11_init 23 = .ok (.putfield 19, 3) := by decide +kernel
theorem dX11_init_26 : decode cX11_init 26 = .ok (.aload_n 0, 1) := by decide +kernel
theorem dX11_init_27 : decode cX11_init 27 = .ok (.new 23, 3) := by decide +kernel
theorem dX11_init_30 : decode cX11_init 30 = .ok (.dup, 1) := by decide +kernel
theorem dX11_init_31 : decode cX11_init 31 = .ok (.invokespecial 25, 3) := by decide +kernel
theorem dX11_init_34 : decode cX11_init 34 = .ok (.putfield 26, 3) := by decide +kernel
theorem dX11_init_37 : decode cX11_init 37 = .ok (.aload_n 0, 1) := by decide +kernel
theorem dX11_init_38 : decode cX11_init 38 = .ok (.iconst 2, 1) := by decide +kernel
theorem dX11_init_39 : decode cX11_init 39 = .ok (.anewarray 23, 3) := by decide +kernel
theorem dX11_init_42 : decode cX11_init 42 = .ok (.putfield 30, 3) := by decide +kernel
theorem dX11_init_45 : decode cX11_init 45 = .ok (.iconst 0, 1) := by decide +kernel
theorem dX11_init_46 : decode cX11_init 46 = .ok (.istore_n 1, 1) := by decide +kernel
theorem dX11_init_47 : decode cX11_init 47 = .ok (.iload_n 1, 1) := by decide +kernel
theorem dX11_init_48 : decode cX11_init 48 = .ok (.iconst 2, 1) := by decide +kernel
theorem dX11_init_49 : decode cX11_init 49 = .ok (.if_icmp .ge 22, 3) := by decide +kernel
theorem dX11_init_52 : decode cX11_init 52 = .ok (.aload_n 0, 1) := by decide +kernel
theorem dX11_init_53 : decode cX11_init 53 = .ok (.getfield 30, 3) := by decide +kernel
theorem dX11_init_56 : decode cX11_init 56 = .ok (.iload_n 1, 1) := by decide +kernel
theorem dX11_init_57 : decode cX11_init 57 = .ok (.new 23, 3) := by decide +kernel
theorem dX11_init_60 : decode cX11_init 60 = .ok (.dup, 1) := by decide +kernel
theorem dX11_init_61 : decode cX11_init 61 = .ok (.invokespecial 25, 3) := by decide +kernel
theorem dX11_init_64 : decode cX11_init 64 = .ok (.aastore, 1) := by decide +kernel
theorem dX11_init_65 : decode cX11_init 65 = .ok (.iinc 1 1, 3) := by decide +kernel
theorem dX11_init_68 : decode cX11_init 68 = .ok (.goto (-21), 3) := by decide +kernel
theorem dX11_init_71 : decode cX11_init 71 = .ok (.aload_n 0, 1) := by decide +kernel
theorem dX11_init_72 : decode cX11_init 72 = .ok (.new 34, 3) := by decide +kernel
theorem dX11_init_75 : decode cX11_init 75 = .ok (.dup, 1) := by decide +kernel
theorem dX11_init_76 : decode cX11_init 76 = .ok (.invokespecial 36, 3) := by decide +kernel
theorem dX11_init_79 : decode cX11_init 79 = .ok (.putfield 37, 3) := by decide +kernel
theorem dX11_init_82 : decode cX11_init 82 = .ok (.aload_n 0, 1) := by decide +kernel
theorem dX11_init_83 : decode cX11_init 83 = .ok (.new 41, 3) := by decide +kernel
theorem dX11_init_86 : decode cX11_init 86 = .ok (.dup, 1) := by decide +kernel
theorem dX11_init_87 : decode cX11_init 87 = .ok (.invokespecial 43, 3) := by decide +kernel
theorem dX11_init_90 : decode cX11_init 90 = .ok (.putfield 44, 3) := by decide +kernel
theorem dX11_init_93 : decode cX11_init 93 = .ok (.aload_n 0, 1) := by decide +kernel
theorem dX11_init_94 : decode cX11_init 94 = .ok (.new 48, 3) := by decide +kernel
theorem dX11_init_97 : decode cX11_init 97 = .ok (.dup, 1) := by decide +kernel
theorem dX11_init_98 : decode cX11_init 98 = .ok (.invokespecial 50, 3) := by decide +kernel
theorem dX11_init_101 : decode cX11_init 101 = .ok (.putfield 51, 3) := by decide +kernel
theorem dX11_init_104 : decode cX11_init 104 = .ok (.aload_n 0, 1) := by decide +kernel
theorem dX11_init_105 : decode cX11_init 105 = .ok (.new 55, 3) := by decide +kernel
theorem dX11_init_108 : decode cX11_init 108 = .ok (.dup, 1) := by decide +kernel
theorem dX11_init_109 : decode cX11_init 109 = .ok (.invokespecial 57, 3) := by decide +kernel
theorem dX11_init_112 : decode cX11_init 112 = .ok (.putfield 58, 3) := by decide +kernel
theorem dX11_init_115 : decode cX11_init 115 = .ok (.aload_n 0, 1) := by decide +kernel
theorem dX11_init_116 : decode cX11_init 116 = .ok (.new 62, 3) := by decide +kernel
theorem dX11_init_119 : decode cX11_init 119 = .ok (.dup, 1) := by decide +kernel
theorem dX11_init_120 : decode cX11_init 120 = .ok (.invokespecial 64, 3) := by decide +kernel
theorem dX11_init_123 : decode cX11_init 123 = .ok (.putfield 65, 3) := by decide +kernel
theorem dX11_init_126 : decode cX11_init 126 = .ok (.aload_n 0, 1) := by decide +kernel
theorem dX11_init_127 : decode cX11_init 127 = .ok (.aconst_null, 1) := by decide +kernel
theorem dX11_init_128 : decode cX11_init 128 = .ok (.putfield 69, 3) := by decide +kernel
theorem dX11_init_131 : decode cX11_init 131 = .ok (.aload_n 0, 1) := by decide +kernel
theorem dX11_init_132 : decode cX11_init 132 = .ok (.iconst 0, 1) := by decide +kernel
theorem dX11_init_133 : decode cX11_init 133 = .ok (.putfield 73, 3) := by decide +kernel
theorem dX11_init_136 : decode cX11_init 136 = .ok (.return_, 1) := by decide +kernel
theorem dX11_row_0 : decode cX11_row 0 = .ok (.iload_n 1, 1) := by decide +kernel
theorem dX11_row_1 : decode cX11_row 1 = .ok (.invokestatic 77, 3) := by decide +kernel
theorem dX11_row_4 : decode cX11_row 4 = .ok (.ifCond .eq 18, 3) := by decide +kernel
theorem dX11_row_7 : decode cX11_row 7 = .ok (.iload_n 2, 1) := by decide +kernel
theorem dX11_row_8 : decode cX11_row 8 = .ok (.iconst 0, 1) := by decide +kernel
theorem dX11_row_9 : decode cX11_row 9 = .ok (.iconst 2, 1) := by decide +kernel
theorem dX11_row_10 : decode cX11_row 10 = .ok (.invokestatic 81, 3) := by decide +kernel
theorem dX11_row_13 : decode cX11_row 13 = .ok (.ifCond .eq 9, 3) := by decide +kernel
theorem dX11_row_16 : decode cX11_row 16 = .ok (.iload_n 3, 1) := by decide +kernel
theorem dX11_row_17 : decode cX11_row 17 = .ok (.bipush 40, 2) := by decide +kernel
theorem dX11_row_19 : decode cX11_row 19 = .ok (.if_icmp .le 7, 3) := by decide +kernel
theorem dX11_row_22 : decode cX11_row 22 = .ok (.ldc2_w 85, 3) := by decide +kernel
theorem dX11_row_25 : decode cX11_row 25 = .ok (.lreturn, 1) := by decide +kernel
theorem dX11_row_26 : decode cX11_row 26 = .ok (.iload_n 3, 1) := by decide +kernel
theorem dX11_row_27 : decode cX11_row 27 = .ok (.ifCond .ge 9, 3) := by decide +kernel
theorem dX11_row_30 : decode cX11_row 30 = .ok (.aload_n 0, 1) := by decide +kernel
theorem dX11_row_31 : decode cX11_row 31 = .ok (.iconst 4, 1) := by decide +kernel
theorem dX11_row_32 : decode cX11_row 32 = .ok (.invokevirtual 87, 3) := by decide +kernel
theorem dX11_row_35 : decode cX11_row 35 = .ok (.lreturn, 1) := by decide +kernel
theorem dX11_row_36 : decode cX11_row 36 = .ok (.aload_n 0, 1) := by decide +kernel
theorem dX11_row_37 : decode cX11_row 37 = .ok (.getfield 12, 3) := by decide +kernel
theorem dX11_row_40 : decode cX11_row 40 = .ok (.iload_n 1, 1) := by decide +kernel
theorem dX11_row_41 : decode cX11_row 41 = .ok (.iload_n 2, 1) := by decide +kernel
theorem dX11_row_42 : decode cX11_row 42 = .ok (.iload_n 3, 1) := by decide +kernel
theorem dX11_row_43 : decode cX11_row 43 = .ok (.invokevirtual 91, 3) := by decide +kernel
theorem dX11_row_46 : decode cX11_row 46 = .ok (.aload_n 0, 1) := by decide +kernel
theorem dX11_row_47 : decode cX11_row 47 = .ok (.iload_n 3, 1) := by decide +kernel
theorem dX11_row_48 : decode cX11_row 48 = .ok (.i2l, 1) := by decide +kernel
theorem dX11_row_49 : decode cX11_row 49 = .ok (.invokevirtual 95, 3) := by decide +kernel
theorem dX11_row_52 : decode cX11_row 52 = .ok (.lreturn, 1) := by decide +kernel
theorem dX11_set_0 : decode cX11_set 0 = .ok (.iload_n 1, 1) := by decide +kernel
theorem dX11_set_1 : decode cX11_set 1 = .ok (.invokestatic 77, 3) := by decide +kernel
theorem dX11_set_4 : decode cX11_set 4 = .ok (.ifCond .ne 7, 3) := by decide +kernel
theorem dX11_set_7 : decode cX11_set 7 = .ok (.ldc2_w 85, 3) := by decide +kernel
theorem dX11_set_10 : decode cX11_set 10 = .ok (.lreturn, 1) := by decide +kernel
theorem dX11_set_11 : decode cX11_set 11 = .ok (.aload_n 0, 1) := by decide +kernel
theorem dX11_set_12 : decode cX11_set 12 = .ok (.getfield 12, 3) := by decide +kernel
theorem dX11_set_15 : decode cX11_set 15 = .ok (.iload_n 1, 1) := by decide +kernel
theorem dX11_set_16 : decode cX11_set 16 = .ok (.invokevirtual 99, 3) := by decide +kernel
theorem dX11_set_19 : decode cX11_set 19 = .ok (.ifCond .eq 9, 3) := by decide +kernel
theorem dX11_set_22 : decode cX11_set 22 = .ok (.aload_n 0, 1) := by decide +kernel
theorem dX11_set_23 : decode cX11_set 23 = .ok (.iconst 1, 1) := by decide +kernel
theorem dX11_set_24 : decode cX11_set 24 = .ok (.invokevirtual 87, 3) := by decide +kernel
theorem dX11_set_27 : decode cX11_set 27 = .ok (.lreturn, 1) := by decide +kernel
theorem dX11_set_28 : decode cX11_set 28 = .ok (.aload_n 0, 1) := by decide +kernel
theorem dX11_set_29 : decode cX11_set 29 = .ok (.getfield 12, 3) := by decide +kernel
theorem dX11_set_32 : decode cX11_set 32 = .ok (.iload_n 1, 1) := by decide +kernel
theorem dX11_set_33 : decode cX11_set 33 = .ok (.iload_n 2, 1) := by decide +kernel
theorem dX11_set_34 : decode cX11_set 34 = .ok (.iconst 1, 1) := by decide +kernel
theorem dX11_set_35 : decode cX11_set 35 = .ok (.invokevirtual 102, 3) := by decide +kernel
theorem dX11_set_38 : decode cX11_set 38 = .ok (.ifCond .ne 9, 3) := by decide +kernel
theorem dX11_set_41 : decode cX11_set 41 = .ok (.aload_n 0, 1) := by decide +kernel
theorem dX11_set_42 : decode cX11_set 42 = .ok (.iconst 2, 1) := by decide +kernel
theorem dX11_set_43 : decode cX11_set 43 = .ok (.invokevirtual 87, 3) := by decide +kernel
theorem dX11_set_46 : decode cX11_set 46 = .ok (.lreturn, 1) := by decide +kernel
theorem dX11_set_47 : decode cX11_set 47 = .ok (.aload_n 0, 1) := by decide +kernel
theorem dX11_set_48 : decode cX11_set 48 = .ok (.aload_n 0, 1) := by decide +kernel
theorem dX11_set_49 : decode cX11_set 49 = .ok (.getfield 12, 3) := by decide +kernel
theorem dX11_set_52 : decode cX11_set 52 = .ok (.iload_n 1, 1) := by decide +kernel
theorem dX11_set_53 : decode cX11_set 53 = .ok (.iload_n 2, 1) := by decide +kernel
theorem dX11_set_54 : decode cX11_set 54 = .ok (.iload_n 3, 1) := by decide +kernel
theorem dX11_set_55 : decode cX11_set 55 = .ok (.invokevirtual 105, 3) := by decide +kernel
theorem dX11_set_58 : decode cX11_set 58 = .ok (.i2l, 1) := by decide +kernel
theorem dX11_set_59 : decode cX11_set 59 = .ok (.invokevirtual 95, 3) := by decide +kernel
theorem dX11_set_62 : decode cX11_set 62 = .ok (.lreturn, 1) := by decide +kernel
theorem dX11_copy_0 : decode cX11_copy 0 = .ok (.iload_n 1, 1) := by decide +kernel
theorem dX11_copy_1 : decode cX11_copy 1 = .ok (.invokestatic 77, 3) := by decide +kernel
theorem dX11_copy_4 : decode cX11_copy 4 = .ok (.ifCond .eq 10, 3) := by decide +kernel
theorem dX11_copy_7 : decode cX11_copy 7 = .ok (.iload_n 3, 1) := by decide +kernel
theorem dX11_copy_8 : decode cX11_copy 8 = .ok (.invokestatic 77, 3) := by decide +kernel
theorem dX11_copy_11 : decode cX11_copy 11 = .ok (.ifCond .ne 7, 3) := by decide +kernel
theorem dX11_copy_14 : decode cX11_copy 14 = .ok (.ldc2_w 85, 3) := by decide +kernel
theorem dX11_copy_17 : decode cX11_copy 17 = .ok (.lreturn, 1) := by decide +kernel
theorem dX11_copy_18 : decode cX11_copy 18 = .ok (.aload_n 0, 1) := by decide +kernel
theorem dX11_copy_19 : decode cX11_copy 19 = .ok (.getfield 12, 3) := by decide +kernel
theorem dX11_copy_22 : decode cX11_copy 22 = .ok (.iload_n 1, 1) := by decide +kernel
theorem dX11_copy_23 : decode cX11_copy 23 = .ok (.invokevirtual 99, 3) := by decide +kernel
theorem dX11_copy_26 : decode cX11_copy 26 = .ok (.ifCond .ne 14, 3) := by decide +kernel
theorem dX11_copy_29 : decode cX11_copy 29 = .ok (.aload_n 0, 1) := by decide +kernel
theorem dX11_copy_30 : decode cX11_copy 30 = .ok (.getfield 12, 3) := by decide +kernel
theorem dX11_copy_33 : decode cX11_copy 33 = .ok (.iload_n 3, 1) := by decide +kernel
theorem dX11_copy_34 : decode cX11_copy 34 = .ok (.invokevirtual 99, 3) := by decide +kernel
theorem dX11_copy_37 : decode cX11_copy 37 = .ok (.ifCond .eq 9, 3) := by decide +kernel
theorem dX11_copy_40 : decode cX11_copy 40 = .ok (.aload_n 0, 1) := by decide +kernel
theorem dX11_copy_41 : decode cX11_copy 41 = .ok (.iconst 1, 1) := by decide +kernel
theorem dX11_copy_42 : decode cX11_copy 42 = .ok (.invokevirtual 87, 3) := by decide +kernel
theorem dX11_copy_45 : decode cX11_copy 45 = .ok (.lreturn, 1) := by decide +kernel
theorem dX11_copy_46 : decode cX11_copy 46 = .ok (.aload_n 0, 1) := by decide +kernel
theorem dX11_copy_47 : decode cX11_copy 47 = .ok (.getfield 12, 3) := by decide +kernel
theorem dX11_copy_50 : decode cX11_copy 50 = .ok (.iload_n 1, 1) := by decide +kernel
theorem dX11_copy_51 : decode cX11_copy 51 = .ok (.invokevirtual 109, 3) := by decide +kernel
theorem dX11_copy_54 : decode cX11_copy 54 = .ok (.aload_n 0, 1) := by decide +kernel
theorem dX11_copy_55 : decode cX11_copy 55 = .ok (.getfield 12, 3) := by decide +kernel
theorem dX11_copy_58 : decode cX11_copy 58 = .ok (.iload_n 3, 1) := by decide +kernel
theorem dX11_copy_59 : decode cX11_copy 59 = .ok (.invokevirtual 109, 3) := by decide +kernel
theorem dX11_copy_62 : decode cX11_copy 62 = .ok (.if_icmp .eq 9, 3) := by decide +kernel
theorem dX11_copy_65 : decode cX11_copy 65 = .ok (.aload_n 0, 1) := by decide +kernel
theorem dX11_copy_66 : decode cX11_copy 66 = .ok (.iconst 5, 1) := by decide +kernel
theorem dX11_copy_67 : decode cX11_copy 67 = .ok (.invokevirtual 87, 3) := by decide +kernel
theorem dX11_copy_70 : decode cX11_copy 70 = .ok (.lreturn, 1) := by decide +kernel
theorem dX11_copy_71 : decode cX11_copy 71 = .ok (.aload_n 0, 1) := by decide +kernel
theorem dX11_copy_72 : decode cX11_copy 72 = .ok (.getfield 12, 3) := by decide +kernel
theorem dX11_copy_75 : decode cX11_copy 75 = .ok (.iload_n 1, 1) := by decide +kernel
theorem dX11_copy_76 : decode cX11_copy 76 = .ok (.iload_n 2, 1) := by decide +kernel
theorem dX11_copy_77 : decode cX11_copy 77 = .ok (.iload 5, 2) := by decide +kernel
theorem dX11_copy_79 : decode cX11_copy 79 = .ok (.invokevirtual 102, 3) := by decide +kernel
theorem dX11_copy_82 : decode cX11_copy 82 = .ok (.ifCond .eq 18, 3) := by decide +kernel
theorem dX11_copy_85 : decode cX11_copy 85 = .ok (.aload_n 0, 1) := by decide +kernel
theorem dX11_copy_86 : decode cX11_copy 86 = .ok (.getfield 12, 3) := by decide +kernel
theorem dX11_copy_89 : decode cX11_copy 89 = .ok (.iload_n 3, 1) := by decide +kernel
theorem dX11_copy_90 : decode cX11_copy 90 = .ok (.iload 4, 2) := by decide +kernel
theorem dX11_copy_92 : decode cX11_copy 92 = .ok (.iload 5, 2) := by decide +kernel
theorem dX11_copy_94 : decode cX11_copy 94 = .ok (.invokevirtual 102, 3) := by decide +kernel
theorem dX11_copy_97 : decode cX11_copy 97 = .ok (.ifCond .ne 9, 3) := by decide +kernel
theorem dX11_copy_100 : decode cX11_copy 100 = .ok (.aload_n 0, 1) := by decide +kernel
theorem dX11_copy_101 : decode cX11_copy 101 = .ok (.iconst 2, 1) := by decide +kernel
theorem dX11_copy_102 : decode cX11_copy 102 = .ok (.invokevirtual 87, 3) := by decide +kernel
theorem dX11_copy_105 : decode cX11_copy 105 = .ok (.lreturn, 1) := by decide +kernel
theorem dX11_copy_106 : decode cX11_copy 106 = .ok (.aload_n 0, 1) := by decide +kernel
theorem dX11_copy_107 : decode cX11_copy 107 = .ok (.getfield 12, 3) := by decide +kernel
theorem dX11_copy_110 : decode cX11_copy 110 = .ok (.iload_n 1, 1) := by decide +kernel
theorem dX11_copy_111 : decode cX11_copy 111 = .ok (.iload_n 2, 1) := by decide +kernel
theorem dX11_copy_112 : decode cX11_copy 112 = .ok (.iload_n 3, 1) := by decide +kernel
theorem dX11_copy_113 : decode cX11_copy 113 = .ok (.iload 4, 2) := by decide +kernel
theorem dX11_copy_115 : decode cX11_copy 115 = .ok (.iload 5, 2) := by decide +kernel
theorem dX11_copy_117 : decode cX11_copy 117 = .ok (.invokevirtual 113, 3) := by decide +kernel
theorem dX11_copy_120 : decode cX11_copy 120 = .ok (.aload_n 0, 1) := by decide +kernel
theorem dX11_copy_121 : decode cX11_copy 121 = .ok (.iload 5, 2) := by decide +kernel
theorem dX11_copy_123 : decode cX11_copy 123 = .ok (.i2l, 1) := by decide +kernel
theorem dX11_copy_124 : decode cX11_copy 124 = .ok (.invokevirtual 95, 3) := by decide +kernel
theorem dX11_copy_127 : decode cX11_copy 127 = .ok (.lreturn, 1) := by decide +kernel
theorem dX11_drop_0 : decode cX11_drop 0 = .ok (.iload_n 1, 1) := by decide +kernel
theorem dX11_drop_1 : decode cX11_drop 1 = .ok (.invokestatic 77, 3) := by decide +kernel
theorem dX11_drop_4 : decode cX11_drop 4 = .ok (.ifCond .ne 7, 3) := by decide +kernel
theorem dX11_drop_7 : decode cX11_drop 7 = .ok (.ldc2_w 85, 3) := by decide +kernel
theorem dX11_drop_10 : decode cX11_drop 10 = .ok (.lreturn, 1) := by decide +kernel
theorem dX11_drop_11 : decode cX11_drop 11 = .ok (.aload_n 0, 1) := by decide +kernel
theorem dX11_drop_12 : decode cX11_drop 12 = .ok (.getfield 12, 3) := by decide +kernel
theorem dX11_drop_15 : decode cX11_drop 15 = .ok (.iload_n 1, 1) := by decide +kernel
theorem dX11_drop_16 : decode cX11_drop 16 = .ok (.invokevirtual 99, 3) := by decide +kernel
theorem dX11_drop_19 : decode cX11_drop 19 = .ok (.ifCond .eq 9, 3) := by decide +kernel
theorem dX11_drop_22 : decode cX11_drop 22 = .ok (.aload_n 0, 1) := by decide +kernel
theorem dX11_drop_23 : decode cX11_drop 23 = .ok (.iconst 1, 1) := by decide +kernel
theorem dX11_drop_24 : decode cX11_drop 24 = .ok (.invokevirtual 87, 3) := by decide +kernel
theorem dX11_drop_27 : decode cX11_drop 27 = .ok (.lreturn, 1) := by decide +kernel
theorem dX11_drop_28 : decode cX11_drop 28 = .ok (.aload_n 0, 1) := by decide +kernel
theorem dX11_drop_29 : decode cX11_drop 29 = .ok (.aload_n 0, 1) := by decide +kernel
theorem dX11_drop_30 : decode cX11_drop 30 = .ok (.getfield 12, 3) := by decide +kernel
theorem dX11_drop_33 : decode cX11_drop 33 = .ok (.iload_n 1, 1) := by decide +kernel
theorem dX11_drop_34 : decode cX11_drop 34 = .ok (.invokevirtual 117, 3) := by decide +kernel
theorem dX11_drop_37 : decode cX11_drop 37 = .ok (.i2l, 1) := by decide +kernel
theorem dX11_drop_38 : decode cX11_drop 38 = .ok (.invokevirtual 95, 3) := by decide +kernel
theorem dX11_drop_41 : decode cX11_drop 41 = .ok (.lreturn, 1) := by decide +kernel
theorem dX11_feed_0 : decode cX11_feed 0 = .ok (.iload_n 3, 1) := by decide +kernel
theorem dX11_feed_1 : decode cX11_feed 1 = .ok (.iconst 1, 1) := by decide +kernel
theorem dX11_feed_2 : decode cX11_feed 2 = .ok (.bipush 8, 2) := by decide +kernel
theorem dX11_feed_4 : decode cX11_feed 4 = .ok (.invokestatic 81, 3) := by decide +kernel
theorem dX11_feed_7 : decode cX11_feed 7 = .ok (.ifCond .ne 7, 3) := by decide +kernel
theorem dX11_feed_10 : decode cX11_feed 10 = .ok (.ldc2_w 85, 3) := by decide +kernel
theorem dX11_feed_13 : decode cX11_feed 13 = .ok (.lreturn, 1) := by decide +kernel
theorem dX11_feed_14 : decode cX11_feed 14 = .ok (.aload_n 0, 1) := by decide +kernel
theorem dX11_feed_15 : decode cX11_feed 15 = .ok (.getfield 19, 3) := by decide +kernel
theorem dX11_feed_18 : decode cX11_feed 18 = .ok (.lload_n 1, 1) := by decide +kernel
theorem dX11_feed_19 : decode cX11_feed 19 = .ok (.iload_n 3, 1) := by decide +kernel
theorem dX11_feed_20 : decode cX11_feed 20 = .ok (.invokevirtual 120, 3) := by decide +kernel
theorem dX11_feed_23 : decode cX11_feed 23 = .ok (.ifCond .eq 14, 3) := by decide +kernel
theorem dX11_feed_26 : decode cX11_feed 26 = .ok (.aload_n 0, 1) := by decide +kernel
theorem dX11_feed_27 : decode cX11_feed 27 = .ok (.getfield 19, 3) := by decide +kernel
theorem dX11_feed_30 : decode cX11_feed 30 = .ok (.invokevirtual 124, 3) := by decide +kernel
theorem dX11_feed_33 : decode cX11_feed 33 = .ok (.i2l, 1) := by decide +kernel
theorem dX11_feed_34 : decode cX11_feed 34 = .ok (.goto 6, 3) := by decide +kernel
theorem dX11_feed_37 : decode cX11_feed 37 = .ok (.ldc2_w 128, 3) := by decide +kernel
theorem dX11_feed_40 : decode cX11_feed 40 = .ok (.lreturn, 1) := by decide +kernel
theorem dX11_way_0 : decode cX11_way 0 = .ok (.aload_n 0, 1) := by decide +kernel
theorem dX11_way_1 : decode cX11_way 1 = .ok (.getfield 19, 3) := by decide +kernel
theorem dX11_way_4 : decode cX11_way 4 = .ok (.invokevirtual 130, 3) := by decide +kernel
theorem dX11_way_7 : decode cX11_way 7 = .ok (.ifCond .ne 16, 3) := by decide +kernel
theorem dX11_way_10 : decode cX11_way 10 = .ok (.ldc2_w 134, 3) := by decide +kernel
theorem dX11_way_13 : decode cX11_way 13 = .ok (.aload_n 0, 1) := by decide +kernel
theorem dX11_way_14 : decode cX11_way 14 = .ok (.getfield 19, 3) := by decide +kernel
theorem dX11_way_17 : decode cX11_way 17 = .ok (.invokevirtual 136, 3) := by decide +kernel
theorem dX11_way_20 : decode cX11_way 20 = .ok (.i2l, 1) := by decide +kernel
theorem dX11_way_21 : decode cX11_way 21 = .ok (.lsub, 1) := by decide +kernel
theorem dX11_way_22 : decode cX11_way 22 = .ok (.lreturn, 1) := by decide +kernel
theorem dX11_way_23 : decode cX11_way 23 = .ok (.aload_n 0, 1) := by decide +kernel
theorem dX11_way_24 : decode cX11_way 24 = .ok (.getfield 26, 3) := by decide +kernel
theorem dX11_way_27 : decode cX11_way 27 = .ok (.aload_n 0, 1) := by decide +kernel
theorem dX11_way_28 : decode cX11_way 28 = .ok (.getfield 19, 3) := by decide +kernel
theorem dX11_way_31 : decode cX11_way 31 = .ok (.invokevirtual 139, 3) := by decide +kernel
theorem dX11_way_34 : decode cX11_way 34 = .ok (.invokevirtual 143, 3) := by decide +kernel
theorem dX11_way_37 : decode cX11_way 37 = .ok (.aload_n 0, 1) := by decide +kernel
theorem dX11_way_38 : decode cX11_way 38 = .ok (.getfield 26, 3) := by decide +kernel
theorem dX11_way_41 : decode cX11_way 41 = .ok (.getfield 147, 3) := by decide +kernel
theorem dX11_way_44 : decode cX11_way 44 = .ok (.iconst 5, 1) := by decide +kernel
theorem dX11_way_45 : decode cX11_way 45 = .ok (.invokevirtual 153, 3) := by decide +kernel
theorem dX11_way_48 : decode cX11_way 48 = .ok (.i2l, 1) := by decide +kernel
theorem dX11_way_49 : decode cX11_way 49 = .ok (.lreturn, 1) := by decide +kernel
theorem dX11_fault_0 : decode cX11_fault 0 = .ok (.aload_n 0, 1) := by decide +kernel
theorem dX11_fault_1 : decode cX11_fault 1 = .ok (.getfield 19, 3) := by decide +kernel
theorem dX11_fault_4 : decode cX11_fault 4 = .ok (.invokevirtual 156, 3) := by decide +kernel
theorem dX11_fault_7 : decode cX11_fault 7 = .ok (.ireturn, 1) := by decide +kernel
theorem dX11_act_0 : decode cX11_act 0 = .ok (.aload_n 0, 1) := by decide +kernel
theorem dX11_act_1 : decode cX11_act 1 = .ok (.iload_n 1, 1) := by decide +kernel
theorem dX11_act_2 : decode cX11_act 2 = .ok (.invokevirtual 159, 3) := by decide +kernel
theorem dX11_act_5 : decode cX11_act 5 = .ok (.ifCond .eq 12, 3) := by decide +kernel
theorem dX11_act_8 : decode cX11_act 8 = .ok (.iload_n 2, 1) := by decide +kernel
theorem dX11_act_9 : decode cX11_act 9 = .ok (.iconst 0, 1) := by decide +kernel
theorem dX11_act_10 : decode cX11_act 10 = .ok (.iconst 3, 1) := by decide +kernel
theorem dX11_act_11 : decode cX11_act 11 = .ok (.invokestatic 81, 3) := by decide +kernel
theorem dX11_act_14 : decode cX11_act 14 = .ok (.ifCond .ne 7, 3) := by decide +kernel
theorem dX11_act_17 : decode cX11_act 17 = .ok (.ldc2_w 85, 3) := by decide +kernel
theorem dX11_act_20 : decode cX11_act 20 = .ok (.lreturn, 1) := by decide +kernel
theorem dX11_act_21 : decode cX11_act 21 = .ok (.aload_n 0, 1) := by decide +kernel
theorem dX11_act_22 : decode cX11_act 22 = .ok (.getfield 26, 3) := by decide +kernel
theorem dX11_act_25 : decode cX11_act 25 = .ok (.getfield 147, 3) := by decide +kernel
theorem dX11_act_28 : decode cX11_act 28 = .ok (.iload_n 1, 1) := by decide +kernel
theorem dX11_act_29 : decode cX11_act 29 = .ok (.iconst 1, 1) := by decide +kernel
theorem dX11_act_30 : decode cX11_act 30 = .ok (.invokevirtual 162, 3) := by decide +kernel
theorem dX11_act_33 : decode cX11_act 33 = .ok (.ifCond .ne 22, 3) := by decide +kernel
theorem dX11_act_36 : decode cX11_act 36 = .ok (.aload_n 0, 1) := by decide +kernel
theorem dX11_act_37 : decode cX11_act 37 = .ok (.getfield 26, 3) := by decide +kernel
theorem dX11_act_40 : decode cX11_act 40 = .ok (.getfield 147, 3) := by decide +kernel
theorem dX11_act_43 : decode cX11_act 43 = .ok (.iload_n 1, 1) := by decide +kernel
theorem dX11_act_44 : decode cX11_act 44 = .ok (.iconst 4, 1) := by decide +kernel
theorem dX11_act_45 : decode cX11_act 45 = .ok (.invokevirtual 162, 3) := by decide +kernel
theorem dX11_act_48 : decode cX11_act 48 = .ok (.ifCond .eq 24, 3) := by decide +kernel
theorem dX11_act_51 : decode cX11_act 51 = .ok (.iload_n 2, 1) := by decide +kernel
theorem dX11_act_52 : decode cX11_act 52 = .ok (.ifCond .ne 20, 3) := by decide +kernel
theorem dX11_act_55 : decode cX11_act 55 = .ok (.aload_n 0, 1) := by decide +kernel
theorem dX11_act_56 : decode cX11_act 56 = .ok (.getfield 26, 3) := by decide +kernel
theorem dX11_act_59 : decode cX11_act 59 = .ok (.getfield 147, 3) := by decide +kernel
theorem dX11_act_62 : decode cX11_act 62 = .ok (.iconst 5, 1) := by decide +kernel
theorem dX11_act_63 : decode cX11_act 63 = .ok (.iload_n 1, 1) := by decide +kernel
theorem dX11_act_64 : decode cX11_act 64 = .ok (.iconst 1, 1) := by decide +kernel
theorem dX11_act_65 : decode cX11_act 65 = .ok (.iload_n 2, 1) := by decide +kernel
theorem dX11_act_66 : decode cX11_act 66 = .ok (.iadd, 1) := by decide +kernel
theorem dX11_act_67 : decode cX11_act 67 = .ok (.invokevirtual 166, 3) := by decide +kernel
theorem dX11_act_70 : decode cX11_act 70 = .ok (.i2l, 1) := by decide +kernel
theorem dX11_act_71 : decode cX11_act 71 = .ok (.lreturn, 1) := by decide +kernel
theorem dX11_act_72 : decode cX11_act 72 = .ok (.ldc2_w 169, 3) := by decide +kernel
theorem dX11_act_75 : decode cX11_act 75 = .ok (.lreturn, 1) := by decide +kernel
theorem dX11_take_0 : decode cX11_take 0 = .ok (.aload_n 0, 1) := by decide +kernel
theorem dX11_take_1 : decode cX11_take 1 = .ok (.getfield 26, 3) := by decide +kernel
theorem dX11_take_4 : decode cX11_take 4 = .ok (.getfield 147, 3) := by decide +kernel
theorem dX11_take_7 : decode cX11_take 7 = .ok (.iconst 0, 1) := by decide +kernel
theorem dX11_take_8 : decode cX11_take 8 = .ok (.iload_n 1, 1) := by decide +kernel
theorem dX11_take_9 : decode cX11_take 9 = .ok (.invokevirtual 171, 3) := by decide +kernel
theorem dX11_take_12 : decode cX11_take 12 = .ok (.ifCond .eq 24, 3) := by decide +kernel
theorem dX11_take_15 : decode cX11_take 15 = .ok (.iload_n 2, 1) := by decide +kernel
theorem dX11_take_16 : decode cX11_take 16 = .ok (.ldc 174, 2) := by decide +kernel
theorem dX11_take_18 : decode cX11_take 18 = .ok (.if_icmp .eq 22, 3) := by decide +kernel
theorem dX11_take_21 : decode cX11_take 21 = .ok (.aload_n 0, 1) := by decide +kernel
theorem dX11_take_22 : decode cX11_take 22 = .ok (.getfield 26, 3) := by decide +kernel
theorem dX11_take_25 : decode cX11_take 25 = .ok (.getfield 147, 3) := by decide +kernel
theorem dX11_take_28 : decode cX11_take 28 = .ok (.iconst 1, 1) := by decide +kernel
theorem dX11_take_29 : decode cX11_take 29 = .ok (.iload_n 2, 1) := by decide +kernel
theorem dX11_take_30 : decode cX11_take 30 = .ok (.invokevirtual 171, 3) := by decide +kernel
theorem dX11_take_33 : decode cX11_take 33 = .ok (.ifCond .ne 7, 3) := by decide +kernel
theorem dX11_take_36 : decode cX11_take 36 = .ok (.ldc2_w 85, 3) := by decide +kernel
theorem dX11_take_39 : decode cX11_take 39 = .ok (.lreturn, 1) := by decide +kernel
theorem dX11_take_40 : decode cX11_take 40 = .ok (.aload_n 0, 1) := by decide +kernel
theorem dX11_take_41 : decode cX11_take 41 = .ok (.getfield 26, 3) := by decide +kernel
theorem dX11_take_44 : decode cX11_take 44 = .ok (.iload_n 1, 1) := by decide +kernel
theorem dX11_take_45 : decode cX11_take 45 = .ok (.iload_n 2, 1) := by decide +kernel
theorem dX11_take_46 : decode cX11_take 46 = .ok (.invokevirtual 175, 3) := by decide +kernel
theorem dX11_take_49 : decode cX11_take 49 = .ok (.lconst 1, 1) := by decide +kernel
theorem dX11_take_50 : decode cX11_take 50 = .ok (.lreturn, 1) := by decide +kernel
theorem dX11_tick_0 : decode cX11_tick 0 = .ok (.iload_n 1, 1) := by decide +kernel
theorem dX11_tick_1 : decode cX11_tick 1 = .ok (.iconst 0, 1) := by decide +kernel
theorem dX11_tick_2 : decode cX11_tick 2 = .ok (.iconst 1, 1) := by decide +kernel
theorem dX11_tick_3 : decode cX11_tick 3 = .ok (.invokestatic 81, 3) := by decide +kernel
theorem dX11_tick_6 : decode cX11_tick 6 = .ok (.ifCond .eq 33, 3) := by decide +kernel
theorem dX11_tick_9 : decode cX11_tick 9 = .ok (.iload_n 2, 1) := by decide +kernel
theorem dX11_tick_10 : decode cX11_tick 10 = .ok (.iconst 0, 1) := by decide +kernel
theorem dX11_tick_11 : decode cX11_tick 11 = .ok (.iconst 4, 1) := by decide +kernel
theorem dX11_tick_12 : decode cX11_tick 12 = .ok (.invokestatic 81, 3) := by decide +kernel
theorem dX11_tick_15 : decode cX11_tick 15 = .ok (.ifCond .eq 24, 3) := by decide +kernel
theorem dX11_tick_18 : decode cX11_tick 18 = .ok (.iload_n 3, 1) := by decide +kernel
theorem dX11_tick_19 : decode cX11_tick 19 = .ok (.iconst 0, 1) := by decide +kernel
theorem dX11_tick_20 : decode cX11_tick 20 = .ok (.bipush 9, 2) := by decide +kernel
theorem dX11_tick_22 : decode cX11_tick 22 = .ok (.invokestatic 81, 3) := by decide +kernel
theorem dX11_tick_25 : decode cX11_tick 25 = .ok (.ifCond .eq 14, 3) := by decide +kernel
theorem dX11_tick_28 : decode cX11_tick 28 = .ok (.iload 4, 2) := by decide +kernel
theorem dX11_tick_30 : decode cX11_tick 30 = .ok (.iconst 0, 1) := by decide +kernel
theorem dX11_tick_31 : decode cX11_tick 31 = .ok (.bipush 15, 2) := by decide +kernel
theorem dX11_tick_33 : decode cX11_tick 33 = .ok (.invokestatic 81, 3) := by decide +kernel
theorem dX11_tick_36 : decode cX11_tick 36 = .ok (.ifCond .ne 7, 3) := by decide +kernel
theorem dX11_tick_39 : decode cX11_tick 39 = .ok (.ldc2_w 85, 3) := by decide +kernel
theorem dX11_tick_42 : decode cX11_tick 42 = .ok (.lreturn, 1) := by decide +kernel
theorem dX11_tick_43 : decode cX11_tick 43 = .ok (.aload_n 0, 1) := by decide +kernel
theorem dX11_tick_44 : decode cX11_tick 44 = .ok (.getfield 26, 3) := by decide +kernel
theorem dX11_tick_47 : decode cX11_tick 47 = .ok (.getfield 179, 3) := by decide +kernel
theorem dX11_tick_50 : decode cX11_tick 50 = .ok (.ifCond .eq 16, 3) := by decide +kernel
theorem dX11_tick_53 : decode cX11_tick 53 = .ok (.aload_n 0, 1) := by decide +kernel
theorem dX11_tick_54 : decode cX11_tick 54 = .ok (.getfield 26, 3) := by decide +kernel
theorem dX11_tick_57 : decode cX11_tick 57 = .ok (.getfield 183, 3) := by decide +kernel
theorem dX11_tick_60 : decode cX11_tick 60 = .ok (.invokevirtual 187, 3) := by decide +kernel
theorem dX11_tick_63 : decode cX11_tick 63 = .ok (.ifCond .eq 7, 3) := by decide +kernel
theorem dX11_tick_66 : decode cX11_tick 66 = .ok (.ldc2_w 192, 3) := by decide +kernel
theorem dX11_tick_69 : decode cX11_tick 69 = .ok (.lreturn, 1) := by decide +kernel
theorem dX11_tick_70 : decode cX11_tick 70 = .ok (.aload_n 0, 1) := by decide +kernel
theorem dX11_tick_71 : decode cX11_tick 71 = .ok (.getfield 26, 3) := by decide +kernel
theorem dX11_tick_74 : decode cX11_tick 74 = .ok (.getfield 183, 3) := by decide +kernel
theorem dX11_tick_77 : decode cX11_tick 77 = .ok (.aload_n 0, 1) := by decide +kernel
theorem dX11_tick_78 : decode cX11_tick 78 = .ok (.getfield 26, 3) := by decide +kernel
theorem dX11_tick_81 : decode cX11_tick 81 = .ok (.iload_n 1, 1) := by decide +kernel
theorem dX11_tick_82 : decode cX11_tick 82 = .ok (.iconst 1, 1) := by decide +kernel
theorem dX11_tick_83 : decode cX11_tick 83 = .ok (.if_icmp .ne 7, 3) := by decide +kernel
theorem dX11_tick_86 : decode cX11_tick 86 = .ok (.iconst 1, 1) := by decide +kernel
theorem dX11_tick_87 : decode cX11_tick 87 = .ok (.goto 4, 3) := by decide +kernel
theorem dX11_tick_90 : decode cX11_tick 90 = .ok (.iconst 0, 1) := by decide +kernel
theorem dX11_tick_91 : decode cX11_tick 91 = .ok (.iload_n 2, 1) := by decide +kernel
theorem dX11_tick_92 : decode cX11_tick 92 = .ok (.iload_n 3, 1) := by decide +kernel
theorem dX11_tick_93 : decode cX11_tick 93 = .ok (.iload 4, 2) := by decide +kernel
theorem dX11_tick_95 : decode cX11_tick 95 = .ok (.invokevirtual 194, 3) := by decide +kernel
theorem dX11_tick_98 : decode cX11_tick 98 = .ok (.aload_n 0, 1) := by decide +kernel
theorem dX11_tick_99 : decode cX11_tick 99 = .ok (.getfield 26, 3) := by decide +kernel
theorem dX11_tick_102 : decode cX11_tick 102 = .ok (.getfield 183, 3) := by decide +kernel
theorem dX11_tick_105 : decode cX11_tick 105 = .ok (.getfield 198, 3) := by decide +kernel
theorem dX11_tick_108 : decode cX11_tick 108 = .ok (.i2l, 1) := by decide +kernel
theorem dX11_tick_109 : decode cX11_tick 109 = .ok (.lreturn, 1) := by decide +kernel
theorem dX11_hurl_0 : decode cX11_hurl 0 = .ok (.aload_n 0, 1) := by decide +kernel
theorem dX11_hurl_1 : decode cX11_hurl 1 = .ok (.iload_n 1, 1) := by decide +kernel
theorem dX11_hurl_2 : decode cX11_hurl 2 = .ok (.iload_n 2, 1) := by decide +kernel
theorem dX11_hurl_3 : decode cX11_hurl 3 = .ok (.invokevirtual 201, 3) := by decide +kernel
theorem dX11_hurl_6 : decode cX11_hurl 6 = .ok (.ifCond .ne 7, 3) := by decide +kernel
theorem dX11_hurl_9 : decode cX11_hurl 9 = .ok (.ldc2_w 85, 3) := by decide +kernel
theorem dX11_hurl_12 : decode cX11_hurl 12 = .ok (.lreturn, 1) := by decide +kernel
theorem dX11_hurl_13 : decode cX11_hurl 13 = .ok (.aload_n 0, 1) := by decide +kernel
theorem dX11_hurl_14 : decode cX11_hurl 14 = .ok (.getfield 37, 3) := by decide +kernel
theorem dX11_hurl_17 : decode cX11_hurl 17 = .ok (.aload_n 0, 1) := by decide +kernel
theorem dX11_hurl_18 : decode cX11_hurl 18 = .ok (.getfield 26, 3) := by decide +kernel
theorem dX11_hurl_21 : decode cX11_hurl 21 = .ok (.aload_n 0, 1) := by decide +kernel
theorem dX11_hurl_22 : decode cX11_hurl 22 = .ok (.getfield 26, 3) := by decide +kernel
theorem dX11_hurl_25 : decode cX11_hurl 25 = .ok (.getfield 183, 3) := by decide +kernel
theorem dX11_hurl_28 : decode cX11_hurl 28 = .ok (.iload_n 1, 1) := by decide +kernel
theorem dX11_hurl_29 : decode cX11_hurl 29 = .ok (.iload_n 2, 1) := by decide +kernel
theorem dX11_hurl_30 : decode cX11_hurl 30 = .ok (.invokevirtual 204, 3) := by decide +kernel
theorem dX11_hurl_33 : decode cX11_hurl 33 = .ok (.aload_n 0, 1) := by decide +kernel
theorem dX11_hurl_34 : decode cX11_hurl 34 = .ok (.getfield 26, 3) := by decide +kernel
theorem dX11_hurl_37 : decode cX11_hurl 37 = .ok (.getfield 183, 3) := by decide +kernel
theorem dX11_hurl_40 : decode cX11_hurl 40 = .ok (.invokevirtual 208, 3) := by decide +kernel
theorem dX11_hurl_43 : decode cX11_hurl 43 = .ok (.aload_n 0, 1) := by decide +kernel
theorem dX11_hurl_44 : decode cX11_hurl 44 = .ok (.getfield 37, 3) := by decide +kernel
theorem dX11_hurl_47 : decode cX11_hurl 47 = .ok (.getfield 211, 3) := by decide +kernel
theorem dX11_hurl_50 : decode cX11_hurl 50 = .ok (.ifCond .le 14, 3) := by decide +kernel
theorem dX11_hurl_53 : decode cX11_hurl 53 = .ok (.aload_n 0, 1) := by decide +kernel
theorem dX11_hurl_54 : decode cX11_hurl 54 = .ok (.getfield 37, 3) := by decide +kernel
theorem dX11_hurl_57 : decode cX11_hurl 57 = .ok (.getfield 211, 3) := by decide +kernel
theorem dX11_hurl_60 : decode cX11_hurl 60 = .ok (.i2l, 1) := by decide +kernel
theorem dX11_hurl_61 : decode cX11_hurl 61 = .ok (.goto 14, 3) := by decide +kernel
theorem dX11_hurl_64 : decode cX11_hurl 64 = .ok (.aload_n 0, 1) := by decide +kernel
theorem dX11_hurl_65 : decode cX11_hurl 65 = .ok (.getfield 37, 3) := by decide +kernel
theorem dX11_hurl_68 : decode cX11_hurl 68 = .ok (.getfield 214, 3) := by decide +kernel
theorem dX11_hurl_71 : decode cX11_hurl 71 = .ok (.ineg, 1) := by decide +kernel
theorem dX11_hurl_72 : decode cX11_hurl 72 = .ok (.iconst 1, 1) := by decide +kernel
theorem dX11_hurl_73 : decode cX11_hurl 73 = .ok (.isub, 1) := by decide +kernel
theorem dX11_hurl_74 : decode cX11_hurl 74 = .ok (.i2l, 1) := by decide +kernel
theorem dX11_hurl_75 : decode cX11_hurl 75 = .ok (.lreturn, 1) := by decide +kernel
theorem dX11_close_0 : decode cX11_close 0 = .ok (.aload_n 0, 1) := by decide +kernel
theorem dX11_close_1 : decode cX11_close 1 = .ok (.getfield 26, 3) := by decide +kernel
theorem dX11_close_4 : decode cX11_close 4 = .ok (.getfield 179, 3) := by decide +kernel
theorem dX11_close_7 : decode cX11_close 7 = .ok (.ifCond .ne 7, 3) := by decide +kernel
theorem dX11_close_10 : decode cX11_close 10 = .ok (.ldc2_w 192, 3) := by decide +kernel
theorem dX11_close_13 : decode cX11_close 13 = .ok (.lreturn, 1) := by decide +kernel
theorem dX11_close_14 : decode cX11_close 14 = .ok (.aload_n 0, 1) := by decide +kernel
theorem dX11_close_15 : decode cX11_close 15 = .ok (.getfield 26, 3) := by decide +kernel
theorem dX11_close_18 : decode cX11_close 18 = .ok (.getfield 183, 3) := by decide +kernel
theorem dX11_close_21 : decode cX11_close 21 = .ok (.invokevirtual 217, 3) := by decide +kernel
theorem dX11_close_24 : decode cX11_close 24 = .ok (.aload_n 0, 1) := by decide +kernel
theorem dX11_close_25 : decode cX11_close 25 = .ok (.getfield 26, 3) := by decide +kernel
theorem dX11_close_28 : decode cX11_close 28 = .ok (.getfield 183, 3) := by decide +kernel
theorem dX11_close_31 : decode cX11_close 31 = .ok (.getfield 220, 3) := by decide +kernel
theorem dX11_close_34 : decode cX11_close 34 = .ok (.i2l, 1) := by decide +kernel
theorem dX11_close_35 : decode cX11_close 35 = .ok (.lreturn, 1) := by decide +kernel
theorem dX11_now_0 : decode cX11_now 0 = .ok (.iload_n 1, 1) := by decide +kernel
theorem dX11_now_1 : decode cX11_now 1 = .ok (.iconst 0, 1) := by decide +kernel
theorem dX11_now_2 : decode cX11_now 2 = .ok (.bipush 6, 2) := by decide +kernel
theorem dX11_now_4 : decode cX11_now 4 = .ok (.invokestatic 81, 3) := by decide +kernel
theorem dX11_now_7 : decode cX11_now 7 = .ok (.ifCond .ne 7, 3) := by decide +kernel
theorem dX11_now_10 : decode cX11_now 10 = .ok (.ldc2_w 85, 3) := by decide +kernel
theorem dX11_now_13 : decode cX11_now 13 = .ok (.lreturn, 1) := by decide +kernel
theorem dX11_now_14 : decode cX11_now 14 = .ok (.aload_n 0, 1) := by decide +kernel
theorem dX11_now_15 : decode cX11_now 15 = .ok (.getfield 26, 3) := by decide +kernel
theorem dX11_now_18 : decode cX11_now 18 = .ok (.getfield 179, 3) := by decide +kernel
theorem dX11_now_21 : decode cX11_now 21 = .ok (.ifCond .ne 7, 3) := by decide +kernel
theorem dX11_now_24 : decode cX11_now 24 = .ok (.ldc2_w 192, 3) := by decide +kernel
theorem dX11_now_27 : decode cX11_now 27 = .ok (.lreturn, 1) := by decide +kernel
theorem dX11_now_28 : decode cX11_now 28 = .ok (.iload_n 1, 1) := by decide +kernel
theorem dX11_now_29 : decode cX11_now 29 = .ok (.bipush 6, 2) := by decide +kernel
theorem dX11_now_31 : decode cX11_now 31 = .ok (.if_icmp .ne 17, 3) := by decide +kernel
theorem dX11_now_34 : decode cX11_now 34 = .ok (.aload_n 0, 1) := by decide +kernel
theorem dX11_now_35 : decode cX11_now 35 = .ok (.getfield 26, 3) := by decide +kernel
theorem dX11_now_38 : decode cX11_now 38 = .ok (.getfield 183, 3) := by decide +kernel
theorem dX11_now_41 : decode cX11_now 41 = .ok (.getfield 198, 3) := by decide +kernel
theorem dX11_now_44 : decode cX11_now 44 = .ok (.i2l, 1) := by decide +kernel
theorem dX11_now_45 : decode cX11_now 45 = .ok (.goto 15, 3) := by decide +kernel
theorem dX11_now_48 : decode cX11_now 48 = .ok (.aload_n 0, 1) := by decide +kernel
theorem dX11_now_49 : decode cX11_now 49 = .ok (.getfield 26, 3) := by decide +kernel
theorem dX11_now_52 : decode cX11_now 52 = .ok (.getfield 183, 3) := by decide +kernel
theorem dX11_now_55 : decode cX11_now 55 = .ok (.iload_n 1, 1) := by decide +kernel
theorem dX11_now_56 : decode cX11_now 56 = .ok (.invokevirtual 223, 3) := by decide +kernel
theorem dX11_now_59 : decode cX11_now 59 = .ok (.i2l, 1) := by decide +kernel
theorem dX11_now_60 : decode cX11_now 60 = .ok (.lreturn, 1) := by decide +kernel
theorem dX11_piece_0 : decode cX11_piece 0 = .ok (.aload_n 0, 1) := by decide +kernel
theorem dX11_piece_1 : decode cX11_piece 1 = .ok (.getfield 26, 3) := by decide +kernel
theorem dX11_piece_4 : decode cX11_piece 4 = .ok (.getfield 179, 3) := by decide +kernel
theorem dX11_piece_7 : decode cX11_piece 7 = .ok (.ifCond .ne 7, 3) := by decide +kernel
theorem dX11_piece_10 : decode cX11_piece 10 = .ok (.ldc2_w 192, 3) := by decide +kernel
theorem dX11_piece_13 : decode cX11_piece 13 = .ok (.lreturn, 1) := by decide +kernel
theorem dX11_piece_14 : decode cX11_piece 14 = .ok (.iload_n 1, 1) := by decide +kernel
theorem dX11_piece_15 : decode cX11_piece 15 = .ok (.ifCond .lt 14, 3) := by decide +kernel
theorem dX11_piece_18 : decode cX11_piece 18 = .ok (.iload_n 1, 1) := by decide +kernel
theorem dX11_piece_19 : decode cX11_piece 19 = .ok (.aload_n 0, 1) := by decide +kernel
theorem dX11_piece_20 : decode cX11_piece 20 = .ok (.getfield 26, 3) := by decide +kernel
theorem dX11_piece_23 : decode cX11_piece 23 = .ok (.invokevirtual 226, 3) := by decide +kernel
theorem dX11_piece_26 : decode cX11_piece 26 = .ok (.if_icmp .lt 7, 3) := by decide +kernel
theorem dX11_piece_29 : decode cX11_piece 29 = .ok (.ldc2_w 85, 3) := by decide +kernel
theorem dX11_piece_32 : decode cX11_piece 32 = .ok (.lreturn, 1) := by decide +kernel
theorem dX11_piece_33 : decode cX11_piece 33 = .ok (.aload_n 0, 1) := by decide +kernel
theorem dX11_piece_34 : decode cX11_piece 34 = .ok (.getfield 26, 3) := by decide +kernel
theorem dX11_piece_37 : decode cX11_piece 37 = .ok (.getfield 183, 3) := by decide +kernel
theorem dX11_piece_40 : decode cX11_piece 40 = .ok (.iload_n 1, 1) := by decide +kernel
theorem dX11_piece_41 : decode cX11_piece 41 = .ok (.invokevirtual 229, 3) := by decide +kernel
theorem dX11_piece_44 : decode cX11_piece 44 = .ok (.i2l, 1) := by decide +kernel
theorem dX11_piece_45 : decode cX11_piece 45 = .ok (.lreturn, 1) := by decide +kernel
theorem dX11_odds_0 : decode cX11_odds 0 = .ok (.aload_n 0, 1) := by decide +kernel
theorem dX11_odds_1 : decode cX11_odds 1 = .ok (.iload_n 1, 1) := by decide +kernel
theorem dX11_odds_2 : decode cX11_odds 2 = .ok (.iload_n 2, 1) := by decide +kernel
theorem dX11_odds_3 : decode cX11_odds 3 = .ok (.invokevirtual 201, 3) := by decide +kernel
theorem dX11_odds_6 : decode cX11_odds 6 = .ok (.ifCond .eq 12, 3) := by decide +kernel
theorem dX11_odds_9 : decode cX11_odds 9 = .ok (.iload_n 3, 1) := by decide +kernel
theorem dX11_odds_10 : decode cX11_odds 10 = .ok (.iconst 0, 1) := by decide +kernel
theorem dX11_odds_11 : decode cX11_odds 11 = .ok (.iconst 1, 1) := by decide +kernel
theorem dX11_odds_12 : decode cX11_odds 12 = .ok (.invokestatic 81, 3) := by decide +kernel
theorem dX11_odds_15 : decode cX11_odds 15 = .ok (.ifCond .ne 7, 3) := by decide +kernel
theorem dX11_odds_18 : decode cX11_odds 18 = .ok (.ldc2_w 85, 3) := by decide +kernel
theorem dX11_odds_21 : decode cX11_odds 21 = .ok (.lreturn, 1) := by decide +kernel
theorem dX11_odds_22 : decode cX11_odds 22 = .ok (.aload_n 0, 1) := by decide +kernel
theorem dX11_odds_23 : decode cX11_odds 23 = .ok (.getfield 37, 3) := by decide +kernel
theorem dX11_odds_26 : decode cX11_odds 26 = .ok (.aload_n 0, 1) := by decide +kernel
theorem dX11_odds_27 : decode cX11_odds 27 = .ok (.getfield 26, 3) := by decide +kernel
theorem dX11_odds_30 : decode cX11_odds 30 = .ok (.aload_n 0, 1) := by decide +kernel
theorem dX11_odds_31 : decode cX11_odds 31 = .ok (.getfield 26, 3) := by decide +kernel
theorem dX11_odds_34 : decode cX11_odds 34 = .ok (.getfield 183, 3) := by decide +kernel
theorem dX11_odds_37 : decode cX11_odds 37 = .ok (.iload_n 1, 1) := by decide +kernel
theorem dX11_odds_38 : decode cX11_odds 38 = .ok (.iload_n 2, 1) := by decide +kernel
theorem dX11_odds_39 : decode cX11_odds 39 = .ok (.invokevirtual 204, 3) := by decide +kernel
theorem dX11_odds_42 : decode cX11_odds 42 = .ok (.aload_n 0, 1) := by decide +kernel
theorem dX11_odds_43 : decode cX11_odds 43 = .ok (.getfield 37, 3) := by decide +kernel
theorem dX11_odds_46 : decode cX11_odds 46 = .ok (.getfield 232, 3) := by decide +kernel
theorem dX11_odds_49 : decode cX11_odds 49 = .ok (.i2l, 1) := by decide +kernel
theorem dX11_odds_50 : decode cX11_odds 50 = .ok (.aload_n 0, 1) := by decide +kernel
theorem dX11_odds_51 : decode cX11_odds 51 = .ok (.getfield 37, 3) := by decide +kernel
theorem dX11_odds_54 : decode cX11_odds 54 = .ok (.getfield 235, 3) := by decide +kernel
theorem dX11_odds_57 : decode cX11_odds 57 = .ok (.i2l, 1) := by decide +kernel
theorem dX11_odds_58 : decode cX11_odds 58 = .ok (.iload_n 3, 1) := by decide +kernel
theorem dX11_odds_59 : decode cX11_odds 59 = .ok (.invokestatic 238, 3) := by decide +kernel
theorem dX11_odds_62 : decode cX11_odds 62 = .ok (.lreturn, 1) := by decide +kernel
theorem dX11_need_0 : decode cX11_need 0 = .ok (.iload_n 1, 1) := by decide +kernel
theorem dX11_need_1 : decode cX11_need 1 = .ok (.iconst 0, 1) := by decide +kernel
theorem dX11_need_2 : decode cX11_need 2 = .ok (.sipush 200, 3) := by decide +kernel
theorem dX11_need_5 : decode cX11_need 5 = .ok (.invokestatic 81, 3) := by decide +kernel
theorem dX11_need_8 : decode cX11_need 8 = .ok (.ifCond .ne 7, 3) := by decide +kernel
theorem dX11_need_11 : decode cX11_need 11 = .ok (.ldc2_w 85, 3) := by decide +kernel
theorem dX11_need_14 : decode cX11_need 14 = .ok (.lreturn, 1) := by decide +kernel
theorem dX11_need_15 : decode cX11_need 15 = .ok (.aload_n 0, 1) := by decide +kernel
theorem dX11_need_16 : decode cX11_need 16 = .ok (.getfield 26, 3) := by decide +kernel
theorem dX11_need_19 : decode cX11_need 19 = .ok (.getfield 179, 3) := by decide +kernel
theorem dX11_need_22 : decode cX11_need 22 = .ok (.ifCond .eq 15, 3) := by decide +kernel
theorem dX11_need_25 : decode cX11_need 25 = .ok (.aload_n 0, 1) := by decide +kernel
theorem dX11_need_26 : decode cX11_need 26 = .ok (.getfield 26, 3) := by decide +kernel
theorem dX11_need_29 : decode cX11_need 29 = .ok (.iload_n 1, 1) := by decide +kernel
theorem dX11_need_30 : decode cX11_need 30 = .ok (.invokevirtual 242, 3) := by decide +kernel
theorem dX11_need_33 : decode cX11_need 33 = .ok (.i2l, 1) := by decide +kernel
theorem dX11_need_34 : decode cX11_need 34 = .ok (.goto 6, 3) := by decide +kernel
theorem dX11_need_37 : decode cX11_need 37 = .ok (.ldc2_w 192, 3) := by decide +kernel
theorem dX11_need_40 : decode cX11_need 40 = .ok (.lreturn, 1) := by decide +kernel
theorem dX11_greatest_0 : decode cX11_greatest 0 = .ok (.iload_n 1, 1) := by decide +kernel
theorem dX11_greatest_1 : decode cX11_greatest 1 = .ok (.iconst 0, 1) := by decide +kernel
theorem dX11_greatest_2 : decode cX11_greatest 2 = .ok (.bipush 15, 2) := by decide +kernel
theorem dX11_greatest_4 : decode cX11_greatest 4 = .ok (.invokestatic 81, 3) := by decide +kernel
theorem dX11_greatest_7 : decode cX11_greatest 7 = .ok (.ifCond .ne 7, 3) := by decide +kernel
theorem dX11_greatest_10 : decode cX11_greatest 10 = .ok (.ldc2_w 85, 3) := by decide +kernel
theorem dX11_greatest_13 : decode cX11_greatest 13 = .ok (.lreturn, 1) := by decide +kernel
theorem dX11_greatest_14 : decode cX11_greatest 14 = .ok (.aload_n 0, 1) := by decide +kernel
theorem dX11_greatest_15 : decode cX11_greatest 15 = .ok (.getfield 26, 3) := by decide +kernel
theorem dX11_greatest_18 : decode cX11_greatest 18 = .ok (.getfield 179, 3) := by decide +kernel
theorem dX11_greatest_21 : decode cX11_greatest 21 = .ok (.ifCond .eq 15, 3) := by decide +kernel
theorem dX11_greatest_24 : decode cX11_greatest 24 = .ok (.aload_n 0, 1) := by decide +kernel
theorem dX11_greatest_25 : decode cX11_greatest 25 = .ok (.getfield 26, 3) := by decide +kernel
theorem dX11_greatest_28 : decode cX11_greatest 28 = .ok (.iload_n 1, 1) := by decide +kernel
theorem dX11_greatest_29 : decode cX11_greatest 29 = .ok (.invokevirtual 245, 3) := by decide +kernel
theorem dX11_greatest_32 : decode cX11_greatest 32 = .ok (.i2l, 1) := by decide +kernel
theorem dX11_greatest_33 : decode cX11_greatest 33 = .ok (.goto 6, 3) := by decide +kernel
theorem dX11_greatest_36 : decode cX11_greatest 36 = .ok (.ldc2_w 192, 3) := by decide +kernel
theorem dX11_greatest_39 : decode cX11_greatest 39 = .ok (.lreturn, 1) := by decide +kernel
theorem dX11_out_0 : decode cX11_out 0 = .ok (.iload_n 1, 1) := by decide +kernel
theorem dX11_out_1 : decode cX11_out 1 = .ok (.iconst 0, 1) := by decide +kernel
theorem dX11_out_2 : decode cX11_out 2 = .ok (.bipush 15, 2) := by decide +kernel
theorem dX11_out_4 : decode cX11_out 4 = .ok (.invokestatic 81, 3) := by decide +kernel
theorem dX11_out_7 : decode cX11_out 7 = .ok (.ifCond .eq 13, 3) := by decide +kernel
theorem dX11_out_10 : decode cX11_out 10 = .ok (.iload_n 2, 1) := by decide +kernel
theorem dX11_out_11 : decode cX11_out 11 = .ok (.iconst 1, 1) := by decide +kernel
theorem dX11_out_12 : decode cX11_out 12 = .ok (.bipush 40, 2) := by decide +kernel
theorem dX11_out_14 : decode cX11_out 14 = .ok (.invokestatic 81, 3) := by decide +kernel
theorem dX11_out_17 : decode cX11_out 17 = .ok (.ifCond .ne 7, 3) := by decide +kernel
theorem dX11_out_20 : decode cX11_out 20 = .ok (.ldc2_w 85, 3) := by decide +kernel
theorem dX11_out_23 : decode cX11_out 23 = .ok (.lreturn, 1) := by decide +kernel
theorem dX11_out_24 : decode cX11_out 24 = .ok (.aload_n 0, 1) := by decide +kernel
theorem dX11_out_25 : decode cX11_out 25 = .ok (.getfield 26, 3) := by decide +kernel
theorem dX11_out_28 : decode cX11_out 28 = .ok (.getfield 179, 3) := by decide +kernel
theorem dX11_out_31 : decode cX11_out 31 = .ok (.ifCond .eq 16, 3) := by decide +kernel
theorem dX11_out_34 : decode cX11_out 34 = .ok (.aload_n 0, 1) := by decide +kernel
theorem dX11_out_35 : decode cX11_out 35 = .ok (.getfield 26, 3) := by decide +kernel
theorem dX11_out_38 : decode cX11_out 38 = .ok (.iload_n 1, 1) := by decide +kernel
theorem dX11_out_39 : decode cX11_out 39 = .ok (.iload_n 2, 1) := by decide +kernel
theorem dX11_out_40 : decode cX11_out 40 = .ok (.invokevirtual 248, 3) := by decide +kernel
theorem dX11_out_43 : decode cX11_out 43 = .ok (.i2l, 1) := by decide +kernel
theorem dX11_out_44 : decode cX11_out 44 = .ok (.goto 6, 3) := by decide +kernel
theorem dX11_out_47 : decode cX11_out 47 = .ok (.ldc2_w 192, 3) := by decide +kernel
theorem dX11_out_50 : decode cX11_out 50 = .ok (.lreturn, 1) := by decide +kernel
theorem dX11_wraps_0 : decode cX11_wraps 0 = .ok (.iload_n 1, 1) := by decide +kernel
theorem dX11_wraps_1 : decode cX11_wraps 1 = .ok (.iconst 1, 1) := by decide +kernel
theorem dX11_wraps_2 : decode cX11_wraps 2 = .ok (.ldc 252, 2) := by decide +kernel
theorem dX11_wraps_4 : decode cX11_wraps 4 = .ok (.invokestatic 81, 3) := by decide +kernel
theorem dX11_wraps_7 : decode cX11_wraps 7 = .ok (.ifCond .eq 13, 3) := by decide +kernel
theorem dX11_wraps_10 : decode cX11_wraps 10 = .ok (.iload_n 2, 1) := by decide +kernel
theorem dX11_wraps_11 : decode cX11_wraps 11 = .ok (.iconst 1, 1) := by decide +kernel
theorem dX11_wraps_12 : decode cX11_wraps 12 = .ok (.bipush 99, 2) := by decide +kernel
theorem dX11_wraps_14 : decode cX11_wraps 14 = .ok (.invokestatic 81, 3) := by decide +kernel
theorem dX11_wraps_17 : decode cX11_wraps 17 = .ok (.ifCond .ne 7, 3) := by decide +kernel
theorem dX11_wraps_20 : decode cX11_wraps 20 = .ok (.ldc2_w 85, 3) := by decide +kernel
theorem dX11_wraps_23 : decode cX11_wraps 23 = .ok (.lreturn, 1) := by decide +kernel
theorem dX11_wraps_24 : decode cX11_wraps 24 = .ok (.iload_n 2, 1) := by decide +kernel
theorem dX11_wraps_25 : decode cX11_wraps 25 = .ok (.istore_n 3, 1) := by decide +kernel
theorem dX11_wraps_26 : decode cX11_wraps 26 = .ok (.iconst 0, 1) := by decide +kernel
theorem dX11_wraps_27 : decode cX11_wraps 27 = .ok (.istore 4, 2) := by decide +kernel
theorem dX11_wraps_29 : decode cX11_wraps 29 = .ok (.iload 4, 2) := by decide +kernel
theorem dX11_wraps_31 : decode cX11_wraps 31 = .ok (.bipush 9, 2) := by decide +kernel
theorem dX11_wraps_33 : decode cX11_wraps 33 = .ok (.if_icmp .gt 22, 3) := by decide +kernel
theorem dX11_wraps_36 : decode cX11_wraps 36 = .ok (.iload_n 3, 1) := by decide +kernel
theorem dX11_wraps_37 : decode cX11_wraps 37 = .ok (.iload_n 1, 1) := by decide +kernel
theorem dX11_wraps_38 : decode cX11_wraps 38 = .ok (.if_icmp .lt 7, 3) := by decide +kernel
theorem dX11_wraps_41 : decode cX11_wraps 41 = .ok (.iload 4, 2) := by decide +kernel
theorem dX11_wraps_43 : decode cX11_wraps 43 = .ok (.i2l, 1) := by decide +kernel
theorem dX11_wraps_44 : decode cX11_wraps 44 = .ok (.lreturn, 1) := by decide +kernel
theorem dX11_wraps_45 : decode cX11_wraps 45 = .ok (.iload_n 3, 1) := by decide +kernel
theorem dX11_wraps_46 : decode cX11_wraps 46 = .ok (.iconst 3, 1) := by decide +kernel
theorem dX11_wraps_47 : decode cX11_wraps 47 = .ok (.imul, 1) := by decide +kernel
theorem dX11_wraps_48 : decode cX11_wraps 48 = .ok (.istore_n 3, 1) := by decide +kernel
theorem dX11_wraps_49 : decode cX11_wraps 49 = .ok (.iinc 4 1, 3) := by decide +kernel
theorem dX11_wraps_52 : decode cX11_wraps 52 = .ok (.goto (-23), 3) := by decide +kernel
theorem dX11_wraps_55 : decode cX11_wraps 55 = .ok (.ldc2_w 169, 3) := by decide +kernel
theorem dX11_wraps_58 : decode cX11_wraps 58 = .ok (.lreturn, 1) := by decide +kernel
theorem dX11_told_0 : decode cX11_told 0 = .ok (.aload_n 0, 1) := by decide +kernel
theorem dX11_told_1 : decode cX11_told 1 = .ok (.getfield 26, 3) := by decide +kernel
theorem dX11_told_4 : decode cX11_told 4 = .ok (.getfield 179, 3) := by decide +kernel
theorem dX11_told_7 : decode cX11_told 7 = .ok (.ifCond .ne 7, 3) := by decide +kernel
theorem dX11_told_10 : decode cX11_told 10 = .ok (.ldc2_w 192, 3) := by decide +kernel
theorem dX11_told_13 : decode cX11_told 13 = .ok (.lreturn, 1) := by decide +kernel
theorem dX11_told_14 : decode cX11_told 14 = .ok (.iload_n 1, 1) := by decide +kernel
theorem dX11_told_15 : decode cX11_told 15 = .ok (.iconst (-1), 1) := by decide +kernel
theorem dX11_told_16 : decode cX11_told 16 = .ok (.if_icmp .eq 11, 3) := by decide +kernel
theorem dX11_told_19 : decode cX11_told 19 = .ok (.aload_n 0, 1) := by decide +kernel
theorem dX11_told_20 : decode cX11_told 20 = .ok (.iload_n 1, 1) := by decide +kernel
theorem dX11_told_21 : decode cX11_told 21 = .ok (.invokevirtual 159, 3) := by decide +kernel
theorem dX11_told_24 : decode cX11_told 24 = .ok (.ifCond .eq 13, 3) := by decide +kernel
theorem dX11_told_27 : decode cX11_told 27 = .ok (.iload_n 2, 1) := by decide +kernel
theorem dX11_told_28 : decode cX11_told 28 = .ok (.iconst 0, 1) := by decide +kernel
theorem dX11_told_29 : decode cX11_told 29 = .ok (.bipush 7, 2) := by decide +kernel
theorem dX11_told_31 : decode cX11_told 31 = .ok (.invokestatic 81, 3) := by decide +kernel
theorem dX11_told_34 : decode cX11_told 34 = .ok (.ifCond .ne 7, 3) := by decide +kernel
theorem dX11_told_37 : decode cX11_told 37 = .ok (.ldc2_w 85, 3) := by decide +kernel
theorem dX11_told_40 : decode cX11_told 40 = .ok (.lreturn, 1) := by decide +kernel
theorem dX11_told_41 : decode cX11_told 41 = .ok (.aload_n 0, 1) := by decide +kernel
theorem dX11_told_42 : decode cX11_told 42 = .ok (.getfield 44, 3) := by decide +kernel
theorem dX11_told_45 : decode cX11_told 45 = .ok (.aload_n 0, 1) := by decide +kernel
theorem dX11_told_46 : decode cX11_told 46 = .ok (.getfield 26, 3) := by decide +kernel
theorem dX11_told_49 : decode cX11_told 49 = .ok (.iload_n 1, 1) := by decide +kernel
theorem dX11_told_50 : decode cX11_told 50 = .ok (.invokevirtual 253, 3) := by decide +kernel
theorem dX11_told_53 : decode cX11_told 53 = .ok (.iload_n 2, 1) := by decide +kernel
theorem dX11_told_54 : decode cX11_told 54 = .ok (.bipush 6, 2) := by decide +kernel
theorem dX11_told_56 : decode cX11_told 56 = .ok (.if_icmp .ne 12, 3) := by decide +kernel
theorem dX11_told_59 : decode cX11_told 59 = .ok (.aload_n 0, 1) := by decide +kernel
theorem dX11_told_60 : decode cX11_told 60 = .ok (.getfield 44, 3) := by decide +kernel
theorem dX11_told_63 : decode cX11_told 63 = .ok (.getfield 257, 3) := by decide +kernel
theorem dX11_told_66 : decode cX11_told 66 = .ok (.i2l, 1) := by decide +kernel
theorem dX11_told_67 : decode cX11_told 67 = .ok (.lreturn, 1) := by decide +kernel
theorem dX11_told_68 : decode cX11_told 68 = .ok (.iload_n 2, 1) := by decide +kernel
theorem dX11_told_69 : decode cX11_told 69 = .ok (.bipush 7, 2) := by decide +kernel
theorem dX11_told_71 : decode cX11_told 71 = .ok (.if_icmp .ne 14, 3) := by decide +kernel
theorem dX11_told_74 : decode cX11_told 74 = .ok (.aload_n 0, 1) := by decide +kernel
theorem dX11_told_75 : decode cX11_told 75 = .ok (.getfield 44, 3) := by decide +kernel
theorem dX11_told_78 : decode cX11_told 78 = .ok (.getfield 258, 3) := by decide +kernel
theorem dX11_told_81 : decode cX11_told 81 = .ok (.i2l, 1) := by decide +kernel
theorem dX11_told_82 : decode cX11_told 82 = .ok (.goto 15, 3) := by decide +kernel
theorem dX11_told_85 : decode cX11_told 85 = .ok (.aload_n 0, 1) := by decide +kernel
theorem dX11_told_86 : decode cX11_told 86 = .ok (.getfield 44, 3) := by decide +kernel
theorem dX11_told_89 : decode cX11_told 89 = .ok (.getfield 259, 3) := by decide +kernel
theorem dX11_told_92 : decode cX11_told 92 = .ok (.iload_n 2, 1) := by decide +kernel
theorem dX11_told_93 : decode cX11_told 93 = .ok (.invokevirtual 223, 3) := by decide +kernel
theorem dX11_told_96 : decode cX11_told 96 = .ok (.i2l, 1) := by decide +kernel
theorem dX11_told_97 : decode cX11_told 97 = .ok (.lreturn, 1) := by decide +kernel
theorem dX11_all_0 : decode cX11_all 0 = .ok (.iload_n 1, 1) := by decide +kernel
theorem dX11_all_1 : decode cX11_all 1 = .ok (.iconst 0, 1) := by decide +kernel
theorem dX11_all_2 : decode cX11_all 2 = .ok (.iconst 1, 1) := by decide +kernel
theorem dX11_all_3 : decode cX11_all 3 = .ok (.invokestatic 81, 3) := by decide +kernel
theorem dX11_all_6 : decode cX11_all 6 = .ok (.ifCond .ne 7, 3) := by decide +kernel
theorem dX11_all_9 : decode cX11_all 9 = .ok (.ldc2_w 85, 3) := by decide +kernel
theorem dX11_all_12 : decode cX11_all 12 = .ok (.lreturn, 1) := by decide +kernel
theorem dX11_all_13 : decode cX11_all 13 = .ok (.aload_n 0, 1) := by decide +kernel
theorem dX11_all_14 : decode cX11_all 14 = .ok (.getfield 26, 3) := by decide +kernel
theorem dX11_all_17 : decode cX11_all 17 = .ok (.getfield 179, 3) := by decide +kernel
theorem dX11_all_20 : decode cX11_all 20 = .ok (.ifCond .ne 7, 3) := by decide +kernel
theorem dX11_all_23 : decode cX11_all 23 = .ok (.ldc2_w 192, 3) := by decide +kernel
theorem dX11_all_26 : decode cX11_all 26 = .ok (.lreturn, 1) := by decide +kernel
theorem dX11_all_27 : decode cX11_all 27 = .ok (.aload_n 0, 1) := by decide +kernel
theorem dX11_all_28 : decode cX11_all 28 = .ok (.getfield 44, 3) := by decide +kernel
theorem dX11_all_31 : decode cX11_all 31 = .ok (.aload_n 0, 1) := by decide +kernel
theorem dX11_all_32 : decode cX11_all 32 = .ok (.getfield 26, 3) := by decide +kernel
theorem dX11_all_35 : decode cX11_all 35 = .ok (.bipush 19, 2) := by decide +kernel
theorem dX11_all_37 : decode cX11_all 37 = .ok (.invokevirtual 253, 3) := by decide +kernel
theorem dX11_all_40 : decode cX11_all 40 = .ok (.aload_n 0, 1) := by decide +kernel
theorem dX11_all_41 : decode cX11_all 41 = .ok (.getfield 44, 3) := by decide +kernel
theorem dX11_all_44 : decode cX11_all 44 = .ok (.getfield 260, 3) := by decide +kernel
theorem dX11_all_47 : decode cX11_all 47 = .ok (.ifCond .eq 7, 3) := by decide +kernel
theorem dX11_all_50 : decode cX11_all 50 = .ok (.ldc2_w 169, 3) := by decide +kernel
theorem dX11_all_53 : decode cX11_all 53 = .ok (.lreturn, 1) := by decide +kernel
theorem dX11_all_54 : decode cX11_all 54 = .ok (.iload_n 1, 1) := by decide +kernel
theorem dX11_all_55 : decode cX11_all 55 = .ok (.ifCond .ne 13, 3) := by decide +kernel
theorem dX11_all_58 : decode cX11_all 58 = .ok (.aload_n 0, 1) := by decide +kernel
theorem dX11_all_59 : decode cX11_all 59 = .ok (.getfield 44, 3) := by decide +kernel
theorem dX11_all_62 : decode cX11_all 62 = .ok (.getfield 263, 3) := by decide +kernel
theorem dX11_all_65 : decode cX11_all 65 = .ok (.goto 10, 3) := by decide +kernel
theorem dX11_all_68 : decode cX11_all 68 = .ok (.aload_n 0, 1) := by decide +kernel
theorem dX11_all_69 : decode cX11_all 69 = .ok (.getfield 44, 3) := by decide +kernel
theorem dX11_all_72 : decode cX11_all 72 = .ok (.getfield 267, 3) := by decide +kernel
theorem dX11_all_75 : decode cX11_all 75 = .ok (.lreturn, 1) := by decide +kernel
theorem dX11_score_0 : decode cX11_score 0 = .ok (.aload_n 0, 1) := by decide +kernel
theorem dX11_score_1 : decode cX11_score 1 = .ok (.getfield 26, 3) := by decide +kernel
theorem dX11_score_4 : decode cX11_score 4 = .ok (.getfield 179, 3) := by decide +kernel
theorem dX11_score_7 : decode cX11_score 7 = .ok (.ifCond .ne 7, 3) := by decide +kernel
theorem dX11_score_10 : decode cX11_score 10 = .ok (.ldc2_w 192, 3) := by decide +kernel
theorem dX11_score_13 : decode cX11_score 13 = .ok (.lreturn, 1) := by decide +kernel
theorem dX11_score_14 : decode cX11_score 14 = .ok (.aload_n 0, 1) := by decide +kernel
theorem dX11_score_15 : decode cX11_score 15 = .ok (.getfield 44, 3) := by decide +kernel
theorem dX11_score_18 : decode cX11_score 18 = .ok (.aload_n 0, 1) := by decide +kernel
theorem dX11_score_19 : decode cX11_score 19 = .ok (.getfield 26, 3) := by decide +kernel
theorem dX11_score_22 : decode cX11_score 22 = .ok (.bipush 19, 2) := by decide +kernel
theorem dX11_score_24 : decode cX11_score 24 = .ok (.invokevirtual 253, 3) := by decide +kernel
theorem dX11_score_27 : decode cX11_score 27 = .ok (.aload_n 0, 1) := by decide +kernel
theorem dX11_score_28 : decode cX11_score 28 = .ok (.getfield 44, 3) := by decide +kernel
theorem dX11_score_31 : decode cX11_score 31 = .ok (.getfield 270, 3) := by decide +kernel
theorem dX11_score_34 : decode cX11_score 34 = .ok (.i2l, 1) := by decide +kernel
theorem dX11_score_35 : decode cX11_score 35 = .ok (.lreturn, 1) := by decide +kernel
theorem dX11_best_0 : decode cX11_best 0 = .ok (.aload_n 0, 1) := by decide +kernel
theorem dX11_best_1 : decode cX11_best 1 = .ok (.getfield 26, 3) := by decide +kernel
theorem dX11_best_4 : decode cX11_best 4 = .ok (.getfield 147, 3) := by decide +kernel
theorem dX11_best_7 : decode cX11_best 7 = .ok (.iconst 2, 1) := by decide +kernel
theorem dX11_best_8 : decode cX11_best 8 = .ok (.iload_n 1, 1) := by decide +kernel
theorem dX11_best_9 : decode cX11_best 9 = .ok (.invokevirtual 171, 3) := by decide +kernel
theorem dX11_best_12 : decode cX11_best 12 = .ok (.ifCond .eq 12, 3) := by decide +kernel
theorem dX11_best_15 : decode cX11_best 15 = .ok (.iload_n 2, 1) := by decide +kernel
theorem dX11_best_16 : decode cX11_best 16 = .ok (.iconst 0, 1) := by decide +kernel
theorem dX11_best_17 : decode cX11_best 17 = .ok (.iconst 2, 1) := by decide +kernel
theorem dX11_best_18 : decode cX11_best 18 = .ok (.invokestatic 81, 3) := by decide +kernel
theorem dX11_best_21 : decode cX11_best 21 = .ok (.ifCond .ne 7, 3) := by decide +kernel
theorem dX11_best_24 : decode cX11_best 24 = .ok (.ldc2_w 85, 3) := by decide +kernel
theorem dX11_best_27 : decode cX11_best 27 = .ok (.lreturn, 1) := by decide +kernel
theorem dX11_best_28 : decode cX11_best 28 = .ok (.aload_n 0, 1) := by decide +kernel
theorem dX11_best_29 : decode cX11_best 29 = .ok (.getfield 44, 3) := by decide +kernel
theorem dX11_best_32 : decode cX11_best 32 = .ok (.aload_n 0, 1) := by decide +kernel
theorem dX11_best_33 : decode cX11_best 33 = .ok (.getfield 26, 3) := by decide +kernel
theorem dX11_best_36 : decode cX11_best 36 = .ok (.iload_n 1, 1) := by decide +kernel
theorem dX11_best_37 : decode cX11_best 37 = .ok (.invokevirtual 273, 3) := by decide +kernel
theorem dX11_best_40 : decode cX11_best 40 = .ok (.iload_n 2, 1) := by decide +kernel
theorem dX11_best_41 : decode cX11_best 41 = .ok (.ifCond .ne 14, 3) := by decide +kernel
theorem dX11_best_44 : decode cX11_best 44 = .ok (.aload_n 0, 1) := by decide +kernel
theorem dX11_best_45 : decode cX11_best 45 = .ok (.getfield 44, 3) := by decide +kernel
theorem dX11_best_48 : decode cX11_best 48 = .ok (.getfield 276, 3) := by decide +kernel
theorem dX11_best_51 : decode cX11_best 51 = .ok (.i2l, 1) := by decide +kernel
theorem dX11_best_52 : decode cX11_best 52 = .ok (.goto 25, 3) := by decide +kernel
theorem dX11_best_55 : decode cX11_best 55 = .ok (.aload_n 0, 1) := by decide +kernel
theorem dX11_best_56 : decode cX11_best 56 = .ok (.getfield 44, 3) := by decide +kernel
theorem dX11_best_59 : decode cX11_best 59 = .ok (.getfield 279, 3) := by decide +kernel
theorem dX11_best_62 : decode cX11_best 62 = .ok (.i2l, 1) := by decide +kernel
theorem dX11_best_63 : decode cX11_best 63 = .ok (.aload_n 0, 1) := by decide +kernel
theorem dX11_best_64 : decode cX11_best 64 = .ok (.getfield 44, 3) := by decide +kernel
theorem dX11_best_67 : decode cX11_best 67 = .ok (.getfield 282, 3) := by decide +kernel
theorem dX11_best_70 : decode cX11_best 70 = .ok (.i2l, 1) := by decide +kernel
theorem dX11_best_71 : decode cX11_best 71 = .ok (.iload_n 2, 1) := by decide +kernel
theorem dX11_best_72 : decode cX11_best 72 = .ok (.iconst 1, 1) := by decide +kernel
theorem dX11_best_73 : decode cX11_best 73 = .ok (.isub, 1) := by decide +kernel
theorem dX11_best_74 : decode cX11_best 74 = .ok (.invokestatic 238, 3) := by decide +kernel
theorem dX11_best_77 : decode cX11_best 77 = .ok (.lreturn, 1) := by decide +kernel
theorem dX11_moves_0 : decode cX11_moves 0 = .ok (.iload_n 1, 1) := by decide +kernel
theorem dX11_moves_1 : decode cX11_moves 1 = .ok (.iconst 1, 1) := by decide +kernel
theorem dX11_moves_2 : decode cX11_moves 2 = .ok (.iconst 5, 1) := by decide +kernel
theorem dX11_moves_3 : decode cX11_moves 3 = .ok (.invokestatic 81, 3) := by decide +kernel
theorem dX11_moves_6 : decode cX11_moves 6 = .ok (.ifCond .eq 8, 3) := by decide +kernel
theorem dX11_moves_9 : decode cX11_moves 9 = .ok (.iload_n 2, 1) := by decide +kernel
theorem dX11_moves_10 : decode cX11_moves 10 = .ok (.iconst (-1), 1) := by decide +kernel
theorem dX11_moves_11 : decode cX11_moves 11 = .ok (.if_icmp .ge 7, 3) := by decide +kernel
theorem dX11_moves_14 : decode cX11_moves 14 = .ok (.ldc2_w 85, 3) := by decide +kernel
theorem dX11_moves_17 : decode cX11_moves 17 = .ok (.lreturn, 1) := by decide +kernel
theorem dX11_moves_18 : decode cX11_moves 18 = .ok (.aload_n 0, 1) := by decide +kernel
theorem dX11_moves_19 : decode cX11_moves 19 = .ok (.getfield 26, 3) := by decide +kernel
theorem dX11_moves_22 : decode cX11_moves 22 = .ok (.getfield 179, 3) := by decide +kernel
theorem dX11_moves_25 : decode cX11_moves 25 = .ok (.ifCond .ne 7, 3) := by decide +kernel
theorem dX11_moves_28 : decode cX11_moves 28 = .ok (.ldc2_w 192, 3) := by decide +kernel
theorem dX11_moves_31 : decode cX11_moves 31 = .ok (.lreturn, 1) := by decide +kernel
theorem dX11_moves_32 : decode cX11_moves 32 = .ok (.aload_n 0, 1) := by decide +kernel
theorem dX11_moves_33 : decode cX11_moves 33 = .ok (.getfield 58, 3) := by decide +kernel
theorem dX11_moves_36 : decode cX11_moves 36 = .ok (.aload_n 0, 1) := by decide +kernel
theorem dX11_moves_37 : decode cX11_moves 37 = .ok (.getfield 26, 3) := by decide +kernel
theorem dX11_moves_40 : decode cX11_moves 40 = .ok (.iload_n 1, 1) := by decide +kernel
theorem dX11_moves_41 : decode cX11_moves 41 = .ok (.invokevirtual 285, 3) := by decide +kernel
theorem dX11_moves_44 : decode cX11_moves 44 = .ok (.istore_n 3, 1) := by decide +kernel
theorem dX11_moves_45 : decode cX11_moves 45 = .ok (.iload_n 2, 1) := by decide +kernel
theorem dX11_moves_46 : decode cX11_moves 46 = .ok (.iconst (-1), 1) := by decide +kernel
theorem dX11_moves_47 : decode cX11_moves 47 = .ok (.if_icmp .ne 8, 3) := by decide +kernel
theorem dX11_moves_50 : decode cX11_moves 50 = .ok (.iload_n 3, 1) := by decide +kernel
theorem dX11_moves_51 : decode cX11_moves 51 = .ok (.i2l, 1) := by decide +kernel
theorem dX11_moves_52 : decode cX11_moves 52 = .ok (.goto 12, 3) := by decide +kernel
theorem dX11_moves_55 : decode cX11_moves 55 = .ok (.aload_n 0, 1) := by decide +kernel
theorem dX11_moves_56 : decode cX11_moves 56 = .ok (.getfield 58, 3) := by decide +kernel
theorem dX11_moves_59 : decode cX11_moves 59 = .ok (.iload_n 2, 1) := by decide +kernel
theorem dX11_moves_60 : decode cX11_moves 60 = .ok (.invokevirtual 289, 3) := by decide +kernel
theorem dX11_moves_63 : decode cX11_moves 63 = .ok (.i2l, 1) := by decide +kernel
theorem dX11_moves_64 : decode cX11_moves 64 = .ok (.lreturn, 1) := by decide +kernel
theorem dX11_fewest_0 : decode cX11_fewest 0 = .ok (.iload_n 1, 1) := by decide +kernel
theorem dX11_fewest_1 : decode cX11_fewest 1 = .ok (.iconst 1, 1) := by decide +kernel
theorem dX11_fewest_2 : decode cX11_fewest 2 = .ok (.sipush 200, 3) := by decide +kernel
theorem dX11_fewest_5 : decode cX11_fewest 5 = .ok (.invokestatic 81, 3) := by decide +kernel
theorem dX11_fewest_8 : decode cX11_fewest 8 = .ok (.ifCond .eq 13, 3) := by decide +kernel
theorem dX11_fewest_11 : decode cX11_fewest 11 = .ok (.iload_n 2, 1) := by decide +kernel
theorem dX11_fewest_12 : decode cX11_fewest 12 = .ok (.iconst 0, 1) := by decide +kernel
theorem dX11_fewest_13 : decode cX11_fewest 13 = .ok (.bipush 12, 2) := by decide +kernel
theorem dX11_fewest_15 : decode cX11_fewest 15 = .ok (.invokestatic 81, 3) := by decide +kernel
theorem dX11_fewest_18 : decode cX11_fewest 18 = .ok (.ifCond .ne 7, 3) := by decide +kernel
theorem dX11_fewest_21 : decode cX11_fewest 21 = .ok (.ldc2_w 85, 3) := by decide +kernel
theorem dX11_fewest_24 : decode cX11_fewest 24 = .ok (.lreturn, 1) := by decide +kernel
theorem dX11_fewest_25 : decode cX11_fewest 25 = .ok (.aload_n 0, 1) := by decide +kernel
theorem dX11_fewest_26 : decode cX11_fewest 26 = .ok (.getfield 26, 3) := by decide +kernel
theorem dX11_fewest_29 : decode cX11_fewest 29 = .ok (.getfield 179, 3) := by decide +kernel
theorem dX11_fewest_32 : decode cX11_fewest 32 = .ok (.ifCond .ne 7, 3) := by decide +kernel
theorem dX11_fewest_35 : decode cX11_fewest 35 = .ok (.ldc2_w 192, 3) := by decide +kernel
theorem dX11_fewest_38 : decode cX11_fewest 38 = .ok (.lreturn, 1) := by decide +kernel
theorem dX11_fewest_39 : decode cX11_fewest 39 = .ok (.aload_n 0, 1) := by decide +kernel
theorem dX11_fewest_40 : decode cX11_fewest 40 = .ok (.getfield 69, 3) := by decide +kernel
theorem dX11_fewest_43 : decode cX11_fewest 43 = .ok (.ifnonnull 14, 3) := by decide +kernel
theorem dX11_fewest_46 : decode cX11_fewest 46 = .ok (.aload_n 0, 1) := by decide +kernel
theorem dX11_fewest_47 : decode cX11_fewest 47 = .ok (.new 292, 3) := by decide +kernel
theorem dX11_fewest_50 : decode cX11_fewest 50 = .ok (.dup, 1) := by decide +kernel
theorem dX11_fewest_51 : decode cX11_fewest 51 = .ok (.invokespecial 294, 3) := by decide +kernel
theorem dX11_fewest_54 : decode cX11_fewest 54 = .ok (.putfield 69, 3) := by decide +kernel
theorem dX11_fewest_57 : decode cX11_fewest 57 = .ok (.aload_n 0, 1) := by decide +kernel
theorem dX11_fewest_58 : decode cX11_fewest 58 = .ok (.getfield 69, 3) := by decide +kernel
theorem dX11_fewest_61 : decode cX11_fewest 61 = .ok (.aload_n 0, 1) := by decide +kernel
theorem dX11_fewest_62 : decode cX11_fewest 62 = .ok (.getfield 26, 3) := by decide +kernel
theorem dX11_fewest_65 : decode cX11_fewest 65 = .ok (.iload_n 1, 1) := by decide +kernel
theorem dX11_fewest_66 : decode cX11_fewest 66 = .ok (.iload_n 2, 1) := by decide +kernel
theorem dX11_fewest_67 : decode cX11_fewest 67 = .ok (.invokevirtual 295, 3) := by decide +kernel
theorem dX11_fewest_70 : decode cX11_fewest 70 = .ok (.i2l, 1) := by decide +kernel
theorem dX11_fewest_71 : decode cX11_fewest 71 = .ok (.lreturn, 1) := by decide +kernel
theorem dX11_show_0 : decode cX11_show 0 = .ok (.iload_n 1, 1) := by decide +kernel
theorem dX11_show_1 : decode cX11_show 1 = .ok (.iconst (-1), 1) := by decide +kernel
theorem dX11_show_2 : decode cX11_show 2 = .ok (.if_icmp .ge 7, 3) := by decide +kernel
theorem dX11_show_5 : decode cX11_show 5 = .ok (.ldc2_w 85, 3) := by decide +kernel
theorem dX11_show_8 : decode cX11_show 8 = .ok (.lreturn, 1) := by decide +kernel
theorem dX11_show_9 : decode cX11_show 9 = .ok (.aload_n 0, 1) := by decide +kernel
theorem dX11_show_10 : decode cX11_show 10 = .ok (.getfield 26, 3) := by decide +kernel
theorem dX11_show_13 : decode cX11_show 13 = .ok (.getfield 179, 3) := by decide +kernel
theorem dX11_show_16 : decode cX11_show 16 = .ok (.ifCond .ne 7, 3) := by decide +kernel
theorem dX11_show_19 : decode cX11_show 19 = .ok (.ldc2_w 192, 3) := by decide +kernel
theorem dX11_show_22 : decode cX11_show 22 = .ok (.lreturn, 1) := by decide +kernel
theorem dX11_show_23 : decode cX11_show 23 = .ok (.aload_n 0, 1) := by decide +kernel
theorem dX11_show_24 : decode cX11_show 24 = .ok (.getfield 51, 3) := by decide +kernel
theorem dX11_show_27 : decode cX11_show 27 = .ok (.aload_n 0, 1) := by decide +kernel
theorem dX11_show_28 : decode cX11_show 28 = .ok (.getfield 26, 3) := by decide +kernel
theorem dX11_show_31 : decode cX11_show 31 = .ok (.getfield 147, 3) := by decide +kernel
theorem dX11_show_34 : decode cX11_show 34 = .ok (.invokevirtual 299, 3) := by decide +kernel
theorem dX11_show_37 : decode cX11_show 37 = .ok (.iload_n 1, 1) := by decide +kernel
theorem dX11_show_38 : decode cX11_show 38 = .ok (.iconst (-1), 1) := by decide +kernel
theorem dX11_show_39 : decode cX11_show 39 = .ok (.if_icmp .ne 14, 3) := by decide +kernel
theorem dX11_show_42 : decode cX11_show 42 = .ok (.aload_n 0, 1) := by decide +kernel
theorem dX11_show_43 : decode cX11_show 43 = .ok (.getfield 51, 3) := by decide +kernel
theorem dX11_show_46 : decode cX11_show 46 = .ok (.invokevirtual 302, 3) := by decide +kernel
theorem dX11_show_49 : decode cX11_show 49 = .ok (.i2l, 1) := by decide +kernel
theorem dX11_show_50 : decode cX11_show 50 = .ok (.goto 12, 3) := by decide +kernel
theorem dX11_show_53 : decode cX11_show 53 = .ok (.aload_n 0, 1) := by decide +kernel
theorem dX11_show_54 : decode cX11_show 54 = .ok (.getfield 51, 3) := by decide +kernel
theorem dX11_show_57 : decode cX11_show 57 = .ok (.iload_n 1, 1) := by decide +kernel
theorem dX11_show_58 : decode cX11_show 58 = .ok (.invokevirtual 305, 3) := by decide +kernel
theorem dX11_show_61 : decode cX11_show 61 = .ok (.i2l, 1) := by decide +kernel
theorem dX11_show_62 : decode cX11_show 62 = .ok (.lreturn, 1) := by decide +kernel
theorem dX11_learn_0 : decode cX11_learn 0 = .ok (.iload_n 1, 1) := by decide +kernel
theorem dX11_learn_1 : decode cX11_learn 1 = .ok (.iconst 0, 1) := by decide +kernel
theorem dX11_learn_2 : decode cX11_learn 2 = .ok (.bipush 100, 2) := by decide +kernel
theorem dX11_learn_4 : decode cX11_learn 4 = .ok (.invokestatic 81, 3) := by decide +kernel
theorem dX11_learn_7 : decode cX11_learn 7 = .ok (.ifCond .eq 22, 3) := by decide +kernel
theorem dX11_learn_10 : decode cX11_learn 10 = .ok (.iload_n 2, 1) := by decide +kernel
theorem dX11_learn_11 : decode cX11_learn 11 = .ok (.iconst 0, 1) := by decide +kernel
theorem dX11_learn_12 : decode cX11_learn 12 = .ok (.bipush 100, 2) := by decide +kernel
theorem dX11_learn_14 : decode cX11_learn 14 = .ok (.invokestatic 81, 3) := by decide +kernel
theorem dX11_learn_17 : decode cX11_learn 17 = .ok (.ifCond .eq 12, 3) := by decide +kernel
theorem dX11_learn_20 : decode cX11_learn 20 = .ok (.iload_n 3, 1) := by decide +kernel
theorem dX11_learn_21 : decode cX11_learn 21 = .ok (.iconst 0, 1) := by decide +kernel
theorem dX11_learn_22 : decode cX11_learn 22 = .ok (.iconst 1, 1) := by decide +kernel
theorem dX11_learn_23 : decode cX11_learn 23 = .ok (.invokestatic 81, 3) := by decide +kernel
theorem dX11_learn_26 : decode cX11_learn 26 = .ok (.ifCond .ne 7, 3) := by decide +kernel
theorem dX11_learn_29 : decode cX11_learn 29 = .ok (.ldc2_w 85, 3) := by decide +kernel
theorem dX11_learn_32 : decode cX11_learn 32 = .ok (.lreturn, 1) := by decide +kernel
theorem dX11_learn_33 : decode cX11_learn 33 = .ok (.aload_n 0, 1) := by decide +kernel
theorem dX11_learn_34 : decode cX11_learn 34 = .ok (.getfield 26, 3) := by decide +kernel
theorem dX11_learn_37 : decode cX11_learn 37 = .ok (.getfield 179, 3) := by decide +kernel
theorem dX11_learn_40 : decode cX11_learn 40 = .ok (.ifCond .ne 7, 3) := by decide +kernel
theorem dX11_learn_43 : decode cX11_learn 43 = .ok (.ldc2_w 192, 3) := by decide +kernel
theorem dX11_learn_46 : decode cX11_learn 46 = .ok (.lreturn, 1) := by decide +kernel
theorem dX11_learn_47 : decode cX11_learn 47 = .ok (.aload_n 0, 1) := by decide +kernel
theorem dX11_learn_48 : decode cX11_learn 48 = .ok (.getfield 51, 3) := by decide +kernel
theorem dX11_learn_51 : decode cX11_learn 51 = .ok (.aload_n 0, 1) := by decide +kernel
theorem dX11_learn_52 : decode cX11_learn 52 = .ok (.getfield 26, 3) := by decide +kernel
theorem dX11_learn_55 : decode cX11_learn 55 = .ok (.getfield 147, 3) := by decide +kernel
theorem dX11_learn_58 : decode cX11_learn 58 = .ok (.iload_n 2, 1) := by decide +kernel
theorem dX11_learn_59 : decode cX11_learn 59 = .ok (.invokevirtual 308, 3) := by decide +kernel
theorem dX11_learn_62 : decode cX11_learn 62 = .ok (.iload_n 3, 1) := by decide +kernel
theorem dX11_learn_63 : decode cX11_learn 63 = .ok (.ifCond .ne 15, 3) := by decide +kernel
theorem dX11_learn_66 : decode cX11_learn 66 = .ok (.aload_n 0, 1) := by decide +kernel
theorem dX11_learn_67 : decode cX11_learn 67 = .ok (.getfield 51, 3) := by decide +kernel
theorem dX11_learn_70 : decode cX11_learn 70 = .ok (.iload_n 1, 1) := by decide +kernel
theorem dX11_learn_71 : decode cX11_learn 71 = .ok (.invokevirtual 312, 3) := by decide +kernel
theorem dX11_learn_74 : decode cX11_learn 74 = .ok (.i2l, 1) := by decide +kernel
theorem dX11_learn_75 : decode cX11_learn 75 = .ok (.goto 19, 3) := by decide +kernel
theorem dX11_learn_78 : decode cX11_learn 78 = .ok (.aload_n 0, 1) := by decide +kernel
theorem dX11_learn_79 : decode cX11_learn 79 = .ok (.getfield 51, 3) := by decide +kernel
theorem dX11_learn_82 : decode cX11_learn 82 = .ok (.aload_n 0, 1) := by decide +kernel
theorem dX11_learn_83 : decode cX11_learn 83 = .ok (.getfield 26, 3) := by decide +kernel
theorem dX11_learn_86 : decode cX11_learn 86 = .ok (.getfield 147, 3) := by decide +kernel
theorem dX11_learn_89 : decode cX11_learn 89 = .ok (.iload_n 1, 1) := by decide +kernel
theorem dX11_learn_90 : decode cX11_learn 90 = .ok (.invokevirtual 315, 3) := by decide +kernel
theorem dX11_learn_93 : decode cX11_learn 93 = .ok (.i2l, 1) := by decide +kernel
theorem dX11_learn_94 : decode cX11_learn 94 = .ok (.lreturn, 1) := by decide +kernel
theorem dX11_film_0 : decode cX11_film 0 = .ok (.iload_n 1, 1) := by decide +kernel
theorem dX11_film_1 : decode cX11_film 1 = .ok (.invokestatic 77, 3) := by decide +kernel
theorem dX11_film_4 : decode cX11_film 4 = .ok (.ifCond .eq 13, 3) := by decide +kernel
theorem dX11_film_7 : decode cX11_film 7 = .ok (.iload_n 3, 1) := by decide +kernel
theorem dX11_film_8 : decode cX11_film 8 = .ok (.iconst 1, 1) := by decide +kernel
theorem dX11_film_9 : decode cX11_film 9 = .ok (.bipush 20, 2) := by decide +kernel
theorem dX11_film_11 : decode cX11_film 11 = .ok (.invokestatic 81, 3) := by decide +kernel
theorem dX11_film_14 : decode cX11_film 14 = .ok (.ifCond .ne 7, 3) := by decide +kernel
theorem dX11_film_17 : decode cX11_film 17 = .ok (.ldc2_w 85, 3) := by decide +kernel
theorem dX11_film_20 : decode cX11_film 20 = .ok (.lreturn, 1) := by decide +kernel
theorem dX11_film_21 : decode cX11_film 21 = .ok (.aload_n 0, 1) := by decide +kernel
theorem dX11_film_22 : decode cX11_film 22 = .ok (.getfield 26, 3) := by decide +kernel
theorem dX11_film_25 : decode cX11_film 25 = .ok (.getfield 179, 3) := by decide +kernel
theorem dX11_film_28 : decode cX11_film 28 = .ok (.ifCond .ne 7, 3) := by decide +kernel
theorem dX11_film_31 : decode cX11_film 31 = .ok (.ldc2_w 192, 3) := by decide +kernel
theorem dX11_film_34 : decode cX11_film 34 = .ok (.lreturn, 1) := by decide +kernel
theorem dX11_film_35 : decode cX11_film 35 = .ok (.aload_n 0, 1) := by decide +kernel
theorem dX11_film_36 : decode cX11_film 36 = .ok (.getfield 12, 3) := by decide +kernel
theorem dX11_film_39 : decode cX11_film 39 = .ok (.iload_n 1, 1) := by decide +kernel
theorem dX11_film_40 : decode cX11_film 40 = .ok (.invokevirtual 99, 3) := by decide +kernel
theorem dX11_film_43 : decode cX11_film 43 = .ok (.ifCond .eq 9, 3) := by decide +kernel
theorem dX11_film_46 : decode cX11_film 46 = .ok (.aload_n 0, 1) := by decide +kernel
theorem dX11_film_47 : decode cX11_film 47 = .ok (.iconst 1, 1) := by decide +kernel
theorem dX11_film_48 : decode cX11_film 48 = .ok (.invokevirtual 87, 3) := by decide +kernel
theorem dX11_film_51 : decode cX11_film 51 = .ok (.lreturn, 1) := by decide +kernel
theorem dX11_film_52 : decode cX11_film 52 = .ok (.aload_n 0, 1) := by decide +kernel
theorem dX11_film_53 : decode cX11_film 53 = .ok (.getfield 12, 3) := by decide +kernel
theorem dX11_film_56 : decode cX11_film 56 = .ok (.iload_n 1, 1) := by decide +kernel
theorem dX11_film_57 : decode cX11_film 57 = .ok (.iload_n 2, 1) := by decide +kernel
theorem dX11_film_58 : decode cX11_film 58 = .ok (.iload_n 3, 1) := by decide +kernel
theorem dX11_film_59 : decode cX11_film 59 = .ok (.invokevirtual 102, 3) := by decide +kernel
theorem dX11_film_62 : decode cX11_film 62 = .ok (.ifCond .ne 9, 3) := by decide +kernel
theorem dX11_film_65 : decode cX11_film 65 = .ok (.aload_n 0, 1) := by decide +kernel
theorem dX11_film_66 : decode cX11_film 66 = .ok (.iconst 2, 1) := by decide +kernel
theorem dX11_film_67 : decode cX11_film 67 = .ok (.invokevirtual 87, 3) := by decide +kernel
theorem dX11_film_70 : decode cX11_film 70 = .ok (.lreturn, 1) := by decide +kernel
theorem dX11_film_71 : decode cX11_film 71 = .ok (.iconst 0, 1) := by decide +kernel
theorem dX11_film_72 : decode cX11_film 72 = .ok (.istore 4, 2) := by decide +kernel
theorem dX11_film_74 : decode cX11_film 74 = .ok (.iconst 0, 1) := by decide +kernel
theorem dX11_film_75 : decode cX11_film 75 = .ok (.istore 5, 2) := by decide +kernel
theorem dX11_film_77 : decode cX11_film 77 = .ok (.iload 5, 2) := by decide +kernel
theorem dX11_film_79 : decode cX11_film 79 = .ok (.bipush 9, 2) := by decide +kernel
theorem dX11_film_81 : decode cX11_film 81 = .ok (.if_icmp .ge 41, 3) := by decide +kernel
theorem dX11_film_84 : decode cX11_film 84 = .ok (.aload_n 0, 1) := by decide +kernel
theorem dX11_film_85 : decode cX11_film 85 = .ok (.getfield 51, 3) := by decide +kernel
theorem dX11_film_88 : decode cX11_film 88 = .ok (.iload 5, 2) := by decide +kernel
theorem dX11_film_90 : decode cX11_film 90 = .ok (.aload_n 0, 1) := by decide +kernel
theorem dX11_film_91 : decode cX11_film 91 = .ok (.getfield 26, 3) := by decide +kernel
theorem dX11_film_94 : decode cX11_film 94 = .ok (.aload_n 0, 1) := by decide +kernel
theorem dX11_film_95 : decode cX11_film 95 = .ok (.getfield 12, 3) := by decide +kernel
theorem dX11_film_98 : decode cX11_film 98 = .ok (.iload_n 1, 1) := by decide +kernel
theorem dX11_film_99 : decode cX11_film 99 = .ok (.iload_n 2, 1) := by decide +kernel
theorem dX11_film_100 : decode cX11_film 100 = .ok (.iload_n 3, 1) := by decide +kernel
theorem dX11_film_101 : decode cX11_film 101 = .ok (.invokevirtual 319, 3) := by decide +kernel
theorem dX11_film_104 : decode cX11_film 104 = .ok (.ifCond .eq 12, 3) := by decide +kernel
theorem dX11_film_107 : decode cX11_film 107 = .ok (.iload 4, 2) := by decide +kernel
theorem dX11_film_109 : decode cX11_film 109 = .ok (.iconst 1, 1) := by decide +kernel
theorem dX11_film_110 : decode cX11_film 110 = .ok (.iload 5, 2) := by decide +kernel
theorem dX11_film_112 : decode cX11_film 112 = .ok (.ishl, 1) := by decide +kernel
theorem dX11_film_113 : decode cX11_film 113 = .ok (.ior, 1) := by decide +kernel
theorem dX11_film_114 : decode cX11_film 114 = .ok (.istore 4, 2) := by decide +kernel
theorem dX11_film_116 : decode cX11_film 116 = .ok (.iinc 5 1, 3) := by decide +kernel
theorem dX11_film_119 : decode cX11_film 119 = .ok (.goto (-42), 3) := by decide +kernel
theorem dX11_film_122 : decode cX11_film 122 = .ok (.aload_n 0, 1) := by decide +kernel
theorem dX11_film_123 : decode cX11_film 123 = .ok (.iload 4, 2) := by decide +kernel
theorem dX11_film_125 : decode cX11_film 125 = .ok (.i2l, 1) := by decide +kernel
theorem dX11_film_126 : decode cX11_film 126 = .ok (.invokevirtual 95, 3) := by decide +kernel
theorem dX11_film_129 : decode cX11_film 129 = .ok (.lreturn, 1) := by decide +kernel
theorem dX11_image_0 : decode cX11_image 0 = .ok (.iload_n 1, 1) := by decide +kernel
theorem dX11_image_1 : decode cX11_image 1 = .ok (.iconst 0, 1) := by decide +kernel
theorem dX11_image_2 : decode cX11_image 2 = .ok (.iconst 1, 1) := by decide +kernel
theorem dX11_image_3 : decode cX11_image 3 = .ok (.invokestatic 81, 3) := by decide +kernel
theorem dX11_image_6 : decode cX11_image 6 = .ok (.ifCond .ne 7, 3) := by decide +kernel
theorem dX11_image_9 : decode cX11_image 9 = .ok (.ldc2_w 85, 3) := by decide +kernel
theorem dX11_image_12 : decode cX11_image 12 = .ok (.lreturn, 1) := by decide +kernel
theorem dX11_image_13 : decode cX11_image 13 = .ok (.aload_n 0, 1) := by decide +kernel
theorem dX11_image_14 : decode cX11_image 14 = .ok (.getfield 26, 3) := by decide +kernel
theorem dX11_image_17 : decode cX11_image 17 = .ok (.getfield 179, 3) := by decide +kernel
theorem dX11_image_20 : decode cX11_image 20 = .ok (.ifCond .ne 7, 3) := by decide +kernel
theorem dX11_image_23 : decode cX11_image 23 = .ok (.ldc2_w 192, 3) := by decide +kernel
theorem dX11_image_26 : decode cX11_image 26 = .ok (.lreturn, 1) := by decide +kernel
theorem dX11_image_27 : decode cX11_image 27 = .ok (.aload_n 0, 1) := by decide +kernel
theorem dX11_image_28 : decode cX11_image 28 = .ok (.getfield 30, 3) := by decide +kernel
theorem dX11_image_31 : decode cX11_image 31 = .ok (.iload_n 1, 1) := by decide +kernel
theorem dX11_image_32 : decode cX11_image 32 = .ok (.aaload, 1) := by decide +kernel
theorem dX11_image_33 : decode cX11_image 33 = .ok (.aload_n 0, 1) := by decide +kernel
theorem dX11_image_34 : decode cX11_image 34 = .ok (.getfield 26, 3) := by decide +kernel
theorem dX11_image_37 : decode cX11_image 37 = .ok (.invokevirtual 323, 3) := by decide +kernel
theorem dX11_image_40 : decode cX11_image 40 = .ok (.lconst 1, 1) := by decide +kernel
theorem dX11_image_41 : decode cX11_image 41 = .ok (.lreturn, 1) := by decide +kernel
theorem dX11_restore_0 : decode cX11_restore 0 = .ok (.iload_n 1, 1) := by decide +kernel
theorem dX11_restore_1 : decode cX11_restore 1 = .ok (.iconst 0, 1) := by decide +kernel
theorem dX11_restore_2 : decode cX11_restore 2 = .ok (.iconst 1, 1) := by decide +kernel
theorem dX11_restore_3 : decode cX11_restore 3 = .ok (.invokestatic 81, 3) := by decide +kernel
theorem dX11_restore_6 : decode cX11_restore 6 = .ok (.ifCond .ne 7, 3) := by decide +kernel
theorem dX11_restore_9 : decode cX11_restore 9 = .ok (.ldc2_w 85, 3) := by decide +kernel
theorem dX11_restore_12 : decode cX11_restore 12 = .ok (.lreturn, 1) := by decide +kernel
theorem dX11_restore_13 : decode cX11_restore 13 = .ok (.aload_n 0, 1) := by decide +kernel
theorem dX11_restore_14 : decode cX11_restore 14 = .ok (.getfield 30, 3) := by decide +kernel
theorem dX11_restore_17 : decode cX11_restore 17 = .ok (.iload_n 1, 1) := by decide +kernel
theorem dX11_restore_18 : decode cX11_restore 18 = .ok (.aaload, 1) := by decide +kernel
theorem dX11_restore_19 : decode cX11_restore 19 = .ok (.getfield 179, 3) := by decide +kernel
theorem dX11_restore_22 : decode cX11_restore 22 = .ok (.ifCond .ne 7, 3) := by decide +kernel
theorem dX11_restore_25 : decode cX11_restore 25 = .ok (.ldc2_w 192, 3) := by decide +kernel
theorem dX11_restore_28 : decode cX11_restore 28 = .ok (.lreturn, 1) := by decide +kernel
theorem dX11_restore_29 : decode cX11_restore 29 = .ok (.aload_n 0, 1) := by decide +kernel
theorem dX11_restore_30 : decode cX11_restore 30 = .ok (.getfield 26, 3) := by decide +kernel
theorem dX11_restore_33 : decode cX11_restore 33 = .ok (.aload_n 0, 1) := by decide +kernel
theorem dX11_restore_34 : decode cX11_restore 34 = .ok (.getfield 30, 3) := by decide +kernel
theorem dX11_restore_37 : decode cX11_restore 37 = .ok (.iload_n 1, 1) := by decide +kernel
theorem dX11_restore_38 : decode cX11_restore 38 = .ok (.aaload, 1) := by decide +kernel
theorem dX11_restore_39 : decode cX11_restore 39 = .ok (.invokevirtual 323, 3) := by decide +kernel
theorem dX11_restore_42 : decode cX11_restore 42 = .ok (.lconst 1, 1) := by decide +kernel
theorem dX11_restore_43 : decode cX11_restore 43 = .ok (.lreturn, 1) := by decide +kernel
theorem dX11_kind_0 : decode cX11_kind 0 = .ok (.aload_n 0, 1) := by decide +kernel
theorem dX11_kind_1 : decode cX11_kind 1 = .ok (.iload_n 1, 1) := by decide +kernel
theorem dX11_kind_2 : decode cX11_kind 2 = .ok (.invokevirtual 159, 3) := by decide +kernel
theorem dX11_kind_5 : decode cX11_kind 5 = .ok (.ifCond .eq 18, 3) := by decide +kernel
theorem dX11_kind_8 : decode cX11_kind 8 = .ok (.aload_n 0, 1) := by decide +kernel
theorem dX11_kind_9 : decode cX11_kind 9 = .ok (.getfield 26, 3) := by decide +kernel
theorem dX11_kind_12 : decode cX11_kind 12 = .ok (.getfield 147, 3) := by decide +kernel
theorem dX11_kind_15 : decode cX11_kind 15 = .ok (.iload_n 1, 1) := by decide +kernel
theorem dX11_kind_16 : decode cX11_kind 16 = .ok (.invokevirtual 327, 3) := by decide +kernel
theorem dX11_kind_19 : decode cX11_kind 19 = .ok (.i2l, 1) := by decide +kernel
theorem dX11_kind_20 : decode cX11_kind 20 = .ok (.goto 6, 3) := by decide +kernel
theorem dX11_kind_23 : decode cX11_kind 23 = .ok (.ldc2_w 85, 3) := by decide +kernel
theorem dX11_kind_26 : decode cX11_kind 26 = .ok (.lreturn, 1) := by decide +kernel
theorem dX11_as_0 : decode cX11_as 0 = .ok (.aload_n 0, 1) := by decide +kernel
theorem dX11_as_1 : decode cX11_as 1 = .ok (.iload_n 1, 1) := by decide +kernel
theorem dX11_as_2 : decode cX11_as 2 = .ok (.invokevirtual 159, 3) := by decide +kernel
theorem dX11_as_5 : decode cX11_as 5 = .ok (.ifCond .eq 13, 3) := by decide +kernel
theorem dX11_as_8 : decode cX11_as 8 = .ok (.iload_n 2, 1) := by decide +kernel
theorem dX11_as_9 : decode cX11_as 9 = .ok (.iconst 0, 1) := by decide +kernel
theorem dX11_as_10 : decode cX11_as 10 = .ok (.bipush 6, 2) := by decide +kernel
theorem dX11_as_12 : decode cX11_as 12 = .ok (.invokestatic 81, 3) := by decide +kernel
theorem dX11_as_15 : decode cX11_as 15 = .ok (.ifCond .ne 7, 3) := by decide +kernel
theorem dX11_as_18 : decode cX11_as 18 = .ok (.ldc2_w 85, 3) := by decide +kernel
theorem dX11_as_21 : decode cX11_as 21 = .ok (.lreturn, 1) := by decide +kernel
theorem dX11_as_22 : decode cX11_as 22 = .ok (.aload_n 0, 1) := by decide +kernel
theorem dX11_as_23 : decode cX11_as 23 = .ok (.getfield 26, 3) := by decide +kernel
theorem dX11_as_26 : decode cX11_as 26 = .ok (.getfield 147, 3) := by decide +kernel
theorem dX11_as_29 : decode cX11_as 29 = .ok (.iload_n 1, 1) := by decide +kernel
theorem dX11_as_30 : decode cX11_as 30 = .ok (.iload_n 2, 1) := by decide +kernel
theorem dX11_as_31 : decode cX11_as 31 = .ok (.invokevirtual 162, 3) := by decide +kernel
theorem dX11_as_34 : decode cX11_as 34 = .ok (.ifCond .eq 12, 3) := by decide +kernel
theorem dX11_as_37 : decode cX11_as 37 = .ok (.aload_n 0, 1) := by decide +kernel
theorem dX11_as_38 : decode cX11_as 38 = .ok (.iload_n 1, 1) := by decide +kernel
theorem dX11_as_39 : decode cX11_as 39 = .ok (.i2l, 1) := by decide +kernel
theorem dX11_as_40 : decode cX11_as 40 = .ok (.invokevirtual 95, 3) := by decide +kernel
theorem dX11_as_43 : decode cX11_as 43 = .ok (.goto 8, 3) := by decide +kernel
theorem dX11_as_46 : decode cX11_as 46 = .ok (.aload_n 0, 1) := by decide +kernel
theorem dX11_as_47 : decode cX11_as 47 = .ok (.iconst 3, 1) := by decide +kernel
theorem dX11_as_48 : decode cX11_as 48 = .ok (.invokevirtual 87, 3) := by decide +kernel
theorem dX11_as_51 : decode cX11_as 51 = .ok (.lreturn, 1) := by decide +kernel
theorem dX11_ask_0 : decode cX11_ask 0 = .ok (.aload_n 0, 1) := by decide +kernel
theorem dX11_ask_1 : decode cX11_ask 1 = .ok (.iload_n 1, 1) := by decide +kernel
theorem dX11_ask_2 : decode cX11_ask 2 = .ok (.invokevirtual 159, 3) := by decide +kernel
theorem dX11_ask_5 : decode cX11_ask 5 = .ok (.ifCond .eq 12, 3) := by decide +kernel
theorem dX11_ask_8 : decode cX11_ask 8 = .ok (.iload_n 2, 1) := by decide +kernel
theorem dX11_ask_9 : decode cX11_ask 9 = .ok (.iconst 0, 1) := by decide +kernel
theorem dX11_ask_10 : decode cX11_ask 10 = .ok (.iconst 1, 1) := by decide +kernel
theorem dX11_ask_11 : decode cX11_ask 11 = .ok (.invokestatic 81, 3) := by decide +kernel
theorem dX11_ask_14 : decode cX11_ask 14 = .ok (.ifCond .ne 7, 3) := by decide +kernel
theorem dX11_ask_17 : decode cX11_ask 17 = .ok (.ldc2_w 85, 3) := by decide +kernel
theorem dX11_ask_20 : decode cX11_ask 20 = .ok (.lreturn, 1) := by decide +kernel
theorem dX11_ask_21 : decode cX11_ask 21 = .ok (.iload_n 2, 1) := by decide +kernel
theorem dX11_ask_22 : decode cX11_ask 22 = .ok (.ifCond .ne 22, 3) := by decide +kernel
theorem dX11_ask_25 : decode cX11_ask 25 = .ok (.aload_n 0, 1) := by decide +kernel
theorem dX11_ask_26 : decode cX11_ask 26 = .ok (.getfield 65, 3) := by decide +kernel
theorem dX11_ask_29 : decode cX11_ask 29 = .ok (.aload_n 0, 1) := by decide +kernel
theorem dX11_ask_30 : decode cX11_ask 30 = .ok (.getfield 26, 3) := by decide +kernel
theorem dX11_ask_33 : decode cX11_ask 33 = .ok (.getfield 147, 3) := by decide +kernel
theorem dX11_ask_36 : decode cX11_ask 36 = .ok (.iload_n 1, 1) := by decide +kernel
theorem dX11_ask_37 : decode cX11_ask 37 = .ok (.invokevirtual 330, 3) := by decide +kernel
theorem dX11_ask_40 : decode cX11_ask 40 = .ok (.i2l, 1) := by decide +kernel
theorem dX11_ask_41 : decode cX11_ask 41 = .ok (.goto 19, 3) := by decide +kernel
theorem dX11_ask_44 : decode cX11_ask 44 = .ok (.aload_n 0, 1) := by decide +kernel
theorem dX11_ask_45 : decode cX11_ask 45 = .ok (.getfield 65, 3) := by decide +kernel
theorem dX11_ask_48 : decode cX11_ask 48 = .ok (.aload_n 0, 1) := by decide +kernel
theorem dX11_ask_49 : decode cX11_ask 49 = .ok (.getfield 26, 3) := by decide +kernel
theorem dX11_ask_52 : decode cX11_ask 52 = .ok (.getfield 147, 3) := by decide +kernel
theorem dX11_ask_55 : decode cX11_ask 55 = .ok (.iload_n 1, 1) := by decide +kernel
theorem dX11_ask_56 : decode cX11_ask 56 = .ok (.invokevirtual 333, 3) := by decide +kernel
theorem dX11_ask_59 : decode cX11_ask 59 = .ok (.i2l, 1) := by decide +kernel
theorem dX11_ask_60 : decode cX11_ask 60 = .ok (.lreturn, 1) := by decide +kernel
theorem dX11_trace_0 : decode cX11_trace 0 = .ok (.aload_n 0, 1) := by decide +kernel
theorem dX11_trace_1 : decode cX11_trace 1 = .ok (.getfield 65, 3) := by decide +kernel
theorem dX11_trace_4 : decode cX11_trace 4 = .ok (.iload_n 1, 1) := by decide +kernel
theorem dX11_trace_5 : decode cX11_trace 5 = .ok (.invokevirtual 336, 3) := by decide +kernel
theorem dX11_trace_8 : decode cX11_trace 8 = .ok (.ireturn, 1) := by decide +kernel
theorem dX11_count_0 : decode cX11_count 0 = .ok (.iload_n 1, 1) := by decide +kernel
theorem dX11_count_1 : decode cX11_count 1 = .ok (.tableswitch 152 0 8 #[51, 60, 73, 86, 99, 112, 125, 137, 146], 51) := by decide +kernel
theorem dX11_count_52 : decode cX11_count 52 = .ok (.aload_n 0, 1) := by decide +kernel
theorem dX11_count_53 : decode cX11_count 53 = .ok (.getfield 12, 3) := by decide +kernel
theorem dX11_count_56 : decode cX11_count 56 = .ok (.invokevirtual 339, 3) := by decide +kernel
theorem dX11_count_59 : decode cX11_count 59 = .ok (.i2l, 1) := by decide +kernel
theorem dX11_count_60 : decode cX11_count 60 = .ok (.lreturn, 1) := by decide +kernel
theorem dX11_count_61 : decode cX11_count 61 = .ok (.aload_n 0, 1) := by decide +kernel
theorem dX11_count_62 : decode cX11_count 62 = .ok (.getfield 26, 3) := by decide +kernel
theorem dX11_count_65 : decode cX11_count 65 = .ok (.getfield 147, 3) := by decide +kernel
theorem dX11_count_68 : decode cX11_count 68 = .ok (.iconst 0, 1) := by decide +kernel
theorem dX11_count_69 : decode cX11_count 69 = .ok (.invokevirtual 153, 3) := by decide +kernel
theorem dX11_count_72 : decode cX11_count 72 = .ok (.i2l, 1) := by decide +kernel
theorem dX11_count_73 : decode cX11_count 73 = .ok (.lreturn, 1) := by decide +kernel
theorem dX11_count_74 : decode cX11_count 74 = .ok (.aload_n 0, 1) := by decide +kernel
theorem dX11_count_75 : decode cX11_count 75 = .ok (.getfield 26, 3) := by decide +kernel
theorem dX11_count_78 : decode cX11_count 78 = .ok (.getfield 147, 3) := by decide +kernel
theorem dX11_count_81 : decode cX11_count 81 = .ok (.iconst 1, 1) := by decide +kernel
theorem dX11_count_82 : decode cX11_count 82 = .ok (.invokevirtual 153, 3) := by decide +kernel
theorem dX11_count_85 : decode cX11_count 85 = .ok (.i2l, 1) := by decide +kernel
theorem dX11_count_86 : decode cX11_count 86 = .ok (.lreturn, 1) := by decide +kernel
theorem dX11_count_87 : decode cX11_count 87 = .ok (.aload_n 0, 1) := by decide +kernel
theorem dX11_count_88 : decode cX11_count 88 = .ok (.getfield 26, 3) := by decide +kernel
theorem dX11_count_91 : decode cX11_count 91 = .ok (.getfield 147, 3) := by decide +kernel
theorem dX11_count_94 : decode cX11_count 94 = .ok (.iconst 2, 1) := by decide +kernel
theorem dX11_count_95 : decode cX11_count 95 = .ok (.invokevirtual 153, 3) := by decide +kernel
theorem dX11_count_98 : decode cX11_count 98 = .ok (.i2l, 1) := by decide +kernel
theorem dX11_count_99 : decode cX11_count 99 = .ok (.lreturn, 1) := by decide +kernel
theorem dX11_count_100 : decode cX11_count 100 = .ok (.aload_n 0, 1) := by decide +kernel
theorem dX11_count_101 : decode cX11_count 101 = .ok (.getfield 26, 3) := by decide +kernel
theorem dX11_count_104 : decode cX11_count 104 = .ok (.getfield 147, 3) := by decide +kernel
theorem dX11_count_107 : decode cX11_count 107 = .ok (.iconst 3, 1) := by decide +kernel
theorem dX11_count_108 : decode cX11_count 108 = .ok (.invokevirtual 153, 3) := by decide +kernel
theorem dX11_count_111 : decode cX11_count 111 = .ok (.i2l, 1) := by decide +kernel
theorem dX11_count_112 : decode cX11_count 112 = .ok (.lreturn, 1) := by decide +kernel
theorem dX11_count_113 : decode cX11_count 113 = .ok (.aload_n 0, 1) := by decide +kernel
theorem dX11_count_114 : decode cX11_count 114 = .ok (.getfield 26, 3) := by decide +kernel
theorem dX11_count_117 : decode cX11_count 117 = .ok (.getfield 147, 3) := by decide +kernel
theorem dX11_count_120 : decode cX11_count 120 = .ok (.iconst 5, 1) := by decide +kernel
theorem dX11_count_121 : decode cX11_count 121 = .ok (.invokevirtual 153, 3) := by decide +kernel
theorem dX11_count_124 : decode cX11_count 124 = .ok (.i2l, 1) := by decide +kernel
theorem dX11_count_125 : decode cX11_count 125 = .ok (.lreturn, 1) := by decide +kernel
theorem dX11_count_126 : decode cX11_count 126 = .ok (.aload_n 0, 1) := by decide +kernel
theorem dX11_count_127 : decode cX11_count 127 = .ok (.getfield 26, 3) := by decide +kernel
theorem dX11_count_130 : decode cX11_count 130 = .ok (.getfield 147, 3) := by decide +kernel
theorem dX11_count_133 : decode cX11_count 133 = .ok (.invokevirtual 341, 3) := by decide +kernel
theorem dX11_count_136 : decode cX11_count 136 = .ok (.i2l, 1) := by decide +kernel
theorem dX11_count_137 : decode cX11_count 137 = .ok (.lreturn, 1) := by decide +kernel
theorem dX11_count_138 : decode cX11_count 138 = .ok (.aload_n 0, 1) := by decide +kernel
theorem dX11_count_139 : decode cX11_count 139 = .ok (.getfield 19, 3) := by decide +kernel
theorem dX11_count_142 : decode cX11_count 142 = .ok (.invokevirtual 124, 3) := by decide +kernel
theorem dX11_count_145 : decode cX11_count 145 = .ok (.i2l, 1) := by decide +kernel
theorem dX11_count_146 : decode cX11_count 146 = .ok (.lreturn, 1) := by decide +kernel
theorem dX11_count_147 : decode cX11_count 147 = .ok (.aload_n 0, 1) := by decide +kernel
theorem dX11_count_148 : decode cX11_count 148 = .ok (.invokevirtual 344, 3) := by decide +kernel
theorem dX11_count_151 : decode cX11_count 151 = .ok (.i2l, 1) := by decide +kernel
theorem dX11_count_152 : decode cX11_count 152 = .ok (.lreturn, 1) := by decide +kernel
theorem dX11_count_153 : decode cX11_count 153 = .ok (.ldc2_w 85, 3) := by decide +kernel
theorem dX11_count_156 : decode cX11_count 156 = .ok (.lreturn, 1) := by decide +kernel
theorem dX11_status_0 : decode cX11_status 0 = .ok (.aload_n 0, 1) := by decide +kernel
theorem dX11_status_1 : decode cX11_status 1 = .ok (.getfield 73, 3) := by decide +kernel
theorem dX11_status_4 : decode cX11_status 4 = .ok (.ireturn, 1) := by decide +kernel
theorem dX11_found_0 : decode cX11_found 0 = .ok (.aload_n 0, 1) := by decide +kernel
theorem dX11_found_1 : decode cX11_found 1 = .ok (.iload_n 1, 1) := by decide +kernel
theorem dX11_found_2 : decode cX11_found 2 = .ok (.putfield 73, 3) := by decide +kernel
theorem dX11_found_5 : decode cX11_found 5 = .ok (.ldc2_w 347, 3) := by decide +kernel
theorem dX11_found_8 : decode cX11_found 8 = .ok (.iload_n 1, 1) := by decide +kernel
theorem dX11_found_9 : decode cX11_found 9 = .ok (.i2l, 1) := by decide +kernel
theorem dX11_found_10 : decode cX11_found 10 = .ok (.lsub, 1) := by decide +kernel
theorem dX11_found_11 : decode cX11_found 11 = .ok (.lreturn, 1) := by decide +kernel
theorem dX11_fine_0 : decode cX11_fine 0 = .ok (.aload_n 0, 1) := by decide +kernel
theorem dX11_fine_1 : decode cX11_fine 1 = .ok (.iconst 0, 1) := by decide +kernel
theorem dX11_fine_2 : decode cX11_fine 2 = .ok (.putfield 73, 3) := by decide +kernel
theorem dX11_fine_5 : decode cX11_fine 5 = .ok (.lload_n 1, 1) := by decide +kernel
theorem dX11_fine_6 : decode cX11_fine 6 = .ok (.lreturn, 1) := by decide +kernel
theorem dX11_hasAct_0 : decode cX11_hasAct 0 = .ok (.aload_n 0, 1) := by decide +kernel
theorem dX11_hasAct_1 : decode cX11_hasAct 1 = .ok (.getfield 26, 3) := by decide +kernel
theorem dX11_hasAct_4 : decode cX11_hasAct 4 = .ok (.getfield 147, 3) := by decide +kernel
theorem dX11_hasAct_7 : decode cX11_hasAct 7 = .ok (.iconst 5, 1) := by decide +kernel
theorem dX11_hasAct_8 : decode cX11_hasAct 8 = .ok (.iload_n 1, 1) := by decide +kernel
theorem dX11_hasAct_9 : decode cX11_hasAct 9 = .ok (.invokevirtual 171, 3) := by decide +kernel
theorem dX11_hasAct_12 : decode cX11_hasAct 12 = .ok (.ireturn, 1) := by decide +kernel
theorem dX11_canThrow_0 : decode cX11_canThrow 0 = .ok (.iload_n 1, 1) := by decide +kernel
theorem dX11_canThrow_1 : decode cX11_canThrow 1 = .ok (.iconst 0, 1) := by decide +kernel
theorem dX11_canThrow_2 : decode cX11_canThrow 2 = .ok (.iconst 1, 1) := by decide +kernel
theorem dX11_canThrow_3 : decode cX11_canThrow 3 = .ok (.invokestatic 81, 3) := by decide +kernel
theorem dX11_canThrow_6 : decode cX11_canThrow 6 = .ok (.ifCond .eq 22, 3) := by decide +kernel
theorem dX11_canThrow_9 : decode cX11_canThrow 9 = .ok (.aload_n 0, 1) := by decide +kernel
theorem dX11_canThrow_10 : decode cX11_canThrow 10 = .ok (.getfield 26, 3) := by decide +kernel
theorem dX11_canThrow_13 : decode cX11_canThrow 13 = .ok (.getfield 147, 3) := by decide +kernel
theorem dX11_canThrow_16 : decode cX11_canThrow 16 = .ok (.iconst 2, 1) := by decide +kernel
theorem dX11_canThrow_17 : decode cX11_canThrow 17 = .ok (.iload_n 2, 1) := by decide +kernel
theorem dX11_canThrow_18 : decode cX11_canThrow 18 = .ok (.invokevirtual 171, 3) := by decide +kernel
theorem dX11_canThrow_21 : decode cX11_canThrow 21 = .ok (.ifCond .eq 7, 3) := by decide +kernel
theorem dX11_canThrow_24 : decode cX11_canThrow 24 = .ok (.iconst 1, 1) := by decide +kernel
theorem dX11_canThrow_25 : decode cX11_canThrow 25 = .ok (.goto 4, 3) := by decide +kernel
theorem dX11_canThrow_28 : decode cX11_canThrow 28 = .ok (.iconst 0, 1) := by decide +kernel
theorem dX11_canThrow_29 : decode cX11_canThrow 29 = .ok (.ireturn, 1) := by decide +kernel
theorem dX11_imagesKept_0 : decode cX11_imagesKept 0 = .ok (.iconst 0, 1) := by decide +kernel
theorem dX11_imagesKept_1 : decode cX11_imagesKept 1 = .ok (.istore_n 1, 1) := by decide +kernel
theorem dX11_imagesKept_2 : decode cX11_imagesKept 2 = .ok (.iconst 0, 1) := by decide +kernel
theorem dX11_imagesKept_3 : decode cX11_imagesKept 3 = .ok (.istore_n 2, 1) := by decide +kernel
theorem dX11_imagesKept_4 : decode cX11_imagesKept 4 = .ok (.iload_n 2, 1) := by decide +kernel
theorem dX11_imagesKept_5 : decode cX11_imagesKept 5 = .ok (.iconst 2, 1) := by decide +kernel
theorem dX11_imagesKept_6 : decode cX11_imagesKept 6 = .ok (.if_icmp .ge 24, 3) := by decide +kernel
theorem dX11_imagesKept_9 : decode cX11_imagesKept 9 = .ok (.aload_n 0, 1) := by decide +kernel
theorem dX11_imagesKept_10 : decode cX11_imagesKept 10 = .ok (.getfield 30, 3) := by decide +kernel
theorem dX11_imagesKept_13 : decode cX11_imagesKept 13 = .ok (.iload_n 2, 1) := by decide +kernel
theorem dX11_imagesKept_14 : decode cX11_imagesKept 14 = .ok (.aaload, 1) := by decide +kernel
theorem dX11_imagesKept_15 : decode cX11_imagesKept 15 = .ok (.getfield 179, 3) := by decide +kernel
theorem dX11_imagesKept_18 : decode cX11_imagesKept 18 = .ok (.ifCond .eq 6, 3) := by decide +kernel
theorem dX11_imagesKept_21 : decode cX11_imagesKept 21 = .ok (.iinc 1 1, 3) := by decide +kernel
theorem dX11_imagesKept_24 : decode cX11_imagesKept 24 = .ok (.iinc 2 1, 3) := by decide +kernel
theorem dX11_imagesKept_27 : decode cX11_imagesKept 27 = .ok (.goto (-23), 3) := by decide +kernel
theorem dX11_imagesKept_30 : decode cX11_imagesKept 30 = .ok (.iload_n 1, 1) := by decide +kernel
theorem dX11_imagesKept_31 : decode cX11_imagesKept 31 = .ok (.ireturn, 1) := by decide +kernel
theorem dX11_within_0 : decode cX11_within 0 = .ok (.iload_n 0, 1) := by decide +kernel
theorem dX11_within_1 : decode cX11_within 1 = .ok (.iload_n 1, 1) := by decide +kernel
theorem dX11_within_2 : decode cX11_within 2 = .ok (.if_icmp .lt 12, 3) := by decide +kernel
theorem dX11_within_5 : decode cX11_within 5 = .ok (.iload_n 0, 1) := by decide +kernel
theorem dX11_within_6 : decode cX11_within 6 = .ok (.iload_n 2, 1) := by decide +kernel
theorem dX11_within_7 : decode cX11_within 7 = .ok (.if_icmp .gt 7, 3) := by decide +kernel
theorem dX11_within_10 : decode cX11_within 10 = .ok (.iconst 1, 1) := by decide +kernel
theorem dX11_within_11 : decode cX11_within 11 = .ok (.goto 4, 3) := by decide +kernel
theorem dX11_within_14 : decode cX11_within 14 = .ok (.iconst 0, 1) := by decide +kernel
theorem dX11_within_15 : decode cX11_within 15 = .ok (.ireturn, 1) := by decide +kernel
theorem dX11_lowest_0 : decode cX11_lowest 0 = .ok (.lload_n 0, 1) := by decide +kernel
theorem dX11_lowest_1 : decode cX11_lowest 1 = .ok (.lload_n 2, 1) := by decide +kernel
theorem dX11_lowest_2 : decode cX11_lowest 2 = .ok (.invokestatic 349, 3) := by decide +kernel
theorem dX11_lowest_5 : decode cX11_lowest 5 = .ok (.lstore 5, 2) := by decide +kernel
theorem dX11_lowest_7 : decode cX11_lowest 7 = .ok (.lload 5, 2) := by decide +kernel
theorem dX11_lowest_9 : decode cX11_lowest 9 = .ok (.lconst 0, 1) := by decide +kernel
theorem dX11_lowest_10 : decode cX11_lowest 10 = .ok (.lcmp, 1) := by decide +kernel
theorem dX11_lowest_11 : decode cX11_lowest 11 = .ok (.ifCond .ne 5, 3) := by decide +kernel
theorem dX11_lowest_14 : decode cX11_lowest 14 = .ok (.lconst 0, 1) := by decide +kernel
theorem dX11_lowest_15 : decode cX11_lowest 15 = .ok (.lreturn, 1) := by decide +kernel
theorem dX11_lowest_16 : decode cX11_lowest 16 = .ok (.iload 4, 2) := by decide +kernel
theorem dX11_lowest_18 : decode cX11_lowest 18 = .ok (.ifCond .ne 7, 3) := by decide +kernel
theorem dX11_lowest_21 : decode cX11_lowest 21 = .ok (.lload_n 0, 1) := by decide +kernel
theorem dX11_lowest_22 : decode cX11_lowest 22 = .ok (.goto 4, 3) := by decide +kernel
theorem dX11_lowest_25 : decode cX11_lowest 25 = .ok (.lload_n 2, 1) := by decide +kernel
theorem dX11_lowest_26 : decode cX11_lowest 26 = .ok (.lload 5, 2) := by decide +kernel
theorem dX11_lowest_28 : decode cX11_lowest 28 = .ok (.ldiv, 1) := by decide +kernel
theorem dX11_lowest_29 : decode cX11_lowest 29 = .ok (.lreturn, 1) := by decide +kernel
theorem dX11_commonDivisor_0 : decode cX11_commonDivisor 0 = .ok (.lload_n 0, 1) := by decide +kernel
theorem dX11_commonDivisor_1 : decode cX11_commonDivisor 1 = .ok (.lstore 4, 2) := by decide +kernel
theorem dX11_commonDivisor_3 : decode cX11_commonDivisor 3 = .ok (.lload_n 2, 1) := by decide +kernel
theorem dX11_commonDivisor_4 : decode cX11_commonDivisor 4 = .ok (.lstore 6, 2) := by decide +kernel
theorem dX11_commonDivisor_6 : decode cX11_commonDivisor 6 = .ok (.iconst 0, 1) := by decide +kernel
theorem dX11_commonDivisor_7 : decode cX11_commonDivisor 7 = .ok (.istore 8, 2) := by decide +kernel
theorem dX11_commonDivisor_9 : decode cX11_commonDivisor 9 = .ok (.lload 6, 2) := by decide +kernel
theorem dX11_commonDivisor_11 : decode cX11_commonDivisor 11 = .ok (.lconst 0, 1) := by decide +kernel
theorem dX11_commonDivisor_12 : decode cX11_commonDivisor 12 = .ok (.lcmp, 1) := by decide +kernel
theorem dX11_commonDivisor_13 : decode cX11_commonDivisor 13 = .ok (.ifCond .eq 31, 3) := by decide +kernel
theorem dX11_commonDivisor_16 : decode cX11_commonDivisor 16 = .ok (.iload 8, 2) := by decide +kernel
theorem dX11_commonDivisor_18 : decode cX11_commonDivisor 18 = .ok (.bipush 100, 2) := by decide +kernel
theorem dX11_commonDivisor_20 : decode cX11_commonDivisor 20 = .ok (.if_icmp .ge 24, 3) := by decide +kernel
theorem dX11_commonDivisor_23 : decode cX11_commonDivisor 23 = .ok (.lload 4, 2) := by decide +kernel
theorem dX11_commonDivisor_25 : decode cX11_commonDivisor 25 = .ok (.lload 6, 2) := by decide +kernel
theorem dX11_commonDivisor_27 : decode cX11_commonDivisor 27 = .ok (.lrem, 1) := by decide +kernel
theorem dX11_commonDivisor_28 : decode cX11_commonDivisor 28 = .ok (.lstore 9, 2) := by decide +kernel
theorem dX11_commonDivisor_30 : decode cX11_commonDivisor 30 = .ok (.lload 6, 2) := by decide +kernel
theorem dX11_commonDivisor_32 : decode cX11_commonDivisor 32 = .ok (.lstore 4, 2) := by decide +kernel
theorem dX11_commonDivisor_34 : decode cX11_commonDivisor 34 = .ok (.lload 9, 2) := by decide +kernel
theorem dX11_commonDivisor_36 : decode cX11_commonDivisor 36 = .ok (.lstore 6, 2) := by decide +kernel
theorem dX11_commonDivisor_38 : decode cX11_commonDivisor 38 = .ok (.iinc 8 1, 3) := by decide +kernel
theorem dX11_commonDivisor_41 : decode cX11_commonDivisor 41 = .ok (.goto (-32), 3) := by decide +kernel
theorem dX11_commonDivisor_44 : decode cX11_commonDivisor 44 = .ok (.lload 4, 2) := by decide +kernel
theorem dX11_commonDivisor_46 : decode cX11_commonDivisor 46 = .ok (.lreturn, 1) := by decide +kernel
theorem dX12_init_0 : decode cX12_init 0 = .ok (.aload_n 0, 1) := by decide +kernel
theorem dX12_init_1 : decode cX12_init 1 = .ok (.invokespecial 3, 3) := by decide +kernel
theorem dX12_init_4 : decode cX12_init 4 = .ok (.aload_n 0, 1) := by decide +kernel
theorem dX12_init_5 : decode cX12_init 5 = .ok (.bipush 8, 2) := by decide +kernel
theorem dX12_init_7 : decode cX12_init 7 = .ok (.newarray .int, 2) := by decide +kernel
theorem dX12_init_9 : decode cX12_init 9 = .ok (.dup, 1) := by decide +kernel
theorem dX12_init_10 : decode cX12_init 10 = .ok (.iconst 0, 1) := by decide +kernel
theorem dX12_init_11 : decode cX12_init 11 = .ok (.iconst (-1), 1) := by decide +kernel
theorem dX12_init_12 : decode cX12_init 12 = .ok (.iastore, 1) := by decide +kernel
theorem dX12_init_13 : decode cX12_init 13 = .ok (.dup, 1) := by decide +kernel
theorem dX12_init_14 : decode cX12_init 14 = .ok (.iconst 1, 1) := by decide +kernel
theorem dX12_init_15 : decode cX12_init 15 = .ok (.iconst (-1), 1) := by decide +kernel
theorem dX12_init_16 : decode cX12_init 16 = .ok (.iastore, 1) := by decide +kernel
theorem dX12_init_17 : decode cX12_init 17 = .ok (.dup, 1) := by decide +kernel
theorem dX12_init_18 : decode cX12_init 18 = .ok (.iconst 2, 1) := by decide +kernel
theorem dX12_init_19 : decode cX12_init 19 = .ok (.iconst (-1), 1) := by decide +kernel
theorem dX12_init_20 : decode cX12_init 20 = .ok (.iastore, 1) := by decide +kernel
theorem dX12_init_21 : decode cX12_init 21 = .ok (.dup, 1) := by decide +kernel
theorem dX12_init_22 : decode cX12_init 22 = .ok (.iconst 3, 1) := by decide +kernel
theorem dX12_init_23 : decode cX12_init 23 = .ok (.iconst (-1), 1) := by decide +kernel
theorem dX12_init_24 : decode cX12_init 24 = .ok (.iastore, 1) := by decide +kernel
theorem dX12_init_25 : decode cX12_init 25 = .ok (.dup, 1) := by decide +kernel
theorem dX12_init_26 : decode cX12_init 26 = .ok (.iconst 4, 1) := by decide +kernel
theorem dX12_init_27 : decode cX12_init 27 = .ok (.iconst (-1), 1) := by decide +kernel
theorem dX12_init_28 : decode cX12_init 28 = .ok (.iastore, 1) := by decide +kernel
theorem dX12_init_29 : decode cX12_init 29 = .ok (.dup, 1) := by decide +kernel
theorem dX12_init_30 : decode cX12_init 30 = .ok (.iconst 5, 1) := by decide +kernel
theorem dX12_init_31 : decode cX12_init 31 = .ok (.iconst (-1), 1) := by decide +kernel
theorem dX12_init_32 : decode cX12_init 32 = .ok (.iastore, 1) := by decide +kernel
theorem dX12_init_33 : decode cX12_init 33 = .ok (.dup, 1) := by decide +kernel
theorem dX12_init_34 : decode cX12_init 34 = .ok (.bipush 6, 2) := by decide +kernel
theorem dX12_init_36 : decode cX12_init 36 = .ok (.iconst (-1), 1) := by decide +kernel
theorem dX12_init_37 : decode cX12_init 37 = .ok (.iastore, 1) := by decide +kernel
theorem dX12_init_38 : decode cX12_init 38 = .ok (.dup, 1) := by decide +kernel
theorem dX12_init_39 : decode cX12_init 39 = .ok (.bipush 7, 2) := by decide +kernel
theorem dX12_init_41 : decode cX12_init 41 = .ok (.iconst (-1), 1) := by decide +kernel
theorem dX12_init_42 : decode cX12_init 42 = .ok (.iastore, 1) := by decide +kernel
theorem dX12_init_43 : decode cX12_init 43 = .ok (.putfield 9, 3) := by decide +kernel
theorem dX12_init_46 : decode cX12_init 46 = .ok (.aload_n 0, 1) := by decide +kernel
theorem dX12_init_47 : decode cX12_init 47 = .ok (.bipush 8, 2) := by decide +kernel
theorem dX12_init_49 : decode cX12_init 49 = .ok (.newarray .int, 2) := by decide +kernel
theorem dX12_init_51 : decode cX12_init 51 = .ok (.putfield 13, 3) := by decide +kernel
theorem dX12_init_54 : decode cX12_init 54 = .ok (.aload_n 0, 1) := by decide +kernel
theorem dX12_init_55 : decode cX12_init 55 = .ok (.sipush 320, 3) := by decide +kernel
theorem dX12_init_58 : decode cX12_init 58 = .ok (.newarray .int, 2) := by decide +kernel
theorem dX12_init_60 : decode cX12_init 60 = .ok (.putfield 16, 3) := by decide +kernel
theorem dX12_init_63 : decode cX12_init 63 = .ok (.aload_n 0, 1) := by decide +kernel
theorem dX12_init_64 : decode cX12_init 64 = .ok (.sipush 172, 3) := by decide +kernel
theorem dX12_init_67 : decode cX12_init 67 = .ok (.newarray .int, 2) := by decide +kernel
theorem dX12_init_69 : decode cX12_init 69 = .ok (.putfield 19, 3) := by decide +kernel
theorem dX12_init_72 : decode cX12_init 72 = .ok (.aload_n 0, 1) := by decide +kernel
theorem dX12_init_73 : decode cX12_init 73 = .ok (.sipush 172, 3) := by decide +kernel
theorem dX12_init_76 : decode cX12_init 76 = .ok (.newarray .int, 2) := by decide +kernel
theorem dX12_init_78 : decode cX12_init 78 = .ok (.putfield 22, 3) := by decide +kernel
theorem dX12_init_81 : decode cX12_init 81 = .ok (.aload_n 0, 1) := by decide +kernel
theorem dX12_init_82 : decode cX12_init 82 = .ok (.sipush 600, 3) := by decide +kernel
theorem dX12_init_85 : decode cX12_init 85 = .ok (.newarray .int, 2) := by decide +kernel
theorem dX12_init_87 : decode cX12_init 87 = .ok (.putfield 25, 3) := by decide +kernel
theorem dX12_init_90 : decode cX12_init 90 = .ok (.aload_n 0, 1) := by decide +kernel
theorem dX12_init_91 : decode cX12_init 91 = .ok (.ldc 28, 2) := by decide +kernel
theorem dX12_init_93 : decode cX12_init 93 = .ok (.putfield 29, 3) := by decide +kernel
theorem dX12_init_96 : decode cX12_init 96 = .ok (.aload_n 0, 1) := by decide +kernel
theorem dX12_init_97 : decode cX12_init 97 = .ok (.bipush 7, 2) := by decide +kernel
theorem dX12_init_99 : decode cX12_init 99 = .ok (.newarray .int, 2) := by decide +kernel
theorem dX12_init_101 : decode cX12_init 101 = .ok (.putfield 33, 3) := by decide +kernel
theorem dX12_init_104 : decode cX12_init 104 = .ok (.aload_n 0, 1) := by decide +kernel
theorem dX12_init_105 : decode cX12_init 105 = .ok (.bipush 42, 2) := by decide +kernel
theorem dX12_init_107 : decode cX12_init 107 = .ok (.newarray .int, 2) := by decide +kernel
theorem dX12_init_109 : decode cX12_init 109 = .ok (.putfield 36, 3) := by decide +kernel
theorem dX12_init_112 : decode cX12_init 112 = .ok (.aload_n 0, 1) := by decide +kernel
theorem dX12_init_113 : decode cX12_init 113 = .ok (.bipush 6, 2) := by decide +kernel
theorem dX12_init_115 : decode cX12_init 115 = .ok (.newarray .int, 2) := by decide +kernel
theorem dX12_init_117 : decode cX12_init 117 = .ok (.putfield 39, 3) := by decide +kernel
theorem dX12_init_120 : decode cX12_init 120 = .ok (.aload_n 0, 1) := by decide +kernel
theorem dX12_init_121 : decode cX12_init 121 = .ok (.bipush 6, 2) := by decide +kernel
theorem dX12_init_123 : decode cX12_init 123 = .ok (.newarray .int, 2) := by decide +kernel
theorem dX12_init_125 : decode cX12_init 125 = .ok (.putfield 42, 3) := by decide +kernel
theorem dX12_init_128 : decode cX12_init 128 = .ok (.aload_n 0, 1) := by decide +kernel
theorem dX12_init_129 : decode cX12_init 129 = .ok (.bipush 6, 2) := by decide +kernel
theorem dX12_init_131 : decode cX12_init 131 = .ok (.newarray .int, 2) := by decide +kernel
theorem dX12_init_133 : decode cX12_init 133 = .ok (.putfield 45, 3) := by decide +kernel
theorem dX12_init_136 : decode cX12_init 136 = .ok (.aload_n 0, 1) := by decide +kernel
theorem dX12_init_137 : decode cX12_init 137 = .ok (.iconst 5, 1) := by decide +kernel
theorem dX12_init_138 : decode cX12_init 138 = .ok (.newarray .int, 2) := by decide +kernel
theorem dX12_init_140 : decode cX12_init 140 = .ok (.putfield 48, 3) := by decide +kernel
theorem dX12_init_143 : decode cX12_init 143 = .ok (.aload_n 0, 1) := by decide +kernel
theorem dX12_init_144 : decode cX12_init 144 = .ok (.ldc 51, 2) := by decide +kernel
theorem dX12_init_146 : decode cX12_init 146 = .ok (.newarray .boolean, 2) := by decide +kernel
theorem dX12_init_148 : decode cX12_init 148 = .ok (.putfield 52, 3) := by decide +kernel
theorem dX12_init_151 : decode cX12_init 151 = .ok (.aload_n 0, 1) := by decide +kernel
theorem dX12_init_152 : decode cX12_init 152 = .ok (.ldc 51, 2) := by decide +kernel
theorem dX12_init_154 : decode cX12_init 154 = .ok (.newarray .boolean, 2) := by decide +kernel
theorem dX12_init_156 : decode cX12_init 156 = .ok (.putfield 56, 3) := by decide +kernel
theorem dX12_init_159 : decode cX12_init 159 = .ok (.aload_n 0, 1) := by decide +kernel
theorem dX12_init_160 : decode cX12_init 160 = .ok (.bipush 7, 2) := by decide +kernel
theorem dX12_init_162 : decode cX12_init 162 = .ok (.newarray .int, 2) := by decide +kernel
theorem dX12_init_164 : decode cX12_init 164 = .ok (.putfield 59, 3) := by decide +kernel
theorem dX12_init_167 : decode cX12_init 167 = .ok (.aload_n 0, 1) := by decide +kernel
theorem dX12_init_168 : decode cX12_init 168 = .ok (.bipush 6, 2) := by decide +kernel
theorem dX12_init_170 : decode cX12_init 170 = .ok (.newarray .int, 2) := by decide +kernel
theorem dX12_init_172 : decode cX12_init 172 = .ok (.putfield 62, 3) := by decide +kernel
theorem dX12_init_175 : decode cX12_init 175 = .ok (.aload_n 0, 1) := by decide +kernel
theorem dX12_init_176 : decode cX12_init 176 = .ok (.bipush 101, 2) := by decide +kernel
theorem dX12_init_178 : decode cX12_init 178 = .ok (.newarray .int, 2) := by decide +kernel
theorem dX12_init_180 : decode cX12_init 180 = .ok (.putfield 65, 3) := by decide +kernel
theorem dX12_init_183 : decode cX12_init 183 = .ok (.aload_n 0, 1) := by decide +kernel
theorem dX12_init_184 : decode cX12_init 184 = .ok (.iconst 2, 1) := by decide +kernel
theorem dX12_init_185 : decode cX12_init 185 = .ok (.newarray .boolean, 2) := by decide +kernel
theorem dX12_init_187 : decode cX12_init 187 = .ok (.putfield 68, 3) := by decide +kernel
theorem dX12_init_190 : decode cX12_init 190 = .ok (.aload_n 0, 1) := by decide +kernel
theorem dX12_init_191 : decode cX12_init 191 = .ok (.sipush 344, 3) := by decide +kernel
theorem dX12_init_194 : decode cX12_init 194 = .ok (.newarray .int, 2) := by decide +kernel
theorem dX12_init_196 : decode cX12_init 196 = .ok (.putfield 71, 3) := by decide +kernel
theorem dX12_init_199 : decode cX12_init 199 = .ok (.aload_n 0, 1) := by decide +kernel
theorem dX12_init_200 : decode cX12_init 200 = .ok (.bipush 14, 2) := by decide +kernel
theorem dX12_init_202 : decode cX12_init 202 = .ok (.newarray .int, 2) := by decide +kernel
theorem dX12_init_204 : decode cX12_init 204 = .ok (.putfield 74, 3) := by decide +kernel
theorem dX12_init_207 : decode cX12_init 207 = .ok (.aload_n 0, 1) := by decide +kernel
theorem dX12_init_208 : decode cX12_init 208 = .ok (.iconst 2, 1) := by decide +kernel
theorem dX12_init_209 : decode cX12_init 209 = .ok (.newarray .int, 2) := by decide +kernel
theorem dX12_init_211 : decode cX12_init 211 = .ok (.putfield 77, 3) := by decide +kernel
theorem dX12_init_214 : decode cX12_init 214 = .ok (.aload_n 0, 1) := by decide +kernel
theorem dX12_init_215 : decode cX12_init 215 = .ok (.iconst 2, 1) := by decide +kernel
theorem dX12_init_216 : decode cX12_init 216 = .ok (.newarray .int, 2) := by decide +kernel
theorem dX12_init_218 : decode cX12_init 218 = .ok (.putfield 80, 3) := by decide +kernel
theorem dX12_init_221 : decode cX12_init 221 = .ok (.aload_n 0, 1) := by decide +kernel
theorem dX12_init_222 : decode cX12_init 222 = .ok (.bipush 16, 2) := by decide +kernel
theorem dX12_init_224 : decode cX12_init 224 = .ok (.newarray .int, 2) := by decide +kernel
theorem dX12_init_226 : decode cX12_init 226 = .ok (.putfield 83, 3) := by decide +kernel
theorem dX12_init_229 : decode cX12_init 229 = .ok (.return_, 1) := by decide +kernel
theorem dX12_in_0 : decode cX12_in 0 = .ok (.lload_n 0, 1) := by decide +kernel
theorem dX12_in_1 : decode cX12_in 1 = .ok (.lload_n 2, 1) := by decide +kernel
theorem dX12_in_2 : decode cX12_in 2 = .ok (.lcmp, 1) := by decide +kernel
theorem dX12_in_3 : decode cX12_in 3 = .ok (.ifCond .lt 14, 3) := by decide +kernel
theorem dX12_in_6 : decode cX12_in 6 = .ok (.lload_n 0, 1) := by decide +kernel
theorem dX12_in_7 : decode cX12_in 7 = .ok (.lload 4, 2) := by decide +kernel
theorem dX12_in_9 : decode cX12_in 9 = .ok (.lcmp, 1) := by decide +kernel
theorem dX12_in_10 : decode cX12_in 10 = .ok (.ifCond .gt 7, 3) := by decide +kernel
theorem dX12_in_13 : decode cX12_in 13 = .ok (.iconst 1, 1) := by decide +kernel
theorem dX12_in_14 : decode cX12_in 14 = .ok (.goto 4, 3) := by decide +kernel
theorem dX12_in_17 : decode cX12_in 17 = .ok (.iconst 0, 1) := by decide +kernel
theorem dX12_in_18 : decode cX12_in 18 = .ok (.ireturn, 1) := by decide +kernel
theorem dX12_finding_0 : decode cX12_finding 0 = .ok (.aload_n 0, 1) := by decide +kernel
theorem dX12_finding_1 : decode cX12_finding 1 = .ok (.iload_n 1, 1) := by decide +kernel
theorem dX12_finding_2 : decode cX12_finding 2 = .ok (.putfield 89, 3) := by decide +kernel
theorem dX12_finding_5 : decode cX12_finding 5 = .ok (.ldc2_w 92, 3) := by decide +kernel
theorem dX12_finding_8 : decode cX12_finding 8 = .ok (.iload_n 1, 1) := by decide +kernel
theorem dX12_finding_9 : decode cX12_finding 9 = .ok (.i2l, 1) := by decide +kernel
theorem dX12_finding_10 : decode cX12_finding 10 = .ok (.lsub, 1) := by decide +kernel
theorem dX12_finding_11 : decode cX12_finding 11 = .ok (.lreturn, 1) := by decide +kernel
theorem dX12_isRow_0 : decode cX12_isRow 0 = .ok (.iload_n 0, 1) := by decide +kernel
theorem dX12_isRow_1 : decode cX12_isRow 1 = .ok (.i2l, 1) := by decide +kernel
theorem dX12_isRow_2 : decode cX12_isRow 2 = .ok (.lconst 0, 1) := by decide +kernel
theorem dX12_isRow_3 : decode cX12_isRow 3 = .ok (.ldc2_w 94, 3) := by decide +kernel
theorem dX12_isRow_6 : decode cX12_isRow 6 = .ok (.invokestatic 96, 3) := by decide +kernel
theorem dX12_isRow_9 : decode cX12_isRow 9 = .ok (.ireturn, 1) := by decide +kernel
theorem dX12_row_0 : decode cX12_row 0 = .ok (.aload_n 0, 1) := by decide +kernel
theorem dX12_row_1 : decode cX12_row 1 = .ok (.iconst 0, 1) := by decide +kernel
theorem dX12_row_2 : decode cX12_row 2 = .ok (.putfield 86, 3) := by decide +kernel
theorem dX12_row_5 : decode cX12_row 5 = .ok (.iload_n 1, 1) := by decide +kernel
theorem dX12_row_6 : decode cX12_row 6 = .ok (.invokestatic 100, 3) := by decide +kernel
theorem dX12_row_9 : decode cX12_row 9 = .ok (.ifCond .eq 21, 3) := by decide +kernel
theorem dX12_row_12 : decode cX12_row 12 = .ok (.iload_n 2, 1) := by decide +kernel
theorem dX12_row_13 : decode cX12_row 13 = .ok (.i2l, 1) := by decide +kernel
theorem dX12_row_14 : decode cX12_row 14 = .ok (.lconst 0, 1) := by decide +kernel
theorem dX12_row_15 : decode cX12_row 15 = .ok (.ldc2_w 104, 3) := by decide +kernel
theorem dX12_row_18 : decode cX12_row 18 = .ok (.invokestatic 96, 3) := by decide +kernel
theorem dX12_row_21 : decode cX12_row 21 = .ok (.ifCond .eq 9, 3) := by decide +kernel
theorem dX12_row_24 : decode cX12_row 24 = .ok (.iload_n 3, 1) := by decide +kernel
theorem dX12_row_25 : decode cX12_row 25 = .ok (.bipush 40, 2) := by decide +kernel
theorem dX12_row_27 : decode cX12_row 27 = .ok (.if_icmp .le 7, 3) := by decide +kernel
theorem dX12_row_30 : decode cX12_row 30 = .ok (.ldc2_w 106, 3) := by decide +kernel
theorem dX12_row_33 : decode cX12_row 33 = .ok (.lreturn, 1) := by decide +kernel
theorem dX12_row_34 : decode cX12_row 34 = .ok (.aload_n 0, 1) := by decide +kernel
theorem dX12_row_35 : decode cX12_row 35 = .ok (.iconst 0, 1) := by decide +kernel
theorem dX12_row_36 : decode cX12_row 36 = .ok (.putfield 89, 3) := by decide +kernel
theorem dX12_row_39 : decode cX12_row 39 = .ok (.iload_n 3, 1) := by decide +kernel
theorem dX12_row_40 : decode cX12_row 40 = .ok (.ifCond .ge 9, 3) := by decide +kernel
theorem dX12_row_43 : decode cX12_row 43 = .ok (.aload_n 0, 1) := by decide +kernel
theorem dX12_row_44 : decode cX12_row 44 = .ok (.iconst 4, 1) := by decide +kernel
theorem dX12_row_45 : decode cX12_row 45 = .ok (.invokevirtual 108, 3) := by decide +kernel
theorem dX12_row_48 : decode cX12_row 48 = .ok (.lreturn, 1) := by decide +kernel
theorem dX12_row_49 : decode cX12_row 49 = .ok (.aload_n 0, 1) := by decide +kernel
theorem dX12_row_50 : decode cX12_row 50 = .ok (.getfield 9, 3) := by decide +kernel
theorem dX12_row_53 : decode cX12_row 53 = .ok (.iload_n 1, 1) := by decide +kernel
theorem dX12_row_54 : decode cX12_row 54 = .ok (.iload_n 2, 1) := by decide +kernel
theorem dX12_row_55 : decode cX12_row 55 = .ok (.iastore, 1) := by decide +kernel
theorem dX12_row_56 : decode cX12_row 56 = .ok (.aload_n 0, 1) := by decide +kernel
theorem dX12_row_57 : decode cX12_row 57 = .ok (.getfield 13, 3) := by decide +kernel
theorem dX12_row_60 : decode cX12_row 60 = .ok (.iload_n 1, 1) := by decide +kernel
theorem dX12_row_61 : decode cX12_row 61 = .ok (.iload_n 3, 1) := by decide +kernel
theorem dX12_row_62 : decode cX12_row 62 = .ok (.iastore, 1) := by decide +kernel
theorem dX12_row_63 : decode cX12_row 63 = .ok (.iconst 0, 1) := by decide +kernel
theorem dX12_row_64 : decode cX12_row 64 = .ok (.istore 4, 2) := by decide +kernel
theorem dX12_row_66 : decode cX12_row 66 = .ok (.iload 4, 2) := by decide +kernel
theorem dX12_row_68 : decode cX12_row 68 = .ok (.bipush 40, 2) := by decide +kernel
theorem dX12_row_70 : decode cX12_row 70 = .ok (.if_icmp .ge 22, 3) := by decide +kernel
theorem dX12_row_73 : decode cX12_row 73 = .ok (.aload_n 0, 1) := by decide +kernel
theorem dX12_row_74 : decode cX12_row 74 = .ok (.getfield 16, 3) := by decide +kernel
theorem dX12_row_77 : decode cX12_row 77 = .ok (.bipush 40, 2) := by decide +kernel
theorem dX12_row_79 : decode cX12_row 79 = .ok (.iload_n 1, 1) := by decide +kernel
theorem dX12_row_80 : decode cX12_row 80 = .ok (.imul, 1) := by decide +kernel
theorem dX12_row_81 : decode cX12_row 81 = .ok (.iload 4, 2) := by decide +kernel
theorem dX12_row_83 : decode cX12_row 83 = .ok (.iadd, 1) := by decide +kernel
theorem dX12_row_84 : decode cX12_row 84 = .ok (.iconst 0, 1) := by decide +kernel
theorem dX12_row_85 : decode cX12_row 85 = .ok (.iastore, 1) := by decide +kernel
theorem dX12_row_86 : decode cX12_row 86 = .ok (.iinc 4 1, 3) := by decide +kernel
theorem dX12_row_89 : decode cX12_row 89 = .ok (.goto (-23), 3) := by decide +kernel
theorem dX12_row_92 : decode cX12_row 92 = .ok (.iload_n 3, 1) := by decide +kernel
theorem dX12_row_93 : decode cX12_row 93 = .ok (.i2l, 1) := by decide +kernel
theorem dX12_row_94 : decode cX12_row 94 = .ok (.lreturn, 1) := by decide +kernel
theorem dX12_set_0 : decode cX12_set 0 = .ok (.aload_n 0, 1) := by decide +kernel
theorem dX12_set_1 : decode cX12_set 1 = .ok (.iconst 0, 1) := by decide +kernel
theorem dX12_set_2 : decode cX12_set 2 = .ok (.putfield 86, 3) := by decide +kernel
theorem dX12_set_5 : decode cX12_set 5 = .ok (.iload_n 1, 1) := by decide +kernel
theorem dX12_set_6 : decode cX12_set 6 = .ok (.invokestatic 100, 3) := by decide +kernel
theorem dX12_set_9 : decode cX12_set 9 = .ok (.ifCond .ne 7, 3) := by decide +kernel
theorem dX12_set_12 : decode cX12_set 12 = .ok (.ldc2_w 106, 3) := by decide +kernel
theorem dX12_set_15 : decode cX12_set 15 = .ok (.lreturn, 1) := by decide +kernel
theorem dX12_set_16 : decode cX12_set 16 = .ok (.aload_n 0, 1) := by decide +kernel
theorem dX12_set_17 : decode cX12_set 17 = .ok (.iconst 0, 1) := by decide +kernel
theorem dX12_set_18 : decode cX12_set 18 = .ok (.putfield 89, 3) := by decide +kernel
theorem dX12_set_21 : decode cX12_set 21 = .ok (.aload_n 0, 1) := by decide +kernel
theorem dX12_set_22 : decode cX12_set 22 = .ok (.getfield 9, 3) := by decide +kernel
theorem dX12_set_25 : decode cX12_set 25 = .ok (.iload_n 1, 1) := by decide +kernel
theorem dX12_set_26 : decode cX12_set 26 = .ok (.iaload, 1) := by decide +kernel
theorem dX12_set_27 : decode cX12_set 27 = .ok (.ifCond .ge 9, 3) := by decide +kernel
theorem dX12_set_30 : decode cX12_set 30 = .ok (.aload_n 0, 1) := by decide +kernel
theorem dX12_set_31 : decode cX12_set 31 = .ok (.iconst 1, 1) := by decide +kernel
theorem dX12_set_32 : decode cX12_set 32 = .ok (.invokevirtual 108, 3) := by decide +kernel
theorem dX12_set_35 : decode cX12_set 35 = .ok (.lreturn, 1) := by decide +kernel
theorem dX12_set_36 : decode cX12_set 36 = .ok (.iload_n 2, 1) := by decide +kernel
theorem dX12_set_37 : decode cX12_set 37 = .ok (.i2l, 1) := by decide +kernel
theorem dX12_set_38 : decode cX12_set 38 = .ok (.lconst 0, 1) := by decide +kernel
theorem dX12_set_39 : decode cX12_set 39 = .ok (.aload_n 0, 1) := by decide +kernel
theorem dX12_set_40 : decode cX12_set 40 = .ok (.getfield 13, 3) := by decide +kernel
theorem dX12_set_43 : decode cX12_set 43 = .ok (.iload_n 1, 1) := by decide +kernel
theorem dX12_set_44 : decode cX12_set 44 = .ok (.iaload, 1) := by decide +kernel
theorem dX12_set_45 : decode cX12_set 45 = .ok (.iconst 1, 1) := by decide +kernel
theorem dX12_set_46 : decode cX12_set 46 = .ok (.isub, 1) := by decide +kernel
theorem dX12_set_47 : decode cX12_set 47 = .ok (.i2l, 1) := by decide +kernel
theorem dX12_set_48 : decode cX12_set 48 = .ok (.invokestatic 96, 3) := by decide +kernel
theorem dX12_set_51 : decode cX12_set 51 = .ok (.ifCond .ne 9, 3) := by decide +kernel
theorem dX12_set_54 : decode cX12_set 54 = .ok (.aload_n 0, 1) := by decide +kernel
theorem dX12_set_55 : decode cX12_set 55 = .ok (.iconst 2, 1) := by decide +kernel
theorem dX12_set_56 : decode cX12_set 56 = .ok (.invokevirtual 108, 3) := by decide +kernel
theorem dX12_set_59 : decode cX12_set 59 = .ok (.lreturn, 1) := by decide +kernel
theorem dX12_set_60 : decode cX12_set 60 = .ok (.aload_n 0, 1) := by decide +kernel
theorem dX12_set_61 : decode cX12_set 61 = .ok (.getfield 16, 3) := by decide +kernel
theorem dX12_set_64 : decode cX12_set 64 = .ok (.bipush 40, 2) := by decide +kernel
theorem dX12_set_66 : decode cX12_set 66 = .ok (.iload_n 1, 1) := by decide +kernel
theorem dX12_set_67 : decode cX12_set 67 = .ok (.imul, 1) := by decide +kernel
theorem dX12_set_68 : decode cX12_set 68 = .ok (.iload_n 2, 1) := by decide +kernel
theorem dX12_set_69 : decode cX12_set 69 = .ok (.iadd, 1) := by decide +kernel
theorem dX12_set_70 : decode cX12_set 70 = .ok (.aload_n 0, 1) := by decide +kernel
theorem dX12_set_71 : decode cX12_set 71 = .ok (.getfield 9, 3) := by decide +kernel
theorem dX12_set_74 : decode cX12_set 74 = .ok (.iload_n 1, 1) := by decide +kernel
theorem dX12_set_75 : decode cX12_set 75 = .ok (.iaload, 1) := by decide +kernel
theorem dX12_set_76 : decode cX12_set 76 = .ok (.ifCond .ne 8, 3) := by decide +kernel
theorem dX12_set_79 : decode cX12_set 79 = .ok (.iload_n 3, 1) := by decide +kernel
theorem dX12_set_80 : decode cX12_set 80 = .ok (.i2b, 1) := by decide +kernel
theorem dX12_set_81 : decode cX12_set 81 = .ok (.goto 19, 3) := by decide +kernel
theorem dX12_set_84 : decode cX12_set 84 = .ok (.aload_n 0, 1) := by decide +kernel
theorem dX12_set_85 : decode cX12_set 85 = .ok (.getfield 9, 3) := by decide +kernel
theorem dX12_set_88 : decode cX12_set 88 = .ok (.iload_n 1, 1) := by decide +kernel
theorem dX12_set_89 : decode cX12_set 89 = .ok (.iaload, 1) := by decide +kernel
theorem dX12_set_90 : decode cX12_set 90 = .ok (.iconst 1, 1) := by decide +kernel
theorem dX12_set_91 : decode cX12_set 91 = .ok (.if_icmp .ne 8, 3) := by decide +kernel
theorem dX12_set_94 : decode cX12_set 94 = .ok (.iload_n 3, 1) := by decide +kernel
theorem dX12_set_95 : decode cX12_set 95 = .ok (.i2s, 1) := by decide +kernel
theorem dX12_set_96 : decode cX12_set 96 = .ok (.goto 4, 3) := by decide +kernel
theorem dX12_set_99 : decode cX12_set 99 = .ok (.iload_n 3, 1) := by decide +kernel
theorem dX12_set_100 : decode cX12_set 100 = .ok (.iastore, 1) := by decide +kernel
theorem dX12_set_101 : decode cX12_set 101 = .ok (.aload_n 0, 1) := by decide +kernel
