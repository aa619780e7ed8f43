theorem dX8_init_0 : decode cX8_init 0 = .ok (.aload_n 0, 1) := by decide +kernel
theorem dX8_init_1 : decode cX8_init 1 = .ok (.invokespecial 1, 3) := by decide +kernel
theorem dX8_init_4 : decode cX8_init 4 = .ok (.aload_n 0, 1) := by decide +kernel
theorem dX8_init_5 : decode cX8_init 5 = .ok (.bipush 15, 2) := by decide +kernel
theorem dX8_init_7 : decode cX8_init 7 = .ok (.newarray .int, 2) := by decide +kernel
theorem dX8_init_9 : decode cX8_init 9 = .ok (.putfield 7, 3) := by decide +kernel
theorem dX8_init_12 : decode cX8_init 12 = .ok (.aload_n 0, 1) := by decide +kernel
theorem dX8_init_13 : decode cX8_init 13 = .ok (.bipush 15, 2) := by decide +kernel
theorem dX8_init_15 : decode cX8_init 15 = .ok (.newarray .int, 2) := by decide +kernel
theorem dX8_init_17 : decode cX8_init 17 = .ok (.putfield 13, 3) := by decide +kernel
theorem dX8_init_20 : decode cX8_init 20 = .ok (.aload_n 0, 1) := by decide +kernel
theorem dX8_init_21 : decode cX8_init 21 = .ok (.bipush 75, 2) := by decide +kernel
theorem dX8_init_23 : decode cX8_init 23 = .ok (.newarray .int, 2) := by decide +kernel
theorem dX8_init_25 : decode cX8_init 25 = .ok (.putfield 16, 3) := by decide +kernel
theorem dX8_init_28 : decode cX8_init 28 = .ok (.aload_n 0, 1) := by decide +kernel
theorem dX8_init_29 : decode cX8_init 29 = .ok (.iconst 3, 1) := by decide +kernel
theorem dX8_init_30 : decode cX8_init 30 = .ok (.newarray .int, 2) := by decide +kernel
theorem dX8_init_32 : decode cX8_init 32 = .ok (.putfield 19, 3) := by decide +kernel
theorem dX8_init_35 : decode cX8_init 35 = .ok (.aload_n 0, 1) := by decide +kernel
theorem dX8_init_36 : decode cX8_init 36 = .ok (.bipush 120, 2) := by decide +kernel
theorem dX8_init_38 : decode cX8_init 38 = .ok (.newarray .int, 2) := by decide +kernel
theorem dX8_init_40 : decode cX8_init 40 = .ok (.putfield 22, 3) := by decide +kernel
theorem dX8_init_43 : decode cX8_init 43 = .ok (.aload_n 0, 1) := by decide +kernel
theorem dX8_init_44 : decode cX8_init 44 = .ok (.bipush 8, 2) := by decide +kernel
theorem dX8_init_46 : decode cX8_init 46 = .ok (.newarray .int, 2) := by decide +kernel
theorem dX8_init_48 : decode cX8_init 48 = .ok (.putfield 25, 3) := by decide +kernel
theorem dX8_init_51 : decode cX8_init 51 = .ok (.aload_n 0, 1) := by decide +kernel
theorem dX8_init_52 : decode cX8_init 52 = .ok (.sipush 1430, 3) := by decide +kernel
theorem dX8_init_55 : decode cX8_init 55 = .ok (.newarray .int, 2) := by decide +kernel
theorem dX8_init_57 : decode cX8_init 57 = .ok (.putfield 28, 3) := by decide +kernel
theorem dX8_init_60 : decode cX8_init 60 = .ok (.aload_n 0, 1) := by decide +kernel
theorem dX8_init_61 : decode cX8_init 61 = .ok (.sipush 1430, 3) := by decide +kernel
theorem dX8_init_64 : decode cX8_init 64 = .ok (.newarray .int, 2) := by decide +kernel
theorem dX8_init_66 : decode cX8_init 66 = .ok (.putfield 31, 3) := by decide +kernel
theorem dX8_init_69 : decode cX8_init 69 = .ok (.aload_n 0, 1) := by decide +kernel
theorem dX8_init_70 : decode cX8_init 70 = .ok (.sipush 1430, 3) := by decide +kernel
theorem dX8_init_73 : decode cX8_init 73 = .ok (.newarray .int, 2) := by decide +kernel
theorem dX8_init_75 : decode cX8_init 75 = .ok (.putfield 34, 3) := by decide +kernel
theorem dX8_init_78 : decode cX8_init 78 = .ok (.aload_n 0, 1) := by decide +kernel
theorem dX8_init_79 : decode cX8_init 79 = .ok (.sipush 1430, 3) := by decide +kernel
theorem dX8_init_82 : decode cX8_init 82 = .ok (.newarray .int, 2) := by decide +kernel
theorem dX8_init_84 : decode cX8_init 84 = .ok (.putfield 37, 3) := by decide +kernel
theorem dX8_init_87 : decode cX8_init 87 = .ok (.aload_n 0, 1) := by decide +kernel
theorem dX8_init_88 : decode cX8_init 88 = .ok (.bipush 9, 2) := by decide +kernel
theorem dX8_init_90 : decode cX8_init 90 = .ok (.newarray .long, 2) := by decide +kernel
theorem dX8_init_92 : decode cX8_init 92 = .ok (.putfield 40, 3) := by decide +kernel
theorem dX8_init_95 : decode cX8_init 95 = .ok (.aload_n 0, 1) := by decide +kernel
theorem dX8_init_96 : decode cX8_init 96 = .ok (.bipush 9, 2) := by decide +kernel
theorem dX8_init_98 : decode cX8_init 98 = .ok (.newarray .long, 2) := by decide +kernel
theorem dX8_init_100 : decode cX8_init 100 = .ok (.putfield 44, 3) := by decide +kernel
theorem dX8_init_103 : decode cX8_init 103 = .ok (.aload_n 0, 1) := by decide +kernel
theorem dX8_init_104 : decode cX8_init 104 = .ok (.bipush 81, 2) := by decide +kernel
theorem dX8_init_106 : decode cX8_init 106 = .ok (.newarray .long, 2) := by decide +kernel
theorem dX8_init_108 : decode cX8_init 108 = .ok (.putfield 47, 3) := by decide +kernel
theorem dX8_init_111 : decode cX8_init 111 = .ok (.aload_n 0, 1) := by decide +kernel
theorem dX8_init_112 : decode cX8_init 112 = .ok (.bipush 60, 2) := by decide +kernel
theorem dX8_init_114 : decode cX8_init 114 = .ok (.newarray .int, 2) := by decide +kernel
theorem dX8_init_116 : decode cX8_init 116 = .ok (.putfield 50, 3) := by decide +kernel
theorem dX8_init_119 : decode cX8_init 119 = .ok (.aload_n 0, 1) := by decide +kernel
theorem dX8_init_120 : decode cX8_init 120 = .ok (.sipush 180, 3) := by decide +kernel
theorem dX8_init_123 : decode cX8_init 123 = .ok (.newarray .int, 2) := by decide +kernel
theorem dX8_init_125 : decode cX8_init 125 = .ok (.putfield 53, 3) := by decide +kernel
theorem dX8_init_128 : decode cX8_init 128 = .ok (.aload_n 0, 1) := by decide +kernel
theorem dX8_init_129 : decode cX8_init 129 = .ok (.iconst 4, 1) := by decide +kernel
theorem dX8_init_130 : decode cX8_init 130 = .ok (.invokevirtual 56, 3) := by decide +kernel
theorem dX8_init_133 : decode cX8_init 133 = .ok (.return_, 1) := by decide +kernel
theorem dX8_in_0 : decode cX8_in 0 = .ok (.iload_n 0, 1) := by decide +kernel
theorem dX8_in_1 : decode cX8_in 1 = .ok (.iload_n 1, 1) := by decide +kernel
theorem dX8_in_2 : decode cX8_in 2 = .ok (.if_icmp .lt 12, 3) := by decide +kernel
theorem dX8_in_5 : decode cX8_in 5 = .ok (.iload_n 0, 1) := by decide +kernel
theorem dX8_in_6 : decode cX8_in 6 = .ok (.iload_n 2, 1) := by decide +kernel
theorem dX8_in_7 : decode cX8_in 7 = .ok (.if_icmp .gt 7, 3) := by decide +kernel
theorem dX8_in_10 : decode cX8_in 10 = .ok (.iconst 1, 1) := by decide +kernel
theorem dX8_in_11 : decode cX8_in 11 = .ok (.goto 4, 3) := by decide +kernel
theorem dX8_in_14 : decode cX8_in 14 = .ok (.iconst 0, 1) := by decide +kernel
theorem dX8_in_15 : decode cX8_in 15 = .ok (.ireturn, 1) := by decide +kernel
theorem dX8_refuses_0 : decode cX8_refuses 0 = .ok (.aload_n 0, 1) := by decide +kernel
theorem dX8_refuses_1 : decode cX8_refuses 1 = .ok (.getfield 19, 3) := by decide +kernel
theorem dX8_refuses_4 : decode cX8_refuses 4 = .ok (.bipush (-2), 2) := by decide +kernel
theorem dX8_refuses_6 : decode cX8_refuses 6 = .ok (.iload_n 1, 1) := by decide +kernel
theorem dX8_refuses_7 : decode cX8_refuses 7 = .ok (.isub, 1) := by decide +kernel
theorem dX8_refuses_8 : decode cX8_refuses 8 = .ok (.dup2, 1) := by decide +kernel
theorem dX8_refuses_9 : decode cX8_refuses 9 = .ok (.iaload, 1) := by decide +kernel
theorem dX8_refuses_10 : decode cX8_refuses 10 = .ok (.iconst 1, 1) := by decide +kernel
theorem dX8_refuses_11 : decode cX8_refuses 11 = .ok (.iadd, 1) := by decide +kernel
theorem dX8_refuses_12 : decode cX8_refuses 12 = .ok (.iastore, 1) := by decide +kernel
theorem dX8_refuses_13 : decode cX8_refuses 13 = .ok (.iload_n 1, 1) := by decide +kernel
theorem dX8_refuses_14 : decode cX8_refuses 14 = .ok (.ireturn, 1) := by decide +kernel
theorem dX8_rowOf_0 : decode cX8_rowOf 0 = .ok (.iload_n 0, 1) := by decide +kernel
theorem dX8_rowOf_1 : decode cX8_rowOf 1 = .ok (.bipush 21, 2) := by decide +kernel
theorem dX8_rowOf_3 : decode cX8_rowOf 3 = .ok (.iconst 3, 1) := by decide +kernel
theorem dX8_rowOf_4 : decode cX8_rowOf 4 = .ok (.iload_n 1, 1) := by decide +kernel
theorem dX8_rowOf_5 : decode cX8_rowOf 5 = .ok (.imul, 1) := by decide +kernel
theorem dX8_rowOf_6 : decode cX8_rowOf 6 = .ok (.isub, 1) := by decide +kernel
theorem dX8_rowOf_7 : decode cX8_rowOf 7 = .ok (.ishr, 1) := by decide +kernel
theorem dX8_rowOf_8 : decode cX8_rowOf 8 = .ok (.bipush 7, 2) := by decide +kernel
theorem dX8_rowOf_10 : decode cX8_rowOf 10 = .ok (.iand, 1) := by decide +kernel
theorem dX8_rowOf_11 : decode cX8_rowOf 11 = .ok (.ireturn, 1) := by decide +kernel
theorem dX8_begin_0 : decode cX8_begin 0 = .ok (.aload_n 0, 1) := by decide +kernel
theorem dX8_begin_1 : decode cX8_begin 1 = .ok (.getfield 7, 3) := by decide +kernel
theorem dX8_begin_4 : decode cX8_begin 4 = .ok (.iconst 0, 1) := by decide +kernel
theorem dX8_begin_5 : decode cX8_begin 5 = .ok (.iload_n 1, 1) := by decide +kernel
theorem dX8_begin_6 : decode cX8_begin 6 = .ok (.iastore, 1) := by decide +kernel
theorem dX8_begin_7 : decode cX8_begin 7 = .ok (.iconst 0, 1) := by decide +kernel
theorem dX8_begin_8 : decode cX8_begin 8 = .ok (.istore_n 2, 1) := by decide +kernel
theorem dX8_begin_9 : decode cX8_begin 9 = .ok (.iconst 0, 1) := by decide +kernel
theorem dX8_begin_10 : decode cX8_begin 10 = .ok (.istore_n 3, 1) := by decide +kernel
theorem dX8_begin_11 : decode cX8_begin 11 = .ok (.iload_n 3, 1) := by decide +kernel
theorem dX8_begin_12 : decode cX8_begin 12 = .ok (.iload_n 1, 1) := by decide +kernel
theorem dX8_begin_13 : decode cX8_begin 13 = .ok (.if_icmp .ge 20, 3) := by decide +kernel
theorem dX8_begin_16 : decode cX8_begin 16 = .ok (.iload_n 2, 1) := by decide +kernel
theorem dX8_begin_17 : decode cX8_begin 17 = .ok (.iload_n 3, 1) := by decide +kernel
theorem dX8_begin_18 : decode cX8_begin 18 = .ok (.bipush 21, 2) := by decide +kernel
theorem dX8_begin_20 : decode cX8_begin 20 = .ok (.iconst 3, 1) := by decide +kernel
theorem dX8_begin_21 : decode cX8_begin 21 = .ok (.iload_n 3, 1) := by decide +kernel
theorem dX8_begin_22 : decode cX8_begin 22 = .ok (.imul, 1) := by decide +kernel
theorem dX8_begin_23 : decode cX8_begin 23 = .ok (.isub, 1) := by decide +kernel
theorem dX8_begin_24 : decode cX8_begin 24 = .ok (.ishl, 1) := by decide +kernel
theorem dX8_begin_25 : decode cX8_begin 25 = .ok (.ior, 1) := by decide +kernel
theorem dX8_begin_26 : decode cX8_begin 26 = .ok (.istore_n 2, 1) := by decide +kernel
theorem dX8_begin_27 : decode cX8_begin 27 = .ok (.iinc 3 1, 3) := by decide +kernel
theorem dX8_begin_30 : decode cX8_begin 30 = .ok (.goto (-19), 3) := by decide +kernel
theorem dX8_begin_33 : decode cX8_begin 33 = .ok (.iconst 0, 1) := by decide +kernel
theorem dX8_begin_34 : decode cX8_begin 34 = .ok (.istore_n 3, 1) := by decide +kernel
theorem dX8_begin_35 : decode cX8_begin 35 = .ok (.iload_n 3, 1) := by decide +kernel
theorem dX8_begin_36 : decode cX8_begin 36 = .ok (.bipush 6, 2) := by decide +kernel
theorem dX8_begin_38 : decode cX8_begin 38 = .ok (.if_icmp .ge 18, 3) := by decide +kernel
theorem dX8_begin_41 : decode cX8_begin 41 = .ok (.aload_n 0, 1) := by decide +kernel
theorem dX8_begin_42 : decode cX8_begin 42 = .ok (.getfield 7, 3) := by decide +kernel
theorem dX8_begin_45 : decode cX8_begin 45 = .ok (.iconst 1, 1) := by decide +kernel
theorem dX8_begin_46 : decode cX8_begin 46 = .ok (.iload_n 3, 1) := by decide +kernel
theorem dX8_begin_47 : decode cX8_begin 47 = .ok (.iadd, 1) := by decide +kernel
theorem dX8_begin_48 : decode cX8_begin 48 = .ok (.iload_n 2, 1) := by decide +kernel
theorem dX8_begin_49 : decode cX8_begin 49 = .ok (.iastore, 1) := by decide +kernel
theorem dX8_begin_50 : decode cX8_begin 50 = .ok (.iinc 3 1, 3) := by decide +kernel
theorem dX8_begin_53 : decode cX8_begin 53 = .ok (.goto (-18), 3) := by decide +kernel
theorem dX8_begin_56 : decode cX8_begin 56 = .ok (.return_, 1) := by decide +kernel
theorem dX8_packed_0 : decode cX8_packed 0 = .ok (.iconst 0, 1) := by decide +kernel
theorem dX8_packed_1 : decode cX8_packed 1 = .ok (.istore_n 1, 1) := by decide +kernel
theorem dX8_packed_2 : decode cX8_packed 2 = .ok (.iconst 0, 1) := by decide +kernel
theorem dX8_packed_3 : decode cX8_packed 3 = .ok (.istore_n 2, 1) := by decide +kernel
theorem dX8_packed_4 : decode cX8_packed 4 = .ok (.iload_n 2, 1) := by decide +kernel
theorem dX8_packed_5 : decode cX8_packed 5 = .ok (.aload_n 0, 1) := by decide +kernel
theorem dX8_packed_6 : decode cX8_packed 6 = .ok (.getfield 7, 3) := by decide +kernel
theorem dX8_packed_9 : decode cX8_packed 9 = .ok (.iconst 0, 1) := by decide +kernel
theorem dX8_packed_10 : decode cX8_packed 10 = .ok (.iaload, 1) := by decide +kernel
theorem dX8_packed_11 : decode cX8_packed 11 = .ok (.if_icmp .ge 59, 3) := by decide +kernel
theorem dX8_packed_14 : decode cX8_packed 14 = .ok (.iload_n 2, 1) := by decide +kernel
theorem dX8_packed_15 : decode cX8_packed 15 = .ok (.istore_n 3, 1) := by decide +kernel
theorem dX8_packed_16 : decode cX8_packed 16 = .ok (.iload_n 2, 1) := by decide +kernel
theorem dX8_packed_17 : decode cX8_packed 17 = .ok (.istore 4, 2) := by decide +kernel
theorem dX8_packed_19 : decode cX8_packed 19 = .ok (.iload 4, 2) := by decide +kernel
theorem dX8_packed_21 : decode cX8_packed 21 = .ok (.ifCond .lt 32, 3) := by decide +kernel
theorem dX8_packed_24 : decode cX8_packed 24 = .ok (.aload_n 0, 1) := by decide +kernel
theorem dX8_packed_25 : decode cX8_packed 25 = .ok (.getfield 25, 3) := by decide +kernel
theorem dX8_packed_28 : decode cX8_packed 28 = .ok (.iload 4, 2) := by decide +kernel
theorem dX8_packed_30 : decode cX8_packed 30 = .ok (.iaload, 1) := by decide +kernel
theorem dX8_packed_31 : decode cX8_packed 31 = .ok (.aload_n 0, 1) := by decide +kernel
theorem dX8_packed_32 : decode cX8_packed 32 = .ok (.getfield 25, 3) := by decide +kernel
theorem dX8_packed_35 : decode cX8_packed 35 = .ok (.iload_n 2, 1) := by decide +kernel
theorem dX8_packed_36 : decode cX8_packed 36 = .ok (.iaload, 1) := by decide +kernel
theorem dX8_packed_37 : decode cX8_packed 37 = .ok (.if_icmp .ne 8, 3) := by decide +kernel
theorem dX8_packed_40 : decode cX8_packed 40 = .ok (.iload 4, 2) := by decide +kernel
theorem dX8_packed_42 : decode cX8_packed 42 = .ok (.goto 4, 3) := by decide +kernel
theorem dX8_packed_45 : decode cX8_packed 45 = .ok (.iload_n 3, 1) := by decide +kernel
theorem dX8_packed_46 : decode cX8_packed 46 = .ok (.istore_n 3, 1) := by decide +kernel
theorem dX8_packed_47 : decode cX8_packed 47 = .ok (.iinc 4 (-1), 3) := by decide +kernel
theorem dX8_packed_50 : decode cX8_packed 50 = .ok (.goto (-31), 3) := by decide +kernel
theorem dX8_packed_53 : decode cX8_packed 53 = .ok (.iload_n 1, 1) := by decide +kernel
theorem dX8_packed_54 : decode cX8_packed 54 = .ok (.iload_n 3, 1) := by decide +kernel
theorem dX8_packed_55 : decode cX8_packed 55 = .ok (.bipush 21, 2) := by decide +kernel
theorem dX8_packed_57 : decode cX8_packed 57 = .ok (.iconst 3, 1) := by decide +kernel
theorem dX8_packed_58 : decode cX8_packed 58 = .ok (.iload_n 2, 1) := by decide +kernel
theorem dX8_packed_59 : decode cX8_packed 59 = .ok (.imul, 1) := by decide +kernel
theorem dX8_packed_60 : decode cX8_packed 60 = .ok (.isub, 1) := by decide +kernel
theorem dX8_packed_61 : decode cX8_packed 61 = .ok (.ishl, 1) := by decide +kernel
theorem dX8_packed_62 : decode cX8_packed 62 = .ok (.ior, 1) := by decide +kernel
theorem dX8_packed_63 : decode cX8_packed 63 = .ok (.istore_n 1, 1) := by decide +kernel
theorem dX8_packed_64 : decode cX8_packed 64 = .ok (.iinc 2 1, 3) := by decide +kernel
theorem dX8_packed_67 : decode cX8_packed 67 = .ok (.goto (-63), 3) := by decide +kernel
theorem dX8_packed_70 : decode cX8_packed 70 = .ok (.iload_n 1, 1) := by decide +kernel
theorem dX8_packed_71 : decode cX8_packed 71 = .ok (.ireturn, 1) := by decide +kernel
theorem dX8_unite_0 : decode cX8_unite 0 = .ok (.iconst 0, 1) := by decide +kernel
theorem dX8_unite_1 : decode cX8_unite 1 = .ok (.istore_n 3, 1) := by decide +kernel
theorem dX8_unite_2 : decode cX8_unite 2 = .ok (.iload_n 3, 1) := by decide +kernel
theorem dX8_unite_3 : decode cX8_unite 3 = .ok (.bipush 8, 2) := by decide +kernel
theorem dX8_unite_5 : decode cX8_unite 5 = .ok (.if_icmp .ge 35, 3) := by decide +kernel
theorem dX8_unite_8 : decode cX8_unite 8 = .ok (.aload_n 0, 1) := by decide +kernel
theorem dX8_unite_9 : decode cX8_unite 9 = .ok (.getfield 25, 3) := by decide +kernel
theorem dX8_unite_12 : decode cX8_unite 12 = .ok (.iload_n 3, 1) := by decide +kernel
theorem dX8_unite_13 : decode cX8_unite 13 = .ok (.aload_n 0, 1) := by decide +kernel
theorem dX8_unite_14 : decode cX8_unite 14 = .ok (.getfield 25, 3) := by decide +kernel
theorem dX8_unite_17 : decode cX8_unite 17 = .ok (.iload_n 3, 1) := by decide +kernel
theorem dX8_unite_18 : decode cX8_unite 18 = .ok (.iaload, 1) := by decide +kernel
theorem dX8_unite_19 : decode cX8_unite 19 = .ok (.iload_n 2, 1) := by decide +kernel
theorem dX8_unite_20 : decode cX8_unite 20 = .ok (.if_icmp .ne 7, 3) := by decide +kernel
theorem dX8_unite_23 : decode cX8_unite 23 = .ok (.iload_n 1, 1) := by decide +kernel
theorem dX8_unite_24 : decode cX8_unite 24 = .ok (.goto 9, 3) := by decide +kernel
theorem dX8_unite_27 : decode cX8_unite 27 = .ok (.aload_n 0, 1) := by decide +kernel
theorem dX8_unite_28 : decode cX8_unite 28 = .ok (.getfield 25, 3) := by decide +kernel
theorem dX8_unite_31 : decode cX8_unite 31 = .ok (.iload_n 3, 1) := by decide +kernel
theorem dX8_unite_32 : decode cX8_unite 32 = .ok (.iaload, 1) := by decide +kernel
theorem dX8_unite_33 : decode cX8_unite 33 = .ok (.iastore, 1) := by decide +kernel
theorem dX8_unite_34 : decode cX8_unite 34 = .ok (.iinc 3 1, 3) := by decide +kernel
theorem dX8_unite_37 : decode cX8_unite 37 = .ok (.goto (-35), 3) := by decide +kernel
theorem dX8_unite_40 : decode cX8_unite 40 = .ok (.return_, 1) := by decide +kernel
theorem dX8_uniteCrossing_0 : decode cX8_uniteCrossing 0 = .ok (.aload_n 0, 1) := by decide +kernel
theorem dX8_uniteCrossing_1 : decode cX8_uniteCrossing 1 = .ok (.getfield 7, 3) := by decide +kernel
theorem dX8_uniteCrossing_4 : decode cX8_uniteCrossing 4 = .ok (.iconst 0, 1) := by decide +kernel
theorem dX8_uniteCrossing_5 : decode cX8_uniteCrossing 5 = .ok (.iaload, 1) := by decide +kernel
theorem dX8_uniteCrossing_6 : decode cX8_uniteCrossing 6 = .ok (.istore_n 1, 1) := by decide +kernel
theorem dX8_uniteCrossing_7 : decode cX8_uniteCrossing 7 = .ok (.iconst 0, 1) := by decide +kernel
theorem dX8_uniteCrossing_8 : decode cX8_uniteCrossing 8 = .ok (.istore_n 2, 1) := by decide +kernel
theorem dX8_uniteCrossing_9 : decode cX8_uniteCrossing 9 = .ok (.iload_n 2, 1) := by decide +kernel
theorem dX8_uniteCrossing_10 : decode cX8_uniteCrossing 10 = .ok (.iload_n 1, 1) := by decide +kernel
theorem dX8_uniteCrossing_11 : decode cX8_uniteCrossing 11 = .ok (.if_icmp .ge 124, 3) := by decide +kernel
theorem dX8_uniteCrossing_14 : decode cX8_uniteCrossing 14 = .ok (.iload_n 2, 1) := by decide +kernel
theorem dX8_uniteCrossing_15 : decode cX8_uniteCrossing 15 = .ok (.iconst 1, 1) := by decide +kernel
theorem dX8_uniteCrossing_16 : decode cX8_uniteCrossing 16 = .ok (.iadd, 1) := by decide +kernel
theorem dX8_uniteCrossing_17 : decode cX8_uniteCrossing 17 = .ok (.istore_n 3, 1) := by decide +kernel
theorem dX8_uniteCrossing_18 : decode cX8_uniteCrossing 18 = .ok (.iload_n 3, 1) := by decide +kernel
theorem dX8_uniteCrossing_19 : decode cX8_uniteCrossing 19 = .ok (.iload_n 1, 1) := by decide +kernel
theorem dX8_uniteCrossing_20 : decode cX8_uniteCrossing 20 = .ok (.if_icmp .ge 109, 3) := by decide +kernel
theorem dX8_uniteCrossing_23 : decode cX8_uniteCrossing 23 = .ok (.iload_n 3, 1) := by decide +kernel
theorem dX8_uniteCrossing_24 : decode cX8_uniteCrossing 24 = .ok (.iconst 1, 1) := by decide +kernel
theorem dX8_uniteCrossing_25 : decode cX8_uniteCrossing 25 = .ok (.iadd, 1) := by decide +kernel
theorem dX8_uniteCrossing_26 : decode cX8_uniteCrossing 26 = .ok (.istore 4, 2) := by decide +kernel
theorem dX8_uniteCrossing_28 : decode cX8_uniteCrossing 28 = .ok (.iload 4, 2) := by decide +kernel
theorem dX8_uniteCrossing_30 : decode cX8_uniteCrossing 30 = .ok (.iload_n 1, 1) := by decide +kernel
theorem dX8_uniteCrossing_31 : decode cX8_uniteCrossing 31 = .ok (.if_icmp .ge 92, 3) := by decide +kernel
theorem dX8_uniteCrossing_34 : decode cX8_uniteCrossing 34 = .ok (.aload_n 0, 1) := by decide +kernel
theorem dX8_uniteCrossing_35 : decode cX8_uniteCrossing 35 = .ok (.getfield 25, 3) := by decide +kernel
theorem dX8_uniteCrossing_38 : decode cX8_uniteCrossing 38 = .ok (.iload_n 2, 1) := by decide +kernel
theorem dX8_uniteCrossing_39 : decode cX8_uniteCrossing 39 = .ok (.iaload, 1) := by decide +kernel
theorem dX8_uniteCrossing_40 : decode cX8_uniteCrossing 40 = .ok (.aload_n 0, 1) := by decide +kernel
theorem dX8_uniteCrossing_41 : decode cX8_uniteCrossing 41 = .ok (.getfield 25, 3) := by decide +kernel
theorem dX8_uniteCrossing_44 : decode cX8_uniteCrossing 44 = .ok (.iload_n 3, 1) := by decide +kernel
theorem dX8_uniteCrossing_45 : decode cX8_uniteCrossing 45 = .ok (.iaload, 1) := by decide +kernel
theorem dX8_uniteCrossing_46 : decode cX8_uniteCrossing 46 = .ok (.if_icmp .eq 77, 3) := by decide +kernel
theorem dX8_uniteCrossing_49 : decode cX8_uniteCrossing 49 = .ok (.iload 4, 2) := by decide +kernel
theorem dX8_uniteCrossing_51 : decode cX8_uniteCrossing 51 = .ok (.iconst 1, 1) := by decide +kernel
theorem dX8_uniteCrossing_52 : decode cX8_uniteCrossing 52 = .ok (.iadd, 1) := by decide +kernel
theorem dX8_uniteCrossing_53 : decode cX8_uniteCrossing 53 = .ok (.istore 5, 2) := by decide +kernel
theorem dX8_uniteCrossing_55 : decode cX8_uniteCrossing 55 = .ok (.iload 5, 2) := by decide +kernel
theorem dX8_uniteCrossing_57 : decode cX8_uniteCrossing 57 = .ok (.iload_n 1, 1) := by decide +kernel
theorem dX8_uniteCrossing_58 : decode cX8_uniteCrossing 58 = .ok (.if_icmp .ge 59, 3) := by decide +kernel
theorem dX8_uniteCrossing_61 : decode cX8_uniteCrossing 61 = .ok (.aload_n 0, 1) := by decide +kernel
theorem dX8_uniteCrossing_62 : decode cX8_uniteCrossing 62 = .ok (.getfield 25, 3) := by decide +kernel
theorem dX8_uniteCrossing_65 : decode cX8_uniteCrossing 65 = .ok (.iload_n 2, 1) := by decide +kernel
theorem dX8_uniteCrossing_66 : decode cX8_uniteCrossing 66 = .ok (.iaload, 1) := by decide +kernel
theorem dX8_uniteCrossing_67 : decode cX8_uniteCrossing 67 = .ok (.aload_n 0, 1) := by decide +kernel
theorem dX8_uniteCrossing_68 : decode cX8_uniteCrossing 68 = .ok (.getfield 25, 3) := by decide +kernel
theorem dX8_uniteCrossing_71 : decode cX8_uniteCrossing 71 = .ok (.iload 4, 2) := by decide +kernel
theorem dX8_uniteCrossing_73 : decode cX8_uniteCrossing 73 = .ok (.iaload, 1) := by decide +kernel
theorem dX8_uniteCrossing_74 : decode cX8_uniteCrossing 74 = .ok (.if_icmp .ne 43, 3) := by decide +kernel
theorem dX8_uniteCrossing_77 : decode cX8_uniteCrossing 77 = .ok (.aload_n 0, 1) := by decide +kernel
theorem dX8_uniteCrossing_78 : decode cX8_uniteCrossing 78 = .ok (.getfield 25, 3) := by decide +kernel
theorem dX8_uniteCrossing_81 : decode cX8_uniteCrossing 81 = .ok (.iload_n 3, 1) := by decide +kernel
theorem dX8_uniteCrossing_82 : decode cX8_uniteCrossing 82 = .ok (.iaload, 1) := by decide +kernel
theorem dX8_uniteCrossing_83 : decode cX8_uniteCrossing 83 = .ok (.aload_n 0, 1) := by decide +kernel
theorem dX8_uniteCrossing_84 : decode cX8_uniteCrossing 84 = .ok (.getfield 25, 3) := by decide +kernel
theorem dX8_uniteCrossing_87 : decode cX8_uniteCrossing 87 = .ok (.iload 5, 2) := by decide +kernel
theorem dX8_uniteCrossing_89 : decode cX8_uniteCrossing 89 = .ok (.iaload, 1) := by decide +kernel
theorem dX8_uniteCrossing_90 : decode cX8_uniteCrossing 90 = .ok (.if_icmp .ne 21, 3) := by decide +kernel
theorem dX8_uniteCrossing_93 : decode cX8_uniteCrossing 93 = .ok (.aload_n 0, 1) := by decide +kernel
theorem dX8_uniteCrossing_94 : decode cX8_uniteCrossing 94 = .ok (.aload_n 0, 1) := by decide +kernel
theorem dX8_uniteCrossing_95 : decode cX8_uniteCrossing 95 = .ok (.getfield 25, 3) := by decide +kernel
theorem dX8_uniteCrossing_98 : decode cX8_uniteCrossing 98 = .ok (.iload_n 2, 1) := by decide +kernel
theorem dX8_uniteCrossing_99 : decode cX8_uniteCrossing 99 = .ok (.iaload, 1) := by decide +kernel
theorem dX8_uniteCrossing_100 : decode cX8_uniteCrossing 100 = .ok (.aload_n 0, 1) := by decide +kernel
theorem dX8_uniteCrossing_101 : decode cX8_uniteCrossing 101 = .ok (.getfield 25, 3) := by decide +kernel
theorem dX8_uniteCrossing_104 : decode cX8_uniteCrossing 104 = .ok (.iload_n 3, 1) := by decide +kernel
theorem dX8_uniteCrossing_105 : decode cX8_uniteCrossing 105 = .ok (.iaload, 1) := by decide +kernel
theorem dX8_uniteCrossing_106 : decode cX8_uniteCrossing 106 = .ok (.invokevirtual 60, 3) := by decide +kernel
theorem dX8_uniteCrossing_109 : decode cX8_uniteCrossing 109 = .ok (.iconst 1, 1) := by decide +kernel
theorem dX8_uniteCrossing_110 : decode cX8_uniteCrossing 110 = .ok (.ireturn, 1) := by decide +kernel
theorem dX8_uniteCrossing_111 : decode cX8_uniteCrossing 111 = .ok (.iinc 5 1, 3) := by decide +kernel
theorem dX8_uniteCrossing_114 : decode cX8_uniteCrossing 114 = .ok (.goto (-59), 3) := by decide +kernel
theorem dX8_uniteCrossing_117 : decode cX8_uniteCrossing 117 = .ok (.iinc 4 1, 3) := by decide +kernel
theorem dX8_uniteCrossing_120 : decode cX8_uniteCrossing 120 = .ok (.goto (-92), 3) := by decide +kernel
theorem dX8_uniteCrossing_123 : decode cX8_uniteCrossing 123 = .ok (.iinc 3 1, 3) := by decide +kernel
theorem dX8_uniteCrossing_126 : decode cX8_uniteCrossing 126 = .ok (.goto (-108), 3) := by decide +kernel
theorem dX8_uniteCrossing_129 : decode cX8_uniteCrossing 129 = .ok (.iinc 2 1, 3) := by decide +kernel
theorem dX8_uniteCrossing_132 : decode cX8_uniteCrossing 132 = .ok (.goto (-123), 3) := by decide +kernel
theorem dX8_uniteCrossing_135 : decode cX8_uniteCrossing 135 = .ok (.iconst 0, 1) := by decide +kernel
theorem dX8_uniteCrossing_136 : decode cX8_uniteCrossing 136 = .ok (.ireturn, 1) := by decide +kernel
theorem dX8_isCrossing_0 : decode cX8_isCrossing 0 = .ok (.iconst 0, 1) := by decide +kernel
theorem dX8_isCrossing_1 : decode cX8_isCrossing 1 = .ok (.istore_n 2, 1) := by decide +kernel
theorem dX8_isCrossing_2 : decode cX8_isCrossing 2 = .ok (.iload_n 2, 1) := by decide +kernel
theorem dX8_isCrossing_3 : decode cX8_isCrossing 3 = .ok (.aload_n 0, 1) := by decide +kernel
theorem dX8_isCrossing_4 : decode cX8_isCrossing 4 = .ok (.getfield 7, 3) := by decide +kernel
theorem dX8_isCrossing_7 : decode cX8_isCrossing 7 = .ok (.iconst 0, 1) := by decide +kernel
theorem dX8_isCrossing_8 : decode cX8_isCrossing 8 = .ok (.iaload, 1) := by decide +kernel
theorem dX8_isCrossing_9 : decode cX8_isCrossing 9 = .ok (.if_icmp .ge 20, 3) := by decide +kernel
theorem dX8_isCrossing_12 : decode cX8_isCrossing 12 = .ok (.aload_n 0, 1) := by decide +kernel
theorem dX8_isCrossing_13 : decode cX8_isCrossing 13 = .ok (.getfield 25, 3) := by decide +kernel
theorem dX8_isCrossing_16 : decode cX8_isCrossing 16 = .ok (.iload_n 2, 1) := by decide +kernel
theorem dX8_isCrossing_17 : decode cX8_isCrossing 17 = .ok (.iload_n 1, 1) := by decide +kernel
theorem dX8_isCrossing_18 : decode cX8_isCrossing 18 = .ok (.iload_n 2, 1) := by decide +kernel
theorem dX8_isCrossing_19 : decode cX8_isCrossing 19 = .ok (.invokestatic 64, 3) := by decide +kernel
theorem dX8_isCrossing_22 : decode cX8_isCrossing 22 = .ok (.iastore, 1) := by decide +kernel
theorem dX8_isCrossing_23 : decode cX8_isCrossing 23 = .ok (.iinc 2 1, 3) := by decide +kernel
theorem dX8_isCrossing_26 : decode cX8_isCrossing 26 = .ok (.goto (-24), 3) := by decide +kernel
theorem dX8_isCrossing_29 : decode cX8_isCrossing 29 = .ok (.aload_n 0, 1) := by decide +kernel
theorem dX8_isCrossing_30 : decode cX8_isCrossing 30 = .ok (.invokevirtual 68, 3) := by decide +kernel
theorem dX8_isCrossing_33 : decode cX8_isCrossing 33 = .ok (.ireturn, 1) := by decide +kernel
theorem dX8_joined_0 : decode cX8_joined 0 = .ok (.iconst 0, 1) := by decide +kernel
theorem dX8_joined_1 : decode cX8_joined 1 = .ok (.istore_n 3, 1) := by decide +kernel
theorem dX8_joined_2 : decode cX8_joined 2 = .ok (.iload_n 3, 1) := by decide +kernel
theorem dX8_joined_3 : decode cX8_joined 3 = .ok (.aload_n 0, 1) := by decide +kernel
theorem dX8_joined_4 : decode cX8_joined 4 = .ok (.getfield 7, 3) := by decide +kernel
theorem dX8_joined_7 : decode cX8_joined 7 = .ok (.iconst 0, 1) := by decide +kernel
theorem dX8_joined_8 : decode cX8_joined 8 = .ok (.iaload, 1) := by decide +kernel
theorem dX8_joined_9 : decode cX8_joined 9 = .ok (.if_icmp .ge 20, 3) := by decide +kernel
theorem dX8_joined_12 : decode cX8_joined 12 = .ok (.aload_n 0, 1) := by decide +kernel
theorem dX8_joined_13 : decode cX8_joined 13 = .ok (.getfield 25, 3) := by decide +kernel
theorem dX8_joined_16 : decode cX8_joined 16 = .ok (.iload_n 3, 1) := by decide +kernel
theorem dX8_joined_17 : decode cX8_joined 17 = .ok (.iload_n 1, 1) := by decide +kernel
theorem dX8_joined_18 : decode cX8_joined 18 = .ok (.iload_n 3, 1) := by decide +kernel
theorem dX8_joined_19 : decode cX8_joined 19 = .ok (.invokestatic 64, 3) := by decide +kernel
theorem dX8_joined_22 : decode cX8_joined 22 = .ok (.iastore, 1) := by decide +kernel
theorem dX8_joined_23 : decode cX8_joined 23 = .ok (.iinc 3 1, 3) := by decide +kernel
theorem dX8_joined_26 : decode cX8_joined 26 = .ok (.goto (-24), 3) := by decide +kernel
theorem dX8_joined_29 : decode cX8_joined 29 = .ok (.iconst 0, 1) := by decide +kernel
theorem dX8_joined_30 : decode cX8_joined 30 = .ok (.istore_n 3, 1) := by decide +kernel
theorem dX8_joined_31 : decode cX8_joined 31 = .ok (.iload_n 3, 1) := by decide +kernel
theorem dX8_joined_32 : decode cX8_joined 32 = .ok (.aload_n 0, 1) := by decide +kernel
theorem dX8_joined_33 : decode cX8_joined 33 = .ok (.getfield 7, 3) := by decide +kernel
theorem dX8_joined_36 : decode cX8_joined 36 = .ok (.iconst 0, 1) := by decide +kernel
theorem dX8_joined_37 : decode cX8_joined 37 = .ok (.iaload, 1) := by decide +kernel
theorem dX8_joined_38 : decode cX8_joined 38 = .ok (.if_icmp .ge 29, 3) := by decide +kernel
theorem dX8_joined_41 : decode cX8_joined 41 = .ok (.aload_n 0, 1) := by decide +kernel
theorem dX8_joined_42 : decode cX8_joined 42 = .ok (.aload_n 0, 1) := by decide +kernel
theorem dX8_joined_43 : decode cX8_joined 43 = .ok (.getfield 25, 3) := by decide +kernel
theorem dX8_joined_46 : decode cX8_joined 46 = .ok (.iload_n 2, 1) := by decide +kernel
theorem dX8_joined_47 : decode cX8_joined 47 = .ok (.iload_n 3, 1) := by decide +kernel
theorem dX8_joined_48 : decode cX8_joined 48 = .ok (.invokestatic 64, 3) := by decide +kernel
theorem dX8_joined_51 : decode cX8_joined 51 = .ok (.iaload, 1) := by decide +kernel
theorem dX8_joined_52 : decode cX8_joined 52 = .ok (.aload_n 0, 1) := by decide +kernel
theorem dX8_joined_53 : decode cX8_joined 53 = .ok (.getfield 25, 3) := by decide +kernel
theorem dX8_joined_56 : decode cX8_joined 56 = .ok (.iload_n 3, 1) := by decide +kernel
theorem dX8_joined_57 : decode cX8_joined 57 = .ok (.iaload, 1) := by decide +kernel
theorem dX8_joined_58 : decode cX8_joined 58 = .ok (.invokevirtual 60, 3) := by decide +kernel
theorem dX8_joined_61 : decode cX8_joined 61 = .ok (.iinc 3 1, 3) := by decide +kernel
theorem dX8_joined_64 : decode cX8_joined 64 = .ok (.goto (-33), 3) := by decide +kernel
theorem dX8_joined_67 : decode cX8_joined 67 = .ok (.iconst 1, 1) := by decide +kernel
theorem dX8_joined_68 : decode cX8_joined 68 = .ok (.istore_n 3, 1) := by decide +kernel
theorem dX8_joined_69 : decode cX8_joined 69 = .ok (.iload_n 3, 1) := by decide +kernel
theorem dX8_joined_70 : decode cX8_joined 70 = .ok (.ifCond .eq 11, 3) := by decide +kernel
theorem dX8_joined_73 : decode cX8_joined 73 = .ok (.aload_n 0, 1) := by decide +kernel
theorem dX8_joined_74 : decode cX8_joined 74 = .ok (.invokevirtual 68, 3) := by decide +kernel
theorem dX8_joined_77 : decode cX8_joined 77 = .ok (.istore_n 3, 1) := by decide +kernel
theorem dX8_joined_78 : decode cX8_joined 78 = .ok (.goto (-9), 3) := by decide +kernel
theorem dX8_joined_81 : decode cX8_joined 81 = .ok (.aload_n 0, 1) := by decide +kernel
theorem dX8_joined_82 : decode cX8_joined 82 = .ok (.invokevirtual 72, 3) := by decide +kernel
theorem dX8_joined_85 : decode cX8_joined 85 = .ok (.ireturn, 1) := by decide +kernel
theorem dX8_met_0 : decode cX8_met 0 = .ok (.iconst 0, 1) := by decide +kernel
theorem dX8_met_1 : decode cX8_met 1 = .ok (.istore_n 3, 1) := by decide +kernel
theorem dX8_met_2 : decode cX8_met 2 = .ok (.iload_n 3, 1) := by decide +kernel
theorem dX8_met_3 : decode cX8_met 3 = .ok (.aload_n 0, 1) := by decide +kernel
theorem dX8_met_4 : decode cX8_met 4 = .ok (.getfield 7, 3) := by decide +kernel
theorem dX8_met_7 : decode cX8_met 7 = .ok (.iconst 0, 1) := by decide +kernel
theorem dX8_met_8 : decode cX8_met 8 = .ok (.iaload, 1) := by decide +kernel
theorem dX8_met_9 : decode cX8_met 9 = .ok (.if_icmp .ge 29, 3) := by decide +kernel
theorem dX8_met_12 : decode cX8_met 12 = .ok (.aload_n 0, 1) := by decide +kernel
theorem dX8_met_13 : decode cX8_met 13 = .ok (.getfield 25, 3) := by decide +kernel
theorem dX8_met_16 : decode cX8_met 16 = .ok (.iload_n 3, 1) := by decide +kernel
theorem dX8_met_17 : decode cX8_met 17 = .ok (.bipush 8, 2) := by decide +kernel
theorem dX8_met_19 : decode cX8_met 19 = .ok (.iload_n 1, 1) := by decide +kernel
theorem dX8_met_20 : decode cX8_met 20 = .ok (.iload_n 3, 1) := by decide +kernel
theorem dX8_met_21 : decode cX8_met 21 = .ok (.invokestatic 64, 3) := by decide +kernel
theorem dX8_met_24 : decode cX8_met 24 = .ok (.imul, 1) := by decide +kernel
theorem dX8_met_25 : decode cX8_met 25 = .ok (.iload_n 2, 1) := by decide +kernel
theorem dX8_met_26 : decode cX8_met 26 = .ok (.iload_n 3, 1) := by decide +kernel
theorem dX8_met_27 : decode cX8_met 27 = .ok (.invokestatic 64, 3) := by decide +kernel
theorem dX8_met_30 : decode cX8_met 30 = .ok (.iadd, 1) := by decide +kernel
theorem dX8_met_31 : decode cX8_met 31 = .ok (.iastore, 1) := by decide +kernel
theorem dX8_met_32 : decode cX8_met 32 = .ok (.iinc 3 1, 3) := by decide +kernel
theorem dX8_met_35 : decode cX8_met 35 = .ok (.goto (-33), 3) := by decide +kernel
theorem dX8_met_38 : decode cX8_met 38 = .ok (.aload_n 0, 1) := by decide +kernel
theorem dX8_met_39 : decode cX8_met 39 = .ok (.invokevirtual 72, 3) := by decide +kernel
theorem dX8_met_42 : decode cX8_met 42 = .ok (.ireturn, 1) := by decide +kernel
theorem dX8_turned_0 : decode cX8_turned 0 = .ok (.aload_n 0, 1) := by decide +kernel
theorem dX8_turned_1 : decode cX8_turned 1 = .ok (.getfield 7, 3) := by decide +kernel
theorem dX8_turned_4 : decode cX8_turned 4 = .ok (.iconst 0, 1) := by decide +kernel
theorem dX8_turned_5 : decode cX8_turned 5 = .ok (.iaload, 1) := by decide +kernel
theorem dX8_turned_6 : decode cX8_turned 6 = .ok (.istore_n 2, 1) := by decide +kernel
theorem dX8_turned_7 : decode cX8_turned 7 = .ok (.iconst 0, 1) := by decide +kernel
theorem dX8_turned_8 : decode cX8_turned 8 = .ok (.istore_n 3, 1) := by decide +kernel
theorem dX8_turned_9 : decode cX8_turned 9 = .ok (.iload_n 3, 1) := by decide +kernel
theorem dX8_turned_10 : decode cX8_turned 10 = .ok (.iload_n 2, 1) := by decide +kernel
theorem dX8_turned_11 : decode cX8_turned 11 = .ok (.if_icmp .ge 24, 3) := by decide +kernel
theorem dX8_turned_14 : decode cX8_turned 14 = .ok (.aload_n 0, 1) := by decide +kernel
theorem dX8_turned_15 : decode cX8_turned 15 = .ok (.getfield 25, 3) := by decide +kernel
theorem dX8_turned_18 : decode cX8_turned 18 = .ok (.iload_n 3, 1) := by decide +kernel
theorem dX8_turned_19 : decode cX8_turned 19 = .ok (.iconst 1, 1) := by decide +kernel
theorem dX8_turned_20 : decode cX8_turned 20 = .ok (.iadd, 1) := by decide +kernel
theorem dX8_turned_21 : decode cX8_turned 21 = .ok (.iload_n 2, 1) := by decide +kernel
theorem dX8_turned_22 : decode cX8_turned 22 = .ok (.irem, 1) := by decide +kernel
theorem dX8_turned_23 : decode cX8_turned 23 = .ok (.iload_n 1, 1) := by decide +kernel
theorem dX8_turned_24 : decode cX8_turned 24 = .ok (.iload_n 3, 1) := by decide +kernel
theorem dX8_turned_25 : decode cX8_turned 25 = .ok (.invokestatic 64, 3) := by decide +kernel
theorem dX8_turned_28 : decode cX8_turned 28 = .ok (.iastore, 1) := by decide +kernel
theorem dX8_turned_29 : decode cX8_turned 29 = .ok (.iinc 3 1, 3) := by decide +kernel
theorem dX8_turned_32 : decode cX8_turned 32 = .ok (.goto (-23), 3) := by decide +kernel
theorem dX8_turned_35 : decode cX8_turned 35 = .ok (.aload_n 0, 1) := by decide +kernel
theorem dX8_turned_36 : decode cX8_turned 36 = .ok (.invokevirtual 72, 3) := by decide +kernel
theorem dX8_turned_39 : decode cX8_turned 39 = .ok (.ireturn, 1) := by decide +kernel
theorem dX8_nextOf_0 : decode cX8_nextOf 0 = .ok (.iload_n 2, 1) := by decide +kernel
theorem dX8_nextOf_1 : decode cX8_nextOf 1 = .ok (.iconst 1, 1) := by decide +kernel
theorem dX8_nextOf_2 : decode cX8_nextOf 2 = .ok (.iadd, 1) := by decide +kernel
theorem dX8_nextOf_3 : decode cX8_nextOf 3 = .ok (.aload_n 0, 1) := by decide +kernel
theorem dX8_nextOf_4 : decode cX8_nextOf 4 = .ok (.getfield 7, 3) := by decide +kernel
theorem dX8_nextOf_7 : decode cX8_nextOf 7 = .ok (.iconst 0, 1) := by decide +kernel
theorem dX8_nextOf_8 : decode cX8_nextOf 8 = .ok (.iaload, 1) := by decide +kernel
theorem dX8_nextOf_9 : decode cX8_nextOf 9 = .ok (.irem, 1) := by decide +kernel
theorem dX8_nextOf_10 : decode cX8_nextOf 10 = .ok (.istore_n 3, 1) := by decide +kernel
theorem dX8_nextOf_11 : decode cX8_nextOf 11 = .ok (.iload_n 1, 1) := by decide +kernel
theorem dX8_nextOf_12 : decode cX8_nextOf 12 = .ok (.iload_n 3, 1) := by decide +kernel
theorem dX8_nextOf_13 : decode cX8_nextOf 13 = .ok (.invokestatic 64, 3) := by decide +kernel
theorem dX8_nextOf_16 : decode cX8_nextOf 16 = .ok (.iload_n 1, 1) := by decide +kernel
theorem dX8_nextOf_17 : decode cX8_nextOf 17 = .ok (.iload_n 2, 1) := by decide +kernel
theorem dX8_nextOf_18 : decode cX8_nextOf 18 = .ok (.invokestatic 64, 3) := by decide +kernel
theorem dX8_nextOf_21 : decode cX8_nextOf 21 = .ok (.if_icmp .eq 17, 3) := by decide +kernel
theorem dX8_nextOf_24 : decode cX8_nextOf 24 = .ok (.iload_n 3, 1) := by decide +kernel
theorem dX8_nextOf_25 : decode cX8_nextOf 25 = .ok (.iconst 1, 1) := by decide +kernel
theorem dX8_nextOf_26 : decode cX8_nextOf 26 = .ok (.iadd, 1) := by decide +kernel
theorem dX8_nextOf_27 : decode cX8_nextOf 27 = .ok (.aload_n 0, 1) := by decide +kernel
theorem dX8_nextOf_28 : decode cX8_nextOf 28 = .ok (.getfield 7, 3) := by decide +kernel
theorem dX8_nextOf_31 : decode cX8_nextOf 31 = .ok (.iconst 0, 1) := by decide +kernel
theorem dX8_nextOf_32 : decode cX8_nextOf 32 = .ok (.iaload, 1) := by decide +kernel
theorem dX8_nextOf_33 : decode cX8_nextOf 33 = .ok (.irem, 1) := by decide +kernel
theorem dX8_nextOf_34 : decode cX8_nextOf 34 = .ok (.istore_n 3, 1) := by decide +kernel
theorem dX8_nextOf_35 : decode cX8_nextOf 35 = .ok (.goto (-24), 3) := by decide +kernel
theorem dX8_nextOf_38 : decode cX8_nextOf 38 = .ok (.iload_n 3, 1) := by decide +kernel
theorem dX8_nextOf_39 : decode cX8_nextOf 39 = .ok (.ireturn, 1) := by decide +kernel
theorem dX8_complement_0 : decode cX8_complement 0 = .ok (.aload_n 0, 1) := by decide +kernel
theorem dX8_complement_1 : decode cX8_complement 1 = .ok (.getfield 7, 3) := by decide +kernel
theorem dX8_complement_4 : decode cX8_complement 4 = .ok (.iconst 0, 1) := by decide +kernel
theorem dX8_complement_5 : decode cX8_complement 5 = .ok (.iaload, 1) := by decide +kernel
theorem dX8_complement_6 : decode cX8_complement 6 = .ok (.istore_n 2, 1) := by decide +kernel
theorem dX8_complement_7 : decode cX8_complement 7 = .ok (.iconst 0, 1) := by decide +kernel
theorem dX8_complement_8 : decode cX8_complement 8 = .ok (.istore_n 3, 1) := by decide +kernel
theorem dX8_complement_9 : decode cX8_complement 9 = .ok (.iload_n 3, 1) := by decide +kernel
theorem dX8_complement_10 : decode cX8_complement 10 = .ok (.iload_n 2, 1) := by decide +kernel
theorem dX8_complement_11 : decode cX8_complement 11 = .ok (.if_icmp .ge 16, 3) := by decide +kernel
theorem dX8_complement_14 : decode cX8_complement 14 = .ok (.aload_n 0, 1) := by decide +kernel
theorem dX8_complement_15 : decode cX8_complement 15 = .ok (.getfield 25, 3) := by decide +kernel
theorem dX8_complement_18 : decode cX8_complement 18 = .ok (.iload_n 3, 1) := by decide +kernel
theorem dX8_complement_19 : decode cX8_complement 19 = .ok (.iload_n 3, 1) := by decide +kernel
theorem dX8_complement_20 : decode cX8_complement 20 = .ok (.iastore, 1) := by decide +kernel
theorem dX8_complement_21 : decode cX8_complement 21 = .ok (.iinc 3 1, 3) := by decide +kernel
theorem dX8_complement_24 : decode cX8_complement 24 = .ok (.goto (-15), 3) := by decide +kernel
theorem dX8_complement_27 : decode cX8_complement 27 = .ok (.iconst 0, 1) := by decide +kernel
theorem dX8_complement_28 : decode cX8_complement 28 = .ok (.istore_n 3, 1) := by decide +kernel
theorem dX8_complement_29 : decode cX8_complement 29 = .ok (.iload_n 3, 1) := by decide +kernel
theorem dX8_complement_30 : decode cX8_complement 30 = .ok (.iload_n 2, 1) := by decide +kernel
theorem dX8_complement_31 : decode cX8_complement 31 = .ok (.if_icmp .ge 36, 3) := by decide +kernel
theorem dX8_complement_34 : decode cX8_complement 34 = .ok (.aload_n 0, 1) := by decide +kernel
theorem dX8_complement_35 : decode cX8_complement 35 = .ok (.aload_n 0, 1) := by decide +kernel
theorem dX8_complement_36 : decode cX8_complement 36 = .ok (.getfield 25, 3) := by decide +kernel
theorem dX8_complement_39 : decode cX8_complement 39 = .ok (.aload_n 0, 1) := by decide +kernel
theorem dX8_complement_40 : decode cX8_complement 40 = .ok (.iload_n 1, 1) := by decide +kernel
theorem dX8_complement_41 : decode cX8_complement 41 = .ok (.iload_n 3, 1) := by decide +kernel
theorem dX8_complement_42 : decode cX8_complement 42 = .ok (.invokevirtual 76, 3) := by decide +kernel
theorem dX8_complement_45 : decode cX8_complement 45 = .ok (.iload_n 2, 1) := by decide +kernel
theorem dX8_complement_46 : decode cX8_complement 46 = .ok (.iadd, 1) := by decide +kernel
theorem dX8_complement_47 : decode cX8_complement 47 = .ok (.iconst 1, 1) := by decide +kernel
theorem dX8_complement_48 : decode cX8_complement 48 = .ok (.isub, 1) := by decide +kernel
theorem dX8_complement_49 : decode cX8_complement 49 = .ok (.iload_n 2, 1) := by decide +kernel
theorem dX8_complement_50 : decode cX8_complement 50 = .ok (.irem, 1) := by decide +kernel
theorem dX8_complement_51 : decode cX8_complement 51 = .ok (.iaload, 1) := by decide +kernel
theorem dX8_complement_52 : decode cX8_complement 52 = .ok (.aload_n 0, 1) := by decide +kernel
theorem dX8_complement_53 : decode cX8_complement 53 = .ok (.getfield 25, 3) := by decide +kernel
theorem dX8_complement_56 : decode cX8_complement 56 = .ok (.iload_n 3, 1) := by decide +kernel
theorem dX8_complement_57 : decode cX8_complement 57 = .ok (.iaload, 1) := by decide +kernel
theorem dX8_complement_58 : decode cX8_complement 58 = .ok (.invokevirtual 60, 3) := by decide +kernel
theorem dX8_complement_61 : decode cX8_complement 61 = .ok (.iinc 3 1, 3) := by decide +kernel
theorem dX8_complement_64 : decode cX8_complement 64 = .ok (.goto (-35), 3) := by decide +kernel
theorem dX8_complement_67 : decode cX8_complement 67 = .ok (.aload_n 0, 1) := by decide +kernel
theorem dX8_complement_68 : decode cX8_complement 68 = .ok (.invokevirtual 72, 3) := by decide +kernel
theorem dX8_complement_71 : decode cX8_complement 71 = .ok (.ireturn, 1) := by decide +kernel
theorem dX8_rankOf_0 : decode cX8_rankOf 0 = .ok (.iconst 0, 1) := by decide +kernel
theorem dX8_rankOf_1 : decode cX8_rankOf 1 = .ok (.istore_n 2, 1) := by decide +kernel
theorem dX8_rankOf_2 : decode cX8_rankOf 2 = .ok (.iconst 0, 1) := by decide +kernel
theorem dX8_rankOf_3 : decode cX8_rankOf 3 = .ok (.istore_n 3, 1) := by decide +kernel
theorem dX8_rankOf_4 : decode cX8_rankOf 4 = .ok (.iload_n 3, 1) := by decide +kernel
theorem dX8_rankOf_5 : decode cX8_rankOf 5 = .ok (.aload_n 0, 1) := by decide +kernel
theorem dX8_rankOf_6 : decode cX8_rankOf 6 = .ok (.getfield 7, 3) := by decide +kernel
theorem dX8_rankOf_9 : decode cX8_rankOf 9 = .ok (.iconst 0, 1) := by decide +kernel
theorem dX8_rankOf_10 : decode cX8_rankOf 10 = .ok (.iaload, 1) := by decide +kernel
theorem dX8_rankOf_11 : decode cX8_rankOf 11 = .ok (.if_icmp .ge 26, 3) := by decide +kernel
theorem dX8_rankOf_14 : decode cX8_rankOf 14 = .ok (.iload_n 2, 1) := by decide +kernel
theorem dX8_rankOf_15 : decode cX8_rankOf 15 = .ok (.iload_n 1, 1) := by decide +kernel
theorem dX8_rankOf_16 : decode cX8_rankOf 16 = .ok (.iload_n 3, 1) := by decide +kernel
theorem dX8_rankOf_17 : decode cX8_rankOf 17 = .ok (.invokestatic 64, 3) := by decide +kernel
theorem dX8_rankOf_20 : decode cX8_rankOf 20 = .ok (.iload_n 3, 1) := by decide +kernel
theorem dX8_rankOf_21 : decode cX8_rankOf 21 = .ok (.if_icmp .ne 7, 3) := by decide +kernel
theorem dX8_rankOf_24 : decode cX8_rankOf 24 = .ok (.iconst 0, 1) := by decide +kernel
theorem dX8_rankOf_25 : decode cX8_rankOf 25 = .ok (.goto 4, 3) := by decide +kernel
theorem dX8_rankOf_28 : decode cX8_rankOf 28 = .ok (.iconst 1, 1) := by decide +kernel
theorem dX8_rankOf_29 : decode cX8_rankOf 29 = .ok (.iadd, 1) := by decide +kernel
theorem dX8_rankOf_30 : decode cX8_rankOf 30 = .ok (.istore_n 2, 1) := by decide +kernel
theorem dX8_rankOf_31 : decode cX8_rankOf 31 = .ok (.iinc 3 1, 3) := by decide +kernel
theorem dX8_rankOf_34 : decode cX8_rankOf 34 = .ok (.goto (-30), 3) := by decide +kernel
theorem dX8_rankOf_37 : decode cX8_rankOf 37 = .ok (.iload_n 2, 1) := by decide +kernel
theorem dX8_rankOf_38 : decode cX8_rankOf 38 = .ok (.ireturn, 1) := by decide +kernel
theorem dX8_isBelow_0 : decode cX8_isBelow 0 = .ok (.iconst 1, 1) := by decide +kernel
theorem dX8_isBelow_1 : decode cX8_isBelow 1 = .ok (.istore_n 3, 1) := by decide +kernel
theorem dX8_isBelow_2 : decode cX8_isBelow 2 = .ok (.iconst 0, 1) := by decide +kernel
theorem dX8_isBelow_3 : decode cX8_isBelow 3 = .ok (.istore 4, 2) := by decide +kernel
theorem dX8_isBelow_5 : decode cX8_isBelow 5 = .ok (.iload 4, 2) := by decide +kernel
theorem dX8_isBelow_7 : decode cX8_isBelow 7 = .ok (.aload_n 0, 1) := by decide +kernel
theorem dX8_isBelow_8 : decode cX8_isBelow 8 = .ok (.getfield 7, 3) := by decide +kernel
theorem dX8_isBelow_11 : decode cX8_isBelow 11 = .ok (.iconst 0, 1) := by decide +kernel
theorem dX8_isBelow_12 : decode cX8_isBelow 12 = .ok (.iaload, 1) := by decide +kernel
theorem dX8_isBelow_13 : decode cX8_isBelow 13 = .ok (.if_icmp .ge 38, 3) := by decide +kernel
theorem dX8_isBelow_16 : decode cX8_isBelow 16 = .ok (.iload_n 3, 1) := by decide +kernel
theorem dX8_isBelow_17 : decode cX8_isBelow 17 = .ok (.ifCond .eq 34, 3) := by decide +kernel
theorem dX8_isBelow_20 : decode cX8_isBelow 20 = .ok (.iload_n 2, 1) := by decide +kernel
theorem dX8_isBelow_21 : decode cX8_isBelow 21 = .ok (.iload 4, 2) := by decide +kernel
theorem dX8_isBelow_23 : decode cX8_isBelow 23 = .ok (.invokestatic 64, 3) := by decide +kernel
theorem dX8_isBelow_26 : decode cX8_isBelow 26 = .ok (.iload_n 2, 1) := by decide +kernel
theorem dX8_isBelow_27 : decode cX8_isBelow 27 = .ok (.iload_n 1, 1) := by decide +kernel
theorem dX8_isBelow_28 : decode cX8_isBelow 28 = .ok (.iload 4, 2) := by decide +kernel
theorem dX8_isBelow_30 : decode cX8_isBelow 30 = .ok (.invokestatic 64, 3) := by decide +kernel
theorem dX8_isBelow_33 : decode cX8_isBelow 33 = .ok (.invokestatic 64, 3) := by decide +kernel
theorem dX8_isBelow_36 : decode cX8_isBelow 36 = .ok (.if_icmp .ne 7, 3) := by decide +kernel
theorem dX8_isBelow_39 : decode cX8_isBelow 39 = .ok (.iconst 1, 1) := by decide +kernel
theorem dX8_isBelow_40 : decode cX8_isBelow 40 = .ok (.goto 4, 3) := by decide +kernel
theorem dX8_isBelow_43 : decode cX8_isBelow 43 = .ok (.iconst 0, 1) := by decide +kernel
theorem dX8_isBelow_44 : decode cX8_isBelow 44 = .ok (.istore_n 3, 1) := by decide +kernel
theorem dX8_isBelow_45 : decode cX8_isBelow 45 = .ok (.iinc 4 1, 3) := by decide +kernel
theorem dX8_isBelow_48 : decode cX8_isBelow 48 = .ok (.goto (-43), 3) := by decide +kernel
theorem dX8_isBelow_51 : decode cX8_isBelow 51 = .ok (.iload_n 3, 1) := by decide +kernel
theorem dX8_isBelow_52 : decode cX8_isBelow 52 = .ok (.ireturn, 1) := by decide +kernel
theorem dX8_isWell_0 : decode cX8_isWell 0 = .ok (.iconst 1, 1) := by decide +kernel
theorem dX8_isWell_1 : decode cX8_isWell 1 = .ok (.istore_n 2, 1) := by decide +kernel
theorem dX8_isWell_2 : decode cX8_isWell 2 = .ok (.iconst 0, 1) := by decide +kernel
theorem dX8_isWell_3 : decode cX8_isWell 3 = .ok (.istore_n 3, 1) := by decide +kernel
theorem dX8_isWell_4 : decode cX8_isWell 4 = .ok (.iload_n 3, 1) := by decide +kernel
theorem dX8_isWell_5 : decode cX8_isWell 5 = .ok (.aload_n 0, 1) := by decide +kernel
theorem dX8_isWell_6 : decode cX8_isWell 6 = .ok (.getfield 7, 3) := by decide +kernel
theorem dX8_isWell_9 : decode cX8_isWell 9 = .ok (.iconst 0, 1) := by decide +kernel
theorem dX8_isWell_10 : decode cX8_isWell 10 = .ok (.iaload, 1) := by decide +kernel
theorem dX8_isWell_11 : decode cX8_isWell 11 = .ok (.if_icmp .ge 43, 3) := by decide +kernel
theorem dX8_isWell_14 : decode cX8_isWell 14 = .ok (.iload_n 2, 1) := by decide +kernel
theorem dX8_isWell_15 : decode cX8_isWell 15 = .ok (.ifCond .eq 39, 3) := by decide +kernel
theorem dX8_isWell_18 : decode cX8_isWell 18 = .ok (.iload_n 1, 1) := by decide +kernel
theorem dX8_isWell_19 : decode cX8_isWell 19 = .ok (.iload_n 3, 1) := by decide +kernel
theorem dX8_isWell_20 : decode cX8_isWell 20 = .ok (.invokestatic 64, 3) := by decide +kernel
theorem dX8_isWell_23 : decode cX8_isWell 23 = .ok (.istore 4, 2) := by decide +kernel
theorem dX8_isWell_25 : decode cX8_isWell 25 = .ok (.iload 4, 2) := by decide +kernel
theorem dX8_isWell_27 : decode cX8_isWell 27 = .ok (.iload_n 3, 1) := by decide +kernel
theorem dX8_isWell_28 : decode cX8_isWell 28 = .ok (.if_icmp .gt 18, 3) := by decide +kernel
theorem dX8_isWell_31 : decode cX8_isWell 31 = .ok (.iload_n 1, 1) := by decide +kernel
theorem dX8_isWell_32 : decode cX8_isWell 32 = .ok (.iload 4, 2) := by decide +kernel
theorem dX8_isWell_34 : decode cX8_isWell 34 = .ok (.invokestatic 64, 3) := by decide +kernel
theorem dX8_isWell_37 : decode cX8_isWell 37 = .ok (.iload 4, 2) := by decide +kernel
theorem dX8_isWell_39 : decode cX8_isWell 39 = .ok (.if_icmp .ne 7, 3) := by decide +kernel
theorem dX8_isWell_42 : decode cX8_isWell 42 = .ok (.iconst 1, 1) := by decide +kernel
theorem dX8_isWell_43 : decode cX8_isWell 43 = .ok (.goto 4, 3) := by decide +kernel
theorem dX8_isWell_46 : decode cX8_isWell 46 = .ok (.iconst 0, 1) := by decide +kernel
theorem dX8_isWell_47 : decode cX8_isWell 47 = .ok (.istore_n 2, 1) := by decide +kernel
theorem dX8_isWell_48 : decode cX8_isWell 48 = .ok (.iinc 3 1, 3) := by decide +kernel
theorem dX8_isWell_51 : decode cX8_isWell 51 = .ok (.goto (-47), 3) := by decide +kernel
theorem dX8_isWell_54 : decode cX8_isWell 54 = .ok (.iload_n 2, 1) := by decide +kernel
theorem dX8_isWell_55 : decode cX8_isWell 55 = .ok (.ifCond .eq 15, 3) := by decide +kernel
theorem dX8_isWell_58 : decode cX8_isWell 58 = .ok (.aload_n 0, 1) := by decide +kernel
theorem dX8_isWell_59 : decode cX8_isWell 59 = .ok (.iload_n 1, 1) := by decide +kernel
theorem dX8_isWell_60 : decode cX8_isWell 60 = .ok (.invokevirtual 79, 3) := by decide +kernel
theorem dX8_isWell_63 : decode cX8_isWell 63 = .ok (.ifCond .ne 7, 3) := by decide +kernel
theorem dX8_isWell_66 : decode cX8_isWell 66 = .ok (.iconst 1, 1) := by decide +kernel
theorem dX8_isWell_67 : decode cX8_isWell 67 = .ok (.goto 4, 3) := by decide +kernel
theorem dX8_isWell_70 : decode cX8_isWell 70 = .ok (.iconst 0, 1) := by decide +kernel
theorem dX8_isWell_71 : decode cX8_isWell 71 = .ok (.ireturn, 1) := by decide +kernel
theorem dX8_lay_0 : decode cX8_lay 0 = .ok (.aload_n 0, 1) := by decide +kernel
theorem dX8_lay_1 : decode cX8_lay 1 = .ok (.getfield 83, 3) := by decide +kernel
theorem dX8_lay_4 : decode cX8_lay 4 = .ok (.aload_n 0, 1) := by decide +kernel
theorem dX8_lay_5 : decode cX8_lay 5 = .ok (.getfield 7, 3) := by decide +kernel
theorem dX8_lay_8 : decode cX8_lay 8 = .ok (.iconst 0, 1) := by decide +kernel
theorem dX8_lay_9 : decode cX8_lay 9 = .ok (.iaload, 1) := by decide +kernel
theorem dX8_lay_10 : decode cX8_lay 10 = .ok (.if_icmp .ne 4, 3) := by decide +kernel
theorem dX8_lay_13 : decode cX8_lay 13 = .ok (.return_, 1) := by decide +kernel
theorem dX8_lay_14 : decode cX8_lay 14 = .ok (.aload_n 0, 1) := by decide +kernel
theorem dX8_lay_15 : decode cX8_lay 15 = .ok (.aload_n 0, 1) := by decide +kernel
theorem dX8_lay_16 : decode cX8_lay 16 = .ok (.getfield 7, 3) := by decide +kernel
theorem dX8_lay_19 : decode cX8_lay 19 = .ok (.iconst 0, 1) := by decide +kernel
theorem dX8_lay_20 : decode cX8_lay 20 = .ok (.iaload, 1) := by decide +kernel
theorem dX8_lay_21 : decode cX8_lay 21 = .ok (.putfield 83, 3) := by decide +kernel
theorem dX8_lay_24 : decode cX8_lay 24 = .ok (.aload_n 0, 1) := by decide +kernel
theorem dX8_lay_25 : decode cX8_lay 25 = .ok (.iconst 0, 1) := by decide +kernel
theorem dX8_lay_26 : decode cX8_lay 26 = .ok (.putfield 87, 3) := by decide +kernel
theorem dX8_lay_29 : decode cX8_lay 29 = .ok (.aload_n 0, 1) := by decide +kernel
theorem dX8_lay_30 : decode cX8_lay 30 = .ok (.getfield 7, 3) := by decide +kernel
theorem dX8_lay_33 : decode cX8_lay 33 = .ok (.iconst 0, 1) := by decide +kernel
theorem dX8_lay_34 : decode cX8_lay 34 = .ok (.iaload, 1) := by decide +kernel
theorem dX8_lay_35 : decode cX8_lay 35 = .ok (.istore_n 1, 1) := by decide +kernel
theorem dX8_lay_36 : decode cX8_lay 36 = .ok (.iconst 0, 1) := by decide +kernel
theorem dX8_lay_37 : decode cX8_lay 37 = .ok (.istore_n 2, 1) := by decide +kernel
theorem dX8_lay_38 : decode cX8_lay 38 = .ok (.iconst 1, 1) := by decide +kernel
theorem dX8_lay_39 : decode cX8_lay 39 = .ok (.istore_n 3, 1) := by decide +kernel
theorem dX8_lay_40 : decode cX8_lay 40 = .ok (.iload_n 3, 1) := by decide +kernel
theorem dX8_lay_41 : decode cX8_lay 41 = .ok (.ifCond .eq 121, 3) := by decide +kernel
theorem dX8_lay_44 : decode cX8_lay 44 = .ok (.aload_n 0, 1) := by decide +kernel
theorem dX8_lay_45 : decode cX8_lay 45 = .ok (.iload_n 2, 1) := by decide +kernel
theorem dX8_lay_46 : decode cX8_lay 46 = .ok (.invokevirtual 90, 3) := by decide +kernel
theorem dX8_lay_49 : decode cX8_lay 49 = .ok (.ifCond .eq 37, 3) := by decide +kernel
theorem dX8_lay_52 : decode cX8_lay 52 = .ok (.aload_n 0, 1) := by decide +kernel
theorem dX8_lay_53 : decode cX8_lay 53 = .ok (.getfield 28, 3) := by decide +kernel
theorem dX8_lay_56 : decode cX8_lay 56 = .ok (.aload_n 0, 1) := by decide +kernel
theorem dX8_lay_57 : decode cX8_lay 57 = .ok (.getfield 87, 3) := by decide +kernel
theorem dX8_lay_60 : decode cX8_lay 60 = .ok (.iload_n 2, 1) := by decide +kernel
theorem dX8_lay_61 : decode cX8_lay 61 = .ok (.iastore, 1) := by decide +kernel
theorem dX8_lay_62 : decode cX8_lay 62 = .ok (.aload_n 0, 1) := by decide +kernel
theorem dX8_lay_63 : decode cX8_lay 63 = .ok (.getfield 31, 3) := by decide +kernel
theorem dX8_lay_66 : decode cX8_lay 66 = .ok (.aload_n 0, 1) := by decide +kernel
theorem dX8_lay_67 : decode cX8_lay 67 = .ok (.getfield 87, 3) := by decide +kernel
theorem dX8_lay_70 : decode cX8_lay 70 = .ok (.aload_n 0, 1) := by decide +kernel
theorem dX8_lay_71 : decode cX8_lay 71 = .ok (.iload_n 2, 1) := by decide +kernel
theorem dX8_lay_72 : decode cX8_lay 72 = .ok (.invokevirtual 93, 3) := by decide +kernel
theorem dX8_lay_75 : decode cX8_lay 75 = .ok (.iastore, 1) := by decide +kernel
theorem dX8_lay_76 : decode cX8_lay 76 = .ok (.aload_n 0, 1) := by decide +kernel
theorem dX8_lay_77 : decode cX8_lay 77 = .ok (.dup, 1) := by decide +kernel
theorem dX8_lay_78 : decode cX8_lay 78 = .ok (.getfield 87, 3) := by decide +kernel
theorem dX8_lay_81 : decode cX8_lay 81 = .ok (.iconst 1, 1) := by decide +kernel
theorem dX8_lay_82 : decode cX8_lay 82 = .ok (.iadd, 1) := by decide +kernel
theorem dX8_lay_83 : decode cX8_lay 83 = .ok (.putfield 87, 3) := by decide +kernel
theorem dX8_lay_86 : decode cX8_lay 86 = .ok (.iload_n 1, 1) := by decide +kernel
theorem dX8_lay_87 : decode cX8_lay 87 = .ok (.iconst 1, 1) := by decide +kernel
theorem dX8_lay_88 : decode cX8_lay 88 = .ok (.isub, 1) := by decide +kernel
theorem dX8_lay_89 : decode cX8_lay 89 = .ok (.istore 4, 2) := by decide +kernel
theorem dX8_lay_91 : decode cX8_lay 91 = .ok (.iload 4, 2) := by decide +kernel
theorem dX8_lay_93 : decode cX8_lay 93 = .ok (.ifCond .le 35, 3) := by decide +kernel
theorem dX8_lay_96 : decode cX8_lay 96 = .ok (.iload_n 2, 1) := by decide +kernel
theorem dX8_lay_97 : decode cX8_lay 97 = .ok (.iload 4, 2) := by decide +kernel
theorem dX8_lay_99 : decode cX8_lay 99 = .ok (.invokestatic 64, 3) := by decide +kernel
theorem dX8_lay_102 : decode cX8_lay 102 = .ok (.iload 4, 2) := by decide +kernel
theorem dX8_lay_104 : decode cX8_lay 104 = .ok (.if_icmp .ne 24, 3) := by decide +kernel
theorem dX8_lay_107 : decode cX8_lay 107 = .ok (.iload_n 2, 1) := by decide +kernel
theorem dX8_lay_108 : decode cX8_lay 108 = .ok (.bipush 7, 2) := by decide +kernel
theorem dX8_lay_110 : decode cX8_lay 110 = .ok (.bipush 21, 2) := by decide +kernel
theorem dX8_lay_112 : decode cX8_lay 112 = .ok (.iconst 3, 1) := by decide +kernel
theorem dX8_lay_113 : decode cX8_lay 113 = .ok (.iload 4, 2) := by decide +kernel
theorem dX8_lay_115 : decode cX8_lay 115 = .ok (.imul, 1) := by decide +kernel
theorem dX8_lay_116 : decode cX8_lay 116 = .ok (.isub, 1) := by decide +kernel
theorem dX8_lay_117 : decode cX8_lay 117 = .ok (.ishl, 1) := by decide +kernel
theorem dX8_lay_118 : decode cX8_lay 118 = .ok (.iconst (-1), 1) := by decide +kernel
theorem dX8_lay_119 : decode cX8_lay 119 = .ok (.ixor, 1) := by decide +kernel
theorem dX8_lay_120 : decode cX8_lay 120 = .ok (.iand, 1) := by decide +kernel
theorem dX8_lay_121 : decode cX8_lay 121 = .ok (.istore_n 2, 1) := by decide +kernel
theorem dX8_lay_122 : decode cX8_lay 122 = .ok (.iinc 4 (-1), 3) := by decide +kernel
theorem dX8_lay_125 : decode cX8_lay 125 = .ok (.goto (-34), 3) := by decide +kernel
theorem dX8_lay_128 : decode cX8_lay 128 = .ok (.iload 4, 2) := by decide +kernel
theorem dX8_lay_130 : decode cX8_lay 130 = .ok (.ifCond .le 7, 3) := by decide +kernel
theorem dX8_lay_133 : decode cX8_lay 133 = .ok (.iconst 1, 1) := by decide +kernel
theorem dX8_lay_134 : decode cX8_lay 134 = .ok (.goto 4, 3) := by decide +kernel
theorem dX8_lay_137 : decode cX8_lay 137 = .ok (.iconst 0, 1) := by decide +kernel
theorem dX8_lay_138 : decode cX8_lay 138 = .ok (.istore_n 3, 1) := by decide +kernel
theorem dX8_lay_139 : decode cX8_lay 139 = .ok (.iload_n 2, 1) := by decide +kernel
theorem dX8_lay_140 : decode cX8_lay 140 = .ok (.iload_n 3, 1) := by decide +kernel
theorem dX8_lay_141 : decode cX8_lay 141 = .ok (.ifCond .eq 15, 3) := by decide +kernel
theorem dX8_lay_144 : decode cX8_lay 144 = .ok (.iconst 1, 1) := by decide +kernel
theorem dX8_lay_145 : decode cX8_lay 145 = .ok (.bipush 21, 2) := by decide +kernel
theorem dX8_lay_147 : decode cX8_lay 147 = .ok (.iconst 3, 1) := by decide +kernel
theorem dX8_lay_148 : decode cX8_lay 148 = .ok (.iload 4, 2) := by decide +kernel
theorem dX8_lay_150 : decode cX8_lay 150 = .ok (.imul, 1) := by decide +kernel
theorem dX8_lay_151 : decode cX8_lay 151 = .ok (.isub, 1) := by decide +kernel
theorem dX8_lay_152 : decode cX8_lay 152 = .ok (.ishl, 1) := by decide +kernel
theorem dX8_lay_153 : decode cX8_lay 153 = .ok (.goto 4, 3) := by decide +kernel
theorem dX8_lay_156 : decode cX8_lay 156 = .ok (.iconst 0, 1) := by decide +kernel
theorem dX8_lay_157 : decode cX8_lay 157 = .ok (.iadd, 1) := by decide +kernel
theorem dX8_lay_158 : decode cX8_lay 158 = .ok (.istore_n 2, 1) := by decide +kernel
theorem dX8_lay_159 : decode cX8_lay 159 = .ok (.goto (-119), 3) := by decide +kernel
theorem dX8_lay_162 : decode cX8_lay 162 = .ok (.return_, 1) := by decide +kernel
theorem dX8_numberOf_0 : decode cX8_numberOf 0 = .ok (.aload_n 0, 1) := by decide +kernel
theorem dX8_numberOf_1 : decode cX8_numberOf 1 = .ok (.invokevirtual 97, 3) := by decide +kernel
theorem dX8_numberOf_4 : decode cX8_numberOf 4 = .ok (.iconst 0, 1) := by decide +kernel
theorem dX8_numberOf_5 : decode cX8_numberOf 5 = .ok (.istore_n 2, 1) := by decide +kernel
theorem dX8_numberOf_6 : decode cX8_numberOf 6 = .ok (.aload_n 0, 1) := by decide +kernel
theorem dX8_numberOf_7 : decode cX8_numberOf 7 = .ok (.getfield 87, 3) := by decide +kernel
theorem dX8_numberOf_10 : decode cX8_numberOf 10 = .ok (.iconst 1, 1) := by decide +kernel
theorem dX8_numberOf_11 : decode cX8_numberOf 11 = .ok (.isub, 1) := by decide +kernel
theorem dX8_numberOf_12 : decode cX8_numberOf 12 = .ok (.istore_n 3, 1) := by decide +kernel
theorem dX8_numberOf_13 : decode cX8_numberOf 13 = .ok (.iload_n 2, 1) := by decide +kernel
theorem dX8_numberOf_14 : decode cX8_numberOf 14 = .ok (.iload_n 3, 1) := by decide +kernel
theorem dX8_numberOf_15 : decode cX8_numberOf 15 = .ok (.if_icmp .ge 35, 3) := by decide +kernel
theorem dX8_numberOf_18 : decode cX8_numberOf 18 = .ok (.iload_n 2, 1) := by decide +kernel
theorem dX8_numberOf_19 : decode cX8_numberOf 19 = .ok (.iload_n 3, 1) := by decide +kernel
theorem dX8_numberOf_20 : decode cX8_numberOf 20 = .ok (.iadd, 1) := by decide +kernel
theorem dX8_numberOf_21 : decode cX8_numberOf 21 = .ok (.iconst 2, 1) := by decide +kernel
theorem dX8_numberOf_22 : decode cX8_numberOf 22 = .ok (.idiv, 1) := by decide +kernel
theorem dX8_numberOf_23 : decode cX8_numberOf 23 = .ok (.istore 4, 2) := by decide +kernel
theorem dX8_numberOf_25 : decode cX8_numberOf 25 = .ok (.aload_n 0, 1) := by decide +kernel
theorem dX8_numberOf_26 : decode cX8_numberOf 26 = .ok (.getfield 28, 3) := by decide +kernel
theorem dX8_numberOf_29 : decode cX8_numberOf 29 = .ok (.iload 4, 2) := by decide +kernel
theorem dX8_numberOf_31 : decode cX8_numberOf 31 = .ok (.iaload, 1) := by decide +kernel
theorem dX8_numberOf_32 : decode cX8_numberOf 32 = .ok (.iload_n 1, 1) := by decide +kernel
theorem dX8_numberOf_33 : decode cX8_numberOf 33 = .ok (.if_icmp .ge 11, 3) := by decide +kernel
theorem dX8_numberOf_36 : decode cX8_numberOf 36 = .ok (.iload 4, 2) := by decide +kernel
theorem dX8_numberOf_38 : decode cX8_numberOf 38 = .ok (.iconst 1, 1) := by decide +kernel
theorem dX8_numberOf_39 : decode cX8_numberOf 39 = .ok (.iadd, 1) := by decide +kernel
theorem dX8_numberOf_40 : decode cX8_numberOf 40 = .ok (.istore_n 2, 1) := by decide +kernel
theorem dX8_numberOf_41 : decode cX8_numberOf 41 = .ok (.goto 6, 3) := by decide +kernel
theorem dX8_numberOf_44 : decode cX8_numberOf 44 = .ok (.iload 4, 2) := by decide +kernel
theorem dX8_numberOf_46 : decode cX8_numberOf 46 = .ok (.istore_n 3, 1) := by decide +kernel
theorem dX8_numberOf_47 : decode cX8_numberOf 47 = .ok (.goto (-34), 3) := by decide +kernel
theorem dX8_numberOf_50 : decode cX8_numberOf 50 = .ok (.iload_n 2, 1) := by decide +kernel
theorem dX8_numberOf_51 : decode cX8_numberOf 51 = .ok (.ireturn, 1) := by decide +kernel
theorem dX8_isSlot_0 : decode cX8_isSlot 0 = .ok (.iload_n 0, 1) := by decide +kernel
theorem dX8_isSlot_1 : decode cX8_isSlot 1 = .ok (.iconst 0, 1) := by decide +kernel
theorem dX8_isSlot_2 : decode cX8_isSlot 2 = .ok (.iconst 5, 1) := by decide +kernel
theorem dX8_isSlot_3 : decode cX8_isSlot 3 = .ok (.invokestatic 100, 3) := by decide +kernel
theorem dX8_isSlot_6 : decode cX8_isSlot 6 = .ok (.ireturn, 1) := by decide +kernel
theorem dX8_isPoint_0 : decode cX8_isPoint 0 = .ok (.iload_n 1, 1) := by decide +kernel
theorem dX8_isPoint_1 : decode cX8_isPoint 1 = .ok (.iconst 0, 1) := by decide +kernel
theorem dX8_isPoint_2 : decode cX8_isPoint 2 = .ok (.aload_n 0, 1) := by decide +kernel
theorem dX8_isPoint_3 : decode cX8_isPoint 3 = .ok (.getfield 7, 3) := by decide +kernel
theorem dX8_isPoint_6 : decode cX8_isPoint 6 = .ok (.iconst 0, 1) := by decide +kernel
theorem dX8_isPoint_7 : decode cX8_isPoint 7 = .ok (.iaload, 1) := by decide +kernel
theorem dX8_isPoint_8 : decode cX8_isPoint 8 = .ok (.iconst 1, 1) := by decide +kernel
theorem dX8_isPoint_9 : decode cX8_isPoint 9 = .ok (.isub, 1) := by decide +kernel
theorem dX8_isPoint_10 : decode cX8_isPoint 10 = .ok (.invokestatic 100, 3) := by decide +kernel
theorem dX8_isPoint_13 : decode cX8_isPoint 13 = .ok (.ireturn, 1) := by decide +kernel
theorem dX8_doPoints_0 : decode cX8_doPoints 0 = .ok (.iload_n 1, 1) := by decide +kernel
theorem dX8_doPoints_1 : decode cX8_doPoints 1 = .ok (.iconst 1, 1) := by decide +kernel
theorem dX8_doPoints_2 : decode cX8_doPoints 2 = .ok (.bipush 8, 2) := by decide +kernel
theorem dX8_doPoints_4 : decode cX8_doPoints 4 = .ok (.invokestatic 100, 3) := by decide +kernel
theorem dX8_doPoints_7 : decode cX8_doPoints 7 = .ok (.ifCond .ne 6, 3) := by decide +kernel
theorem dX8_doPoints_10 : decode cX8_doPoints 10 = .ok (.bipush (-2), 2) := by decide +kernel
theorem dX8_doPoints_12 : decode cX8_doPoints 12 = .ok (.ireturn, 1) := by decide +kernel
theorem dX8_doPoints_13 : decode cX8_doPoints 13 = .ok (.aload_n 0, 1) := by decide +kernel
theorem dX8_doPoints_14 : decode cX8_doPoints 14 = .ok (.getfield 7, 3) := by decide +kernel
theorem dX8_doPoints_17 : decode cX8_doPoints 17 = .ok (.iconst 0, 1) := by decide +kernel
theorem dX8_doPoints_18 : decode cX8_doPoints 18 = .ok (.iaload, 1) := by decide +kernel
theorem dX8_doPoints_19 : decode cX8_doPoints 19 = .ok (.istore_n 2, 1) := by decide +kernel
theorem dX8_doPoints_20 : decode cX8_doPoints 20 = .ok (.aload_n 0, 1) := by decide +kernel
theorem dX8_doPoints_21 : decode cX8_doPoints 21 = .ok (.iload_n 1, 1) := by decide +kernel
theorem dX8_doPoints_22 : decode cX8_doPoints 22 = .ok (.invokevirtual 56, 3) := by decide +kernel
theorem dX8_doPoints_25 : decode cX8_doPoints 25 = .ok (.iload_n 2, 1) := by decide +kernel
theorem dX8_doPoints_26 : decode cX8_doPoints 26 = .ok (.ireturn, 1) := by decide +kernel
theorem dX8_put_0 : decode cX8_put 0 = .ok (.aload_n 0, 1) := by decide +kernel
theorem dX8_put_1 : decode cX8_put 1 = .ok (.getfield 7, 3) := by decide +kernel
theorem dX8_put_4 : decode cX8_put 4 = .ok (.iconst 1, 1) := by decide +kernel
theorem dX8_put_5 : decode cX8_put 5 = .ok (.iload_n 1, 1) := by decide +kernel
theorem dX8_put_6 : decode cX8_put 6 = .ok (.iadd, 1) := by decide +kernel
theorem dX8_put_7 : decode cX8_put 7 = .ok (.iload_n 2, 1) := by decide +kernel
theorem dX8_put_8 : decode cX8_put 8 = .ok (.iastore, 1) := by decide +kernel
theorem dX8_put_9 : decode cX8_put 9 = .ok (.aload_n 0, 1) := by decide +kernel
theorem dX8_put_10 : decode cX8_put 10 = .ok (.iload_n 2, 1) := by decide +kernel
theorem dX8_put_11 : decode cX8_put 11 = .ok (.invokevirtual 93, 3) := by decide +kernel
theorem dX8_put_14 : decode cX8_put 14 = .ok (.ireturn, 1) := by decide +kernel
theorem dX8_doPuts_0 : decode cX8_doPuts 0 = .ok (.iload_n 1, 1) := by decide +kernel
theorem dX8_doPuts_1 : decode cX8_doPuts 1 = .ok (.invokestatic 104, 3) := by decide +kernel
theorem dX8_doPuts_4 : decode cX8_doPuts 4 = .ok (.ifCond .eq 19, 3) := by decide +kernel
theorem dX8_doPuts_7 : decode cX8_doPuts 7 = .ok (.aload_n 0, 1) := by decide +kernel
theorem dX8_doPuts_8 : decode cX8_doPuts 8 = .ok (.iload_n 2, 1) := by decide +kernel
theorem dX8_doPuts_9 : decode cX8_doPuts 9 = .ok (.invokevirtual 107, 3) := by decide +kernel
theorem dX8_doPuts_12 : decode cX8_doPuts 12 = .ok (.ifCond .eq 11, 3) := by decide +kernel
theorem dX8_doPuts_15 : decode cX8_doPuts 15 = .ok (.aload_n 0, 1) := by decide +kernel
theorem dX8_doPuts_16 : decode cX8_doPuts 16 = .ok (.iload_n 3, 1) := by decide +kernel
theorem dX8_doPuts_17 : decode cX8_doPuts 17 = .ok (.invokevirtual 107, 3) := by decide +kernel
theorem dX8_doPuts_20 : decode cX8_doPuts 20 = .ok (.ifCond .ne 6, 3) := by decide +kernel
theorem dX8_doPuts_23 : decode cX8_doPuts 23 = .ok (.bipush (-2), 2) := by decide +kernel
theorem dX8_doPuts_25 : decode cX8_doPuts 25 = .ok (.ireturn, 1) := by decide +kernel
theorem dX8_doPuts_26 : decode cX8_doPuts 26 = .ok (.iconst 0, 1) := by decide +kernel
theorem dX8_doPuts_27 : decode cX8_doPuts 27 = .ok (.istore 4, 2) := by decide +kernel
theorem dX8_doPuts_29 : decode cX8_doPuts 29 = .ok (.iload 4, 2) := by decide +kernel
theorem dX8_doPuts_31 : decode cX8_doPuts 31 = .ok (.aload_n 0, 1) := by decide +kernel
theorem dX8_doPuts_32 : decode cX8_doPuts 32 = .ok (.getfield 7, 3) := by decide +kernel
theorem dX8_doPuts_35 : decode cX8_doPuts 35 = .ok (.iconst 0, 1) := by decide +kernel
theorem dX8_doPuts_36 : decode cX8_doPuts 36 = .ok (.iaload, 1) := by decide +kernel
theorem dX8_doPuts_37 : decode cX8_doPuts 37 = .ok (.if_icmp .ge 18, 3) := by decide +kernel
theorem dX8_doPuts_40 : decode cX8_doPuts 40 = .ok (.aload_n 0, 1) := by decide +kernel
theorem dX8_doPuts_41 : decode cX8_doPuts 41 = .ok (.getfield 25, 3) := by decide +kernel
theorem dX8_doPuts_44 : decode cX8_doPuts 44 = .ok (.iload 4, 2) := by decide +kernel
theorem dX8_doPuts_46 : decode cX8_doPuts 46 = .ok (.iload 4, 2) := by decide +kernel
theorem dX8_doPuts_48 : decode cX8_doPuts 48 = .ok (.iastore, 1) := by decide +kernel
theorem dX8_doPuts_49 : decode cX8_doPuts 49 = .ok (.iinc 4 1, 3) := by decide +kernel
theorem dX8_doPuts_52 : decode cX8_doPuts 52 = .ok (.goto (-23), 3) := by decide +kernel
theorem dX8_doPuts_55 : decode cX8_doPuts 55 = .ok (.aload_n 0, 1) := by decide +kernel
theorem dX8_doPuts_56 : decode cX8_doPuts 56 = .ok (.getfield 25, 3) := by decide +kernel
theorem dX8_doPuts_59 : decode cX8_doPuts 59 = .ok (.iload_n 2, 1) := by decide +kernel
theorem dX8_doPuts_60 : decode cX8_doPuts 60 = .ok (.iload_n 3, 1) := by decide +kernel
theorem dX8_doPuts_61 : decode cX8_doPuts 61 = .ok (.iastore, 1) := by decide +kernel
theorem dX8_doPuts_62 : decode cX8_doPuts 62 = .ok (.aload_n 0, 1) := by decide +kernel
theorem dX8_doPuts_63 : decode cX8_doPuts 63 = .ok (.iload_n 1, 1) := by decide +kernel
theorem dX8_doPuts_64 : decode cX8_doPuts 64 = .ok (.aload_n 0, 1) := by decide +kernel
theorem dX8_doPuts_65 : decode cX8_doPuts 65 = .ok (.aload_n 0, 1) := by decide +kernel
theorem dX8_doPuts_66 : decode cX8_doPuts 66 = .ok (.getfield 7, 3) := by decide +kernel
theorem dX8_doPuts_69 : decode cX8_doPuts 69 = .ok (.iconst 1, 1) := by decide +kernel
theorem dX8_doPuts_70 : decode cX8_doPuts 70 = .ok (.iload_n 1, 1) := by decide +kernel
theorem dX8_doPuts_71 : decode cX8_doPuts 71 = .ok (.iadd, 1) := by decide +kernel
theorem dX8_doPuts_72 : decode cX8_doPuts 72 = .ok (.iaload, 1) := by decide +kernel
theorem dX8_doPuts_73 : decode cX8_doPuts 73 = .ok (.aload_n 0, 1) := by decide +kernel
theorem dX8_doPuts_74 : decode cX8_doPuts 74 = .ok (.invokevirtual 72, 3) := by decide +kernel
theorem dX8_doPuts_77 : decode cX8_doPuts 77 = .ok (.invokevirtual 110, 3) := by decide +kernel
theorem dX8_doPuts_80 : decode cX8_doPuts 80 = .ok (.invokevirtual 113, 3) := by decide +kernel
theorem dX8_doPuts_83 : decode cX8_doPuts 83 = .ok (.ireturn, 1) := by decide +kernel
theorem dX8_doMeets_0 : decode cX8_doMeets 0 = .ok (.iload_n 1, 1) := by decide +kernel
theorem dX8_doMeets_1 : decode cX8_doMeets 1 = .ok (.invokestatic 104, 3) := by decide +kernel
theorem dX8_doMeets_4 : decode cX8_doMeets 4 = .ok (.ifCond .eq 45, 3) := by decide +kernel
theorem dX8_doMeets_7 : decode cX8_doMeets 7 = .ok (.iload_n 2, 1) := by decide +kernel
theorem dX8_doMeets_8 : decode cX8_doMeets 8 = .ok (.invokestatic 104, 3) := by decide +kernel
theorem dX8_doMeets_11 : decode cX8_doMeets 11 = .ok (.ifCond .eq 38, 3) := by decide +kernel
theorem dX8_doMeets_14 : decode cX8_doMeets 14 = .ok (.iload_n 3, 1) := by decide +kernel
theorem dX8_doMeets_15 : decode cX8_doMeets 15 = .ok (.invokestatic 104, 3) := by decide +kernel
theorem dX8_doMeets_18 : decode cX8_doMeets 18 = .ok (.ifCond .eq 31, 3) := by decide +kernel
theorem dX8_doMeets_21 : decode cX8_doMeets 21 = .ok (.aload_n 0, 1) := by decide +kernel
theorem dX8_doMeets_22 : decode cX8_doMeets 22 = .ok (.iload_n 1, 1) := by decide +kernel
theorem dX8_doMeets_23 : decode cX8_doMeets 23 = .ok (.aload_n 0, 1) := by decide +kernel
theorem dX8_doMeets_24 : decode cX8_doMeets 24 = .ok (.aload_n 0, 1) := by decide +kernel
theorem dX8_doMeets_25 : decode cX8_doMeets 25 = .ok (.getfield 7, 3) := by decide +kernel
theorem dX8_doMeets_28 : decode cX8_doMeets 28 = .ok (.iconst 1, 1) := by decide +kernel
theorem dX8_doMeets_29 : decode cX8_doMeets 29 = .ok (.iload_n 2, 1) := by decide +kernel
theorem dX8_doMeets_30 : decode cX8_doMeets 30 = .ok (.iadd, 1) := by decide +kernel
theorem dX8_doMeets_31 : decode cX8_doMeets 31 = .ok (.iaload, 1) := by decide +kernel
theorem dX8_doMeets_32 : decode cX8_doMeets 32 = .ok (.aload_n 0, 1) := by decide +kernel
theorem dX8_doMeets_33 : decode cX8_doMeets 33 = .ok (.getfield 7, 3) := by decide +kernel
theorem dX8_doMeets_36 : decode cX8_doMeets 36 = .ok (.iconst 1, 1) := by decide +kernel
theorem dX8_doMeets_37 : decode cX8_doMeets 37 = .ok (.iload_n 3, 1) := by decide +kernel
theorem dX8_doMeets_38 : decode cX8_doMeets 38 = .ok (.iadd, 1) := by decide +kernel
theorem dX8_doMeets_39 : decode cX8_doMeets 39 = .ok (.iaload, 1) := by decide +kernel
theorem dX8_doMeets_40 : decode cX8_doMeets 40 = .ok (.invokevirtual 116, 3) := by decide +kernel
theorem dX8_doMeets_43 : decode cX8_doMeets 43 = .ok (.invokevirtual 113, 3) := by decide +kernel
theorem dX8_doMeets_46 : decode cX8_doMeets 46 = .ok (.goto 5, 3) := by decide +kernel
theorem dX8_doMeets_49 : decode cX8_doMeets 49 = .ok (.bipush (-2), 2) := by decide +kernel
theorem dX8_doMeets_51 : decode cX8_doMeets 51 = .ok (.ireturn, 1) := by decide +kernel
theorem dX8_doJoins_0 : decode cX8_doJoins 0 = .ok (.iload_n 1, 1) := by decide +kernel
theorem dX8_doJoins_1 : decode cX8_doJoins 1 = .ok (.invokestatic 104, 3) := by decide +kernel
theorem dX8_doJoins_4 : decode cX8_doJoins 4 = .ok (.ifCond .eq 45, 3) := by decide +kernel
theorem dX8_doJoins_7 : decode cX8_doJoins 7 = .ok (.iload_n 2, 1) := by decide +kernel
theorem dX8_doJoins_8 : decode cX8_doJoins 8 = .ok (.invokestatic 104, 3) := by decide +kernel
theorem dX8_doJoins_11 : decode cX8_doJoins 11 = .ok (.ifCond .eq 38, 3) := by decide +kernel
theorem dX8_doJoins_14 : decode cX8_doJoins 14 = .ok (.iload_n 3, 1) := by decide +kernel
theorem dX8_doJoins_15 : decode cX8_doJoins 15 = .ok (.invokestatic 104, 3) := by decide +kernel
theorem dX8_doJoins_18 : decode cX8_doJoins 18 = .ok (.ifCond .eq 31, 3) := by decide +kernel
theorem dX8_doJoins_21 : decode cX8_doJoins 21 = .ok (.aload_n 0, 1) := by decide +kernel
theorem dX8_doJoins_22 : decode cX8_doJoins 22 = .ok (.iload_n 1, 1) := by decide +kernel
theorem dX8_doJoins_23 : decode cX8_doJoins 23 = .ok (.aload_n 0, 1) := by decide +kernel
theorem dX8_doJoins_24 : decode cX8_doJoins 24 = .ok (.aload_n 0, 1) := by decide +kernel
theorem dX8_doJoins_25 : decode cX8_doJoins 25 = .ok (.getfield 7, 3) := by decide +kernel
theorem dX8_doJoins_28 : decode cX8_doJoins 28 = .ok (.iconst 1, 1) := by decide +kernel
theorem dX8_doJoins_29 : decode cX8_doJoins 29 = .ok (.iload_n 2, 1) := by decide +kernel
theorem dX8_doJoins_30 : decode cX8_doJoins 30 = .ok (.iadd, 1) := by decide +kernel
theorem dX8_doJoins_31 : decode cX8_doJoins 31 = .ok (.iaload, 1) := by decide +kernel
theorem dX8_doJoins_32 : decode cX8_doJoins 32 = .ok (.aload_n 0, 1) := by decide +kernel
theorem dX8_doJoins_33 : decode cX8_doJoins 33 = .ok (.getfield 7, 3) := by decide +kernel
theorem dX8_doJoins_36 : decode cX8_doJoins 36 = .ok (.iconst 1, 1) := by decide +kernel
theorem dX8_doJoins_37 : decode cX8_doJoins 37 = .ok (.iload_n 3, 1) := by decide +kernel
theorem dX8_doJoins_38 : decode cX8_doJoins 38 = .ok (.iadd, 1) := by decide +kernel
theorem dX8_doJoins_39 : decode cX8_doJoins 39 = .ok (.iaload, 1) := by decide +kernel
theorem dX8_doJoins_40 : decode cX8_doJoins 40 = .ok (.invokevirtual 110, 3) := by decide +kernel
theorem dX8_doJoins_43 : decode cX8_doJoins 43 = .ok (.invokevirtual 113, 3) := by decide +kernel
theorem dX8_doJoins_46 : decode cX8_doJoins 46 = .ok (.goto 5, 3) := by decide +kernel
theorem dX8_doJoins_49 : decode cX8_doJoins 49 = .ok (.bipush (-2), 2) := by decide +kernel
theorem dX8_doJoins_51 : decode cX8_doJoins 51 = .ok (.ireturn, 1) := by decide +kernel
theorem dX8_doComplements_0 : decode cX8_doComplements 0 = .ok (.iload_n 1, 1) := by decide +kernel
theorem dX8_doComplements_1 : decode cX8_doComplements 1 = .ok (.invokestatic 104, 3) := by decide +kernel
theorem dX8_doComplements_4 : decode cX8_doComplements 4 = .ok (.ifCond .eq 30, 3) := by decide +kernel
theorem dX8_doComplements_7 : decode cX8_doComplements 7 = .ok (.iload_n 2, 1) := by decide +kernel
theorem dX8_doComplements_8 : decode cX8_doComplements 8 = .ok (.invokestatic 104, 3) := by decide +kernel
theorem dX8_doComplements_11 : decode cX8_doComplements 11 = .ok (.ifCond .eq 23, 3) := by decide +kernel
theorem dX8_doComplements_14 : decode cX8_doComplements 14 = .ok (.aload_n 0, 1) := by decide +kernel
theorem dX8_doComplements_15 : decode cX8_doComplements 15 = .ok (.iload_n 1, 1) := by decide +kernel
theorem dX8_doComplements_16 : decode cX8_doComplements 16 = .ok (.aload_n 0, 1) := by decide +kernel
theorem dX8_doComplements_17 : decode cX8_doComplements 17 = .ok (.aload_n 0, 1) := by decide +kernel
theorem dX8_doComplements_18 : decode cX8_doComplements 18 = .ok (.getfield 7, 3) := by decide +kernel
theorem dX8_doComplements_21 : decode cX8_doComplements 21 = .ok (.iconst 1, 1) := by decide +kernel
theorem dX8_doComplements_22 : decode cX8_doComplements 22 = .ok (.iload_n 2, 1) := by decide +kernel
theorem dX8_doComplements_23 : decode cX8_doComplements 23 = .ok (.iadd, 1) := by decide +kernel
theorem dX8_doComplements_24 : decode cX8_doComplements 24 = .ok (.iaload, 1) := by decide +kernel
theorem dX8_doComplements_25 : decode cX8_doComplements 25 = .ok (.invokevirtual 119, 3) := by decide +kernel
theorem dX8_doComplements_28 : decode cX8_doComplements 28 = .ok (.invokevirtual 113, 3) := by decide +kernel
theorem dX8_doComplements_31 : decode cX8_doComplements 31 = .ok (.goto 5, 3) := by decide +kernel
theorem dX8_doComplements_34 : decode cX8_doComplements 34 = .ok (.bipush (-2), 2) := by decide +kernel
theorem dX8_doComplements_36 : decode cX8_doComplements 36 = .ok (.ireturn, 1) := by decide +kernel
theorem dX8_doTurns_0 : decode cX8_doTurns 0 = .ok (.iload_n 1, 1) := by decide +kernel
theorem dX8_doTurns_1 : decode cX8_doTurns 1 = .ok (.invokestatic 104, 3) := by decide +kernel
theorem dX8_doTurns_4 : decode cX8_doTurns 4 = .ok (.ifCond .eq 10, 3) := by decide +kernel
theorem dX8_doTurns_7 : decode cX8_doTurns 7 = .ok (.iload_n 2, 1) := by decide +kernel
theorem dX8_doTurns_8 : decode cX8_doTurns 8 = .ok (.invokestatic 104, 3) := by decide +kernel
theorem dX8_doTurns_11 : decode cX8_doTurns 11 = .ok (.ifCond .ne 6, 3) := by decide +kernel
theorem dX8_doTurns_14 : decode cX8_doTurns 14 = .ok (.bipush (-2), 2) := by decide +kernel
theorem dX8_doTurns_16 : decode cX8_doTurns 16 = .ok (.ireturn, 1) := by decide +kernel
theorem dX8_doTurns_17 : decode cX8_doTurns 17 = .ok (.aload_n 0, 1) := by decide +kernel
theorem dX8_doTurns_18 : decode cX8_doTurns 18 = .ok (.getfield 7, 3) := by decide +kernel
theorem dX8_doTurns_21 : decode cX8_doTurns 21 = .ok (.iconst 1, 1) := by decide +kernel
theorem dX8_doTurns_22 : decode cX8_doTurns 22 = .ok (.iload_n 1, 1) := by decide +kernel
theorem dX8_doTurns_23 : decode cX8_doTurns 23 = .ok (.iadd, 1) := by decide +kernel
theorem dX8_doTurns_24 : decode cX8_doTurns 24 = .ok (.aload_n 0, 1) := by decide +kernel
theorem dX8_doTurns_25 : decode cX8_doTurns 25 = .ok (.aload_n 0, 1) := by decide +kernel
theorem dX8_doTurns_26 : decode cX8_doTurns 26 = .ok (.getfield 7, 3) := by decide +kernel
theorem dX8_doTurns_29 : decode cX8_doTurns 29 = .ok (.iconst 1, 1) := by decide +kernel
theorem dX8_doTurns_30 : decode cX8_doTurns 30 = .ok (.iload_n 2, 1) := by decide +kernel
theorem dX8_doTurns_31 : decode cX8_doTurns 31 = .ok (.iadd, 1) := by decide +kernel
theorem dX8_doTurns_32 : decode cX8_doTurns 32 = .ok (.iaload, 1) := by decide +kernel
theorem dX8_doTurns_33 : decode cX8_doTurns 33 = .ok (.invokevirtual 122, 3) := by decide +kernel
theorem dX8_doTurns_36 : decode cX8_doTurns 36 = .ok (.iastore, 1) := by decide +kernel
theorem dX8_doTurns_37 : decode cX8_doTurns 37 = .ok (.aload_n 0, 1) := by decide +kernel
theorem dX8_doTurns_38 : decode cX8_doTurns 38 = .ok (.aload_n 0, 1) := by decide +kernel
theorem dX8_doTurns_39 : decode cX8_doTurns 39 = .ok (.getfield 7, 3) := by decide +kernel
theorem dX8_doTurns_42 : decode cX8_doTurns 42 = .ok (.iconst 1, 1) := by decide +kernel
theorem dX8_doTurns_43 : decode cX8_doTurns 43 = .ok (.iload_n 1, 1) := by decide +kernel
theorem dX8_doTurns_44 : decode cX8_doTurns 44 = .ok (.iadd, 1) := by decide +kernel
theorem dX8_doTurns_45 : decode cX8_doTurns 45 = .ok (.iaload, 1) := by decide +kernel
theorem dX8_doTurns_46 : decode cX8_doTurns 46 = .ok (.invokevirtual 125, 3) := by decide +kernel
theorem dX8_doTurns_49 : decode cX8_doTurns 49 = .ok (.ireturn, 1) := by decide +kernel
theorem dX8_doTakes_0 : decode cX8_doTakes 0 = .ok (.aload_n 0, 1) := by decide +kernel
theorem dX8_doTakes_1 : decode cX8_doTakes 1 = .ok (.invokevirtual 97, 3) := by decide +kernel
theorem dX8_doTakes_4 : decode cX8_doTakes 4 = .ok (.iload_n 1, 1) := by decide +kernel
theorem dX8_doTakes_5 : decode cX8_doTakes 5 = .ok (.invokestatic 104, 3) := by decide +kernel
theorem dX8_doTakes_8 : decode cX8_doTakes 8 = .ok (.ifCond .eq 31, 3) := by decide +kernel
theorem dX8_doTakes_11 : decode cX8_doTakes 11 = .ok (.iload_n 2, 1) := by decide +kernel
theorem dX8_doTakes_12 : decode cX8_doTakes 12 = .ok (.iconst 0, 1) := by decide +kernel
theorem dX8_doTakes_13 : decode cX8_doTakes 13 = .ok (.aload_n 0, 1) := by decide +kernel
theorem dX8_doTakes_14 : decode cX8_doTakes 14 = .ok (.getfield 87, 3) := by decide +kernel
theorem dX8_doTakes_17 : decode cX8_doTakes 17 = .ok (.iconst 1, 1) := by decide +kernel
theorem dX8_doTakes_18 : decode cX8_doTakes 18 = .ok (.isub, 1) := by decide +kernel
theorem dX8_doTakes_19 : decode cX8_doTakes 19 = .ok (.invokestatic 100, 3) := by decide +kernel
theorem dX8_doTakes_22 : decode cX8_doTakes 22 = .ok (.ifCond .eq 17, 3) := by decide +kernel
theorem dX8_doTakes_25 : decode cX8_doTakes 25 = .ok (.aload_n 0, 1) := by decide +kernel
theorem dX8_doTakes_26 : decode cX8_doTakes 26 = .ok (.iload_n 1, 1) := by decide +kernel
theorem dX8_doTakes_27 : decode cX8_doTakes 27 = .ok (.aload_n 0, 1) := by decide +kernel
theorem dX8_doTakes_28 : decode cX8_doTakes 28 = .ok (.getfield 28, 3) := by decide +kernel
theorem dX8_doTakes_31 : decode cX8_doTakes 31 = .ok (.iload_n 2, 1) := by decide +kernel
theorem dX8_doTakes_32 : decode cX8_doTakes 32 = .ok (.iaload, 1) := by decide +kernel
theorem dX8_doTakes_33 : decode cX8_doTakes 33 = .ok (.invokevirtual 113, 3) := by decide +kernel
theorem dX8_doTakes_36 : decode cX8_doTakes 36 = .ok (.goto 5, 3) := by decide +kernel
theorem dX8_doTakes_39 : decode cX8_doTakes 39 = .ok (.bipush (-2), 2) := by decide +kernel
theorem dX8_doTakes_41 : decode cX8_doTakes 41 = .ok (.ireturn, 1) := by decide +kernel
theorem dX8_doNumber_0 : decode cX8_doNumber 0 = .ok (.iload_n 1, 1) := by decide +kernel
theorem dX8_doNumber_1 : decode cX8_doNumber 1 = .ok (.iconst 1, 1) := by decide +kernel
theorem dX8_doNumber_2 : decode cX8_doNumber 2 = .ok (.bipush 8, 2) := by decide +kernel
theorem dX8_doNumber_4 : decode cX8_doNumber 4 = .ok (.invokestatic 100, 3) := by decide +kernel
theorem dX8_doNumber_7 : decode cX8_doNumber 7 = .ok (.ifCond .eq 14, 3) := by decide +kernel
theorem dX8_doNumber_10 : decode cX8_doNumber 10 = .ok (.iload_n 2, 1) := by decide +kernel
theorem dX8_doNumber_11 : decode cX8_doNumber 11 = .ok (.bipush (-9), 2) := by decide +kernel
theorem dX8_doNumber_13 : decode cX8_doNumber 13 = .ok (.bipush 9, 2) := by decide +kernel
theorem dX8_doNumber_15 : decode cX8_doNumber 15 = .ok (.invokestatic 100, 3) := by decide +kernel
theorem dX8_doNumber_18 : decode cX8_doNumber 18 = .ok (.ifCond .ne 6, 3) := by decide +kernel
theorem dX8_doNumber_21 : decode cX8_doNumber 21 = .ok (.bipush (-2), 2) := by decide +kernel
theorem dX8_doNumber_23 : decode cX8_doNumber 23 = .ok (.ireturn, 1) := by decide +kernel
theorem dX8_doNumber_24 : decode cX8_doNumber 24 = .ok (.aload_n 0, 1) := by decide +kernel
theorem dX8_doNumber_25 : decode cX8_doNumber 25 = .ok (.getfield 7, 3) := by decide +kernel
theorem dX8_doNumber_28 : decode cX8_doNumber 28 = .ok (.bipush 7, 2) := by decide +kernel
theorem dX8_doNumber_30 : decode cX8_doNumber 30 = .ok (.iload_n 1, 1) := by decide +kernel
theorem dX8_doNumber_31 : decode cX8_doNumber 31 = .ok (.iadd, 1) := by decide +kernel
theorem dX8_doNumber_32 : decode cX8_doNumber 32 = .ok (.iconst 1, 1) := by decide +kernel
theorem dX8_doNumber_33 : decode cX8_doNumber 33 = .ok (.isub, 1) := by decide +kernel
theorem dX8_doNumber_34 : decode cX8_doNumber 34 = .ok (.iaload, 1) := by decide +kernel
theorem dX8_doNumber_35 : decode cX8_doNumber 35 = .ok (.istore_n 3, 1) := by decide +kernel
theorem dX8_doNumber_36 : decode cX8_doNumber 36 = .ok (.aload_n 0, 1) := by decide +kernel
theorem dX8_doNumber_37 : decode cX8_doNumber 37 = .ok (.getfield 7, 3) := by decide +kernel
theorem dX8_doNumber_40 : decode cX8_doNumber 40 = .ok (.bipush 7, 2) := by decide +kernel
theorem dX8_doNumber_42 : decode cX8_doNumber 42 = .ok (.iload_n 1, 1) := by decide +kernel
theorem dX8_doNumber_43 : decode cX8_doNumber 43 = .ok (.iadd, 1) := by decide +kernel
theorem dX8_doNumber_44 : decode cX8_doNumber 44 = .ok (.iconst 1, 1) := by decide +kernel
theorem dX8_doNumber_45 : decode cX8_doNumber 45 = .ok (.isub, 1) := by decide +kernel
theorem dX8_doNumber_46 : decode cX8_doNumber 46 = .ok (.iload_n 2, 1) := by decide +kernel
theorem dX8_doNumber_47 : decode cX8_doNumber 47 = .ok (.iastore, 1) := by decide +kernel
theorem dX8_doNumber_48 : decode cX8_doNumber 48 = .ok (.iload_n 3, 1) := by decide +kernel
theorem dX8_doNumber_49 : decode cX8_doNumber 49 = .ok (.bipush 100, 2) := by decide +kernel
theorem dX8_doNumber_51 : decode cX8_doNumber 51 = .ok (.iadd, 1) := by decide +kernel
theorem dX8_doNumber_52 : decode cX8_doNumber 52 = .ok (.ireturn, 1) := by decide +kernel
theorem dX8_hold_0 : decode cX8_hold 0 = .ok (.iconst 0, 1) := by decide +kernel
theorem dX8_hold_1 : decode cX8_hold 1 = .ok (.istore_n 1, 1) := by decide +kernel
theorem dX8_hold_2 : decode cX8_hold 2 = .ok (.iload_n 1, 1) := by decide +kernel
theorem dX8_hold_3 : decode cX8_hold 3 = .ok (.bipush 15, 2) := by decide +kernel
theorem dX8_hold_5 : decode cX8_hold 5 = .ok (.if_icmp .ge 21, 3) := by decide +kernel
theorem dX8_hold_8 : decode cX8_hold 8 = .ok (.aload_n 0, 1) := by decide +kernel
theorem dX8_hold_9 : decode cX8_hold 9 = .ok (.getfield 13, 3) := by decide +kernel
theorem dX8_hold_12 : decode cX8_hold 12 = .ok (.iload_n 1, 1) := by decide +kernel
theorem dX8_hold_13 : decode cX8_hold 13 = .ok (.aload_n 0, 1) := by decide +kernel
theorem dX8_hold_14 : decode cX8_hold 14 = .ok (.getfield 7, 3) := by decide +kernel
theorem dX8_hold_17 : decode cX8_hold 17 = .ok (.iload_n 1, 1) := by decide +kernel
theorem dX8_hold_18 : decode cX8_hold 18 = .ok (.iaload, 1) := by decide +kernel
theorem dX8_hold_19 : decode cX8_hold 19 = .ok (.iastore, 1) := by decide +kernel
theorem dX8_hold_20 : decode cX8_hold 20 = .ok (.iinc 1 1, 3) := by decide +kernel
theorem dX8_hold_23 : decode cX8_hold 23 = .ok (.goto (-21), 3) := by decide +kernel
theorem dX8_hold_26 : decode cX8_hold 26 = .ok (.return_, 1) := by decide +kernel
theorem dX8_push_0 : decode cX8_push 0 = .ok (.aload_n 0, 1) := by decide +kernel
theorem dX8_push_1 : decode cX8_push 1 = .ok (.getfield 128, 3) := by decide +kernel
theorem dX8_push_4 : decode cX8_push 4 = .ok (.iconst 5, 1) := by decide +kernel
theorem dX8_push_5 : decode cX8_push 5 = .ok (.if_icmp .ne 42, 3) := by decide +kernel
theorem dX8_push_8 : decode cX8_push 8 = .ok (.iconst 0, 1) := by decide +kernel
theorem dX8_push_9 : decode cX8_push 9 = .ok (.istore_n 1, 1) := by decide +kernel
theorem dX8_push_10 : decode cX8_push 10 = .ok (.iload_n 1, 1) := by decide +kernel
theorem dX8_push_11 : decode cX8_push 11 = .ok (.bipush 60, 2) := by decide +kernel
theorem dX8_push_13 : decode cX8_push 13 = .ok (.if_icmp .ge 24, 3) := by decide +kernel
theorem dX8_push_16 : decode cX8_push 16 = .ok (.aload_n 0, 1) := by decide +kernel
theorem dX8_push_17 : decode cX8_push 17 = .ok (.getfield 16, 3) := by decide +kernel
theorem dX8_push_20 : decode cX8_push 20 = .ok (.iload_n 1, 1) := by decide +kernel
theorem dX8_push_21 : decode cX8_push 21 = .ok (.aload_n 0, 1) := by decide +kernel
theorem dX8_push_22 : decode cX8_push 22 = .ok (.getfield 16, 3) := by decide +kernel
theorem dX8_push_25 : decode cX8_push 25 = .ok (.iload_n 1, 1) := by decide +kernel
theorem dX8_push_26 : decode cX8_push 26 = .ok (.bipush 15, 2) := by decide +kernel
theorem dX8_push_28 : decode cX8_push 28 = .ok (.iadd, 1) := by decide +kernel
theorem dX8_push_29 : decode cX8_push 29 = .ok (.iaload, 1) := by decide +kernel
theorem dX8_push_30 : decode cX8_push 30 = .ok (.iastore, 1) := by decide +kernel
theorem dX8_push_31 : decode cX8_push 31 = .ok (.iinc 1 1, 3) := by decide +kernel
theorem dX8_push_34 : decode cX8_push 34 = .ok (.goto (-24), 3) := by decide +kernel
theorem dX8_push_37 : decode cX8_push 37 = .ok (.aload_n 0, 1) := by decide +kernel
theorem dX8_push_38 : decode cX8_push 38 = .ok (.dup, 1) := by decide +kernel
theorem dX8_push_39 : decode cX8_push 39 = .ok (.getfield 128, 3) := by decide +kernel
theorem dX8_push_42 : decode cX8_push 42 = .ok (.iconst 1, 1) := by decide +kernel
theorem dX8_push_43 : decode cX8_push 43 = .ok (.isub, 1) := by decide +kernel
theorem dX8_push_44 : decode cX8_push 44 = .ok (.putfield 128, 3) := by decide +kernel
theorem dX8_push_47 : decode cX8_push 47 = .ok (.iconst 0, 1) := by decide +kernel
theorem dX8_push_48 : decode cX8_push 48 = .ok (.istore_n 1, 1) := by decide +kernel
theorem dX8_push_49 : decode cX8_push 49 = .ok (.iload_n 1, 1) := by decide +kernel
theorem dX8_push_50 : decode cX8_push 50 = .ok (.bipush 15, 2) := by decide +kernel
theorem dX8_push_52 : decode cX8_push 52 = .ok (.if_icmp .ge 29, 3) := by decide +kernel
theorem dX8_push_55 : decode cX8_push 55 = .ok (.aload_n 0, 1) := by decide +kernel
theorem dX8_push_56 : decode cX8_push 56 = .ok (.getfield 16, 3) := by decide +kernel
theorem dX8_push_59 : decode cX8_push 59 = .ok (.bipush 15, 2) := by decide +kernel
theorem dX8_push_61 : decode cX8_push 61 = .ok (.aload_n 0, 1) := by decide +kernel
theorem dX8_push_62 : decode cX8_push 62 = .ok (.getfield 128, 3) := by decide +kernel
theorem dX8_push_65 : decode cX8_push 65 = .ok (.imul, 1) := by decide +kernel
theorem dX8_push_66 : decode cX8_push 66 = .ok (.iload_n 1, 1) := by decide +kernel
theorem dX8_push_67 : decode cX8_push 67 = .ok (.iadd, 1) := by decide +kernel
theorem dX8_push_68 : decode cX8_push 68 = .ok (.aload_n 0, 1) := by decide +kernel
theorem dX8_push_69 : decode cX8_push 69 = .ok (.getfield 13, 3) := by decide +kernel
theorem dX8_push_72 : decode cX8_push 72 = .ok (.iload_n 1, 1) := by decide +kernel
theorem dX8_push_73 : decode cX8_push 73 = .ok (.iaload, 1) := by decide +kernel
theorem dX8_push_74 : decode cX8_push 74 = .ok (.iastore, 1) := by decide +kernel
theorem dX8_push_75 : decode cX8_push 75 = .ok (.iinc 1 1, 3) := by decide +kernel
theorem dX8_push_78 : decode cX8_push 78 = .ok (.goto (-29), 3) := by decide +kernel
theorem dX8_push_81 : decode cX8_push 81 = .ok (.aload_n 0, 1) := by decide +kernel
theorem dX8_push_82 : decode cX8_push 82 = .ok (.dup, 1) := by decide +kernel
theorem dX8_push_83 : decode cX8_push 83 = .ok (.getfield 128, 3) := by decide +kernel
theorem dX8_push_86 : decode cX8_push 86 = .ok (.iconst 1, 1) := by decide +kernel
theorem dX8_push_87 : decode cX8_push 87 = .ok (.iadd, 1) := by decide +kernel
theorem dX8_push_88 : decode cX8_push 88 = .ok (.putfield 128, 3) := by decide +kernel
theorem dX8_push_91 : decode cX8_push 91 = .ok (.return_, 1) := by decide +kernel
theorem dX8_ends_0 : decode cX8_ends 0 = .ok (.iload_n 1, 1) := by decide +kernel
theorem dX8_ends_1 : decode cX8_ends 1 = .ok (.ifCond .ge 9, 3) := by decide +kernel
theorem dX8_ends_4 : decode cX8_ends 4 = .ok (.aload_n 0, 1) := by decide +kernel
theorem dX8_ends_5 : decode cX8_ends 5 = .ok (.iload_n 1, 1) := by decide +kernel
theorem dX8_ends_6 : decode cX8_ends 6 = .ok (.invokevirtual 131, 3) := by decide +kernel
theorem dX8_ends_9 : decode cX8_ends 9 = .ok (.ireturn, 1) := by decide +kernel
theorem dX8_ends_10 : decode cX8_ends 10 = .ok (.aload_n 0, 1) := by decide +kernel
theorem dX8_ends_11 : decode cX8_ends 11 = .ok (.invokevirtual 134, 3) := by decide +kernel
theorem dX8_ends_14 : decode cX8_ends 14 = .ok (.iload_n 1, 1) := by decide +kernel
theorem dX8_ends_15 : decode cX8_ends 15 = .ok (.ireturn, 1) := by decide +kernel
theorem dX8_points_0 : decode cX8_points 0 = .ok (.aload_n 0, 1) := by decide +kernel
theorem dX8_points_1 : decode cX8_points 1 = .ok (.invokevirtual 137, 3) := by decide +kernel
theorem dX8_points_4 : decode cX8_points 4 = .ok (.aload_n 0, 1) := by decide +kernel
theorem dX8_points_5 : decode cX8_points 5 = .ok (.aload_n 0, 1) := by decide +kernel
theorem dX8_points_6 : decode cX8_points 6 = .ok (.iload_n 1, 1) := by decide +kernel
theorem dX8_points_7 : decode cX8_points 7 = .ok (.invokevirtual 140, 3) := by decide +kernel
theorem dX8_points_10 : decode cX8_points 10 = .ok (.invokevirtual 143, 3) := by decide +kernel
theorem dX8_points_13 : decode cX8_points 13 = .ok (.ireturn, 1) := by decide +kernel
theorem dX8_puts_0 : decode cX8_puts 0 = .ok (.aload_n 0, 1) := by decide +kernel
theorem dX8_puts_1 : decode cX8_puts 1 = .ok (.invokevirtual 137, 3) := by decide +kernel
theorem dX8_puts_4 : decode cX8_puts 4 = .ok (.aload_n 0, 1) := by decide +kernel
theorem dX8_puts_5 : decode cX8_puts 5 = .ok (.aload_n 0, 1) := by decide +kernel
theorem dX8_puts_6 : decode cX8_puts 6 = .ok (.iload_n 1, 1) := by decide +kernel
theorem dX8_puts_7 : decode cX8_puts 7 = .ok (.iload_n 2, 1) := by decide +kernel
theorem dX8_puts_8 : decode cX8_puts 8 = .ok (.iload_n 3, 1) := by decide +kernel
theorem dX8_puts_9 : decode cX8_puts 9 = .ok (.invokevirtual 146, 3) := by decide +kernel
theorem dX8_puts_12 : decode cX8_puts 12 = .ok (.invokevirtual 143, 3) := by decide +kernel
theorem dX8_puts_15 : decode cX8_puts 15 = .ok (.ireturn, 1) := by decide +kernel
theorem dX8_meets_0 : decode cX8_meets 0 = .ok (.aload_n 0, 1) := by decide +kernel
theorem dX8_meets_1 : decode cX8_meets 1 = .ok (.invokevirtual 137, 3) := by decide +kernel
theorem dX8_meets_4 : decode cX8_meets 4 = .ok (.aload_n 0, 1) := by decide +kernel
theorem dX8_meets_5 : decode cX8_meets 5 = .ok (.aload_n 0, 1) := by decide +kernel
theorem dX8_meets_6 : decode cX8_meets 6 = .ok (.iload_n 1, 1) := by decide +kernel
theorem dX8_meets_7 : decode cX8_meets 7 = .ok (.iload_n 2, 1) := by decide +kernel
theorem dX8_meets_8 : decode cX8_meets 8 = .ok (.iload_n 3, 1) := by decide +kernel
theorem dX8_meets_9 : decode cX8_meets 9 = .ok (.invokevirtual 150, 3) := by decide +kernel
theorem dX8_meets_12 : decode cX8_meets 12 = .ok (.invokevirtual 143, 3) := by decide +kernel
theorem dX8_meets_15 : decode cX8_meets 15 = .ok (.ireturn, 1) := by decide +kernel
theorem dX8_joins_0 : decode cX8_joins 0 = .ok (.aload_n 0, 1) := by decide +kernel
theorem dX8_joins_1 : decode cX8_joins 1 = .ok (.invokevirtual 137, 3) := by decide +kernel
theorem dX8_joins_4 : decode cX8_joins 4 = .ok (.aload_n 0, 1) := by decide +kernel
theorem dX8_joins_5 : decode cX8_joins 5 = .ok (.aload_n 0, 1) := by decide +kernel
theorem dX8_joins_6 : decode cX8_joins 6 = .ok (.iload_n 1, 1) := by decide +kernel
theorem dX8_joins_7 : decode cX8_joins 7 = .ok (.iload_n 2, 1) := by decide +kernel
theorem dX8_joins_8 : decode cX8_joins 8 = .ok (.iload_n 3, 1) := by decide +kernel
theorem dX8_joins_9 : decode cX8_joins 9 = .ok (.invokevirtual 153, 3) := by decide +kernel
theorem dX8_joins_12 : decode cX8_joins 12 = .ok (.invokevirtual 143, 3) := by decide +kernel
theorem dX8_joins_15 : decode cX8_joins 15 = .ok (.ireturn, 1) := by decide +kernel
theorem dX8_complements_0 : decode cX8_complements 0 = .ok (.aload_n 0, 1) := by decide +kernel
theorem dX8_complements_1 : decode cX8_complements 1 = .ok (.invokevirtual 137, 3) := by decide +kernel
theorem dX8_complements_4 : decode cX8_complements 4 = .ok (.aload_n 0, 1) := by decide +kernel
theorem dX8_complements_5 : decode cX8_complements 5 = .ok (.aload_n 0, 1) := by decide +kernel
theorem dX8_complements_6 : decode cX8_complements 6 = .ok (.iload_n 1, 1) := by decide +kernel
theorem dX8_complements_7 : decode cX8_complements 7 = .ok (.iload_n 2, 1) := by decide +kernel
theorem dX8_complements_8 : decode cX8_complements 8 = .ok (.invokevirtual 156, 3) := by decide +kernel
theorem dX8_complements_11 : decode cX8_complements 11 = .ok (.invokevirtual 143, 3) := by decide +kernel
theorem dX8_complements_14 : decode cX8_complements 14 = .ok (.ireturn, 1) := by decide +kernel
theorem dX8_turns_0 : decode cX8_turns 0 = .ok (.aload_n 0, 1) := by decide +kernel
theorem dX8_turns_1 : decode cX8_turns 1 = .ok (.invokevirtual 137, 3) := by decide +kernel
theorem dX8_turns_4 : decode cX8_turns 4 = .ok (.aload_n 0, 1) := by decide +kernel
theorem dX8_turns_5 : decode cX8_turns 5 = .ok (.aload_n 0, 1) := by decide +kernel
theorem dX8_turns_6 : decode cX8_turns 6 = .ok (.iload_n 1, 1) := by decide +kernel
theorem dX8_turns_7 : decode cX8_turns 7 = .ok (.iload_n 2, 1) := by decide +kernel
theorem dX8_turns_8 : decode cX8_turns 8 = .ok (.invokevirtual 159, 3) := by decide +kernel
theorem dX8_turns_11 : decode cX8_turns 11 = .ok (.invokevirtual 143, 3) := by decide +kernel
theorem dX8_turns_14 : decode cX8_turns 14 = .ok (.ireturn, 1) := by decide +kernel
theorem dX8_takes_0 : decode cX8_takes 0 = .ok (.aload_n 0, 1) := by decide +kernel
theorem dX8_takes_1 : decode cX8_takes 1 = .ok (.invokevirtual 137, 3) := by decide +kernel
theorem dX8_takes_4 : decode cX8_takes 4 = .ok (.aload_n 0, 1) := by decide +kernel
theorem dX8_takes_5 : decode cX8_takes 5 = .ok (.aload_n 0, 1) := by decide +kernel
theorem dX8_takes_6 : decode cX8_takes 6 = .ok (.iload_n 1, 1) := by decide +kernel
theorem dX8_takes_7 : decode cX8_takes 7 = .ok (.iload_n 2, 1) := by decide +kernel
theorem dX8_takes_8 : decode cX8_takes 8 = .ok (.invokevirtual 162, 3) := by decide +kernel
theorem dX8_takes_11 : decode cX8_takes 11 = .ok (.invokevirtual 143, 3) := by decide +kernel
theorem dX8_takes_14 : decode cX8_takes 14 = .ok (.ireturn, 1) := by decide +kernel
theorem dX8_number_0 : decode cX8_number 0 = .ok (.aload_n 0, 1) := by decide +kernel
theorem dX8_number_1 : decode cX8_number 1 = .ok (.invokevirtual 137, 3) := by decide +kernel
theorem dX8_number_4 : decode cX8_number 4 = .ok (.aload_n 0, 1) := by decide +kernel
theorem dX8_number_5 : decode cX8_number 5 = .ok (.aload_n 0, 1) := by decide +kernel
theorem dX8_number_6 : decode cX8_number 6 = .ok (.iload_n 1, 1) := by decide +kernel
theorem dX8_number_7 : decode cX8_number 7 = .ok (.iload_n 2, 1) := by decide +kernel
theorem dX8_number_8 : decode cX8_number 8 = .ok (.invokevirtual 165, 3) := by decide +kernel
theorem dX8_number_11 : decode cX8_number 11 = .ok (.invokevirtual 143, 3) := by decide +kernel
theorem dX8_number_14 : decode cX8_number 14 = .ok (.ireturn, 1) := by decide +kernel
theorem dX8_back_0 : decode cX8_back 0 = .ok (.aload_n 0, 1) := by decide +kernel
theorem dX8_back_1 : decode cX8_back 1 = .ok (.getfield 128, 3) := by decide +kernel
theorem dX8_back_4 : decode cX8_back 4 = .ok (.ifCond .ne 10, 3) := by decide +kernel
theorem dX8_back_7 : decode cX8_back 7 = .ok (.aload_n 0, 1) := by decide +kernel
theorem dX8_back_8 : decode cX8_back 8 = .ok (.bipush (-3), 2) := by decide +kernel
theorem dX8_back_10 : decode cX8_back 10 = .ok (.invokevirtual 131, 3) := by decide +kernel
theorem dX8_back_13 : decode cX8_back 13 = .ok (.ireturn, 1) := by decide +kernel
theorem dX8_back_14 : decode cX8_back 14 = .ok (.aload_n 0, 1) := by decide +kernel
theorem dX8_back_15 : decode cX8_back 15 = .ok (.dup, 1) := by decide +kernel
theorem dX8_back_16 : decode cX8_back 16 = .ok (.getfield 128, 3) := by decide +kernel
theorem dX8_back_19 : decode cX8_back 19 = .ok (.iconst 1, 1) := by decide +kernel
theorem dX8_back_20 : decode cX8_back 20 = .ok (.isub, 1) := by decide +kernel
theorem dX8_back_21 : decode cX8_back 21 = .ok (.putfield 128, 3) := by decide +kernel
theorem dX8_back_24 : decode cX8_back 24 = .ok (.iconst 0, 1) := by decide +kernel
theorem dX8_back_25 : decode cX8_back 25 = .ok (.istore_n 1, 1) := by decide +kernel
theorem dX8_back_26 : decode cX8_back 26 = .ok (.iload_n 1, 1) := by decide +kernel
theorem dX8_back_27 : decode cX8_back 27 = .ok (.bipush 15, 2) := by decide +kernel
theorem dX8_back_29 : decode cX8_back 29 = .ok (.if_icmp .ge 29, 3) := by decide +kernel
theorem dX8_back_32 : decode cX8_back 32 = .ok (.aload_n 0, 1) := by decide +kernel
theorem dX8_back_33 : decode cX8_back 33 = .ok (.getfield 7, 3) := by decide +kernel
theorem dX8_back_36 : decode cX8_back 36 = .ok (.iload_n 1, 1) := by decide +kernel
theorem dX8_back_37 : decode cX8_back 37 = .ok (.aload_n 0, 1) := by decide +kernel
theorem dX8_back_38 : decode cX8_back 38 = .ok (.getfield 16, 3) := by decide +kernel
theorem dX8_back_41 : decode cX8_back 41 = .ok (.bipush 15, 2) := by decide +kernel
theorem dX8_back_43 : decode cX8_back 43 = .ok (.aload_n 0, 1) := by decide +kernel
theorem dX8_back_44 : decode cX8_back 44 = .ok (.getfield 128, 3) := by decide +kernel
theorem dX8_back_47 : decode cX8_back 47 = .ok (.imul, 1) := by decide +kernel
theorem dX8_back_48 : decode cX8_back 48 = .ok (.iload_n 1, 1) := by decide +kernel
theorem dX8_back_49 : decode cX8_back 49 = .ok (.iadd, 1) := by decide +kernel
theorem dX8_back_50 : decode cX8_back 50 = .ok (.iaload, 1) := by decide +kernel
theorem dX8_back_51 : decode cX8_back 51 = .ok (.iastore, 1) := by decide +kernel
theorem dX8_back_52 : decode cX8_back 52 = .ok (.iinc 1 1, 3) := by decide +kernel
theorem dX8_back_55 : decode cX8_back 55 = .ok (.goto (-29), 3) := by decide +kernel
theorem dX8_back_58 : decode cX8_back 58 = .ok (.aload_n 0, 1) := by decide +kernel
theorem dX8_back_59 : decode cX8_back 59 = .ok (.getfield 128, 3) := by decide +kernel
theorem dX8_back_62 : decode cX8_back 62 = .ok (.ireturn, 1) := by decide +kernel
theorem dX8_sizeOf_0 : decode cX8_sizeOf 0 = .ok (.iconst 0, 1) := by decide +kernel
theorem dX8_sizeOf_1 : decode cX8_sizeOf 1 = .ok (.istore_n 3, 1) := by decide +kernel
theorem dX8_sizeOf_2 : decode cX8_sizeOf 2 = .ok (.iconst 0, 1) := by decide +kernel
theorem dX8_sizeOf_3 : decode cX8_sizeOf 3 = .ok (.istore 4, 2) := by decide +kernel
theorem dX8_sizeOf_5 : decode cX8_sizeOf 5 = .ok (.iload 4, 2) := by decide +kernel
theorem dX8_sizeOf_7 : decode cX8_sizeOf 7 = .ok (.aload_n 0, 1) := by decide +kernel
theorem dX8_sizeOf_8 : decode cX8_sizeOf 8 = .ok (.getfield 7, 3) := by decide +kernel
theorem dX8_sizeOf_11 : decode cX8_sizeOf 11 = .ok (.iconst 0, 1) := by decide +kernel
theorem dX8_sizeOf_12 : decode cX8_sizeOf 12 = .ok (.iaload, 1) := by decide +kernel
theorem dX8_sizeOf_13 : decode cX8_sizeOf 13 = .ok (.if_icmp .ge 31, 3) := by decide +kernel
theorem dX8_sizeOf_16 : decode cX8_sizeOf 16 = .ok (.iload_n 3, 1) := by decide +kernel
theorem dX8_sizeOf_17 : decode cX8_sizeOf 17 = .ok (.iload_n 1, 1) := by decide +kernel
theorem dX8_sizeOf_18 : decode cX8_sizeOf 18 = .ok (.iload 4, 2) := by decide +kernel
theorem dX8_sizeOf_20 : decode cX8_sizeOf 20 = .ok (.invokestatic 64, 3) := by decide +kernel
theorem dX8_sizeOf_23 : decode cX8_sizeOf 23 = .ok (.iload_n 1, 1) := by decide +kernel
theorem dX8_sizeOf_24 : decode cX8_sizeOf 24 = .ok (.iload_n 2, 1) := by decide +kernel
theorem dX8_sizeOf_25 : decode cX8_sizeOf 25 = .ok (.invokestatic 64, 3) := by decide +kernel
theorem dX8_sizeOf_28 : decode cX8_sizeOf 28 = .ok (.if_icmp .ne 7, 3) := by decide +kernel
theorem dX8_sizeOf_31 : decode cX8_sizeOf 31 = .ok (.iconst 1, 1) := by decide +kernel
theorem dX8_sizeOf_32 : decode cX8_sizeOf 32 = .ok (.goto 4, 3) := by decide +kernel
theorem dX8_sizeOf_35 : decode cX8_sizeOf 35 = .ok (.iconst 0, 1) := by decide +kernel
theorem dX8_sizeOf_36 : decode cX8_sizeOf 36 = .ok (.iadd, 1) := by decide +kernel
theorem dX8_sizeOf_37 : decode cX8_sizeOf 37 = .ok (.istore_n 3, 1) := by decide +kernel
theorem dX8_sizeOf_38 : decode cX8_sizeOf 38 = .ok (.iinc 4 1, 3) := by decide +kernel
theorem dX8_sizeOf_41 : decode cX8_sizeOf 41 = .ok (.goto (-36), 3) := by decide +kernel
theorem dX8_sizeOf_44 : decode cX8_sizeOf 44 = .ok (.iload_n 3, 1) := by decide +kernel
theorem dX8_sizeOf_45 : decode cX8_sizeOf 45 = .ok (.ireturn, 1) := by decide +kernel
theorem dX8_blocks_0 : decode cX8_blocks 0 = .ok (.iconst 0, 1) := by decide +kernel
theorem dX8_blocks_1 : decode cX8_blocks 1 = .ok (.istore_n 3, 1) := by decide +kernel
theorem dX8_blocks_2 : decode cX8_blocks 2 = .ok (.iconst 0, 1) := by decide +kernel
theorem dX8_blocks_3 : decode cX8_blocks 3 = .ok (.istore 4, 2) := by decide +kernel
theorem dX8_blocks_5 : decode cX8_blocks 5 = .ok (.iconst 0, 1) := by decide +kernel
theorem dX8_blocks_6 : decode cX8_blocks 6 = .ok (.istore 5, 2) := by decide +kernel
theorem dX8_blocks_8 : decode cX8_blocks 8 = .ok (.iload 5, 2) := by decide +kernel
theorem dX8_blocks_10 : decode cX8_blocks 10 = .ok (.aload_n 0, 1) := by decide +kernel
theorem dX8_blocks_11 : decode cX8_blocks 11 = .ok (.getfield 7, 3) := by decide +kernel
theorem dX8_blocks_14 : decode cX8_blocks 14 = .ok (.iconst 0, 1) := by decide +kernel
theorem dX8_blocks_15 : decode cX8_blocks 15 = .ok (.iaload, 1) := by decide +kernel
theorem dX8_blocks_16 : decode cX8_blocks 16 = .ok (.if_icmp .ge 48, 3) := by decide +kernel
theorem dX8_blocks_19 : decode cX8_blocks 19 = .ok (.aload_n 0, 1) := by decide +kernel
theorem dX8_blocks_20 : decode cX8_blocks 20 = .ok (.iload_n 1, 1) := by decide +kernel
theorem dX8_blocks_21 : decode cX8_blocks 21 = .ok (.iload 5, 2) := by decide +kernel
theorem dX8_blocks_23 : decode cX8_blocks 23 = .ok (.invokevirtual 168, 3) := by decide +kernel
theorem dX8_blocks_26 : decode cX8_blocks 26 = .ok (.istore 6, 2) := by decide +kernel
theorem dX8_blocks_28 : decode cX8_blocks 28 = .ok (.iload_n 3, 1) := by decide +kernel
theorem dX8_blocks_29 : decode cX8_blocks 29 = .ok (.iload 6, 2) := by decide +kernel
theorem dX8_blocks_31 : decode cX8_blocks 31 = .ok (.iconst 1, 1) := by decide +kernel
theorem dX8_blocks_32 : decode cX8_blocks 32 = .ok (.if_icmp .ne 7, 3) := by decide +kernel
theorem dX8_blocks_35 : decode cX8_blocks 35 = .ok (.iconst 1, 1) := by decide +kernel
theorem dX8_blocks_36 : decode cX8_blocks 36 = .ok (.goto 4, 3) := by decide +kernel
theorem dX8_blocks_39 : decode cX8_blocks 39 = .ok (.iconst 0, 1) := by decide +kernel
theorem dX8_blocks_40 : decode cX8_blocks 40 = .ok (.iadd, 1) := by decide +kernel
theorem dX8_blocks_41 : decode cX8_blocks 41 = .ok (.istore_n 3, 1) := by decide +kernel
theorem dX8_blocks_42 : decode cX8_blocks 42 = .ok (.iload 6, 2) := by decide +kernel
theorem dX8_blocks_44 : decode cX8_blocks 44 = .ok (.iload 4, 2) := by decide +kernel
theorem dX8_blocks_46 : decode cX8_blocks 46 = .ok (.if_icmp .le 8, 3) := by decide +kernel
theorem dX8_blocks_49 : decode cX8_blocks 49 = .ok (.iload 6, 2) := by decide +kernel
theorem dX8_blocks_51 : decode cX8_blocks 51 = .ok (.goto 5, 3) := by decide +kernel
theorem dX8_blocks_54 : decode cX8_blocks 54 = .ok (.iload 4, 2) := by decide +kernel
theorem dX8_blocks_56 : decode cX8_blocks 56 = .ok (.istore 4, 2) := by decide +kernel
theorem dX8_blocks_58 : decode cX8_blocks 58 = .ok (.iinc 5 1, 3) := by decide +kernel
theorem dX8_blocks_61 : decode cX8_blocks 61 = .ok (.goto (-53), 3) := by decide +kernel
theorem dX8_blocks_64 : decode cX8_blocks 64 = .ok (.iload_n 2, 1) := by decide +kernel
theorem dX8_blocks_65 : decode cX8_blocks 65 = .ok (.ifCond .eq 8, 3) := by decide +kernel
theorem dX8_blocks_68 : decode cX8_blocks 68 = .ok (.iload 4, 2) := by decide +kernel
theorem dX8_blocks_70 : decode cX8_blocks 70 = .ok (.goto 4, 3) := by decide +kernel
theorem dX8_blocks_73 : decode cX8_blocks 73 = .ok (.iload_n 3, 1) := by decide +kernel
theorem dX8_blocks_74 : decode cX8_blocks 74 = .ok (.ireturn, 1) := by decide +kernel
theorem dX8_covering_0 : decode cX8_covering 0 = .ok (.aload_n 0, 1) := by decide +kernel
theorem dX8_covering_1 : decode cX8_covering 1 = .ok (.invokevirtual 97, 3) := by decide +kernel
theorem dX8_covering_4 : decode cX8_covering 4 = .ok (.aload_n 0, 1) := by decide +kernel
theorem dX8_covering_5 : decode cX8_covering 5 = .ok (.iload_n 1, 1) := by decide +kernel
theorem dX8_covering_6 : decode cX8_covering 6 = .ok (.invokevirtual 93, 3) := by decide +kernel
theorem dX8_covering_9 : decode cX8_covering 9 = .ok (.istore_n 3, 1) := by decide +kernel
theorem dX8_covering_10 : decode cX8_covering 10 = .ok (.iconst 0, 1) := by decide +kernel
theorem dX8_covering_11 : decode cX8_covering 11 = .ok (.istore 4, 2) := by decide +kernel
theorem dX8_covering_13 : decode cX8_covering 13 = .ok (.iconst 0, 1) := by decide +kernel
theorem dX8_covering_14 : decode cX8_covering 14 = .ok (.istore 5, 2) := by decide +kernel
theorem dX8_covering_16 : decode cX8_covering 16 = .ok (.iload 5, 2) := by decide +kernel
theorem dX8_covering_18 : decode cX8_covering 18 = .ok (.aload_n 0, 1) := by decide +kernel
theorem dX8_covering_19 : decode cX8_covering 19 = .ok (.getfield 87, 3) := by decide +kernel
theorem dX8_covering_22 : decode cX8_covering 22 = .ok (.if_icmp .ge 99, 3) := by decide +kernel
theorem dX8_covering_25 : decode cX8_covering 25 = .ok (.iload_n 2, 1) := by decide +kernel
theorem dX8_covering_26 : decode cX8_covering 26 = .ok (.ifCond .eq 39, 3) := by decide +kernel
theorem dX8_covering_29 : decode cX8_covering 29 = .ok (.aload_n 0, 1) := by decide +kernel
theorem dX8_covering_30 : decode cX8_covering 30 = .ok (.getfield 31, 3) := by decide +kernel
theorem dX8_covering_33 : decode cX8_covering 33 = .ok (.iload 5, 2) := by decide +kernel
theorem dX8_covering_35 : decode cX8_covering 35 = .ok (.iaload, 1) := by decide +kernel
theorem dX8_covering_36 : decode cX8_covering 36 = .ok (.iload_n 3, 1) := by decide +kernel
theorem dX8_covering_37 : decode cX8_covering 37 = .ok (.iconst 1, 1) := by decide +kernel
theorem dX8_covering_38 : decode cX8_covering 38 = .ok (.iadd, 1) := by decide +kernel
theorem dX8_covering_39 : decode cX8_covering 39 = .ok (.if_icmp .ne 22, 3) := by decide +kernel
theorem dX8_covering_42 : decode cX8_covering 42 = .ok (.aload_n 0, 1) := by decide +kernel
theorem dX8_covering_43 : decode cX8_covering 43 = .ok (.iload_n 1, 1) := by decide +kernel
theorem dX8_covering_44 : decode cX8_covering 44 = .ok (.aload_n 0, 1) := by decide +kernel
theorem dX8_covering_45 : decode cX8_covering 45 = .ok (.getfield 28, 3) := by decide +kernel
theorem dX8_covering_48 : decode cX8_covering 48 = .ok (.iload 5, 2) := by decide +kernel
theorem dX8_covering_50 : decode cX8_covering 50 = .ok (.iaload, 1) := by decide +kernel
theorem dX8_covering_51 : decode cX8_covering 51 = .ok (.invokevirtual 171, 3) := by decide +kernel
theorem dX8_covering_54 : decode cX8_covering 54 = .ok (.ifCond .eq 7, 3) := by decide +kernel
theorem dX8_covering_57 : decode cX8_covering 57 = .ok (.iconst 1, 1) := by decide +kernel
theorem dX8_covering_58 : decode cX8_covering 58 = .ok (.goto 40, 3) := by decide +kernel
theorem dX8_covering_61 : decode cX8_covering 61 = .ok (.iconst 0, 1) := by decide +kernel
theorem dX8_covering_62 : decode cX8_covering 62 = .ok (.goto 36, 3) := by decide +kernel
theorem dX8_covering_65 : decode cX8_covering 65 = .ok (.aload_n 0, 1) := by decide +kernel
theorem dX8_covering_66 : decode cX8_covering 66 = .ok (.getfield 31, 3) := by decide +kernel
theorem dX8_covering_69 : decode cX8_covering 69 = .ok (.iload 5, 2) := by decide +kernel
theorem dX8_covering_71 : decode cX8_covering 71 = .ok (.iaload, 1) := by decide +kernel
theorem dX8_covering_72 : decode cX8_covering 72 = .ok (.iload_n 3, 1) := by decide +kernel
theorem dX8_covering_73 : decode cX8_covering 73 = .ok (.iconst 1, 1) := by decide +kernel
theorem dX8_covering_74 : decode cX8_covering 74 = .ok (.isub, 1) := by decide +kernel
theorem dX8_covering_75 : decode cX8_covering 75 = .ok (.if_icmp .ne 22, 3) := by decide +kernel
theorem dX8_covering_78 : decode cX8_covering 78 = .ok (.aload_n 0, 1) := by decide +kernel
theorem dX8_covering_79 : decode cX8_covering 79 = .ok (.aload_n 0, 1) := by decide +kernel
theorem dX8_covering_80 : decode cX8_covering 80 = .ok (.getfield 28, 3) := by decide +kernel
theorem dX8_covering_83 : decode cX8_covering 83 = .ok (.iload 5, 2) := by decide +kernel
theorem dX8_covering_85 : decode cX8_covering 85 = .ok (.iaload, 1) := by decide +kernel
theorem dX8_covering_86 : decode cX8_covering 86 = .ok (.iload_n 1, 1) := by decide +kernel
theorem dX8_covering_87 : decode cX8_covering 87 = .ok (.invokevirtual 171, 3) := by decide +kernel
theorem dX8_covering_90 : decode cX8_covering 90 = .ok (.ifCond .eq 7, 3) := by decide +kernel
theorem dX8_covering_93 : decode cX8_covering 93 = .ok (.iconst 1, 1) := by decide +kernel
theorem dX8_covering_94 : decode cX8_covering 94 = .ok (.goto 4, 3) := by decide +kernel
theorem dX8_covering_97 : decode cX8_covering 97 = .ok (.iconst 0, 1) := by decide +kernel
theorem dX8_covering_98 : decode cX8_covering 98 = .ok (.istore 6, 2) := by decide +kernel
theorem dX8_covering_100 : decode cX8_covering 100 = .ok (.iload 4, 2) := by decide +kernel
theorem dX8_covering_102 : decode cX8_covering 102 = .ok (.iload 6, 2) := by decide +kernel
theorem dX8_covering_104 : decode cX8_covering 104 = .ok (.ifCond .eq 7, 3) := by decide +kernel
theorem dX8_covering_107 : decode cX8_covering 107 = .ok (.iconst 1, 1) := by decide +kernel
theorem dX8_covering_108 : decode cX8_covering 108 = .ok (.goto 4, 3) := by decide +kernel
theorem dX8_covering_111 : decode cX8_covering 111 = .ok (.iconst 0, 1) := by decide +kernel
theorem dX8_covering_112 : decode cX8_covering 112 = .ok (.iadd, 1) := by decide +kernel
theorem dX8_covering_113 : decode cX8_covering 113 = .ok (.istore 4, 2) := by decide +kernel
theorem dX8_covering_115 : decode cX8_covering 115 = .ok (.iinc 5 1, 3) := by decide +kernel
theorem dX8_covering_118 : decode cX8_covering 118 = .ok (.goto (-102), 3) := by decide +kernel
theorem dX8_covering_121 : decode cX8_covering 121 = .ok (.iload 4, 2) := by decide +kernel
theorem dX8_covering_123 : decode cX8_covering 123 = .ok (.ireturn, 1) := by decide +kernel
theorem dX8_ofPart_0 : decode cX8_ofPart 0 = .ok (.iload_n 2, 1) := by decide +kernel
theorem dX8_ofPart_1 : decode cX8_ofPart 1 = .ok (.tableswitch 57 0 3 #[31, 37, 43, 50], 31) := by decide +kernel
theorem dX8_ofPart_32 : decode cX8_ofPart 32 = .ok (.aload_n 0, 1) := by decide +kernel
theorem dX8_ofPart_33 : decode cX8_ofPart 33 = .ok (.iload_n 1, 1) := by decide +kernel
theorem dX8_ofPart_34 : decode cX8_ofPart 34 = .ok (.invokevirtual 125, 3) := by decide +kernel
theorem dX8_ofPart_37 : decode cX8_ofPart 37 = .ok (.ireturn, 1) := by decide +kernel
theorem dX8_ofPart_38 : decode cX8_ofPart 38 = .ok (.aload_n 0, 1) := by decide +kernel
theorem dX8_ofPart_39 : decode cX8_ofPart 39 = .ok (.iload_n 1, 1) := by decide +kernel
theorem dX8_ofPart_40 : decode cX8_ofPart 40 = .ok (.invokevirtual 93, 3) := by decide +kernel
theorem dX8_ofPart_43 : decode cX8_ofPart 43 = .ok (.ireturn, 1) := by decide +kernel
theorem dX8_ofPart_44 : decode cX8_ofPart 44 = .ok (.aload_n 0, 1) := by decide +kernel
theorem dX8_ofPart_45 : decode cX8_ofPart 45 = .ok (.iload_n 1, 1) := by decide +kernel
theorem dX8_ofPart_46 : decode cX8_ofPart 46 = .ok (.iconst 0, 1) := by decide +kernel
theorem dX8_ofPart_47 : decode cX8_ofPart 47 = .ok (.invokevirtual 175, 3) := by decide +kernel
theorem dX8_ofPart_50 : decode cX8_ofPart 50 = .ok (.ireturn, 1) := by decide +kernel
theorem dX8_ofPart_51 : decode cX8_ofPart 51 = .ok (.aload_n 0, 1) := by decide +kernel
theorem dX8_ofPart_52 : decode cX8_ofPart 52 = .ok (.iload_n 1, 1) := by decide +kernel
theorem dX8_ofPart_53 : decode cX8_ofPart 53 = .ok (.iconst 1, 1) := by decide +kernel
theorem dX8_ofPart_54 : decode cX8_ofPart 54 = .ok (.invokevirtual 175, 3) := by decide +kernel
theorem dX8_ofPart_57 : decode cX8_ofPart 57 = .ok (.ireturn, 1) := by decide +kernel
theorem dX8_ofPart_58 : decode cX8_ofPart 58 = .ok (.aload_n 0, 1) := by decide +kernel
theorem dX8_ofPart_59 : decode cX8_ofPart 59 = .ok (.iload_n 1, 1) := by decide +kernel
theorem dX8_ofPart_60 : decode cX8_ofPart 60 = .ok (.iload_n 2, 1) := by decide +kernel
theorem dX8_ofPart_61 : decode cX8_ofPart 61 = .ok (.iconst 4, 1) := by decide +kernel
theorem dX8_ofPart_62 : decode cX8_ofPart 62 = .ok (.if_icmp .ne 7, 3) := by decide +kernel
theorem dX8_ofPart_65 : decode cX8_ofPart 65 = .ok (.iconst 1, 1) := by decide +kernel
theorem dX8_ofPart_66 : decode cX8_ofPart 66 = .ok (.goto 4, 3) := by decide +kernel
theorem dX8_ofPart_69 : decode cX8_ofPart 69 = .ok (.iconst 0, 1) := by decide +kernel
theorem dX8_ofPart_70 : decode cX8_ofPart 70 = .ok (.invokevirtual 179, 3) := by decide +kernel
theorem dX8_ofPart_73 : decode cX8_ofPart 73 = .ok (.ireturn, 1) := by decide +kernel
theorem dX8_of_0 : decode cX8_of 0 = .ok (.iload_n 1, 1) := by decide +kernel
theorem dX8_of_1 : decode cX8_of 1 = .ok (.invokestatic 104, 3) := by decide +kernel
theorem dX8_of_4 : decode cX8_of 4 = .ok (.ifCond .eq 28, 3) := by decide +kernel
theorem dX8_of_7 : decode cX8_of 7 = .ok (.iload_n 2, 1) := by decide +kernel
theorem dX8_of_8 : decode cX8_of 8 = .ok (.iconst 0, 1) := by decide +kernel
theorem dX8_of_9 : decode cX8_of 9 = .ok (.iconst 5, 1) := by decide +kernel
theorem dX8_of_10 : decode cX8_of 10 = .ok (.invokestatic 100, 3) := by decide +kernel
theorem dX8_of_13 : decode cX8_of 13 = .ok (.ifCond .eq 19, 3) := by decide +kernel
theorem dX8_of_16 : decode cX8_of 16 = .ok (.aload_n 0, 1) := by decide +kernel
theorem dX8_of_17 : decode cX8_of 17 = .ok (.aload_n 0, 1) := by decide +kernel
theorem dX8_of_18 : decode cX8_of 18 = .ok (.getfield 7, 3) := by decide +kernel
theorem dX8_of_21 : decode cX8_of 21 = .ok (.iconst 1, 1) := by decide +kernel
theorem dX8_of_22 : decode cX8_of 22 = .ok (.iload_n 1, 1) := by decide +kernel
theorem dX8_of_23 : decode cX8_of 23 = .ok (.iadd, 1) := by decide +kernel
theorem dX8_of_24 : decode cX8_of 24 = .ok (.iaload, 1) := by decide +kernel
theorem dX8_of_25 : decode cX8_of 25 = .ok (.iload_n 2, 1) := by decide +kernel
theorem dX8_of_26 : decode cX8_of 26 = .ok (.invokevirtual 182, 3) := by decide +kernel
theorem dX8_of_29 : decode cX8_of 29 = .ok (.goto 9, 3) := by decide +kernel
theorem dX8_of_32 : decode cX8_of 32 = .ok (.aload_n 0, 1) := by decide +kernel
theorem dX8_of_33 : decode cX8_of 33 = .ok (.bipush (-2), 2) := by decide +kernel
theorem dX8_of_35 : decode cX8_of 35 = .ok (.invokevirtual 131, 3) := by decide +kernel
theorem dX8_of_38 : decode cX8_of 38 = .ok (.ireturn, 1) := by decide +kernel
theorem dX8_row_0 : decode cX8_row 0 = .ok (.iload_n 1, 1) := by decide +kernel
theorem dX8_row_1 : decode cX8_row 1 = .ok (.invokestatic 104, 3) := by decide +kernel
theorem dX8_row_4 : decode cX8_row 4 = .ok (.ifCond .eq 26, 3) := by decide +kernel
theorem dX8_row_7 : decode cX8_row 7 = .ok (.aload_n 0, 1) := by decide +kernel
theorem dX8_row_8 : decode cX8_row 8 = .ok (.iload_n 2, 1) := by decide +kernel
theorem dX8_row_9 : decode cX8_row 9 = .ok (.invokevirtual 107, 3) := by decide +kernel
theorem dX8_row_12 : decode cX8_row 12 = .ok (.ifCond .eq 18, 3) := by decide +kernel
theorem dX8_row_15 : decode cX8_row 15 = .ok (.aload_n 0, 1) := by decide +kernel
theorem dX8_row_16 : decode cX8_row 16 = .ok (.getfield 7, 3) := by decide +kernel
theorem dX8_row_19 : decode cX8_row 19 = .ok (.iconst 1, 1) := by decide +kernel
theorem dX8_row_20 : decode cX8_row 20 = .ok (.iload_n 1, 1) := by decide +kernel
theorem dX8_row_21 : decode cX8_row 21 = .ok (.iadd, 1) := by decide +kernel
theorem dX8_row_22 : decode cX8_row 22 = .ok (.iaload, 1) := by decide +kernel
theorem dX8_row_23 : decode cX8_row 23 = .ok (.iload_n 2, 1) := by decide +kernel
theorem dX8_row_24 : decode cX8_row 24 = .ok (.invokestatic 64, 3) := by decide +kernel
theorem dX8_row_27 : decode cX8_row 27 = .ok (.goto 9, 3) := by decide +kernel
theorem dX8_row_30 : decode cX8_row 30 = .ok (.aload_n 0, 1) := by decide +kernel
theorem dX8_row_31 : decode cX8_row 31 = .ok (.bipush (-2), 2) := by decide +kernel
theorem dX8_row_33 : decode cX8_row 33 = .ok (.invokevirtual 131, 3) := by decide +kernel
theorem dX8_row_36 : decode cX8_row 36 = .ok (.ireturn, 1) := by decide +kernel
theorem dX8_below_0 : decode cX8_below 0 = .ok (.iload_n 1, 1) := by decide +kernel
theorem dX8_below_1 : decode cX8_below 1 = .ok (.invokestatic 104, 3) := by decide +kernel
theorem dX8_below_4 : decode cX8_below 4 = .ok (.ifCond .eq 10, 3) := by decide +kernel
theorem dX8_below_7 : decode cX8_below 7 = .ok (.iload_n 2, 1) := by decide +kernel
theorem dX8_below_8 : decode cX8_below 8 = .ok (.invokestatic 104, 3) := by decide +kernel
theorem dX8_below_11 : decode cX8_below 11 = .ok (.ifCond .ne 10, 3) := by decide +kernel
theorem dX8_below_14 : decode cX8_below 14 = .ok (.aload_n 0, 1) := by decide +kernel
theorem dX8_below_15 : decode cX8_below 15 = .ok (.bipush (-2), 2) := by decide +kernel
theorem dX8_below_17 : decode cX8_below 17 = .ok (.invokevirtual 131, 3) := by decide +kernel
theorem dX8_below_20 : decode cX8_below 20 = .ok (.ireturn, 1) := by decide +kernel
theorem dX8_below_21 : decode cX8_below 21 = .ok (.aload_n 0, 1) := by decide +kernel
theorem dX8_below_22 : decode cX8_below 22 = .ok (.aload_n 0, 1) := by decide +kernel
theorem dX8_below_23 : decode cX8_below 23 = .ok (.getfield 7, 3) := by decide +kernel
theorem dX8_below_26 : decode cX8_below 26 = .ok (.iconst 1, 1) := by decide +kernel
theorem dX8_below_27 : decode cX8_below 27 = .ok (.iload_n 1, 1) := by decide +kernel
theorem dX8_below_28 : decode cX8_below 28 = .ok (.iadd, 1) := by decide +kernel
theorem dX8_below_29 : decode cX8_below 29 = .ok (.iaload, 1) := by decide +kernel
theorem dX8_below_30 : decode cX8_below 30 = .ok (.aload_n 0, 1) := by decide +kernel
theorem dX8_below_31 : decode cX8_below 31 = .ok (.getfield 7, 3) := by decide +kernel
theorem dX8_below_34 : decode cX8_below 34 = .ok (.iconst 1, 1) := by decide +kernel
theorem dX8_below_35 : decode cX8_below 35 = .ok (.iload_n 2, 1) := by decide +kernel
theorem dX8_below_36 : decode cX8_below 36 = .ok (.iadd, 1) := by decide +kernel
theorem dX8_below_37 : decode cX8_below 37 = .ok (.iaload, 1) := by decide +kernel
theorem dX8_below_38 : decode cX8_below 38 = .ok (.invokevirtual 171, 3) := by decide +kernel
theorem dX8_below_41 : decode cX8_below 41 = .ok (.ifCond .eq 7, 3) := by decide +kernel
theorem dX8_below_44 : decode cX8_below 44 = .ok (.iconst 1, 1) := by decide +kernel
theorem dX8_below_45 : decode cX8_below 45 = .ok (.goto 4, 3) := by decide +kernel
theorem dX8_below_48 : decode cX8_below 48 = .ok (.iconst 0, 1) := by decide +kernel
theorem dX8_below_49 : decode cX8_below 49 = .ok (.ireturn, 1) := by decide +kernel
theorem dX8_counted_0 : decode cX8_counted 0 = .ok (.aload_n 0, 1) := by decide +kernel
theorem dX8_counted_1 : decode cX8_counted 1 = .ok (.invokevirtual 97, 3) := by decide +kernel
theorem dX8_counted_4 : decode cX8_counted 4 = .ok (.iload_n 1, 1) := by decide +kernel
theorem dX8_counted_5 : decode cX8_counted 5 = .ok (.iconst 2, 1) := by decide +kernel
theorem dX8_counted_6 : decode cX8_counted 6 = .ok (.if_icmp .ge 21, 3) := by decide +kernel
theorem dX8_counted_9 : decode cX8_counted 9 = .ok (.iload_n 1, 1) := by decide +kernel
theorem dX8_counted_10 : decode cX8_counted 10 = .ok (.ifCond .ne 12, 3) := by decide +kernel
theorem dX8_counted_13 : decode cX8_counted 13 = .ok (.aload_n 0, 1) := by decide +kernel
theorem dX8_counted_14 : decode cX8_counted 14 = .ok (.getfield 7, 3) := by decide +kernel
theorem dX8_counted_17 : decode cX8_counted 17 = .ok (.iconst 0, 1) := by decide +kernel
theorem dX8_counted_18 : decode cX8_counted 18 = .ok (.iaload, 1) := by decide +kernel
theorem dX8_counted_19 : decode cX8_counted 19 = .ok (.goto 7, 3) := by decide +kernel
theorem dX8_counted_22 : decode cX8_counted 22 = .ok (.aload_n 0, 1) := by decide +kernel
theorem dX8_counted_23 : decode cX8_counted 23 = .ok (.getfield 87, 3) := by decide +kernel
theorem dX8_counted_26 : decode cX8_counted 26 = .ok (.ireturn, 1) := by decide +kernel
theorem dX8_counted_27 : decode cX8_counted 27 = .ok (.iconst 0, 1) := by decide +kernel
theorem dX8_counted_28 : decode cX8_counted 28 = .ok (.istore_n 2, 1) := by decide +kernel
theorem dX8_counted_29 : decode cX8_counted 29 = .ok (.iconst 0, 1) := by decide +kernel
theorem dX8_counted_30 : decode cX8_counted 30 = .ok (.istore_n 3, 1) := by decide +kernel
theorem dX8_counted_31 : decode cX8_counted 31 = .ok (.iload_n 3, 1) := by decide +kernel
theorem dX8_counted_32 : decode cX8_counted 32 = .ok (.aload_n 0, 1) := by decide +kernel
theorem dX8_counted_33 : decode cX8_counted 33 = .ok (.getfield 87, 3) := by decide +kernel
theorem dX8_counted_36 : decode cX8_counted 36 = .ok (.if_icmp .ge 29, 3) := by decide +kernel
theorem dX8_counted_39 : decode cX8_counted 39 = .ok (.iload_n 2, 1) := by decide +kernel
theorem dX8_counted_40 : decode cX8_counted 40 = .ok (.aload_n 0, 1) := by decide +kernel
theorem dX8_counted_41 : decode cX8_counted 41 = .ok (.getfield 31, 3) := by decide +kernel
theorem dX8_counted_44 : decode cX8_counted 44 = .ok (.iload_n 3, 1) := by decide +kernel
theorem dX8_counted_45 : decode cX8_counted 45 = .ok (.iaload, 1) := by decide +kernel
theorem dX8_counted_46 : decode cX8_counted 46 = .ok (.iload_n 1, 1) := by decide +kernel
theorem dX8_counted_47 : decode cX8_counted 47 = .ok (.iconst 2, 1) := by decide +kernel
theorem dX8_counted_48 : decode cX8_counted 48 = .ok (.isub, 1) := by decide +kernel
theorem dX8_counted_49 : decode cX8_counted 49 = .ok (.if_icmp .ne 7, 3) := by decide +kernel
theorem dX8_counted_52 : decode cX8_counted 52 = .ok (.iconst 1, 1) := by decide +kernel
theorem dX8_counted_53 : decode cX8_counted 53 = .ok (.goto 4, 3) := by decide +kernel
theorem dX8_counted_56 : decode cX8_counted 56 = .ok (.iconst 0, 1) := by decide +kernel
theorem dX8_counted_57 : decode cX8_counted 57 = .ok (.iadd, 1) := by decide +kernel
theorem dX8_counted_58 : decode cX8_counted 58 = .ok (.istore_n 2, 1) := by decide +kernel
theorem dX8_counted_59 : decode cX8_counted 59 = .ok (.iinc 3 1, 3) := by decide +kernel
theorem dX8_counted_62 : decode cX8_counted 62 = .ok (.goto (-31), 3) := by decide +kernel
theorem dX8_counted_65 : decode cX8_counted 65 = .ok (.iload_n 2, 1) := by decide +kernel
theorem dX8_counted_66 : decode cX8_counted 66 = .ok (.ireturn, 1) := by decide +kernel
theorem dX8_count_0 : decode cX8_count 0 = .ok (.iload_n 1, 1) := by decide +kernel
theorem dX8_count_1 : decode cX8_count 1 = .ok (.iconst 0, 1) := by decide +kernel
theorem dX8_count_2 : decode cX8_count 2 = .ok (.bipush 9, 2) := by decide +kernel
theorem dX8_count_4 : decode cX8_count 4 = .ok (.invokestatic 100, 3) := by decide +kernel
theorem dX8_count_7 : decode cX8_count 7 = .ok (.ifCond .eq 11, 3) := by decide +kernel
theorem dX8_count_10 : decode cX8_count 10 = .ok (.aload_n 0, 1) := by decide +kernel
theorem dX8_count_11 : decode cX8_count 11 = .ok (.iload_n 1, 1) := by decide +kernel
theorem dX8_count_12 : decode cX8_count 12 = .ok (.invokevirtual 185, 3) := by decide +kernel
theorem dX8_count_15 : decode cX8_count 15 = .ok (.goto 9, 3) := by decide +kernel
theorem dX8_count_18 : decode cX8_count 18 = .ok (.aload_n 0, 1) := by decide +kernel
theorem dX8_count_19 : decode cX8_count 19 = .ok (.bipush (-2), 2) := by decide +kernel
theorem dX8_count_21 : decode cX8_count 21 = .ok (.invokevirtual 131, 3) := by decide +kernel
theorem dX8_count_24 : decode cX8_count 24 = .ok (.ireturn, 1) := by decide +kernel
theorem dX8_evens_0 : decode cX8_evens 0 = .ok (.aload_n 0, 1) := by decide +kernel
theorem dX8_evens_1 : decode cX8_evens 1 = .ok (.getfield 7, 3) := by decide +kernel
theorem dX8_evens_4 : decode cX8_evens 4 = .ok (.iconst 0, 1) := by decide +kernel
theorem dX8_evens_5 : decode cX8_evens 5 = .ok (.iaload, 1) := by decide +kernel
theorem dX8_evens_6 : decode cX8_evens 6 = .ok (.iconst 2, 1) := by decide +kernel
theorem dX8_evens_7 : decode cX8_evens 7 = .ok (.irem, 1) := by decide +kernel
theorem dX8_evens_8 : decode cX8_evens 8 = .ok (.iconst 1, 1) := by decide +kernel
theorem dX8_evens_9 : decode cX8_evens 9 = .ok (.if_icmp .ne 10, 3) := by decide +kernel
theorem dX8_evens_12 : decode cX8_evens 12 = .ok (.aload_n 0, 1) := by decide +kernel
theorem dX8_evens_13 : decode cX8_evens 13 = .ok (.bipush (-3), 2) := by decide +kernel
theorem dX8_evens_15 : decode cX8_evens 15 = .ok (.invokevirtual 131, 3) := by decide +kernel
theorem dX8_evens_18 : decode cX8_evens 18 = .ok (.ireturn, 1) := by decide +kernel
theorem dX8_evens_19 : decode cX8_evens 19 = .ok (.aload_n 0, 1) := by decide +kernel
theorem dX8_evens_20 : decode cX8_evens 20 = .ok (.invokevirtual 97, 3) := by decide +kernel
theorem dX8_evens_23 : decode cX8_evens 23 = .ok (.iconst 0, 1) := by decide +kernel
theorem dX8_evens_24 : decode cX8_evens 24 = .ok (.istore_n 1, 1) := by decide +kernel
theorem dX8_evens_25 : decode cX8_evens 25 = .ok (.iconst 0, 1) := by decide +kernel
theorem dX8_evens_26 : decode cX8_evens 26 = .ok (.istore_n 2, 1) := by decide +kernel
theorem dX8_evens_27 : decode cX8_evens 27 = .ok (.iload_n 2, 1) := by decide +kernel
theorem dX8_evens_28 : decode cX8_evens 28 = .ok (.aload_n 0, 1) := by decide +kernel
theorem dX8_evens_29 : decode cX8_evens 29 = .ok (.getfield 87, 3) := by decide +kernel
theorem dX8_evens_32 : decode cX8_evens 32 = .ok (.if_icmp .ge 62, 3) := by decide +kernel
theorem dX8_evens_35 : decode cX8_evens 35 = .ok (.aload_n 0, 1) := by decide +kernel
theorem dX8_evens_36 : decode cX8_evens 36 = .ok (.getfield 28, 3) := by decide +kernel
theorem dX8_evens_39 : decode cX8_evens 39 = .ok (.iload_n 2, 1) := by decide +kernel
theorem dX8_evens_40 : decode cX8_evens 40 = .ok (.iaload, 1) := by decide +kernel
theorem dX8_evens_41 : decode cX8_evens 41 = .ok (.istore_n 3, 1) := by decide +kernel
theorem dX8_evens_42 : decode cX8_evens 42 = .ok (.iconst 0, 1) := by decide +kernel
theorem dX8_evens_43 : decode cX8_evens 43 = .ok (.istore 4, 2) := by decide +kernel
theorem dX8_evens_45 : decode cX8_evens 45 = .ok (.iload 4, 2) := by decide +kernel
theorem dX8_evens_47 : decode cX8_evens 47 = .ok (.aload_n 0, 1) := by decide +kernel
theorem dX8_evens_48 : decode cX8_evens 48 = .ok (.getfield 7, 3) := by decide +kernel
theorem dX8_evens_51 : decode cX8_evens 51 = .ok (.iconst 0, 1) := by decide +kernel
theorem dX8_evens_52 : decode cX8_evens 52 = .ok (.iaload, 1) := by decide +kernel
theorem dX8_evens_53 : decode cX8_evens 53 = .ok (.iconst 2, 1) := by decide +kernel
theorem dX8_evens_54 : decode cX8_evens 54 = .ok (.idiv, 1) := by decide +kernel
theorem dX8_evens_55 : decode cX8_evens 55 = .ok (.if_icmp .ge 15, 3) := by decide +kernel
theorem dX8_evens_58 : decode cX8_evens 58 = .ok (.aload_n 0, 1) := by decide +kernel
theorem dX8_evens_59 : decode cX8_evens 59 = .ok (.iload_n 3, 1) := by decide +kernel
theorem dX8_evens_60 : decode cX8_evens 60 = .ok (.invokevirtual 122, 3) := by decide +kernel
theorem dX8_evens_63 : decode cX8_evens 63 = .ok (.istore_n 3, 1) := by decide +kernel
theorem dX8_evens_64 : decode cX8_evens 64 = .ok (.iinc 4 1, 3) := by decide +kernel
theorem dX8_evens_67 : decode cX8_evens 67 = .ok (.goto (-22), 3) := by decide +kernel
theorem dX8_evens_70 : decode cX8_evens 70 = .ok (.iload_n 1, 1) := by decide +kernel
theorem dX8_evens_71 : decode cX8_evens 71 = .ok (.iload_n 3, 1) := by decide +kernel
theorem dX8_evens_72 : decode cX8_evens 72 = .ok (.aload_n 0, 1) := by decide +kernel
theorem dX8_evens_73 : decode cX8_evens 73 = .ok (.getfield 28, 3) := by decide +kernel
theorem dX8_evens_76 : decode cX8_evens 76 = .ok (.iload_n 2, 1) := by decide +kernel
theorem dX8_evens_77 : decode cX8_evens 77 = .ok (.iaload, 1) := by decide +kernel
theorem dX8_evens_78 : decode cX8_evens 78 = .ok (.if_icmp .ne 7, 3) := by decide +kernel
theorem dX8_evens_81 : decode cX8_evens 81 = .ok (.iconst 1, 1) := by decide +kernel
theorem dX8_evens_82 : decode cX8_evens 82 = .ok (.goto 4, 3) := by decide +kernel
theorem dX8_evens_85 : decode cX8_evens 85 = .ok (.iconst 0, 1) := by decide +kernel
theorem dX8_evens_86 : decode cX8_evens 86 = .ok (.iadd, 1) := by decide +kernel
theorem dX8_evens_87 : decode cX8_evens 87 = .ok (.istore_n 1, 1) := by decide +kernel
theorem dX8_evens_88 : decode cX8_evens 88 = .ok (.iinc 2 1, 3) := by decide +kernel
theorem dX8_evens_91 : decode cX8_evens 91 = .ok (.goto (-64), 3) := by decide +kernel
theorem dX8_evens_94 : decode cX8_evens 94 = .ok (.iload_n 1, 1) := by decide +kernel
theorem dX8_evens_95 : decode cX8_evens 95 = .ok (.ireturn, 1) := by decide +kernel
theorem dX8_covers_0 : decode cX8_covers 0 = .ok (.iload_n 1, 1) := by decide +kernel
theorem dX8_covers_1 : decode cX8_covers 1 = .ok (.invokestatic 104, 3) := by decide +kernel
theorem dX8_covers_4 : decode cX8_covers 4 = .ok (.ifCond .eq 7, 3) := by decide +kernel
theorem dX8_covers_7 : decode cX8_covers 7 = .ok (.iload_n 2, 1) := by decide +kernel
theorem dX8_covers_8 : decode cX8_covers 8 = .ok (.ifCond .ge 10, 3) := by decide +kernel
theorem dX8_covers_11 : decode cX8_covers 11 = .ok (.aload_n 0, 1) := by decide +kernel
theorem dX8_covers_12 : decode cX8_covers 12 = .ok (.bipush (-2), 2) := by decide +kernel
theorem dX8_covers_14 : decode cX8_covers 14 = .ok (.invokevirtual 131, 3) := by decide +kernel
theorem dX8_covers_17 : decode cX8_covers 17 = .ok (.ireturn, 1) := by decide +kernel
theorem dX8_covers_18 : decode cX8_covers 18 = .ok (.aload_n 0, 1) := by decide +kernel
theorem dX8_covers_19 : decode cX8_covers 19 = .ok (.invokevirtual 97, 3) := by decide +kernel
theorem dX8_covers_22 : decode cX8_covers 22 = .ok (.aload_n 0, 1) := by decide +kernel
theorem dX8_covers_23 : decode cX8_covers 23 = .ok (.getfield 7, 3) := by decide +kernel
theorem dX8_covers_26 : decode cX8_covers 26 = .ok (.iconst 1, 1) := by decide +kernel
theorem dX8_covers_27 : decode cX8_covers 27 = .ok (.iload_n 1, 1) := by decide +kernel
theorem dX8_covers_28 : decode cX8_covers 28 = .ok (.iadd, 1) := by decide +kernel
theorem dX8_covers_29 : decode cX8_covers 29 = .ok (.iaload, 1) := by decide +kernel
theorem dX8_covers_30 : decode cX8_covers 30 = .ok (.istore_n 3, 1) := by decide +kernel
theorem dX8_covers_31 : decode cX8_covers 31 = .ok (.iload_n 2, 1) := by decide +kernel
theorem dX8_covers_32 : decode cX8_covers 32 = .ok (.istore 4, 2) := by decide +kernel
theorem dX8_covers_34 : decode cX8_covers 34 = .ok (.iconst 0, 1) := by decide +kernel
theorem dX8_covers_35 : decode cX8_covers 35 = .ok (.istore 5, 2) := by decide +kernel
theorem dX8_covers_37 : decode cX8_covers 37 = .ok (.iload 5, 2) := by decide +kernel
theorem dX8_covers_39 : decode cX8_covers 39 = .ok (.aload_n 0, 1) := by decide +kernel
theorem dX8_covers_40 : decode cX8_covers 40 = .ok (.getfield 87, 3) := by decide +kernel
theorem dX8_covers_43 : decode cX8_covers 43 = .ok (.if_icmp .ge 52, 3) := by decide +kernel
theorem dX8_covers_46 : decode cX8_covers 46 = .ok (.aload_n 0, 1) := by decide +kernel
theorem dX8_covers_47 : decode cX8_covers 47 = .ok (.getfield 31, 3) := by decide +kernel
theorem dX8_covers_50 : decode cX8_covers 50 = .ok (.iload 5, 2) := by decide +kernel
theorem dX8_covers_52 : decode cX8_covers 52 = .ok (.iaload, 1) := by decide +kernel
theorem dX8_covers_53 : decode cX8_covers 53 = .ok (.aload_n 0, 1) := by decide +kernel
theorem dX8_covers_54 : decode cX8_covers 54 = .ok (.iload_n 3, 1) := by decide +kernel
theorem dX8_covers_55 : decode cX8_covers 55 = .ok (.invokevirtual 93, 3) := by decide +kernel
theorem dX8_covers_58 : decode cX8_covers 58 = .ok (.iconst 1, 1) := by decide +kernel
theorem dX8_covers_59 : decode cX8_covers 59 = .ok (.iadd, 1) := by decide +kernel
theorem dX8_covers_60 : decode cX8_covers 60 = .ok (.if_icmp .ne 29, 3) := by decide +kernel
theorem dX8_covers_63 : decode cX8_covers 63 = .ok (.aload_n 0, 1) := by decide +kernel
theorem dX8_covers_64 : decode cX8_covers 64 = .ok (.iload_n 3, 1) := by decide +kernel
theorem dX8_covers_65 : decode cX8_covers 65 = .ok (.aload_n 0, 1) := by decide +kernel
theorem dX8_covers_66 : decode cX8_covers 66 = .ok (.getfield 28, 3) := by decide +kernel
theorem dX8_covers_69 : decode cX8_covers 69 = .ok (.iload 5, 2) := by decide +kernel
theorem dX8_covers_71 : decode cX8_covers 71 = .ok (.iaload, 1) := by decide +kernel
theorem dX8_covers_72 : decode cX8_covers 72 = .ok (.invokevirtual 171, 3) := by decide +kernel
theorem dX8_covers_75 : decode cX8_covers 75 = .ok (.ifCond .eq 14, 3) := by decide +kernel
theorem dX8_covers_78 : decode cX8_covers 78 = .ok (.iload 4, 2) := by decide +kernel
theorem dX8_covers_80 : decode cX8_covers 80 = .ok (.ifCond .ne 6, 3) := by decide +kernel
theorem dX8_covers_83 : decode cX8_covers 83 = .ok (.iload 5, 2) := by decide +kernel
theorem dX8_covers_85 : decode cX8_covers 85 = .ok (.ireturn, 1) := by decide +kernel
theorem dX8_covers_86 : decode cX8_covers 86 = .ok (.iinc 4 (-1), 3) := by decide +kernel
theorem dX8_covers_89 : decode cX8_covers 89 = .ok (.iinc 5 1, 3) := by decide +kernel
theorem dX8_covers_92 : decode cX8_covers 92 = .ok (.goto (-55), 3) := by decide +kernel
theorem dX8_covers_95 : decode cX8_covers 95 = .ok (.iconst (-1), 1) := by decide +kernel
theorem dX8_covers_96 : decode cX8_covers 96 = .ok (.ireturn, 1) := by decide +kernel
theorem dX8_markOf_0 : decode cX8_markOf 0 = .ok (.iconst 0, 1) := by decide +kernel
theorem dX8_markOf_1 : decode cX8_markOf 1 = .ok (.istore_n 3, 1) := by decide +kernel
theorem dX8_markOf_2 : decode cX8_markOf 2 = .ok (.iload_n 1, 1) := by decide +kernel
theorem dX8_markOf_3 : decode cX8_markOf 3 = .ok (.iload_n 3, 1) := by decide +kernel
theorem dX8_markOf_4 : decode cX8_markOf 4 = .ok (.invokestatic 64, 3) := by decide +kernel
theorem dX8_markOf_7 : decode cX8_markOf 7 = .ok (.iload_n 3, 1) := by decide +kernel
theorem dX8_markOf_8 : decode cX8_markOf 8 = .ok (.if_icmp .ne 12, 3) := by decide +kernel
theorem dX8_markOf_11 : decode cX8_markOf 11 = .ok (.iload_n 2, 1) := by decide +kernel
theorem dX8_markOf_12 : decode cX8_markOf 12 = .ok (.iload_n 3, 1) := by decide +kernel
theorem dX8_markOf_13 : decode cX8_markOf 13 = .ok (.invokestatic 64, 3) := by decide +kernel
theorem dX8_markOf_16 : decode cX8_markOf 16 = .ok (.iload_n 3, 1) := by decide +kernel
theorem dX8_markOf_17 : decode cX8_markOf 17 = .ok (.if_icmp .ne 9, 3) := by decide +kernel
theorem dX8_markOf_20 : decode cX8_markOf 20 = .ok (.iinc 3 1, 3) := by decide +kernel
theorem dX8_markOf_23 : decode cX8_markOf 23 = .ok (.goto (-21), 3) := by decide +kernel
theorem dX8_markOf_26 : decode cX8_markOf 26 = .ok (.iload_n 3, 1) := by decide +kernel
theorem dX8_markOf_27 : decode cX8_markOf 27 = .ok (.iconst 1, 1) := by decide +kernel
theorem dX8_markOf_28 : decode cX8_markOf 28 = .ok (.isub, 1) := by decide +kernel
theorem dX8_markOf_29 : decode cX8_markOf 29 = .ok (.istore 4, 2) := by decide +kernel
theorem dX8_markOf_31 : decode cX8_markOf 31 = .ok (.iload_n 1, 1) := by decide +kernel
theorem dX8_markOf_32 : decode cX8_markOf 32 = .ok (.iload 4, 2) := by decide +kernel
theorem dX8_markOf_34 : decode cX8_markOf 34 = .ok (.invokestatic 64, 3) := by decide +kernel
theorem dX8_markOf_37 : decode cX8_markOf 37 = .ok (.iload_n 2, 1) := by decide +kernel
theorem dX8_markOf_38 : decode cX8_markOf 38 = .ok (.iload_n 3, 1) := by decide +kernel
theorem dX8_markOf_39 : decode cX8_markOf 39 = .ok (.invokestatic 64, 3) := by decide +kernel
theorem dX8_markOf_42 : decode cX8_markOf 42 = .ok (.if_icmp .eq 9, 3) := by decide +kernel
theorem dX8_markOf_45 : decode cX8_markOf 45 = .ok (.iinc 4 (-1), 3) := by decide +kernel
theorem dX8_markOf_48 : decode cX8_markOf 48 = .ok (.goto (-17), 3) := by decide +kernel
theorem dX8_markOf_51 : decode cX8_markOf 51 = .ok (.iload 4, 2) := by decide +kernel
theorem dX8_markOf_53 : decode cX8_markOf 53 = .ok (.ireturn, 1) := by decide +kernel
theorem dX8_mark_0 : decode cX8_mark 0 = .ok (.iload_n 1, 1) := by decide +kernel
theorem dX8_mark_1 : decode cX8_mark 1 = .ok (.invokestatic 104, 3) := by decide +kernel
theorem dX8_mark_4 : decode cX8_mark 4 = .ok (.ifCond .eq 10, 3) := by decide +kernel
theorem dX8_mark_7 : decode cX8_mark 7 = .ok (.iload_n 2, 1) := by decide +kernel
theorem dX8_mark_8 : decode cX8_mark 8 = .ok (.invokestatic 104, 3) := by decide +kernel
theorem dX8_mark_11 : decode cX8_mark 11 = .ok (.ifCond .ne 10, 3) := by decide +kernel
theorem dX8_mark_14 : decode cX8_mark 14 = .ok (.aload_n 0, 1) := by decide +kernel
theorem dX8_mark_15 : decode cX8_mark 15 = .ok (.bipush (-2), 2) := by decide +kernel
theorem dX8_mark_17 : decode cX8_mark 17 = .ok (.invokevirtual 131, 3) := by decide +kernel
theorem dX8_mark_20 : decode cX8_mark 20 = .ok (.ireturn, 1) := by decide +kernel
theorem dX8_mark_21 : decode cX8_mark 21 = .ok (.aload_n 0, 1) := by decide +kernel
theorem dX8_mark_22 : decode cX8_mark 22 = .ok (.getfield 7, 3) := by decide +kernel
theorem dX8_mark_25 : decode cX8_mark 25 = .ok (.iconst 1, 1) := by decide +kernel
theorem dX8_mark_26 : decode cX8_mark 26 = .ok (.iload_n 1, 1) := by decide +kernel
theorem dX8_mark_27 : decode cX8_mark 27 = .ok (.iadd, 1) := by decide +kernel
theorem dX8_mark_28 : decode cX8_mark 28 = .ok (.iaload, 1) := by decide +kernel
theorem dX8_mark_29 : decode cX8_mark 29 = .ok (.istore_n 3, 1) := by decide +kernel
theorem dX8_mark_30 : decode cX8_mark 30 = .ok (.aload_n 0, 1) := by decide +kernel
theorem dX8_mark_31 : decode cX8_mark 31 = .ok (.getfield 7, 3) := by decide +kernel
theorem dX8_mark_34 : decode cX8_mark 34 = .ok (.iconst 1, 1) := by decide +kernel
theorem dX8_mark_35 : decode cX8_mark 35 = .ok (.iload_n 2, 1) := by decide +kernel
theorem dX8_mark_36 : decode cX8_mark 36 = .ok (.iadd, 1) := by decide +kernel
theorem dX8_mark_37 : decode cX8_mark 37 = .ok (.iaload, 1) := by decide +kernel
theorem dX8_mark_38 : decode cX8_mark 38 = .ok (.istore 4, 2) := by decide +kernel
theorem dX8_mark_40 : decode cX8_mark 40 = .ok (.aload_n 0, 1) := by decide +kernel
theorem dX8_mark_41 : decode cX8_mark 41 = .ok (.iload 4, 2) := by decide +kernel
theorem dX8_mark_43 : decode cX8_mark 43 = .ok (.invokevirtual 93, 3) := by decide +kernel
theorem dX8_mark_46 : decode cX8_mark 46 = .ok (.aload_n 0, 1) := by decide +kernel
theorem dX8_mark_47 : decode cX8_mark 47 = .ok (.iload_n 3, 1) := by decide +kernel
theorem dX8_mark_48 : decode cX8_mark 48 = .ok (.invokevirtual 93, 3) := by decide +kernel
theorem dX8_mark_51 : decode cX8_mark 51 = .ok (.iconst 1, 1) := by decide +kernel
theorem dX8_mark_52 : decode cX8_mark 52 = .ok (.iadd, 1) := by decide +kernel
theorem dX8_mark_53 : decode cX8_mark 53 = .ok (.if_icmp .ne 23, 3) := by decide +kernel
theorem dX8_mark_56 : decode cX8_mark 56 = .ok (.aload_n 0, 1) := by decide +kernel
theorem dX8_mark_57 : decode cX8_mark 57 = .ok (.iload_n 3, 1) := by decide +kernel
theorem dX8_mark_58 : decode cX8_mark 58 = .ok (.iload 4, 2) := by decide +kernel
theorem dX8_mark_60 : decode cX8_mark 60 = .ok (.invokevirtual 171, 3) := by decide +kernel
theorem dX8_mark_63 : decode cX8_mark 63 = .ok (.ifCond .eq 13, 3) := by decide +kernel
theorem dX8_mark_66 : decode cX8_mark 66 = .ok (.aload_n 0, 1) := by decide +kernel
theorem dX8_mark_67 : decode cX8_mark 67 = .ok (.iload_n 3, 1) := by decide +kernel
theorem dX8_mark_68 : decode cX8_mark 68 = .ok (.iload 4, 2) := by decide +kernel
theorem dX8_mark_70 : decode cX8_mark 70 = .ok (.invokevirtual 188, 3) := by decide +kernel
theorem dX8_mark_73 : decode cX8_mark 73 = .ok (.goto 9, 3) := by decide +kernel
theorem dX8_mark_76 : decode cX8_mark 76 = .ok (.aload_n 0, 1) := by decide +kernel
theorem dX8_mark_77 : decode cX8_mark 77 = .ok (.bipush (-3), 2) := by decide +kernel
theorem dX8_mark_79 : decode cX8_mark 79 = .ok (.invokevirtual 131, 3) := by decide +kernel
theorem dX8_mark_82 : decode cX8_mark 82 = .ok (.ireturn, 1) := by decide +kernel
theorem dX8_chainsBy_0 : decode cX8_chainsBy 0 = .ok (.aload_n 0, 1) := by decide +kernel
theorem dX8_chainsBy_1 : decode cX8_chainsBy 1 = .ok (.invokevirtual 97, 3) := by decide +kernel
theorem dX8_chainsBy_4 : decode cX8_chainsBy 4 = .ok (.aload_n 0, 1) := by decide +kernel
theorem dX8_chainsBy_5 : decode cX8_chainsBy 5 = .ok (.iload_n 1, 1) := by decide +kernel
theorem dX8_chainsBy_6 : decode cX8_chainsBy 6 = .ok (.invokevirtual 93, 3) := by decide +kernel
theorem dX8_chainsBy_9 : decode cX8_chainsBy 9 = .ok (.istore 4, 2) := by decide +kernel
theorem dX8_chainsBy_11 : decode cX8_chainsBy 11 = .ok (.aload_n 0, 1) := by decide +kernel
theorem dX8_chainsBy_12 : decode cX8_chainsBy 12 = .ok (.iload_n 2, 1) := by decide +kernel
theorem dX8_chainsBy_13 : decode cX8_chainsBy 13 = .ok (.invokevirtual 93, 3) := by decide +kernel
theorem dX8_chainsBy_16 : decode cX8_chainsBy 16 = .ok (.istore 5, 2) := by decide +kernel
theorem dX8_chainsBy_18 : decode cX8_chainsBy 18 = .ok (.iconst 0, 1) := by decide +kernel
theorem dX8_chainsBy_19 : decode cX8_chainsBy 19 = .ok (.istore 6, 2) := by decide +kernel
theorem dX8_chainsBy_21 : decode cX8_chainsBy 21 = .ok (.iload 6, 2) := by decide +kernel
theorem dX8_chainsBy_23 : decode cX8_chainsBy 23 = .ok (.aload_n 0, 1) := by decide +kernel
theorem dX8_chainsBy_24 : decode cX8_chainsBy 24 = .ok (.getfield 87, 3) := by decide +kernel
theorem dX8_chainsBy_27 : decode cX8_chainsBy 27 = .ok (.if_icmp .ge 32, 3) := by decide +kernel
theorem dX8_chainsBy_30 : decode cX8_chainsBy 30 = .ok (.aload_n 0, 1) := by decide +kernel
theorem dX8_chainsBy_31 : decode cX8_chainsBy 31 = .ok (.getfield 34, 3) := by decide +kernel
theorem dX8_chainsBy_34 : decode cX8_chainsBy 34 = .ok (.iload 6, 2) := by decide +kernel
theorem dX8_chainsBy_36 : decode cX8_chainsBy 36 = .ok (.aload_n 0, 1) := by decide +kernel
theorem dX8_chainsBy_37 : decode cX8_chainsBy 37 = .ok (.getfield 28, 3) := by decide +kernel
theorem dX8_chainsBy_40 : decode cX8_chainsBy 40 = .ok (.iload 6, 2) := by decide +kernel
theorem dX8_chainsBy_42 : decode cX8_chainsBy 42 = .ok (.iaload, 1) := by decide +kernel
theorem dX8_chainsBy_43 : decode cX8_chainsBy 43 = .ok (.iload_n 1, 1) := by decide +kernel
theorem dX8_chainsBy_44 : decode cX8_chainsBy 44 = .ok (.if_icmp .ne 7, 3) := by decide +kernel
theorem dX8_chainsBy_47 : decode cX8_chainsBy 47 = .ok (.iconst 1, 1) := by decide +kernel
theorem dX8_chainsBy_48 : decode cX8_chainsBy 48 = .ok (.goto 4, 3) := by decide +kernel
theorem dX8_chainsBy_51 : decode cX8_chainsBy 51 = .ok (.iconst 0, 1) := by decide +kernel
theorem dX8_chainsBy_52 : decode cX8_chainsBy 52 = .ok (.iastore, 1) := by decide +kernel
theorem dX8_chainsBy_53 : decode cX8_chainsBy 53 = .ok (.iinc 6 1, 3) := by decide +kernel
theorem dX8_chainsBy_56 : decode cX8_chainsBy 56 = .ok (.goto (-35), 3) := by decide +kernel
theorem dX8_chainsBy_59 : decode cX8_chainsBy 59 = .ok (.iconst 1, 1) := by decide +kernel
theorem dX8_chainsBy_60 : decode cX8_chainsBy 60 = .ok (.istore 6, 2) := by decide +kernel
theorem dX8_chainsBy_62 : decode cX8_chainsBy 62 = .ok (.iload 4, 2) := by decide +kernel
theorem dX8_chainsBy_64 : decode cX8_chainsBy 64 = .ok (.iconst 1, 1) := by decide +kernel
theorem dX8_chainsBy_65 : decode cX8_chainsBy 65 = .ok (.iadd, 1) := by decide +kernel
theorem dX8_chainsBy_66 : decode cX8_chainsBy 66 = .ok (.istore 7, 2) := by decide +kernel
theorem dX8_chainsBy_68 : decode cX8_chainsBy 68 = .ok (.iload 7, 2) := by decide +kernel
theorem dX8_chainsBy_70 : decode cX8_chainsBy 70 = .ok (.iload 5, 2) := by decide +kernel
theorem dX8_chainsBy_72 : decode cX8_chainsBy 72 = .ok (.if_icmp .ge 16, 3) := by decide +kernel
theorem dX8_chainsBy_75 : decode cX8_chainsBy 75 = .ok (.iload 6, 2) := by decide +kernel
theorem dX8_chainsBy_77 : decode cX8_chainsBy 77 = .ok (.bipush 10, 2) := by decide +kernel
theorem dX8_chainsBy_79 : decode cX8_chainsBy 79 = .ok (.imul, 1) := by decide +kernel
theorem dX8_chainsBy_80 : decode cX8_chainsBy 80 = .ok (.istore 6, 2) := by decide +kernel
theorem dX8_chainsBy_82 : decode cX8_chainsBy 82 = .ok (.iinc 7 1, 3) := by decide +kernel
theorem dX8_chainsBy_85 : decode cX8_chainsBy 85 = .ok (.goto (-17), 3) := by decide +kernel
theorem dX8_chainsBy_88 : decode cX8_chainsBy 88 = .ok (.iload 4, 2) := by decide +kernel
theorem dX8_chainsBy_90 : decode cX8_chainsBy 90 = .ok (.istore 7, 2) := by decide +kernel
theorem dX8_chainsBy_92 : decode cX8_chainsBy 92 = .ok (.iload 7, 2) := by decide +kernel
theorem dX8_chainsBy_94 : decode cX8_chainsBy 94 = .ok (.iload 5, 2) := by decide +kernel
theorem dX8_chainsBy_96 : decode cX8_chainsBy 96 = .ok (.if_icmp .ge 103, 3) := by decide +kernel
theorem dX8_chainsBy_99 : decode cX8_chainsBy 99 = .ok (.iconst 0, 1) := by decide +kernel
theorem dX8_chainsBy_100 : decode cX8_chainsBy 100 = .ok (.istore 8, 2) := by decide +kernel
theorem dX8_chainsBy_102 : decode cX8_chainsBy 102 = .ok (.iload 8, 2) := by decide +kernel
theorem dX8_chainsBy_104 : decode cX8_chainsBy 104 = .ok (.aload_n 0, 1) := by decide +kernel
theorem dX8_chainsBy_105 : decode cX8_chainsBy 105 = .ok (.getfield 87, 3) := by decide +kernel
theorem dX8_chainsBy_108 : decode cX8_chainsBy 108 = .ok (.if_icmp .ge 68, 3) := by decide +kernel
theorem dX8_chainsBy_111 : decode cX8_chainsBy 111 = .ok (.aload_n 0, 1) := by decide +kernel
theorem dX8_chainsBy_112 : decode cX8_chainsBy 112 = .ok (.getfield 31, 3) := by decide +kernel
theorem dX8_chainsBy_115 : decode cX8_chainsBy 115 = .ok (.iload 8, 2) := by decide +kernel
theorem dX8_chainsBy_117 : decode cX8_chainsBy 117 = .ok (.iaload, 1) := by decide +kernel
theorem dX8_chainsBy_118 : decode cX8_chainsBy 118 = .ok (.iload 7, 2) := by decide +kernel
theorem dX8_chainsBy_120 : decode cX8_chainsBy 120 = .ok (.iconst 1, 1) := by decide +kernel
theorem dX8_chainsBy_121 : decode cX8_chainsBy 121 = .ok (.iadd, 1) := by decide +kernel
theorem dX8_chainsBy_122 : decode cX8_chainsBy 122 = .ok (.if_icmp .ne 48, 3) := by decide +kernel
theorem dX8_chainsBy_125 : decode cX8_chainsBy 125 = .ok (.aload_n 0, 1) := by decide +kernel
theorem dX8_chainsBy_126 : decode cX8_chainsBy 126 = .ok (.aload_n 0, 1) := by decide +kernel
theorem dX8_chainsBy_127 : decode cX8_chainsBy 127 = .ok (.getfield 28, 3) := by decide +kernel
theorem dX8_chainsBy_130 : decode cX8_chainsBy 130 = .ok (.iload 8, 2) := by decide +kernel
theorem dX8_chainsBy_132 : decode cX8_chainsBy 132 = .ok (.iaload, 1) := by decide +kernel
theorem dX8_chainsBy_133 : decode cX8_chainsBy 133 = .ok (.iload_n 2, 1) := by decide +kernel
theorem dX8_chainsBy_134 : decode cX8_chainsBy 134 = .ok (.invokevirtual 171, 3) := by decide +kernel
theorem dX8_chainsBy_137 : decode cX8_chainsBy 137 = .ok (.ifCond .eq 33, 3) := by decide +kernel
theorem dX8_chainsBy_140 : decode cX8_chainsBy 140 = .ok (.aload_n 0, 1) := by decide +kernel
theorem dX8_chainsBy_141 : decode cX8_chainsBy 141 = .ok (.getfield 34, 3) := by decide +kernel
theorem dX8_chainsBy_144 : decode cX8_chainsBy 144 = .ok (.iload 8, 2) := by decide +kernel
theorem dX8_chainsBy_146 : decode cX8_chainsBy 146 = .ok (.aload_n 0, 1) := by decide +kernel
theorem dX8_chainsBy_147 : decode cX8_chainsBy 147 = .ok (.iload 8, 2) := by decide +kernel
theorem dX8_chainsBy_149 : decode cX8_chainsBy 149 = .ok (.iload 7, 2) := by decide +kernel
theorem dX8_chainsBy_151 : decode cX8_chainsBy 151 = .ok (.iload_n 3, 1) := by decide +kernel
theorem dX8_chainsBy_152 : decode cX8_chainsBy 152 = .ok (.ifCond .ge 7, 3) := by decide +kernel
theorem dX8_chainsBy_155 : decode cX8_chainsBy 155 = .ok (.iconst (-1), 1) := by decide +kernel
theorem dX8_chainsBy_156 : decode cX8_chainsBy 156 = .ok (.goto 10, 3) := by decide +kernel
theorem dX8_chainsBy_159 : decode cX8_chainsBy 159 = .ok (.iload_n 3, 1) := by decide +kernel
theorem dX8_chainsBy_160 : decode cX8_chainsBy 160 = .ok (.iload 6, 2) := by decide +kernel
theorem dX8_chainsBy_162 : decode cX8_chainsBy 162 = .ok (.idiv, 1) := by decide +kernel
theorem dX8_chainsBy_163 : decode cX8_chainsBy 163 = .ok (.bipush 10, 2) := by decide +kernel
theorem dX8_chainsBy_165 : decode cX8_chainsBy 165 = .ok (.irem, 1) := by decide +kernel
theorem dX8_chainsBy_166 : decode cX8_chainsBy 166 = .ok (.invokevirtual 191, 3) := by decide +kernel
theorem dX8_chainsBy_169 : decode cX8_chainsBy 169 = .ok (.iastore, 1) := by decide +kernel
theorem dX8_chainsBy_170 : decode cX8_chainsBy 170 = .ok (.iinc 8 1, 3) := by decide +kernel
theorem dX8_chainsBy_173 : decode cX8_chainsBy 173 = .ok (.goto (-71), 3) := by decide +kernel
theorem dX8_chainsBy_176 : decode cX8_chainsBy 176 = .ok (.iload 6, 2) := by decide +kernel
theorem dX8_chainsBy_178 : decode cX8_chainsBy 178 = .ok (.iconst 1, 1) := by decide +kernel
theorem dX8_chainsBy_179 : decode cX8_chainsBy 179 = .ok (.if_icmp .le 11, 3) := by decide +kernel
theorem dX8_chainsBy_182 : decode cX8_chainsBy 182 = .ok (.iload 6, 2) := by decide +kernel
theorem dX8_chainsBy_184 : decode cX8_chainsBy 184 = .ok (.bipush 10, 2) := by decide +kernel
theorem dX8_chainsBy_186 : decode cX8_chainsBy 186 = .ok (.idiv, 1) := by decide +kernel
theorem dX8_chainsBy_187 : decode cX8_chainsBy 187 = .ok (.goto 4, 3) := by decide +kernel
theorem dX8_chainsBy_190 : decode cX8_chainsBy 190 = .ok (.iconst 1, 1) := by decide +kernel
theorem dX8_chainsBy_191 : decode cX8_chainsBy 191 = .ok (.istore 6, 2) := by decide +kernel
theorem dX8_chainsBy_193 : decode cX8_chainsBy 193 = .ok (.iinc 7 1, 3) := by decide +kernel
theorem dX8_chainsBy_196 : decode cX8_chainsBy 196 = .ok (.goto (-104), 3) := by decide +kernel
theorem dX8_chainsBy_199 : decode cX8_chainsBy 199 = .ok (.aload_n 0, 1) := by decide +kernel
theorem dX8_chainsBy_200 : decode cX8_chainsBy 200 = .ok (.getfield 34, 3) := by decide +kernel
theorem dX8_chainsBy_203 : decode cX8_chainsBy 203 = .ok (.aload_n 0, 1) := by decide +kernel
theorem dX8_chainsBy_204 : decode cX8_chainsBy 204 = .ok (.iload_n 2, 1) := by decide +kernel
theorem dX8_chainsBy_205 : decode cX8_chainsBy 205 = .ok (.invokevirtual 125, 3) := by decide +kernel
theorem dX8_chainsBy_208 : decode cX8_chainsBy 208 = .ok (.iaload, 1) := by decide +kernel
theorem dX8_chainsBy_209 : decode cX8_chainsBy 209 = .ok (.ireturn, 1) := by decide +kernel
theorem dX8_waysTo_0 : decode cX8_waysTo 0 = .ok (.iconst 0, 1) := by decide +kernel
theorem dX8_waysTo_1 : decode cX8_waysTo 1 = .ok (.istore 4, 2) := by decide +kernel
theorem dX8_waysTo_3 : decode cX8_waysTo 3 = .ok (.iconst 0, 1) := by decide +kernel
theorem dX8_waysTo_4 : decode cX8_waysTo 4 = .ok (.istore 5, 2) := by decide +kernel
theorem dX8_waysTo_6 : decode cX8_waysTo 6 = .ok (.iload 5, 2) := by decide +kernel
theorem dX8_waysTo_8 : decode cX8_waysTo 8 = .ok (.aload_n 0, 1) := by decide +kernel
theorem dX8_waysTo_9 : decode cX8_waysTo 9 = .ok (.getfield 87, 3) := by decide +kernel
theorem dX8_waysTo_12 : decode cX8_waysTo 12 = .ok (.if_icmp .ge 92, 3) := by decide +kernel
theorem dX8_waysTo_15 : decode cX8_waysTo 15 = .ok (.aload_n 0, 1) := by decide +kernel
theorem dX8_waysTo_16 : decode cX8_waysTo 16 = .ok (.getfield 31, 3) := by decide +kernel
theorem dX8_waysTo_19 : decode cX8_waysTo 19 = .ok (.iload 5, 2) := by decide +kernel
theorem dX8_waysTo_21 : decode cX8_waysTo 21 = .ok (.iaload, 1) := by decide +kernel
theorem dX8_waysTo_22 : decode cX8_waysTo 22 = .ok (.iload_n 2, 1) := by decide +kernel
theorem dX8_waysTo_23 : decode cX8_waysTo 23 = .ok (.if_icmp .ne 75, 3) := by decide +kernel
theorem dX8_waysTo_26 : decode cX8_waysTo 26 = .ok (.aload_n 0, 1) := by decide +kernel
theorem dX8_waysTo_27 : decode cX8_waysTo 27 = .ok (.getfield 34, 3) := by decide +kernel
theorem dX8_waysTo_30 : decode cX8_waysTo 30 = .ok (.iload 5, 2) := by decide +kernel
theorem dX8_waysTo_32 : decode cX8_waysTo 32 = .ok (.iaload, 1) := by decide +kernel
theorem dX8_waysTo_33 : decode cX8_waysTo 33 = .ok (.ifCond .le 65, 3) := by decide +kernel
theorem dX8_waysTo_36 : decode cX8_waysTo 36 = .ok (.aload_n 0, 1) := by decide +kernel
theorem dX8_waysTo_37 : decode cX8_waysTo 37 = .ok (.aload_n 0, 1) := by decide +kernel
theorem dX8_waysTo_38 : decode cX8_waysTo 38 = .ok (.getfield 28, 3) := by decide +kernel
theorem dX8_waysTo_41 : decode cX8_waysTo 41 = .ok (.iload 5, 2) := by decide +kernel
theorem dX8_waysTo_43 : decode cX8_waysTo 43 = .ok (.iaload, 1) := by decide +kernel
theorem dX8_waysTo_44 : decode cX8_waysTo 44 = .ok (.aload_n 0, 1) := by decide +kernel
theorem dX8_waysTo_45 : decode cX8_waysTo 45 = .ok (.getfield 28, 3) := by decide +kernel
theorem dX8_waysTo_48 : decode cX8_waysTo 48 = .ok (.iload_n 1, 1) := by decide +kernel
theorem dX8_waysTo_49 : decode cX8_waysTo 49 = .ok (.iaload, 1) := by decide +kernel
theorem dX8_waysTo_50 : decode cX8_waysTo 50 = .ok (.invokevirtual 171, 3) := by decide +kernel
theorem dX8_waysTo_53 : decode cX8_waysTo 53 = .ok (.ifCond .eq 45, 3) := by decide +kernel
theorem dX8_waysTo_56 : decode cX8_waysTo 56 = .ok (.iload 4, 2) := by decide +kernel
theorem dX8_waysTo_58 : decode cX8_waysTo 58 = .ok (.iload_n 3, 1) := by decide +kernel
theorem dX8_waysTo_59 : decode cX8_waysTo 59 = .ok (.iconst (-1), 1) := by decide +kernel
theorem dX8_waysTo_60 : decode cX8_waysTo 60 = .ok (.if_icmp .eq 24, 3) := by decide +kernel
theorem dX8_waysTo_63 : decode cX8_waysTo 63 = .ok (.aload_n 0, 1) := by decide +kernel
theorem dX8_waysTo_64 : decode cX8_waysTo 64 = .ok (.aload_n 0, 1) := by decide +kernel
theorem dX8_waysTo_65 : decode cX8_waysTo 65 = .ok (.getfield 28, 3) := by decide +kernel
theorem dX8_waysTo_68 : decode cX8_waysTo 68 = .ok (.iload 5, 2) := by decide +kernel
theorem dX8_waysTo_70 : decode cX8_waysTo 70 = .ok (.iaload, 1) := by decide +kernel
theorem dX8_waysTo_71 : decode cX8_waysTo 71 = .ok (.aload_n 0, 1) := by decide +kernel
theorem dX8_waysTo_72 : decode cX8_waysTo 72 = .ok (.getfield 28, 3) := by decide +kernel
theorem dX8_waysTo_75 : decode cX8_waysTo 75 = .ok (.iload_n 1, 1) := by decide +kernel
theorem dX8_waysTo_76 : decode cX8_waysTo 76 = .ok (.iaload, 1) := by decide +kernel
theorem dX8_waysTo_77 : decode cX8_waysTo 77 = .ok (.invokevirtual 188, 3) := by decide +kernel
theorem dX8_waysTo_80 : decode cX8_waysTo 80 = .ok (.iload_n 3, 1) := by decide +kernel
theorem dX8_waysTo_81 : decode cX8_waysTo 81 = .ok (.if_icmp .ne 13, 3) := by decide +kernel
theorem dX8_waysTo_84 : decode cX8_waysTo 84 = .ok (.aload_n 0, 1) := by decide +kernel
theorem dX8_waysTo_85 : decode cX8_waysTo 85 = .ok (.getfield 34, 3) := by decide +kernel
theorem dX8_waysTo_88 : decode cX8_waysTo 88 = .ok (.iload 5, 2) := by decide +kernel
theorem dX8_waysTo_90 : decode cX8_waysTo 90 = .ok (.iaload, 1) := by decide +kernel
theorem dX8_waysTo_91 : decode cX8_waysTo 91 = .ok (.goto 4, 3) := by decide +kernel
theorem dX8_waysTo_94 : decode cX8_waysTo 94 = .ok (.iconst 0, 1) := by decide +kernel
theorem dX8_waysTo_95 : decode cX8_waysTo 95 = .ok (.iadd, 1) := by decide +kernel
theorem dX8_waysTo_96 : decode cX8_waysTo 96 = .ok (.istore 4, 2) := by decide +kernel
theorem dX8_waysTo_98 : decode cX8_waysTo 98 = .ok (.iinc 5 1, 3) := by decide +kernel
theorem dX8_waysTo_101 : decode cX8_waysTo 101 = .ok (.goto (-95), 3) := by decide +kernel
theorem dX8_waysTo_104 : decode cX8_waysTo 104 = .ok (.iload 4, 2) := by decide +kernel
theorem dX8_waysTo_106 : decode cX8_waysTo 106 = .ok (.ireturn, 1) := by decide +kernel
theorem dX8_refusedOf_0 : decode cX8_refusedOf 0 = .ok (.iload_n 1, 1) := by decide +kernel
theorem dX8_refusedOf_1 : decode cX8_refusedOf 1 = .ok (.invokestatic 104, 3) := by decide +kernel
theorem dX8_refusedOf_4 : decode cX8_refusedOf 4 = .ok (.ifCond .eq 10, 3) := by decide +kernel
theorem dX8_refusedOf_7 : decode cX8_refusedOf 7 = .ok (.iload_n 2, 1) := by decide +kernel
theorem dX8_refusedOf_8 : decode cX8_refusedOf 8 = .ok (.invokestatic 104, 3) := by decide +kernel
theorem dX8_refusedOf_11 : decode cX8_refusedOf 11 = .ok (.ifCond .ne 10, 3) := by decide +kernel
theorem dX8_refusedOf_14 : decode cX8_refusedOf 14 = .ok (.aload_n 0, 1) := by decide +kernel
theorem dX8_refusedOf_15 : decode cX8_refusedOf 15 = .ok (.bipush (-2), 2) := by decide +kernel
theorem dX8_refusedOf_17 : decode cX8_refusedOf 17 = .ok (.invokevirtual 131, 3) := by decide +kernel
theorem dX8_refusedOf_20 : decode cX8_refusedOf 20 = .ok (.ireturn, 1) := by decide +kernel
theorem dX8_refusedOf_21 : decode cX8_refusedOf 21 = .ok (.aload_n 0, 1) := by decide +kernel
theorem dX8_refusedOf_22 : decode cX8_refusedOf 22 = .ok (.aload_n 0, 1) := by decide +kernel
theorem dX8_refusedOf_23 : decode cX8_refusedOf 23 = .ok (.getfield 7, 3) := by decide +kernel
theorem dX8_refusedOf_26 : decode cX8_refusedOf 26 = .ok (.iconst 1, 1) := by decide +kernel
theorem dX8_refusedOf_27 : decode cX8_refusedOf 27 = .ok (.iload_n 1, 1) := by decide +kernel
theorem dX8_refusedOf_28 : decode cX8_refusedOf 28 = .ok (.iadd, 1) := by decide +kernel
theorem dX8_refusedOf_29 : decode cX8_refusedOf 29 = .ok (.iaload, 1) := by decide +kernel
theorem dX8_refusedOf_30 : decode cX8_refusedOf 30 = .ok (.aload_n 0, 1) := by decide +kernel
theorem dX8_refusedOf_31 : decode cX8_refusedOf 31 = .ok (.getfield 7, 3) := by decide +kernel
theorem dX8_refusedOf_34 : decode cX8_refusedOf 34 = .ok (.iconst 1, 1) := by decide +kernel
theorem dX8_refusedOf_35 : decode cX8_refusedOf 35 = .ok (.iload_n 2, 1) := by decide +kernel
theorem dX8_refusedOf_36 : decode cX8_refusedOf 36 = .ok (.iadd, 1) := by decide +kernel
theorem dX8_refusedOf_37 : decode cX8_refusedOf 37 = .ok (.iaload, 1) := by decide +kernel
theorem dX8_refusedOf_38 : decode cX8_refusedOf 38 = .ok (.invokevirtual 171, 3) := by decide +kernel
theorem dX8_refusedOf_41 : decode cX8_refusedOf 41 = .ok (.ifCond .eq 7, 3) := by decide +kernel
theorem dX8_refusedOf_44 : decode cX8_refusedOf 44 = .ok (.iconst 0, 1) := by decide +kernel
theorem dX8_refusedOf_45 : decode cX8_refusedOf 45 = .ok (.goto 9, 3) := by decide +kernel
theorem dX8_refusedOf_48 : decode cX8_refusedOf 48 = .ok (.aload_n 0, 1) := by decide +kernel
theorem dX8_refusedOf_49 : decode cX8_refusedOf 49 = .ok (.bipush (-3), 2) := by decide +kernel
theorem dX8_refusedOf_51 : decode cX8_refusedOf 51 = .ok (.invokevirtual 131, 3) := by decide +kernel
theorem dX8_refusedOf_54 : decode cX8_refusedOf 54 = .ok (.ireturn, 1) := by decide +kernel
theorem dX8_chains_0 : decode cX8_chains 0 = .ok (.aload_n 0, 1) := by decide +kernel
theorem dX8_chains_1 : decode cX8_chains 1 = .ok (.iload_n 1, 1) := by decide +kernel
theorem dX8_chains_2 : decode cX8_chains 2 = .ok (.iload_n 2, 1) := by decide +kernel
theorem dX8_chains_3 : decode cX8_chains 3 = .ok (.invokevirtual 194, 3) := by decide +kernel
theorem dX8_chains_6 : decode cX8_chains 6 = .ok (.istore_n 3, 1) := by decide +kernel
theorem dX8_chains_7 : decode cX8_chains 7 = .ok (.iload_n 3, 1) := by decide +kernel
theorem dX8_chains_8 : decode cX8_chains 8 = .ok (.ifCond .ge 7, 3) := by decide +kernel
theorem dX8_chains_11 : decode cX8_chains 11 = .ok (.iload_n 3, 1) := by decide +kernel
theorem dX8_chains_12 : decode cX8_chains 12 = .ok (.goto 24, 3) := by decide +kernel
theorem dX8_chains_15 : decode cX8_chains 15 = .ok (.aload_n 0, 1) := by decide +kernel
theorem dX8_chains_16 : decode cX8_chains 16 = .ok (.aload_n 0, 1) := by decide +kernel
theorem dX8_chains_17 : decode cX8_chains 17 = .ok (.getfield 7, 3) := by decide +kernel
theorem dX8_chains_20 : decode cX8_chains 20 = .ok (.iconst 1, 1) := by decide +kernel
theorem dX8_chains_21 : decode cX8_chains 21 = .ok (.iload_n 1, 1) := by decide +kernel
theorem dX8_chains_22 : decode cX8_chains 22 = .ok (.iadd, 1) := by decide +kernel
theorem dX8_chains_23 : decode cX8_chains 23 = .ok (.iaload, 1) := by decide +kernel
theorem dX8_chains_24 : decode cX8_chains 24 = .ok (.aload_n 0, 1) := by decide +kernel
theorem dX8_chains_25 : decode cX8_chains 25 = .ok (.getfield 7, 3) := by decide +kernel
theorem dX8_chains_28 : decode cX8_chains 28 = .ok (.iconst 1, 1) := by decide +kernel
theorem dX8_chains_29 : decode cX8_chains 29 = .ok (.iload_n 2, 1) := by decide +kernel
theorem dX8_chains_30 : decode cX8_chains 30 = .ok (.iadd, 1) := by decide +kernel
theorem dX8_chains_31 : decode cX8_chains 31 = .ok (.iaload, 1) := by decide +kernel
theorem dX8_chains_32 : decode cX8_chains 32 = .ok (.iconst (-1), 1) := by decide +kernel
theorem dX8_chains_33 : decode cX8_chains 33 = .ok (.invokevirtual 197, 3) := by decide +kernel
theorem dX8_chains_36 : decode cX8_chains 36 = .ok (.ireturn, 1) := by decide +kernel
theorem dX8_marked_0 : decode cX8_marked 0 = .ok (.iconst 1, 1) := by decide +kernel
theorem dX8_marked_1 : decode cX8_marked 1 = .ok (.istore_n 2, 1) := by decide +kernel
theorem dX8_marked_2 : decode cX8_marked 2 = .ok (.iload_n 1, 1) := by decide +kernel
theorem dX8_marked_3 : decode cX8_marked 3 = .ok (.ifCond .lt 7, 3) := by decide +kernel
theorem dX8_marked_6 : decode cX8_marked 6 = .ok (.iconst 1, 1) := by decide +kernel
theorem dX8_marked_7 : decode cX8_marked 7 = .ok (.goto 4, 3) := by decide +kernel
theorem dX8_marked_10 : decode cX8_marked 10 = .ok (.iconst 0, 1) := by decide +kernel
theorem dX8_marked_11 : decode cX8_marked 11 = .ok (.istore_n 3, 1) := by decide +kernel
theorem dX8_marked_12 : decode cX8_marked 12 = .ok (.iload_n 1, 1) := by decide +kernel
theorem dX8_marked_13 : decode cX8_marked 13 = .ok (.istore 4, 2) := by decide +kernel
theorem dX8_marked_15 : decode cX8_marked 15 = .ok (.iconst 1, 1) := by decide +kernel
theorem dX8_marked_16 : decode cX8_marked 16 = .ok (.istore 5, 2) := by decide +kernel
theorem dX8_marked_18 : decode cX8_marked 18 = .ok (.iload 5, 2) := by decide +kernel
theorem dX8_marked_20 : decode cX8_marked 20 = .ok (.aload_n 0, 1) := by decide +kernel
theorem dX8_marked_21 : decode cX8_marked 21 = .ok (.getfield 7, 3) := by decide +kernel
theorem dX8_marked_24 : decode cX8_marked 24 = .ok (.iconst 0, 1) := by decide +kernel
theorem dX8_marked_25 : decode cX8_marked 25 = .ok (.iaload, 1) := by decide +kernel
theorem dX8_marked_26 : decode cX8_marked 26 = .ok (.if_icmp .ge 41, 3) := by decide +kernel
theorem dX8_marked_29 : decode cX8_marked 29 = .ok (.iload_n 2, 1) := by decide +kernel
theorem dX8_marked_30 : decode cX8_marked 30 = .ok (.bipush 10, 2) := by decide +kernel
theorem dX8_marked_32 : decode cX8_marked 32 = .ok (.imul, 1) := by decide +kernel
theorem dX8_marked_33 : decode cX8_marked 33 = .ok (.istore_n 2, 1) := by decide +kernel
theorem dX8_marked_34 : decode cX8_marked 34 = .ok (.iload_n 3, 1) := by decide +kernel
theorem dX8_marked_35 : decode cX8_marked 35 = .ok (.ifCond .eq 17, 3) := by decide +kernel
theorem dX8_marked_38 : decode cX8_marked 38 = .ok (.iload 4, 2) := by decide +kernel
theorem dX8_marked_40 : decode cX8_marked 40 = .ok (.bipush 10, 2) := by decide +kernel
theorem dX8_marked_42 : decode cX8_marked 42 = .ok (.irem, 1) := by decide +kernel
theorem dX8_marked_43 : decode cX8_marked 43 = .ok (.bipush 8, 2) := by decide +kernel
theorem dX8_marked_45 : decode cX8_marked 45 = .ok (.if_icmp .ge 7, 3) := by decide +kernel
theorem dX8_marked_48 : decode cX8_marked 48 = .ok (.iconst 1, 1) := by decide +kernel
theorem dX8_marked_49 : decode cX8_marked 49 = .ok (.goto 4, 3) := by decide +kernel
theorem dX8_marked_52 : decode cX8_marked 52 = .ok (.iconst 0, 1) := by decide +kernel
theorem dX8_marked_53 : decode cX8_marked 53 = .ok (.istore_n 3, 1) := by decide +kernel
theorem dX8_marked_54 : decode cX8_marked 54 = .ok (.iload 4, 2) := by decide +kernel
theorem dX8_marked_56 : decode cX8_marked 56 = .ok (.bipush 10, 2) := by decide +kernel
theorem dX8_marked_58 : decode cX8_marked 58 = .ok (.idiv, 1) := by decide +kernel
theorem dX8_marked_59 : decode cX8_marked 59 = .ok (.istore 4, 2) := by decide +kernel
theorem dX8_marked_61 : decode cX8_marked 61 = .ok (.iinc 5 1, 3) := by decide +kernel
theorem dX8_marked_64 : decode cX8_marked 64 = .ok (.goto (-46), 3) := by decide +kernel
theorem dX8_marked_67 : decode cX8_marked 67 = .ok (.iload_n 3, 1) := by decide +kernel
theorem dX8_marked_68 : decode cX8_marked 68 = .ok (.ifCond .eq 8, 3) := by decide +kernel
theorem dX8_marked_71 : decode cX8_marked 71 = .ok (.iload_n 1, 1) := by decide +kernel
theorem dX8_marked_72 : decode cX8_marked 72 = .ok (.iload_n 2, 1) := by decide +kernel
theorem dX8_marked_73 : decode cX8_marked 73 = .ok (.if_icmp .lt 10, 3) := by decide +kernel
theorem dX8_marked_76 : decode cX8_marked 76 = .ok (.aload_n 0, 1) := by decide +kernel
theorem dX8_marked_77 : decode cX8_marked 77 = .ok (.bipush (-2), 2) := by decide +kernel
theorem dX8_marked_79 : decode cX8_marked 79 = .ok (.invokevirtual 131, 3) := by decide +kernel
theorem dX8_marked_82 : decode cX8_marked 82 = .ok (.ireturn, 1) := by decide +kernel
theorem dX8_marked_83 : decode cX8_marked 83 = .ok (.aload_n 0, 1) := by decide +kernel
theorem dX8_marked_84 : decode cX8_marked 84 = .ok (.invokevirtual 97, 3) := by decide +kernel
theorem dX8_marked_87 : decode cX8_marked 87 = .ok (.aload_n 0, 1) := by decide +kernel
theorem dX8_marked_88 : decode cX8_marked 88 = .ok (.aload_n 0, 1) := by decide +kernel
theorem dX8_marked_89 : decode cX8_marked 89 = .ok (.getfield 28, 3) := by decide +kernel
theorem dX8_marked_92 : decode cX8_marked 92 = .ok (.aload_n 0, 1) := by decide +kernel
theorem dX8_marked_93 : decode cX8_marked 93 = .ok (.getfield 87, 3) := by decide +kernel
theorem dX8_marked_96 : decode cX8_marked 96 = .ok (.iconst 1, 1) := by decide +kernel
theorem dX8_marked_97 : decode cX8_marked 97 = .ok (.isub, 1) := by decide +kernel
theorem dX8_marked_98 : decode cX8_marked 98 = .ok (.iaload, 1) := by decide +kernel
theorem dX8_marked_99 : decode cX8_marked 99 = .ok (.aload_n 0, 1) := by decide +kernel
theorem dX8_marked_100 : decode cX8_marked 100 = .ok (.getfield 28, 3) := by decide +kernel
theorem dX8_marked_103 : decode cX8_marked 103 = .ok (.iconst 0, 1) := by decide +kernel
theorem dX8_marked_104 : decode cX8_marked 104 = .ok (.iaload, 1) := by decide +kernel
theorem dX8_marked_105 : decode cX8_marked 105 = .ok (.iload_n 1, 1) := by decide +kernel
theorem dX8_marked_106 : decode cX8_marked 106 = .ok (.invokevirtual 197, 3) := by decide +kernel
theorem dX8_marked_109 : decode cX8_marked 109 = .ok (.ireturn, 1) := by decide +kernel
theorem dX8_signed_0 : decode cX8_signed 0 = .ok (.aload_n 0, 1) := by decide +kernel
theorem dX8_signed_1 : decode cX8_signed 1 = .ok (.iload_n 1, 1) := by decide +kernel
theorem dX8_signed_2 : decode cX8_signed 2 = .ok (.iload_n 2, 1) := by decide +kernel
theorem dX8_signed_3 : decode cX8_signed 3 = .ok (.invokevirtual 194, 3) := by decide +kernel
theorem dX8_signed_6 : decode cX8_signed 6 = .ok (.istore_n 3, 1) := by decide +kernel
theorem dX8_signed_7 : decode cX8_signed 7 = .ok (.iload_n 3, 1) := by decide +kernel
theorem dX8_signed_8 : decode cX8_signed 8 = .ok (.ifCond .ge 5, 3) := by decide +kernel
theorem dX8_signed_11 : decode cX8_signed 11 = .ok (.iload_n 3, 1) := by decide +kernel
theorem dX8_signed_12 : decode cX8_signed 12 = .ok (.ireturn, 1) := by decide +kernel
theorem dX8_signed_13 : decode cX8_signed 13 = .ok (.aload_n 0, 1) := by decide +kernel
theorem dX8_signed_14 : decode cX8_signed 14 = .ok (.invokevirtual 97, 3) := by decide +kernel
theorem dX8_signed_17 : decode cX8_signed 17 = .ok (.aload_n 0, 1) := by decide +kernel
theorem dX8_signed_18 : decode cX8_signed 18 = .ok (.getfield 7, 3) := by decide +kernel
theorem dX8_signed_21 : decode cX8_signed 21 = .ok (.iconst 1, 1) := by decide +kernel
theorem dX8_signed_22 : decode cX8_signed 22 = .ok (.iload_n 1, 1) := by decide +kernel
theorem dX8_signed_23 : decode cX8_signed 23 = .ok (.iadd, 1) := by decide +kernel
theorem dX8_signed_24 : decode cX8_signed 24 = .ok (.iaload, 1) := by decide +kernel
theorem dX8_signed_25 : decode cX8_signed 25 = .ok (.istore 4, 2) := by decide +kernel
theorem dX8_signed_27 : decode cX8_signed 27 = .ok (.aload_n 0, 1) := by decide +kernel
theorem dX8_signed_28 : decode cX8_signed 28 = .ok (.getfield 7, 3) := by decide +kernel
theorem dX8_signed_31 : decode cX8_signed 31 = .ok (.iconst 1, 1) := by decide +kernel
theorem dX8_signed_32 : decode cX8_signed 32 = .ok (.iload_n 2, 1) := by decide +kernel
theorem dX8_signed_33 : decode cX8_signed 33 = .ok (.iadd, 1) := by decide +kernel
theorem dX8_signed_34 : decode cX8_signed 34 = .ok (.iaload, 1) := by decide +kernel
theorem dX8_signed_35 : decode cX8_signed 35 = .ok (.istore 5, 2) := by decide +kernel
theorem dX8_signed_37 : decode cX8_signed 37 = .ok (.iconst 0, 1) := by decide +kernel
theorem dX8_signed_38 : decode cX8_signed 38 = .ok (.istore 6, 2) := by decide +kernel
theorem dX8_signed_40 : decode cX8_signed 40 = .ok (.iload 6, 2) := by decide +kernel
theorem dX8_signed_42 : decode cX8_signed 42 = .ok (.aload_n 0, 1) := by decide +kernel
theorem dX8_signed_43 : decode cX8_signed 43 = .ok (.getfield 87, 3) := by decide +kernel
theorem dX8_signed_46 : decode cX8_signed 46 = .ok (.if_icmp .ge 17, 3) := by decide +kernel
theorem dX8_signed_49 : decode cX8_signed 49 = .ok (.aload_n 0, 1) := by decide +kernel
theorem dX8_signed_50 : decode cX8_signed 50 = .ok (.getfield 37, 3) := by decide +kernel
theorem dX8_signed_53 : decode cX8_signed 53 = .ok (.iload 6, 2) := by decide +kernel
theorem dX8_signed_55 : decode cX8_signed 55 = .ok (.iconst 0, 1) := by decide +kernel
theorem dX8_signed_56 : decode cX8_signed 56 = .ok (.iastore, 1) := by decide +kernel
theorem dX8_signed_57 : decode cX8_signed 57 = .ok (.iinc 6 1, 3) := by decide +kernel
theorem dX8_signed_60 : decode cX8_signed 60 = .ok (.goto (-20), 3) := by decide +kernel
theorem dX8_signed_63 : decode cX8_signed 63 = .ok (.aload_n 0, 1) := by decide +kernel
theorem dX8_signed_64 : decode cX8_signed 64 = .ok (.iload 4, 2) := by decide +kernel
theorem dX8_signed_66 : decode cX8_signed 66 = .ok (.invokevirtual 93, 3) := by decide +kernel
theorem dX8_signed_69 : decode cX8_signed 69 = .ok (.istore 6, 2) := by decide +kernel
theorem dX8_signed_71 : decode cX8_signed 71 = .ok (.iload 6, 2) := by decide +kernel
theorem dX8_signed_73 : decode cX8_signed 73 = .ok (.aload_n 0, 1) := by decide +kernel
theorem dX8_signed_74 : decode cX8_signed 74 = .ok (.iload 5, 2) := by decide +kernel
theorem dX8_signed_76 : decode cX8_signed 76 = .ok (.invokevirtual 93, 3) := by decide +kernel
theorem dX8_signed_79 : decode cX8_signed 79 = .ok (.if_icmp .gt 100, 3) := by decide +kernel
theorem dX8_signed_82 : decode cX8_signed 82 = .ok (.iconst 0, 1) := by decide +kernel
theorem dX8_signed_83 : decode cX8_signed 83 = .ok (.istore 7, 2) := by decide +kernel
theorem dX8_signed_85 : decode cX8_signed 85 = .ok (.iload 7, 2) := by decide +kernel
theorem dX8_signed_87 : decode cX8_signed 87 = .ok (.aload_n 0, 1) := by decide +kernel
theorem dX8_signed_88 : decode cX8_signed 88 = .ok (.getfield 87, 3) := by decide +kernel
theorem dX8_signed_91 : decode cX8_signed 91 = .ok (.if_icmp .ge 82, 3) := by decide +kernel
theorem dX8_signed_94 : decode cX8_signed 94 = .ok (.aload_n 0, 1) := by decide +kernel
theorem dX8_signed_95 : decode cX8_signed 95 = .ok (.getfield 31, 3) := by decide +kernel
theorem dX8_signed_98 : decode cX8_signed 98 = .ok (.iload 7, 2) := by decide +kernel
theorem dX8_signed_100 : decode cX8_signed 100 = .ok (.iaload, 1) := by decide +kernel
theorem dX8_signed_101 : decode cX8_signed 101 = .ok (.iload 6, 2) := by decide +kernel
theorem dX8_signed_103 : decode cX8_signed 103 = .ok (.if_icmp .ne 64, 3) := by decide +kernel
theorem dX8_signed_106 : decode cX8_signed 106 = .ok (.aload_n 0, 1) := by decide +kernel
theorem dX8_signed_107 : decode cX8_signed 107 = .ok (.iload 4, 2) := by decide +kernel
theorem dX8_signed_109 : decode cX8_signed 109 = .ok (.aload_n 0, 1) := by decide +kernel
theorem dX8_signed_110 : decode cX8_signed 110 = .ok (.getfield 28, 3) := by decide +kernel
theorem dX8_signed_113 : decode cX8_signed 113 = .ok (.iload 7, 2) := by decide +kernel
theorem dX8_signed_115 : decode cX8_signed 115 = .ok (.iaload, 1) := by decide +kernel
theorem dX8_signed_116 : decode cX8_signed 116 = .ok (.invokevirtual 171, 3) := by decide +kernel
theorem dX8_signed_119 : decode cX8_signed 119 = .ok (.ifCond .eq 48, 3) := by decide +kernel
theorem dX8_signed_122 : decode cX8_signed 122 = .ok (.aload_n 0, 1) := by decide +kernel
theorem dX8_signed_123 : decode cX8_signed 123 = .ok (.aload_n 0, 1) := by decide +kernel
theorem dX8_signed_124 : decode cX8_signed 124 = .ok (.getfield 28, 3) := by decide +kernel
theorem dX8_signed_127 : decode cX8_signed 127 = .ok (.iload 7, 2) := by decide +kernel
theorem dX8_signed_129 : decode cX8_signed 129 = .ok (.iaload, 1) := by decide +kernel
theorem dX8_signed_130 : decode cX8_signed 130 = .ok (.iload 5, 2) := by decide +kernel
theorem dX8_signed_132 : decode cX8_signed 132 = .ok (.invokevirtual 171, 3) := by decide +kernel
theorem dX8_signed_135 : decode cX8_signed 135 = .ok (.ifCond .eq 32, 3) := by decide +kernel
theorem dX8_signed_138 : decode cX8_signed 138 = .ok (.aload_n 0, 1) := by decide +kernel
theorem dX8_signed_139 : decode cX8_signed 139 = .ok (.getfield 37, 3) := by decide +kernel
theorem dX8_signed_142 : decode cX8_signed 142 = .ok (.iload 7, 2) := by decide +kernel
theorem dX8_signed_144 : decode cX8_signed 144 = .ok (.aload_n 0, 1) := by decide +kernel
theorem dX8_signed_145 : decode cX8_signed 145 = .ok (.getfield 28, 3) := by decide +kernel
theorem dX8_signed_148 : decode cX8_signed 148 = .ok (.iload 7, 2) := by decide +kernel
theorem dX8_signed_150 : decode cX8_signed 150 = .ok (.iaload, 1) := by decide +kernel
theorem dX8_signed_151 : decode cX8_signed 151 = .ok (.iload 4, 2) := by decide +kernel
theorem dX8_signed_153 : decode cX8_signed 153 = .ok (.if_icmp .ne 7, 3) := by decide +kernel
theorem dX8_signed_156 : decode cX8_signed 156 = .ok (.iconst 1, 1) := by decide +kernel
theorem dX8_signed_157 : decode cX8_signed 157 = .ok (.goto 9, 3) := by decide +kernel
theorem dX8_signed_160 : decode cX8_signed 160 = .ok (.aload_n 0, 1) := by decide +kernel
theorem dX8_signed_161 : decode cX8_signed 161 = .ok (.iload 7, 2) := by decide +kernel
theorem dX8_signed_163 : decode cX8_signed 163 = .ok (.invokevirtual 200, 3) := by decide +kernel
theorem dX8_signed_166 : decode cX8_signed 166 = .ok (.iastore, 1) := by decide +kernel
theorem dX8_signed_167 : decode cX8_signed 167 = .ok (.iinc 7 1, 3) := by decide +kernel
theorem dX8_signed_170 : decode cX8_signed 170 = .ok (.goto (-85), 3) := by decide +kernel
theorem dX8_signed_173 : decode cX8_signed 173 = .ok (.iinc 6 1, 3) := by decide +kernel
theorem dX8_signed_176 : decode cX8_signed 176 = .ok (.goto (-105), 3) := by decide +kernel
theorem dX8_signed_179 : decode cX8_signed 179 = .ok (.aload_n 0, 1) := by decide +kernel
theorem dX8_signed_180 : decode cX8_signed 180 = .ok (.getfield 37, 3) := by decide +kernel
theorem dX8_signed_183 : decode cX8_signed 183 = .ok (.aload_n 0, 1) := by decide +kernel
theorem dX8_signed_184 : decode cX8_signed 184 = .ok (.iload 5, 2) := by decide +kernel
theorem dX8_signed_186 : decode cX8_signed 186 = .ok (.invokevirtual 125, 3) := by decide +kernel
theorem dX8_signed_189 : decode cX8_signed 189 = .ok (.iaload, 1) := by decide +kernel
theorem dX8_signed_190 : decode cX8_signed 190 = .ok (.ireturn, 1) := by decide +kernel
theorem dX8_signTo_0 : decode cX8_signTo 0 = .ok (.iconst 0, 1) := by decide +kernel
theorem dX8_signTo_1 : decode cX8_signTo 1 = .ok (.istore_n 2, 1) := by decide +kernel
theorem dX8_signTo_2 : decode cX8_signTo 2 = .ok (.iconst 0, 1) := by decide +kernel
theorem dX8_signTo_3 : decode cX8_signTo 3 = .ok (.istore_n 3, 1) := by decide +kernel
theorem dX8_signTo_4 : decode cX8_signTo 4 = .ok (.iload_n 3, 1) := by decide +kernel
theorem dX8_signTo_5 : decode cX8_signTo 5 = .ok (.aload_n 0, 1) := by decide +kernel
theorem dX8_signTo_6 : decode cX8_signTo 6 = .ok (.getfield 87, 3) := by decide +kernel
theorem dX8_signTo_9 : decode cX8_signTo 9 = .ok (.if_icmp .ge 55, 3) := by decide +kernel
theorem dX8_signTo_12 : decode cX8_signTo 12 = .ok (.iload_n 2, 1) := by decide +kernel
theorem dX8_signTo_13 : decode cX8_signTo 13 = .ok (.aload_n 0, 1) := by decide +kernel
theorem dX8_signTo_14 : decode cX8_signTo 14 = .ok (.getfield 37, 3) := by decide +kernel
theorem dX8_signTo_17 : decode cX8_signTo 17 = .ok (.iload_n 3, 1) := by decide +kernel
theorem dX8_signTo_18 : decode cX8_signTo 18 = .ok (.iaload, 1) := by decide +kernel
theorem dX8_signTo_19 : decode cX8_signTo 19 = .ok (.ifCond .eq 36, 3) := by decide +kernel
theorem dX8_signTo_22 : decode cX8_signTo 22 = .ok (.iload_n 3, 1) := by decide +kernel
theorem dX8_signTo_23 : decode cX8_signTo 23 = .ok (.iload_n 1, 1) := by decide +kernel
theorem dX8_signTo_24 : decode cX8_signTo 24 = .ok (.if_icmp .eq 31, 3) := by decide +kernel
theorem dX8_signTo_27 : decode cX8_signTo 27 = .ok (.aload_n 0, 1) := by decide +kernel
theorem dX8_signTo_28 : decode cX8_signTo 28 = .ok (.aload_n 0, 1) := by decide +kernel
theorem dX8_signTo_29 : decode cX8_signTo 29 = .ok (.getfield 28, 3) := by decide +kernel
theorem dX8_signTo_32 : decode cX8_signTo 32 = .ok (.iload_n 3, 1) := by decide +kernel
theorem dX8_signTo_33 : decode cX8_signTo 33 = .ok (.iaload, 1) := by decide +kernel
theorem dX8_signTo_34 : decode cX8_signTo 34 = .ok (.aload_n 0, 1) := by decide +kernel
theorem dX8_signTo_35 : decode cX8_signTo 35 = .ok (.getfield 28, 3) := by decide +kernel
theorem dX8_signTo_38 : decode cX8_signTo 38 = .ok (.iload_n 1, 1) := by decide +kernel
theorem dX8_signTo_39 : decode cX8_signTo 39 = .ok (.iaload, 1) := by decide +kernel
theorem dX8_signTo_40 : decode cX8_signTo 40 = .ok (.invokevirtual 171, 3) := by decide +kernel
theorem dX8_signTo_43 : decode cX8_signTo 43 = .ok (.ifCond .eq 12, 3) := by decide +kernel
theorem dX8_signTo_46 : decode cX8_signTo 46 = .ok (.aload_n 0, 1) := by decide +kernel
theorem dX8_signTo_47 : decode cX8_signTo 47 = .ok (.getfield 37, 3) := by decide +kernel
theorem dX8_signTo_50 : decode cX8_signTo 50 = .ok (.iload_n 3, 1) := by decide +kernel
theorem dX8_signTo_51 : decode cX8_signTo 51 = .ok (.iaload, 1) := by decide +kernel
theorem dX8_signTo_52 : decode cX8_signTo 52 = .ok (.goto 4, 3) := by decide +kernel
theorem dX8_signTo_55 : decode cX8_signTo 55 = .ok (.iconst 0, 1) := by decide +kernel
theorem dX8_signTo_56 : decode cX8_signTo 56 = .ok (.isub, 1) := by decide +kernel
theorem dX8_signTo_57 : decode cX8_signTo 57 = .ok (.istore_n 2, 1) := by decide +kernel
theorem dX8_signTo_58 : decode cX8_signTo 58 = .ok (.iinc 3 1, 3) := by decide +kernel
theorem dX8_signTo_61 : decode cX8_signTo 61 = .ok (.goto (-57), 3) := by decide +kernel
theorem dX8_signTo_64 : decode cX8_signTo 64 = .ok (.iload_n 2, 1) := by decide +kernel
theorem dX8_signTo_65 : decode cX8_signTo 65 = .ok (.ireturn, 1) := by decide +kernel
theorem dX8_between_0 : decode cX8_between 0 = .ok (.aload_n 0, 1) := by decide +kernel
theorem dX8_between_1 : decode cX8_between 1 = .ok (.iload_n 1, 1) := by decide +kernel
theorem dX8_between_2 : decode cX8_between 2 = .ok (.iload_n 2, 1) := by decide +kernel
theorem dX8_between_3 : decode cX8_between 3 = .ok (.invokevirtual 194, 3) := by decide +kernel
theorem dX8_between_6 : decode cX8_between 6 = .ok (.istore_n 3, 1) := by decide +kernel
theorem dX8_between_7 : decode cX8_between 7 = .ok (.iload_n 3, 1) := by decide +kernel
theorem dX8_between_8 : decode cX8_between 8 = .ok (.ifCond .ge 5, 3) := by decide +kernel
theorem dX8_between_11 : decode cX8_between 11 = .ok (.iload_n 3, 1) := by decide +kernel
theorem dX8_between_12 : decode cX8_between 12 = .ok (.ireturn, 1) := by decide +kernel
theorem dX8_between_13 : decode cX8_between 13 = .ok (.aload_n 0, 1) := by decide +kernel
theorem dX8_between_14 : decode cX8_between 14 = .ok (.invokevirtual 97, 3) := by decide +kernel
theorem dX8_between_17 : decode cX8_between 17 = .ok (.iconst 0, 1) := by decide +kernel
theorem dX8_between_18 : decode cX8_between 18 = .ok (.istore 4, 2) := by decide +kernel
theorem dX8_between_20 : decode cX8_between 20 = .ok (.iconst 0, 1) := by decide +kernel
theorem dX8_between_21 : decode cX8_between 21 = .ok (.istore 5, 2) := by decide +kernel
theorem dX8_between_23 : decode cX8_between 23 = .ok (.iload 5, 2) := by decide +kernel
theorem dX8_between_25 : decode cX8_between 25 = .ok (.aload_n 0, 1) := by decide +kernel
theorem dX8_between_26 : decode cX8_between 26 = .ok (.getfield 87, 3) := by decide +kernel
theorem dX8_between_29 : decode cX8_between 29 = .ok (.if_icmp .ge 63, 3) := by decide +kernel
theorem dX8_between_32 : decode cX8_between 32 = .ok (.iload 4, 2) := by decide +kernel
theorem dX8_between_34 : decode cX8_between 34 = .ok (.aload_n 0, 1) := by decide +kernel
theorem dX8_between_35 : decode cX8_between 35 = .ok (.aload_n 0, 1) := by decide +kernel
theorem dX8_between_36 : decode cX8_between 36 = .ok (.getfield 7, 3) := by decide +kernel
theorem dX8_between_39 : decode cX8_between 39 = .ok (.iconst 1, 1) := by decide +kernel
theorem dX8_between_40 : decode cX8_between 40 = .ok (.iload_n 1, 1) := by decide +kernel
theorem dX8_between_41 : decode cX8_between 41 = .ok (.iadd, 1) := by decide +kernel
theorem dX8_between_42 : decode cX8_between 42 = .ok (.iaload, 1) := by decide +kernel
theorem dX8_between_43 : decode cX8_between 43 = .ok (.aload_n 0, 1) := by decide +kernel
theorem dX8_between_44 : decode cX8_between 44 = .ok (.getfield 28, 3) := by decide +kernel
theorem dX8_between_47 : decode cX8_between 47 = .ok (.iload 5, 2) := by decide +kernel
theorem dX8_between_49 : decode cX8_between 49 = .ok (.iaload, 1) := by decide +kernel
theorem dX8_between_50 : decode cX8_between 50 = .ok (.invokevirtual 171, 3) := by decide +kernel
theorem dX8_between_53 : decode cX8_between 53 = .ok (.ifCond .eq 29, 3) := by decide +kernel
theorem dX8_between_56 : decode cX8_between 56 = .ok (.aload_n 0, 1) := by decide +kernel
theorem dX8_between_57 : decode cX8_between 57 = .ok (.aload_n 0, 1) := by decide +kernel
theorem dX8_between_58 : decode cX8_between 58 = .ok (.getfield 28, 3) := by decide +kernel
theorem dX8_between_61 : decode cX8_between 61 = .ok (.iload 5, 2) := by decide +kernel
theorem dX8_between_63 : decode cX8_between 63 = .ok (.iaload, 1) := by decide +kernel
theorem dX8_between_64 : decode cX8_between 64 = .ok (.aload_n 0, 1) := by decide +kernel
theorem dX8_between_65 : decode cX8_between 65 = .ok (.getfield 7, 3) := by decide +kernel
theorem dX8_between_68 : decode cX8_between 68 = .ok (.iconst 1, 1) := by decide +kernel
theorem dX8_between_69 : decode cX8_between 69 = .ok (.iload_n 2, 1) := by decide +kernel
theorem dX8_between_70 : decode cX8_between 70 = .ok (.iadd, 1) := by decide +kernel
theorem dX8_between_71 : decode cX8_between 71 = .ok (.iaload, 1) := by decide +kernel
theorem dX8_between_72 : decode cX8_between 72 = .ok (.invokevirtual 171, 3) := by decide +kernel
theorem dX8_between_75 : decode cX8_between 75 = .ok (.ifCond .eq 7, 3) := by decide +kernel
theorem dX8_between_78 : decode cX8_between 78 = .ok (.iconst 1, 1) := by decide +kernel
theorem dX8_between_79 : decode cX8_between 79 = .ok (.goto 4, 3) := by decide +kernel
theorem dX8_between_82 : decode cX8_between 82 = .ok (.iconst 0, 1) := by decide +kernel
theorem dX8_between_83 : decode cX8_between 83 = .ok (.iadd, 1) := by decide +kernel
theorem dX8_between_84 : decode cX8_between 84 = .ok (.istore 4, 2) := by decide +kernel
theorem dX8_between_86 : decode cX8_between 86 = .ok (.iinc 5 1, 3) := by decide +kernel
theorem dX8_between_89 : decode cX8_between 89 = .ok (.goto (-66), 3) := by decide +kernel
theorem dX8_between_92 : decode cX8_between 92 = .ok (.iload 4, 2) := by decide +kernel
theorem dX8_between_94 : decode cX8_between 94 = .ok (.ireturn, 1) := by decide +kernel
theorem dX8_findPowers_0 : decode cX8_findPowers 0 = .ok (.iconst 0, 1) := by decide +kernel
theorem dX8_findPowers_1 : decode cX8_findPowers 1 = .ok (.istore_n 2, 1) := by decide +kernel
theorem dX8_findPowers_2 : decode cX8_findPowers 2 = .ok (.iload_n 2, 1) := by decide +kernel
theorem dX8_findPowers_3 : decode cX8_findPowers 3 = .ok (.bipush 8, 2) := by decide +kernel
theorem dX8_findPowers_5 : decode cX8_findPowers 5 = .ok (.if_icmp .gt 98, 3) := by decide +kernel
theorem dX8_findPowers_8 : decode cX8_findPowers 8 = .ok (.iconst 0, 1) := by decide +kernel
theorem dX8_findPowers_9 : decode cX8_findPowers 9 = .ok (.istore_n 3, 1) := by decide +kernel
theorem dX8_findPowers_10 : decode cX8_findPowers 10 = .ok (.iload_n 3, 1) := by decide +kernel
theorem dX8_findPowers_11 : decode cX8_findPowers 11 = .ok (.iload_n 1, 1) := by decide +kernel
theorem dX8_findPowers_12 : decode cX8_findPowers 12 = .ok (.if_icmp .gt 85, 3) := by decide +kernel
theorem dX8_findPowers_15 : decode cX8_findPowers 15 = .ok (.iload_n 2, 1) := by decide +kernel
theorem dX8_findPowers_16 : decode cX8_findPowers 16 = .ok (.ifCond .ne 11, 3) := by decide +kernel
theorem dX8_findPowers_19 : decode cX8_findPowers 19 = .ok (.iload_n 3, 1) := by decide +kernel
theorem dX8_findPowers_20 : decode cX8_findPowers 20 = .ok (.ifCond .ne 7, 3) := by decide +kernel
theorem dX8_findPowers_23 : decode cX8_findPowers 23 = .ok (.lconst 1, 1) := by decide +kernel
theorem dX8_findPowers_24 : decode cX8_findPowers 24 = .ok (.goto 4, 3) := by decide +kernel
theorem dX8_findPowers_27 : decode cX8_findPowers 27 = .ok (.lconst 0, 1) := by decide +kernel
theorem dX8_findPowers_28 : decode cX8_findPowers 28 = .ok (.lstore 4, 2) := by decide +kernel
theorem dX8_findPowers_30 : decode cX8_findPowers 30 = .ok (.iconst 0, 1) := by decide +kernel
theorem dX8_findPowers_31 : decode cX8_findPowers 31 = .ok (.istore 6, 2) := by decide +kernel
theorem dX8_findPowers_33 : decode cX8_findPowers 33 = .ok (.iload 6, 2) := by decide +kernel
theorem dX8_findPowers_35 : decode cX8_findPowers 35 = .ok (.iload_n 3, 1) := by decide +kernel
theorem dX8_findPowers_36 : decode cX8_findPowers 36 = .ok (.if_icmp .gt 42, 3) := by decide +kernel
theorem dX8_findPowers_39 : decode cX8_findPowers 39 = .ok (.iload_n 2, 1) := by decide +kernel
theorem dX8_findPowers_40 : decode cX8_findPowers 40 = .ok (.ifCond .le 38, 3) := by decide +kernel
theorem dX8_findPowers_43 : decode cX8_findPowers 43 = .ok (.lload 4, 2) := by decide +kernel
theorem dX8_findPowers_45 : decode cX8_findPowers 45 = .ok (.aload_n 0, 1) := by decide +kernel
theorem dX8_findPowers_46 : decode cX8_findPowers 46 = .ok (.getfield 40, 3) := by decide +kernel
theorem dX8_findPowers_49 : decode cX8_findPowers 49 = .ok (.iload 6, 2) := by decide +kernel
theorem dX8_findPowers_51 : decode cX8_findPowers 51 = .ok (.laload, 1) := by decide +kernel
theorem dX8_findPowers_52 : decode cX8_findPowers 52 = .ok (.aload_n 0, 1) := by decide +kernel
theorem dX8_findPowers_53 : decode cX8_findPowers 53 = .ok (.getfield 47, 3) := by decide +kernel
theorem dX8_findPowers_56 : decode cX8_findPowers 56 = .ok (.bipush 9, 2) := by decide +kernel
theorem dX8_findPowers_58 : decode cX8_findPowers 58 = .ok (.iload_n 2, 1) := by decide +kernel
theorem dX8_findPowers_59 : decode cX8_findPowers 59 = .ok (.iconst 1, 1) := by decide +kernel
theorem dX8_findPowers_60 : decode cX8_findPowers 60 = .ok (.isub, 1) := by decide +kernel
theorem dX8_findPowers_61 : decode cX8_findPowers 61 = .ok (.imul, 1) := by decide +kernel
theorem dX8_findPowers_62 : decode cX8_findPowers 62 = .ok (.iload_n 3, 1) := by decide +kernel
theorem dX8_findPowers_63 : decode cX8_findPowers 63 = .ok (.iadd, 1) := by decide +kernel
theorem dX8_findPowers_64 : decode cX8_findPowers 64 = .ok (.iload 6, 2) := by decide +kernel
theorem dX8_findPowers_66 : decode cX8_findPowers 66 = .ok (.isub, 1) := by decide +kernel
theorem dX8_findPowers_67 : decode cX8_findPowers 67 = .ok (.laload, 1) := by decide +kernel
theorem dX8_findPowers_68 : decode cX8_findPowers 68 = .ok (.lmul, 1) := by decide +kernel
theorem dX8_findPowers_69 : decode cX8_findPowers 69 = .ok (.ladd, 1) := by decide +kernel
theorem dX8_findPowers_70 : decode cX8_findPowers 70 = .ok (.lstore 4, 2) := by decide +kernel
theorem dX8_findPowers_72 : decode cX8_findPowers 72 = .ok (.iinc 6 1, 3) := by decide +kernel
theorem dX8_findPowers_75 : decode cX8_findPowers 75 = .ok (.goto (-42), 3) := by decide +kernel
theorem dX8_findPowers_78 : decode cX8_findPowers 78 = .ok (.aload_n 0, 1) := by decide +kernel
theorem dX8_findPowers_79 : decode cX8_findPowers 79 = .ok (.getfield 47, 3) := by decide +kernel
theorem dX8_findPowers_82 : decode cX8_findPowers 82 = .ok (.bipush 9, 2) := by decide +kernel
theorem dX8_findPowers_84 : decode cX8_findPowers 84 = .ok (.iload_n 2, 1) := by decide +kernel
theorem dX8_findPowers_85 : decode cX8_findPowers 85 = .ok (.imul, 1) := by decide +kernel
theorem dX8_findPowers_86 : decode cX8_findPowers 86 = .ok (.iload_n 3, 1) := by decide +kernel
theorem dX8_findPowers_87 : decode cX8_findPowers 87 = .ok (.iadd, 1) := by decide +kernel
theorem dX8_findPowers_88 : decode cX8_findPowers 88 = .ok (.lload 4, 2) := by decide +kernel
theorem dX8_findPowers_90 : decode cX8_findPowers 90 = .ok (.lastore, 1) := by decide +kernel
theorem dX8_findPowers_91 : decode cX8_findPowers 91 = .ok (.iinc 3 1, 3) := by decide +kernel
theorem dX8_findPowers_94 : decode cX8_findPowers 94 = .ok (.goto (-84), 3) := by decide +kernel
theorem dX8_findPowers_97 : decode cX8_findPowers 97 = .ok (.iinc 2 1, 3) := by decide +kernel
theorem dX8_findPowers_100 : decode cX8_findPowers 100 = .ok (.goto (-98), 3) := by decide +kernel
theorem dX8_findPowers_103 : decode cX8_findPowers 103 = .ok (.return_, 1) := by decide +kernel
theorem dX8_choose_0 : decode cX8_choose 0 = .ok (.lconst 1, 1) := by decide +kernel
theorem dX8_choose_1 : decode cX8_choose 1 = .ok (.lstore_n 2, 1) := by decide +kernel
theorem dX8_choose_2 : decode cX8_choose 2 = .ok (.iconst 0, 1) := by decide +kernel
theorem dX8_choose_3 : decode cX8_choose 3 = .ok (.istore 4, 2) := by decide +kernel
theorem dX8_choose_5 : decode cX8_choose 5 = .ok (.iload 4, 2) := by decide +kernel
theorem dX8_choose_7 : decode cX8_choose 7 = .ok (.iload_n 1, 1) := by decide +kernel
theorem dX8_choose_8 : decode cX8_choose 8 = .ok (.if_icmp .ge 23, 3) := by decide +kernel
theorem dX8_choose_11 : decode cX8_choose 11 = .ok (.lload_n 2, 1) := by decide +kernel
theorem dX8_choose_12 : decode cX8_choose 12 = .ok (.iload_n 0, 1) := by decide +kernel
theorem dX8_choose_13 : decode cX8_choose 13 = .ok (.iload 4, 2) := by decide +kernel
theorem dX8_choose_15 : decode cX8_choose 15 = .ok (.isub, 1) := by decide +kernel
theorem dX8_choose_16 : decode cX8_choose 16 = .ok (.i2l, 1) := by decide +kernel
theorem dX8_choose_17 : decode cX8_choose 17 = .ok (.lmul, 1) := by decide +kernel
theorem dX8_choose_18 : decode cX8_choose 18 = .ok (.iload 4, 2) := by decide +kernel
theorem dX8_choose_20 : decode cX8_choose 20 = .ok (.iconst 1, 1) := by decide +kernel
theorem dX8_choose_21 : decode cX8_choose 21 = .ok (.iadd, 1) := by decide +kernel
theorem dX8_choose_22 : decode cX8_choose 22 = .ok (.i2l, 1) := by decide +kernel
theorem dX8_choose_23 : decode cX8_choose 23 = .ok (.ldiv, 1) := by decide +kernel
theorem dX8_choose_24 : decode cX8_choose 24 = .ok (.lstore_n 2, 1) := by decide +kernel
theorem dX8_choose_25 : decode cX8_choose 25 = .ok (.iinc 4 1, 3) := by decide +kernel
theorem dX8_choose_28 : decode cX8_choose 28 = .ok (.goto (-23), 3) := by decide +kernel
theorem dX8_choose_31 : decode cX8_choose 31 = .ok (.lload_n 2, 1) := by decide +kernel
theorem dX8_choose_32 : decode cX8_choose 32 = .ok (.lreturn, 1) := by decide +kernel
theorem dX8_timesOf_0 : decode cX8_timesOf 0 = .ok (.iload_n 1, 1) := by decide +kernel
theorem dX8_timesOf_1 : decode cX8_timesOf 1 = .ok (.iconst 1, 1) := by decide +kernel
theorem dX8_timesOf_2 : decode cX8_timesOf 2 = .ok (.if_icmp .ne 19, 3) := by decide +kernel
theorem dX8_timesOf_5 : decode cX8_timesOf 5 = .ok (.aload_n 0, 1) := by decide +kernel
theorem dX8_timesOf_6 : decode cX8_timesOf 6 = .ok (.getfield 47, 3) := by decide +kernel
theorem dX8_timesOf_9 : decode cX8_timesOf 9 = .ok (.bipush 9, 2) := by decide +kernel
theorem dX8_timesOf_11 : decode cX8_timesOf 11 = .ok (.iload_n 3, 1) := by decide +kernel
theorem dX8_timesOf_12 : decode cX8_timesOf 12 = .ok (.imul, 1) := by decide +kernel
theorem dX8_timesOf_13 : decode cX8_timesOf 13 = .ok (.iload_n 2, 1) := by decide +kernel
theorem dX8_timesOf_14 : decode cX8_timesOf 14 = .ok (.iadd, 1) := by decide +kernel
theorem dX8_timesOf_15 : decode cX8_timesOf 15 = .ok (.iload_n 3, 1) := by decide +kernel
theorem dX8_timesOf_16 : decode cX8_timesOf 16 = .ok (.isub, 1) := by decide +kernel
theorem dX8_timesOf_17 : decode cX8_timesOf 17 = .ok (.laload, 1) := by decide +kernel
theorem dX8_timesOf_18 : decode cX8_timesOf 18 = .ok (.goto 21, 3) := by decide +kernel
theorem dX8_timesOf_21 : decode cX8_timesOf 21 = .ok (.iload_n 2, 1) := by decide +kernel
theorem dX8_timesOf_22 : decode cX8_timesOf 22 = .ok (.iconst 1, 1) := by decide +kernel
theorem dX8_timesOf_23 : decode cX8_timesOf 23 = .ok (.isub, 1) := by decide +kernel
theorem dX8_timesOf_24 : decode cX8_timesOf 24 = .ok (.iload_n 3, 1) := by decide +kernel
theorem dX8_timesOf_25 : decode cX8_timesOf 25 = .ok (.iconst 1, 1) := by decide +kernel
theorem dX8_timesOf_26 : decode cX8_timesOf 26 = .ok (.isub, 1) := by decide +kernel
theorem dX8_timesOf_27 : decode cX8_timesOf 27 = .ok (.invokestatic 203, 3) := by decide +kernel
theorem dX8_timesOf_30 : decode cX8_timesOf 30 = .ok (.aload_n 0, 1) := by decide +kernel
theorem dX8_timesOf_31 : decode cX8_timesOf 31 = .ok (.getfield 40, 3) := by decide +kernel
theorem dX8_timesOf_34 : decode cX8_timesOf 34 = .ok (.iload_n 2, 1) := by decide +kernel
theorem dX8_timesOf_35 : decode cX8_timesOf 35 = .ok (.iload_n 3, 1) := by decide +kernel
theorem dX8_timesOf_36 : decode cX8_timesOf 36 = .ok (.isub, 1) := by decide +kernel
theorem dX8_timesOf_37 : decode cX8_timesOf 37 = .ok (.laload, 1) := by decide +kernel
theorem dX8_timesOf_38 : decode cX8_timesOf 38 = .ok (.lmul, 1) := by decide +kernel
theorem dX8_timesOf_39 : decode cX8_timesOf 39 = .ok (.lreturn, 1) := by decide +kernel
theorem dX8_asOf_0 : decode cX8_asOf 0 = .ok (.iload_n 1, 1) := by decide +kernel
theorem dX8_asOf_1 : decode cX8_asOf 1 = .ok (.iload_n 2, 1) := by decide +kernel
theorem dX8_asOf_2 : decode cX8_asOf 2 = .ok (.if_icmp .ne 16, 3) := by decide +kernel
theorem dX8_asOf_5 : decode cX8_asOf 5 = .ok (.aload_n 0, 1) := by decide +kernel
theorem dX8_asOf_6 : decode cX8_asOf 6 = .ok (.getfield 7, 3) := by decide +kernel
theorem dX8_asOf_9 : decode cX8_asOf 9 = .ok (.bipush 7, 2) := by decide +kernel
theorem dX8_asOf_11 : decode cX8_asOf 11 = .ok (.iload_n 3, 1) := by decide +kernel
theorem dX8_asOf_12 : decode cX8_asOf 12 = .ok (.iadd, 1) := by decide +kernel
theorem dX8_asOf_13 : decode cX8_asOf 13 = .ok (.iconst 1, 1) := by decide +kernel
theorem dX8_asOf_14 : decode cX8_asOf 14 = .ok (.isub, 1) := by decide +kernel
theorem dX8_asOf_15 : decode cX8_asOf 15 = .ok (.iaload, 1) := by decide +kernel
theorem dX8_asOf_16 : decode cX8_asOf 16 = .ok (.i2l, 1) := by decide +kernel
theorem dX8_asOf_17 : decode cX8_asOf 17 = .ok (.lreturn, 1) := by decide +kernel
theorem dX8_asOf_18 : decode cX8_asOf 18 = .ok (.aload_n 0, 1) := by decide +kernel
theorem dX8_asOf_19 : decode cX8_asOf 19 = .ok (.getfield 40, 3) := by decide +kernel
theorem dX8_asOf_22 : decode cX8_asOf 22 = .ok (.iconst 0, 1) := by decide +kernel
theorem dX8_asOf_23 : decode cX8_asOf 23 = .ok (.lconst 1, 1) := by decide +kernel
theorem dX8_asOf_24 : decode cX8_asOf 24 = .ok (.lastore, 1) := by decide +kernel
theorem dX8_asOf_25 : decode cX8_asOf 25 = .ok (.iconst 1, 1) := by decide +kernel
theorem dX8_asOf_26 : decode cX8_asOf 26 = .ok (.istore 4, 2) := by decide +kernel
theorem dX8_asOf_28 : decode cX8_asOf 28 = .ok (.iload 4, 2) := by decide +kernel
theorem dX8_asOf_30 : decode cX8_asOf 30 = .ok (.iload_n 3, 1) := by decide +kernel
theorem dX8_asOf_31 : decode cX8_asOf 31 = .ok (.if_icmp .gt 101, 3) := by decide +kernel
theorem dX8_asOf_34 : decode cX8_asOf 34 = .ok (.iload_n 1, 1) := by decide +kernel
theorem dX8_asOf_35 : decode cX8_asOf 35 = .ok (.ifCond .ne 26, 3) := by decide +kernel
theorem dX8_asOf_38 : decode cX8_asOf 38 = .ok (.aload_n 0, 1) := by decide +kernel
theorem dX8_asOf_39 : decode cX8_asOf 39 = .ok (.getfield 40, 3) := by decide +kernel
theorem dX8_asOf_42 : decode cX8_asOf 42 = .ok (.iload 4, 2) := by decide +kernel
theorem dX8_asOf_44 : decode cX8_asOf 44 = .ok (.aload_n 0, 1) := by decide +kernel
theorem dX8_asOf_45 : decode cX8_asOf 45 = .ok (.getfield 7, 3) := by decide +kernel
theorem dX8_asOf_48 : decode cX8_asOf 48 = .ok (.bipush 7, 2) := by decide +kernel
theorem dX8_asOf_50 : decode cX8_asOf 50 = .ok (.iload 4, 2) := by decide +kernel
theorem dX8_asOf_52 : decode cX8_asOf 52 = .ok (.iadd, 1) := by decide +kernel
theorem dX8_asOf_53 : decode cX8_asOf 53 = .ok (.iconst 1, 1) := by decide +kernel
theorem dX8_asOf_54 : decode cX8_asOf 54 = .ok (.isub, 1) := by decide +kernel
theorem dX8_asOf_55 : decode cX8_asOf 55 = .ok (.iaload, 1) := by decide +kernel
theorem dX8_asOf_56 : decode cX8_asOf 56 = .ok (.i2l, 1) := by decide +kernel
theorem dX8_asOf_57 : decode cX8_asOf 57 = .ok (.lastore, 1) := by decide +kernel
theorem dX8_asOf_58 : decode cX8_asOf 58 = .ok (.goto 68, 3) := by decide +kernel
theorem dX8_asOf_61 : decode cX8_asOf 61 = .ok (.aload_n 0, 1) := by decide +kernel
theorem dX8_asOf_62 : decode cX8_asOf 62 = .ok (.iload 4, 2) := by decide +kernel
theorem dX8_asOf_64 : decode cX8_asOf 64 = .ok (.iconst 1, 1) := by decide +kernel
theorem dX8_asOf_65 : decode cX8_asOf 65 = .ok (.isub, 1) := by decide +kernel
theorem dX8_asOf_66 : decode cX8_asOf 66 = .ok (.invokevirtual 207, 3) := by decide +kernel
theorem dX8_asOf_69 : decode cX8_asOf 69 = .ok (.aload_n 0, 1) := by decide +kernel
theorem dX8_asOf_70 : decode cX8_asOf 70 = .ok (.getfield 40, 3) := by decide +kernel
theorem dX8_asOf_73 : decode cX8_asOf 73 = .ok (.iload 4, 2) := by decide +kernel
theorem dX8_asOf_75 : decode cX8_asOf 75 = .ok (.lconst 0, 1) := by decide +kernel
theorem dX8_asOf_76 : decode cX8_asOf 76 = .ok (.lastore, 1) := by decide +kernel
theorem dX8_asOf_77 : decode cX8_asOf 77 = .ok (.iconst 1, 1) := by decide +kernel
theorem dX8_asOf_78 : decode cX8_asOf 78 = .ok (.istore 5, 2) := by decide +kernel
theorem dX8_asOf_80 : decode cX8_asOf 80 = .ok (.iload 5, 2) := by decide +kernel
theorem dX8_asOf_82 : decode cX8_asOf 82 = .ok (.iload 4, 2) := by decide +kernel
theorem dX8_asOf_84 : decode cX8_asOf 84 = .ok (.if_icmp .gt 42, 3) := by decide +kernel
theorem dX8_asOf_87 : decode cX8_asOf 87 = .ok (.aload_n 0, 1) := by decide +kernel
theorem dX8_asOf_88 : decode cX8_asOf 88 = .ok (.getfield 40, 3) := by decide +kernel
theorem dX8_asOf_91 : decode cX8_asOf 91 = .ok (.iload 4, 2) := by decide +kernel
theorem dX8_asOf_93 : decode cX8_asOf 93 = .ok (.dup2, 1) := by decide +kernel
theorem dX8_asOf_94 : decode cX8_asOf 94 = .ok (.laload, 1) := by decide +kernel
theorem dX8_asOf_95 : decode cX8_asOf 95 = .ok (.aload_n 0, 1) := by decide +kernel
theorem dX8_asOf_96 : decode cX8_asOf 96 = .ok (.getfield 7, 3) := by decide +kernel
theorem dX8_asOf_99 : decode cX8_asOf 99 = .ok (.bipush 7, 2) := by decide +kernel
theorem dX8_asOf_101 : decode cX8_asOf 101 = .ok (.iload 5, 2) := by decide +kernel
theorem dX8_asOf_103 : decode cX8_asOf 103 = .ok (.iadd, 1) := by decide +kernel
theorem dX8_asOf_104 : decode cX8_asOf 104 = .ok (.iconst 1, 1) := by decide +kernel
theorem dX8_asOf_105 : decode cX8_asOf 105 = .ok (.isub, 1) := by decide +kernel
theorem dX8_asOf_106 : decode cX8_asOf 106 = .ok (.iaload, 1) := by decide +kernel
theorem dX8_asOf_107 : decode cX8_asOf 107 = .ok (.i2l, 1) := by decide +kernel
theorem dX8_asOf_108 : decode cX8_asOf 108 = .ok (.aload_n 0, 1) := by decide +kernel
theorem dX8_asOf_109 : decode cX8_asOf 109 = .ok (.iload_n 1, 1) := by decide +kernel
theorem dX8_asOf_110 : decode cX8_asOf 110 = .ok (.iload 4, 2) := by decide +kernel
theorem dX8_asOf_112 : decode cX8_asOf 112 = .ok (.iload 5, 2) := by decide +kernel
theorem dX8_asOf_114 : decode cX8_asOf 114 = .ok (.invokevirtual 210, 3) := by decide +kernel
theorem dX8_asOf_117 : decode cX8_asOf 117 = .ok (.lmul, 1) := by decide +kernel
theorem dX8_asOf_118 : decode cX8_asOf 118 = .ok (.ladd, 1) := by decide +kernel
theorem dX8_asOf_119 : decode cX8_asOf 119 = .ok (.lastore, 1) := by decide +kernel
theorem dX8_asOf_120 : decode cX8_asOf 120 = .ok (.iinc 5 1, 3) := by decide +kernel
theorem dX8_asOf_123 : decode cX8_asOf 123 = .ok (.goto (-43), 3) := by decide +kernel
theorem dX8_asOf_126 : decode cX8_asOf 126 = .ok (.iinc 4 1, 3) := by decide +kernel
theorem dX8_asOf_129 : decode cX8_asOf 129 = .ok (.goto (-101), 3) := by decide +kernel
theorem dX8_asOf_132 : decode cX8_asOf 132 = .ok (.iload_n 2, 1) := by decide +kernel
theorem dX8_asOf_133 : decode cX8_asOf 133 = .ok (.ifCond .ne 10, 3) := by decide +kernel
theorem dX8_asOf_136 : decode cX8_asOf 136 = .ok (.aload_n 0, 1) := by decide +kernel
theorem dX8_asOf_137 : decode cX8_asOf 137 = .ok (.getfield 40, 3) := by decide +kernel
theorem dX8_asOf_140 : decode cX8_asOf 140 = .ok (.iload_n 3, 1) := by decide +kernel
theorem dX8_asOf_141 : decode cX8_asOf 141 = .ok (.laload, 1) := by decide +kernel
theorem dX8_asOf_142 : decode cX8_asOf 142 = .ok (.lreturn, 1) := by decide +kernel
theorem dX8_asOf_143 : decode cX8_asOf 143 = .ok (.iconst 1, 1) := by decide +kernel
theorem dX8_asOf_144 : decode cX8_asOf 144 = .ok (.istore 4, 2) := by decide +kernel
theorem dX8_asOf_146 : decode cX8_asOf 146 = .ok (.iload 4, 2) := by decide +kernel
theorem dX8_asOf_148 : decode cX8_asOf 148 = .ok (.iload_n 3, 1) := by decide +kernel
theorem dX8_asOf_149 : decode cX8_asOf 149 = .ok (.if_icmp .gt 74, 3) := by decide +kernel
theorem dX8_asOf_152 : decode cX8_asOf 152 = .ok (.aload_n 0, 1) := by decide +kernel
theorem dX8_asOf_153 : decode cX8_asOf 153 = .ok (.iload 4, 2) := by decide +kernel
theorem dX8_asOf_155 : decode cX8_asOf 155 = .ok (.iconst 1, 1) := by decide +kernel
theorem dX8_asOf_156 : decode cX8_asOf 156 = .ok (.isub, 1) := by decide +kernel
theorem dX8_asOf_157 : decode cX8_asOf 157 = .ok (.invokevirtual 207, 3) := by decide +kernel
theorem dX8_asOf_160 : decode cX8_asOf 160 = .ok (.aload_n 0, 1) := by decide +kernel
theorem dX8_asOf_161 : decode cX8_asOf 161 = .ok (.getfield 44, 3) := by decide +kernel
theorem dX8_asOf_164 : decode cX8_asOf 164 = .ok (.iload 4, 2) := by decide +kernel
theorem dX8_asOf_166 : decode cX8_asOf 166 = .ok (.aload_n 0, 1) := by decide +kernel
theorem dX8_asOf_167 : decode cX8_asOf 167 = .ok (.getfield 40, 3) := by decide +kernel
theorem dX8_asOf_170 : decode cX8_asOf 170 = .ok (.iload 4, 2) := by decide +kernel
theorem dX8_asOf_172 : decode cX8_asOf 172 = .ok (.laload, 1) := by decide +kernel
theorem dX8_asOf_173 : decode cX8_asOf 173 = .ok (.lastore, 1) := by decide +kernel
theorem dX8_asOf_174 : decode cX8_asOf 174 = .ok (.iconst 1, 1) := by decide +kernel
theorem dX8_asOf_175 : decode cX8_asOf 175 = .ok (.istore 5, 2) := by decide +kernel
theorem dX8_asOf_177 : decode cX8_asOf 177 = .ok (.iload 5, 2) := by decide +kernel
theorem dX8_asOf_179 : decode cX8_asOf 179 = .ok (.iload 4, 2) := by decide +kernel
theorem dX8_asOf_181 : decode cX8_asOf 181 = .ok (.if_icmp .ge 36, 3) := by decide +kernel
theorem dX8_asOf_184 : decode cX8_asOf 184 = .ok (.aload_n 0, 1) := by decide +kernel
theorem dX8_asOf_185 : decode cX8_asOf 185 = .ok (.getfield 44, 3) := by decide +kernel
theorem dX8_asOf_188 : decode cX8_asOf 188 = .ok (.iload 4, 2) := by decide +kernel
theorem dX8_asOf_190 : decode cX8_asOf 190 = .ok (.dup2, 1) := by decide +kernel
theorem dX8_asOf_191 : decode cX8_asOf 191 = .ok (.laload, 1) := by decide +kernel
theorem dX8_asOf_192 : decode cX8_asOf 192 = .ok (.aload_n 0, 1) := by decide +kernel
theorem dX8_asOf_193 : decode cX8_asOf 193 = .ok (.getfield 44, 3) := by decide +kernel
theorem dX8_asOf_196 : decode cX8_asOf 196 = .ok (.iload 5, 2) := by decide +kernel
theorem dX8_asOf_198 : decode cX8_asOf 198 = .ok (.laload, 1) := by decide +kernel
theorem dX8_asOf_199 : decode cX8_asOf 199 = .ok (.aload_n 0, 1) := by decide +kernel
theorem dX8_asOf_200 : decode cX8_asOf 200 = .ok (.iload_n 2, 1) := by decide +kernel
theorem dX8_asOf_201 : decode cX8_asOf 201 = .ok (.iload 4, 2) := by decide +kernel
theorem dX8_asOf_203 : decode cX8_asOf 203 = .ok (.iload 5, 2) := by decide +kernel
theorem dX8_asOf_205 : decode cX8_asOf 205 = .ok (.invokevirtual 210, 3) := by decide +kernel
theorem dX8_asOf_208 : decode cX8_asOf 208 = .ok (.lmul, 1) := by decide +kernel
theorem dX8_asOf_209 : decode cX8_asOf 209 = .ok (.lsub, 1) := by decide +kernel
theorem dX8_asOf_210 : decode cX8_asOf 210 = .ok (.lastore, 1) := by decide +kernel
theorem dX8_asOf_211 : decode cX8_asOf 211 = .ok (.iinc 5 1, 3) := by decide +kernel
theorem dX8_asOf_214 : decode cX8_asOf 214 = .ok (.goto (-37), 3) := by decide +kernel
theorem dX8_asOf_217 : decode cX8_asOf 217 = .ok (.iinc 4 1, 3) := by decide +kernel
theorem dX8_asOf_220 : decode cX8_asOf 220 = .ok (.goto (-74), 3) := by decide +kernel
theorem dX8_asOf_223 : decode cX8_asOf 223 = .ok (.aload_n 0, 1) := by decide +kernel
theorem dX8_asOf_224 : decode cX8_asOf 224 = .ok (.getfield 44, 3) := by decide +kernel
theorem dX8_asOf_227 : decode cX8_asOf 227 = .ok (.iload_n 3, 1) := by decide +kernel
theorem dX8_asOf_228 : decode cX8_asOf 228 = .ok (.laload, 1) := by decide +kernel
theorem dX8_asOf_229 : decode cX8_asOf 229 = .ok (.lreturn, 1) := by decide +kernel
theorem dX8_as_0 : decode cX8_as 0 = .ok (.iload_n 1, 1) := by decide +kernel
theorem dX8_as_1 : decode cX8_as 1 = .ok (.iconst 0, 1) := by decide +kernel
theorem dX8_as_2 : decode cX8_as 2 = .ok (.iconst 2, 1) := by decide +kernel
theorem dX8_as_3 : decode cX8_as 3 = .ok (.invokestatic 100, 3) := by decide +kernel
theorem dX8_as_6 : decode cX8_as 6 = .ok (.ifCond .eq 22, 3) := by decide +kernel
theorem dX8_as_9 : decode cX8_as 9 = .ok (.iload_n 2, 1) := by decide +kernel
theorem dX8_as_10 : decode cX8_as 10 = .ok (.iconst 0, 1) := by decide +kernel
theorem dX8_as_11 : decode cX8_as 11 = .ok (.iconst 2, 1) := by decide +kernel
theorem dX8_as_12 : decode cX8_as 12 = .ok (.invokestatic 100, 3) := by decide +kernel
theorem dX8_as_15 : decode cX8_as 15 = .ok (.ifCond .eq 13, 3) := by decide +kernel
theorem dX8_as_18 : decode cX8_as 18 = .ok (.iload_n 3, 1) := by decide +kernel
theorem dX8_as_19 : decode cX8_as 19 = .ok (.iconst 1, 1) := by decide +kernel
theorem dX8_as_20 : decode cX8_as 20 = .ok (.bipush 8, 2) := by decide +kernel
theorem dX8_as_22 : decode cX8_as 22 = .ok (.invokestatic 100, 3) := by decide +kernel
theorem dX8_as_25 : decode cX8_as 25 = .ok (.ifCond .ne 17, 3) := by decide +kernel
theorem dX8_as_28 : decode cX8_as 28 = .ok (.aload_n 0, 1) := by decide +kernel
theorem dX8_as_29 : decode cX8_as 29 = .ok (.getfield 19, 3) := by decide +kernel
theorem dX8_as_32 : decode cX8_as 32 = .ok (.iconst 0, 1) := by decide +kernel
theorem dX8_as_33 : decode cX8_as 33 = .ok (.dup2, 1) := by decide +kernel
theorem dX8_as_34 : decode cX8_as 34 = .ok (.iaload, 1) := by decide +kernel
theorem dX8_as_35 : decode cX8_as 35 = .ok (.iconst 1, 1) := by decide +kernel
theorem dX8_as_36 : decode cX8_as 36 = .ok (.iadd, 1) := by decide +kernel
theorem dX8_as_37 : decode cX8_as 37 = .ok (.iastore, 1) := by decide +kernel
theorem dX8_as_38 : decode cX8_as 38 = .ok (.ldc2_w 214, 3) := by decide +kernel
theorem dX8_as_41 : decode cX8_as 41 = .ok (.lreturn, 1) := by decide +kernel
theorem dX8_as_42 : decode cX8_as 42 = .ok (.aload_n 0, 1) := by decide +kernel
theorem dX8_as_43 : decode cX8_as 43 = .ok (.iload_n 1, 1) := by decide +kernel
theorem dX8_as_44 : decode cX8_as 44 = .ok (.iload_n 2, 1) := by decide +kernel
theorem dX8_as_45 : decode cX8_as 45 = .ok (.iload_n 3, 1) := by decide +kernel
theorem dX8_as_46 : decode cX8_as 46 = .ok (.invokevirtual 216, 3) := by decide +kernel
theorem dX8_as_49 : decode cX8_as 49 = .ok (.lreturn, 1) := by decide +kernel
theorem dX8_type_0 : decode cX8_type 0 = .ok (.iload_n 1, 1) := by decide +kernel
theorem dX8_type_1 : decode cX8_type 1 = .ok (.iconst 0, 1) := by decide +kernel
theorem dX8_type_2 : decode cX8_type 2 = .ok (.bipush 127, 2) := by decide +kernel
theorem dX8_type_4 : decode cX8_type 4 = .ok (.invokestatic 100, 3) := by decide +kernel
theorem dX8_type_7 : decode cX8_type 7 = .ok (.ifCond .ne 10, 3) := by decide +kernel
theorem dX8_type_10 : decode cX8_type 10 = .ok (.aload_n 0, 1) := by decide +kernel
theorem dX8_type_11 : decode cX8_type 11 = .ok (.bipush (-2), 2) := by decide +kernel
theorem dX8_type_13 : decode cX8_type 13 = .ok (.invokevirtual 131, 3) := by decide +kernel
theorem dX8_type_16 : decode cX8_type 16 = .ok (.ireturn, 1) := by decide +kernel
theorem dX8_type_17 : decode cX8_type 17 = .ok (.aload_n 0, 1) := by decide +kernel
theorem dX8_type_18 : decode cX8_type 18 = .ok (.getfield 219, 3) := by decide +kernel
theorem dX8_type_21 : decode cX8_type 21 = .ok (.bipush 120, 2) := by decide +kernel
theorem dX8_type_23 : decode cX8_type 23 = .ok (.if_icmp .ne 10, 3) := by decide +kernel
theorem dX8_type_26 : decode cX8_type 26 = .ok (.aload_n 0, 1) := by decide +kernel
theorem dX8_type_27 : decode cX8_type 27 = .ok (.bipush (-4), 2) := by decide +kernel
theorem dX8_type_29 : decode cX8_type 29 = .ok (.invokevirtual 131, 3) := by decide +kernel
theorem dX8_type_32 : decode cX8_type 32 = .ok (.ireturn, 1) := by decide +kernel
theorem dX8_type_33 : decode cX8_type 33 = .ok (.aload_n 0, 1) := by decide +kernel
theorem dX8_type_34 : decode cX8_type 34 = .ok (.getfield 22, 3) := by decide +kernel
theorem dX8_type_37 : decode cX8_type 37 = .ok (.aload_n 0, 1) := by decide +kernel
theorem dX8_type_38 : decode cX8_type 38 = .ok (.getfield 219, 3) := by decide +kernel
theorem dX8_type_41 : decode cX8_type 41 = .ok (.iload_n 1, 1) := by decide +kernel
theorem dX8_type_42 : decode cX8_type 42 = .ok (.iastore, 1) := by decide +kernel
theorem dX8_type_43 : decode cX8_type 43 = .ok (.aload_n 0, 1) := by decide +kernel
theorem dX8_type_44 : decode cX8_type 44 = .ok (.dup, 1) := by decide +kernel
theorem dX8_type_45 : decode cX8_type 45 = .ok (.getfield 219, 3) := by decide +kernel
theorem dX8_type_48 : decode cX8_type 48 = .ok (.iconst 1, 1) := by decide +kernel
theorem dX8_type_49 : decode cX8_type 49 = .ok (.iadd, 1) := by decide +kernel
theorem dX8_type_50 : decode cX8_type 50 = .ok (.putfield 219, 3) := by decide +kernel
theorem dX8_type_53 : decode cX8_type 53 = .ok (.aload_n 0, 1) := by decide +kernel
theorem dX8_type_54 : decode cX8_type 54 = .ok (.getfield 219, 3) := by decide +kernel
theorem dX8_type_57 : decode cX8_type 57 = .ok (.ireturn, 1) := by decide +kernel
theorem dX8_clear_0 : decode cX8_clear 0 = .ok (.aload_n 0, 1) := by decide +kernel
theorem dX8_clear_1 : decode cX8_clear 1 = .ok (.getfield 219, 3) := by decide +kernel
theorem dX8_clear_4 : decode cX8_clear 4 = .ok (.istore_n 1, 1) := by decide +kernel
theorem dX8_clear_5 : decode cX8_clear 5 = .ok (.aload_n 0, 1) := by decide +kernel
theorem dX8_clear_6 : decode cX8_clear 6 = .ok (.iconst 0, 1) := by decide +kernel
theorem dX8_clear_7 : decode cX8_clear 7 = .ok (.putfield 219, 3) := by decide +kernel
theorem dX8_clear_10 : decode cX8_clear 10 = .ok (.iload_n 1, 1) := by decide +kernel
theorem dX8_clear_11 : decode cX8_clear 11 = .ok (.ireturn, 1) := by decide +kernel
theorem dX8_here_0 : decode cX8_here 0 = .ok (.aload_n 0, 1) := by decide +kernel
theorem dX8_here_1 : decode cX8_here 1 = .ok (.getfield 222, 3) := by decide +kernel
theorem dX8_here_4 : decode cX8_here 4 = .ok (.aload_n 0, 1) := by decide +kernel
theorem dX8_here_5 : decode cX8_here 5 = .ok (.getfield 219, 3) := by decide +kernel
theorem dX8_here_8 : decode cX8_here 8 = .ok (.if_icmp .ge 30, 3) := by decide +kernel
theorem dX8_here_11 : decode cX8_here 11 = .ok (.aload_n 0, 1) := by decide +kernel
theorem dX8_here_12 : decode cX8_here 12 = .ok (.getfield 22, 3) := by decide +kernel
theorem dX8_here_15 : decode cX8_here 15 = .ok (.aload_n 0, 1) := by decide +kernel
theorem dX8_here_16 : decode cX8_here 16 = .ok (.getfield 222, 3) := by decide +kernel
theorem dX8_here_19 : decode cX8_here 19 = .ok (.iaload, 1) := by decide +kernel
theorem dX8_here_20 : decode cX8_here 20 = .ok (.bipush 32, 2) := by decide +kernel
theorem dX8_here_22 : decode cX8_here 22 = .ok (.if_icmp .ne 16, 3) := by decide +kernel
theorem dX8_here_25 : decode cX8_here 25 = .ok (.aload_n 0, 1) := by decide +kernel
theorem dX8_here_26 : decode cX8_here 26 = .ok (.dup, 1) := by decide +kernel
theorem dX8_here_27 : decode cX8_here 27 = .ok (.getfield 222, 3) := by decide +kernel
theorem dX8_here_30 : decode cX8_here 30 = .ok (.iconst 1, 1) := by decide +kernel
theorem dX8_here_31 : decode cX8_here 31 = .ok (.iadd, 1) := by decide +kernel
theorem dX8_here_32 : decode cX8_here 32 = .ok (.putfield 222, 3) := by decide +kernel
theorem dX8_here_35 : decode cX8_here 35 = .ok (.goto (-35), 3) := by decide +kernel
theorem dX8_here_38 : decode cX8_here 38 = .ok (.aload_n 0, 1) := by decide +kernel
theorem dX8_here_39 : decode cX8_here 39 = .ok (.getfield 222, 3) := by decide +kernel
theorem dX8_here_42 : decode cX8_here 42 = .ok (.aload_n 0, 1) := by decide +kernel
theorem dX8_here_43 : decode cX8_here 43 = .ok (.getfield 219, 3) := by decide +kernel
theorem dX8_here_46 : decode cX8_here 46 = .ok (.if_icmp .ge 15, 3) := by decide +kernel
theorem dX8_here_49 : decode cX8_here 49 = .ok (.aload_n 0, 1) := by decide +kernel
theorem dX8_here_50 : decode cX8_here 50 = .ok (.getfield 22, 3) := by decide +kernel
theorem dX8_here_53 : decode cX8_here 53 = .ok (.aload_n 0, 1) := by decide +kernel
theorem dX8_here_54 : decode cX8_here 54 = .ok (.getfield 222, 3) := by decide +kernel
theorem dX8_here_57 : decode cX8_here 57 = .ok (.iaload, 1) := by decide +kernel
theorem dX8_here_58 : decode cX8_here 58 = .ok (.goto 4, 3) := by decide +kernel
theorem dX8_here_61 : decode cX8_here 61 = .ok (.iconst (-1), 1) := by decide +kernel
theorem dX8_here_62 : decode cX8_here 62 = .ok (.ireturn, 1) := by decide +kernel
theorem dX8_must_0 : decode cX8_must 0 = .ok (.aload_n 0, 1) := by decide +kernel
theorem dX8_must_1 : decode cX8_must 1 = .ok (.getfield 225, 3) := by decide +kernel
theorem dX8_must_4 : decode cX8_must 4 = .ok (.iconst (-1), 1) := by decide +kernel
theorem dX8_must_5 : decode cX8_must 5 = .ok (.if_icmp .ne 15, 3) := by decide +kernel
theorem dX8_must_8 : decode cX8_must 8 = .ok (.iload_n 1, 1) := by decide +kernel
theorem dX8_must_9 : decode cX8_must 9 = .ok (.ifCond .ne 11, 3) := by decide +kernel
theorem dX8_must_12 : decode cX8_must 12 = .ok (.aload_n 0, 1) := by decide +kernel
theorem dX8_must_13 : decode cX8_must 13 = .ok (.aload_n 0, 1) := by decide +kernel
theorem dX8_must_14 : decode cX8_must 14 = .ok (.getfield 222, 3) := by decide +kernel
theorem dX8_must_17 : decode cX8_must 17 = .ok (.putfield 225, 3) := by decide +kernel
theorem dX8_must_20 : decode cX8_must 20 = .ok (.return_, 1) := by decide +kernel
theorem dX8_isFigure_0 : decode cX8_isFigure 0 = .ok (.aload_n 0, 1) := by decide +kernel
theorem dX8_isFigure_1 : decode cX8_isFigure 1 = .ok (.getfield 222, 3) := by decide +kernel
theorem dX8_isFigure_4 : decode cX8_isFigure 4 = .ok (.aload_n 0, 1) := by decide +kernel
theorem dX8_isFigure_5 : decode cX8_isFigure 5 = .ok (.getfield 219, 3) := by decide +kernel
theorem dX8_isFigure_8 : decode cX8_isFigure 8 = .ok (.if_icmp .ge 26, 3) := by decide +kernel
theorem dX8_isFigure_11 : decode cX8_isFigure 11 = .ok (.aload_n 0, 1) := by decide +kernel
theorem dX8_isFigure_12 : decode cX8_isFigure 12 = .ok (.getfield 22, 3) := by decide +kernel
theorem dX8_isFigure_15 : decode cX8_isFigure 15 = .ok (.aload_n 0, 1) := by decide +kernel
theorem dX8_isFigure_16 : decode cX8_isFigure 16 = .ok (.getfield 222, 3) := by decide +kernel
theorem dX8_isFigure_19 : decode cX8_isFigure 19 = .ok (.iaload, 1) := by decide +kernel
theorem dX8_isFigure_20 : decode cX8_isFigure 20 = .ok (.bipush 48, 2) := by decide +kernel
theorem dX8_isFigure_22 : decode cX8_isFigure 22 = .ok (.bipush 57, 2) := by decide +kernel
theorem dX8_isFigure_24 : decode cX8_isFigure 24 = .ok (.invokestatic 100, 3) := by decide +kernel
theorem dX8_isFigure_27 : decode cX8_isFigure 27 = .ok (.ifCond .eq 7, 3) := by decide +kernel
theorem dX8_isFigure_30 : decode cX8_isFigure 30 = .ok (.iconst 1, 1) := by decide +kernel
theorem dX8_isFigure_31 : decode cX8_isFigure 31 = .ok (.goto 4, 3) := by decide +kernel
theorem dX8_isFigure_34 : decode cX8_isFigure 34 = .ok (.iconst 0, 1) := by decide +kernel
theorem dX8_isFigure_35 : decode cX8_isFigure 35 = .ok (.ireturn, 1) := by decide +kernel
theorem dX8_plain_0 : decode cX8_plain 0 = .ok (.aload_n 0, 1) := by decide +kernel
theorem dX8_plain_1 : decode cX8_plain 1 = .ok (.aload_n 0, 1) := by decide +kernel
theorem dX8_plain_2 : decode cX8_plain 2 = .ok (.invokevirtual 228, 3) := by decide +kernel
theorem dX8_plain_5 : decode cX8_plain 5 = .ok (.invokevirtual 231, 3) := by decide +kernel
theorem dX8_plain_8 : decode cX8_plain 8 = .ok (.iconst 0, 1) := by decide +kernel
theorem dX8_plain_9 : decode cX8_plain 9 = .ok (.istore_n 1, 1) := by decide +kernel
theorem dX8_plain_10 : decode cX8_plain 10 = .ok (.iconst 0, 1) := by decide +kernel
theorem dX8_plain_11 : decode cX8_plain 11 = .ok (.istore_n 2, 1) := by decide +kernel
theorem dX8_plain_12 : decode cX8_plain 12 = .ok (.iload_n 2, 1) := by decide +kernel
theorem dX8_plain_13 : decode cX8_plain 13 = .ok (.iconst 4, 1) := by decide +kernel
theorem dX8_plain_14 : decode cX8_plain 14 = .ok (.if_icmp .ge 52, 3) := by decide +kernel
theorem dX8_plain_17 : decode cX8_plain 17 = .ok (.aload_n 0, 1) := by decide +kernel
theorem dX8_plain_18 : decode cX8_plain 18 = .ok (.invokevirtual 228, 3) := by decide +kernel
theorem dX8_plain_21 : decode cX8_plain 21 = .ok (.ifCond .eq 45, 3) := by decide +kernel
theorem dX8_plain_24 : decode cX8_plain 24 = .ok (.aload_n 0, 1) := by decide +kernel
theorem dX8_plain_25 : decode cX8_plain 25 = .ok (.getfield 225, 3) := by decide +kernel
theorem dX8_plain_28 : decode cX8_plain 28 = .ok (.iconst (-1), 1) := by decide +kernel
theorem dX8_plain_29 : decode cX8_plain 29 = .ok (.if_icmp .ne 37, 3) := by decide +kernel
theorem dX8_plain_32 : decode cX8_plain 32 = .ok (.bipush 10, 2) := by decide +kernel
theorem dX8_plain_34 : decode cX8_plain 34 = .ok (.iload_n 1, 1) := by decide +kernel
theorem dX8_plain_35 : decode cX8_plain 35 = .ok (.imul, 1) := by decide +kernel
theorem dX8_plain_36 : decode cX8_plain 36 = .ok (.aload_n 0, 1) := by decide +kernel
theorem dX8_plain_37 : decode cX8_plain 37 = .ok (.getfield 22, 3) := by decide +kernel
theorem dX8_plain_40 : decode cX8_plain 40 = .ok (.aload_n 0, 1) := by decide +kernel
theorem dX8_plain_41 : decode cX8_plain 41 = .ok (.getfield 222, 3) := by decide +kernel
theorem dX8_plain_44 : decode cX8_plain 44 = .ok (.iaload, 1) := by decide +kernel
theorem dX8_plain_45 : decode cX8_plain 45 = .ok (.iadd, 1) := by decide +kernel
theorem dX8_plain_46 : decode cX8_plain 46 = .ok (.bipush 48, 2) := by decide +kernel
theorem dX8_plain_48 : decode cX8_plain 48 = .ok (.isub, 1) := by decide +kernel
theorem dX8_plain_49 : decode cX8_plain 49 = .ok (.istore_n 1, 1) := by decide +kernel
theorem dX8_plain_50 : decode cX8_plain 50 = .ok (.aload_n 0, 1) := by decide +kernel
theorem dX8_plain_51 : decode cX8_plain 51 = .ok (.dup, 1) := by decide +kernel
theorem dX8_plain_52 : decode cX8_plain 52 = .ok (.getfield 222, 3) := by decide +kernel
theorem dX8_plain_55 : decode cX8_plain 55 = .ok (.iconst 1, 1) := by decide +kernel
theorem dX8_plain_56 : decode cX8_plain 56 = .ok (.iadd, 1) := by decide +kernel
theorem dX8_plain_57 : decode cX8_plain 57 = .ok (.putfield 222, 3) := by decide +kernel
theorem dX8_plain_60 : decode cX8_plain 60 = .ok (.iinc 2 1, 3) := by decide +kernel
theorem dX8_plain_63 : decode cX8_plain 63 = .ok (.goto (-51), 3) := by decide +kernel
theorem dX8_plain_66 : decode cX8_plain 66 = .ok (.aload_n 0, 1) := by decide +kernel
theorem dX8_plain_67 : decode cX8_plain 67 = .ok (.aload_n 0, 1) := by decide +kernel
theorem dX8_plain_68 : decode cX8_plain 68 = .ok (.invokevirtual 228, 3) := by decide +kernel
theorem dX8_plain_71 : decode cX8_plain 71 = .ok (.ifCond .ne 7, 3) := by decide +kernel
theorem dX8_plain_74 : decode cX8_plain 74 = .ok (.iconst 1, 1) := by decide +kernel
theorem dX8_plain_75 : decode cX8_plain 75 = .ok (.goto 4, 3) := by decide +kernel
theorem dX8_plain_78 : decode cX8_plain 78 = .ok (.iconst 0, 1) := by decide +kernel
theorem dX8_plain_79 : decode cX8_plain 79 = .ok (.invokevirtual 231, 3) := by decide +kernel
theorem dX8_plain_82 : decode cX8_plain 82 = .ok (.iload_n 1, 1) := by decide +kernel
theorem dX8_plain_83 : decode cX8_plain 83 = .ok (.ireturn, 1) := by decide +kernel
theorem dX8_read_0 : decode cX8_read 0 = .ok (.aload_n 0, 1) := by decide +kernel
theorem dX8_read_1 : decode cX8_read 1 = .ok (.invokevirtual 235, 3) := by decide +kernel
theorem dX8_read_4 : decode cX8_read 4 = .ok (.bipush 45, 2) := by decide +kernel
theorem dX8_read_6 : decode cX8_read 6 = .ok (.if_icmp .ne 23, 3) := by decide +kernel
theorem dX8_read_9 : decode cX8_read 9 = .ok (.iload_n 1, 1) := by decide +kernel
theorem dX8_read_10 : decode cX8_read 10 = .ok (.ifCond .eq 19, 3) := by decide +kernel
theorem dX8_read_13 : decode cX8_read 13 = .ok (.aload_n 0, 1) := by decide +kernel
theorem dX8_read_14 : decode cX8_read 14 = .ok (.dup, 1) := by decide +kernel
theorem dX8_read_15 : decode cX8_read 15 = .ok (.getfield 222, 3) := by decide +kernel
theorem dX8_read_18 : decode cX8_read 18 = .ok (.iconst 1, 1) := by decide +kernel
theorem dX8_read_19 : decode cX8_read 19 = .ok (.iadd, 1) := by decide +kernel
theorem dX8_read_20 : decode cX8_read 20 = .ok (.putfield 222, 3) := by decide +kernel
theorem dX8_read_23 : decode cX8_read 23 = .ok (.aload_n 0, 1) := by decide +kernel
theorem dX8_read_24 : decode cX8_read 24 = .ok (.invokevirtual 238, 3) := by decide +kernel
theorem dX8_read_27 : decode cX8_read 27 = .ok (.ineg, 1) := by decide +kernel
theorem dX8_read_28 : decode cX8_read 28 = .ok (.ireturn, 1) := by decide +kernel
theorem dX8_read_29 : decode cX8_read 29 = .ok (.aload_n 0, 1) := by decide +kernel
theorem dX8_read_30 : decode cX8_read 30 = .ok (.invokevirtual 238, 3) := by decide +kernel
theorem dX8_read_33 : decode cX8_read 33 = .ok (.ireturn, 1) := by decide +kernel
theorem dX8_numbersOf_0 : decode cX8_numbersOf 0 = .ok (.iload_n 0, 1) := by decide +kernel
theorem dX8_numbersOf_1 : decode cX8_numbersOf 1 = .ok (.tableswitch 81 106 120 #[79, 77, 81, 79, 75, 81, 79, 81, 81, 81, 77, 77, 81, 81, 77], 75) := by decide +kernel
theorem dX8_numbersOf_76 : decode cX8_numbersOf 76 = .ok (.iconst 1, 1) := by decide +kernel
theorem dX8_numbersOf_77 : decode cX8_numbersOf 77 = .ok (.ireturn, 1) := by decide +kernel
theorem dX8_numbersOf_78 : decode cX8_numbersOf 78 = .ok (.iconst 2, 1) := by decide +kernel
theorem dX8_numbersOf_79 : decode cX8_numbersOf 79 = .ok (.ireturn, 1) := by decide +kernel
theorem dX8_numbersOf_80 : decode cX8_numbersOf 80 = .ok (.iconst 3, 1) := by decide +kernel
theorem dX8_numbersOf_81 : decode cX8_numbersOf 81 = .ok (.ireturn, 1) := by decide +kernel
theorem dX8_numbersOf_82 : decode cX8_numbersOf 82 = .ok (.iconst (-1), 1) := by decide +kernel
theorem dX8_numbersOf_83 : decode cX8_numbersOf 83 = .ok (.ireturn, 1) := by decide +kernel
theorem dX8_readOrder_0 : decode cX8_readOrder 0 = .ok (.aload_n 0, 1) := by decide +kernel
theorem dX8_readOrder_1 : decode cX8_readOrder 1 = .ok (.invokevirtual 235, 3) := by decide +kernel
theorem dX8_readOrder_4 : decode cX8_readOrder 4 = .ok (.istore_n 1, 1) := by decide +kernel
theorem dX8_readOrder_5 : decode cX8_readOrder 5 = .ok (.iload_n 1, 1) := by decide +kernel
theorem dX8_readOrder_6 : decode cX8_readOrder 6 = .ok (.invokestatic 241, 3) := by decide +kernel
theorem dX8_readOrder_9 : decode cX8_readOrder 9 = .ok (.istore_n 2, 1) := by decide +kernel
theorem dX8_readOrder_10 : decode cX8_readOrder 10 = .ok (.aload_n 0, 1) := by decide +kernel
theorem dX8_readOrder_11 : decode cX8_readOrder 11 = .ok (.iload_n 2, 1) := by decide +kernel
theorem dX8_readOrder_12 : decode cX8_readOrder 12 = .ok (.iconst (-1), 1) := by decide +kernel
theorem dX8_readOrder_13 : decode cX8_readOrder 13 = .ok (.if_icmp .eq 7, 3) := by decide +kernel
theorem dX8_readOrder_16 : decode cX8_readOrder 16 = .ok (.iconst 1, 1) := by decide +kernel
theorem dX8_readOrder_17 : decode cX8_readOrder 17 = .ok (.goto 4, 3) := by decide +kernel
theorem dX8_readOrder_20 : decode cX8_readOrder 20 = .ok (.iconst 0, 1) := by decide +kernel
theorem dX8_readOrder_21 : decode cX8_readOrder 21 = .ok (.invokevirtual 231, 3) := by decide +kernel
theorem dX8_readOrder_24 : decode cX8_readOrder 24 = .ok (.aload_n 0, 1) := by decide +kernel
theorem dX8_readOrder_25 : decode cX8_readOrder 25 = .ok (.dup, 1) := by decide +kernel
theorem dX8_readOrder_26 : decode cX8_readOrder 26 = .ok (.getfield 222, 3) := by decide +kernel
theorem dX8_readOrder_29 : decode cX8_readOrder 29 = .ok (.iconst 1, 1) := by decide +kernel
theorem dX8_readOrder_30 : decode cX8_readOrder 30 = .ok (.iadd, 1) := by decide +kernel
theorem dX8_readOrder_31 : decode cX8_readOrder 31 = .ok (.putfield 222, 3) := by decide +kernel
theorem dX8_readOrder_34 : decode cX8_readOrder 34 = .ok (.iconst 0, 1) := by decide +kernel
theorem dX8_readOrder_35 : decode cX8_readOrder 35 = .ok (.istore_n 3, 1) := by decide +kernel
theorem dX8_readOrder_36 : decode cX8_readOrder 36 = .ok (.iload_n 3, 1) := by decide +kernel
theorem dX8_readOrder_37 : decode cX8_readOrder 37 = .ok (.iload_n 2, 1) := by decide +kernel
theorem dX8_readOrder_38 : decode cX8_readOrder 38 = .ok (.if_icmp .ge 50, 3) := by decide +kernel
theorem dX8_readOrder_41 : decode cX8_readOrder 41 = .ok (.aload_n 0, 1) := by decide +kernel
theorem dX8_readOrder_42 : decode cX8_readOrder 42 = .ok (.getfield 225, 3) := by decide +kernel
theorem dX8_readOrder_45 : decode cX8_readOrder 45 = .ok (.iconst (-1), 1) := by decide +kernel
theorem dX8_readOrder_46 : decode cX8_readOrder 46 = .ok (.if_icmp .ne 42, 3) := by decide +kernel
theorem dX8_readOrder_49 : decode cX8_readOrder 49 = .ok (.aload_n 0, 1) := by decide +kernel
theorem dX8_readOrder_50 : decode cX8_readOrder 50 = .ok (.getfield 53, 3) := by decide +kernel
theorem dX8_readOrder_53 : decode cX8_readOrder 53 = .ok (.iconst 3, 1) := by decide +kernel
theorem dX8_readOrder_54 : decode cX8_readOrder 54 = .ok (.aload_n 0, 1) := by decide +kernel
theorem dX8_readOrder_55 : decode cX8_readOrder 55 = .ok (.getfield 244, 3) := by decide +kernel
theorem dX8_readOrder_58 : decode cX8_readOrder 58 = .ok (.imul, 1) := by decide +kernel
theorem dX8_readOrder_59 : decode cX8_readOrder 59 = .ok (.iload_n 3, 1) := by decide +kernel
theorem dX8_readOrder_60 : decode cX8_readOrder 60 = .ok (.iadd, 1) := by decide +kernel
theorem dX8_readOrder_61 : decode cX8_readOrder 61 = .ok (.aload_n 0, 1) := by decide +kernel
theorem dX8_readOrder_62 : decode cX8_readOrder 62 = .ok (.iload_n 1, 1) := by decide +kernel
theorem dX8_readOrder_63 : decode cX8_readOrder 63 = .ok (.bipush 120, 2) := by decide +kernel
theorem dX8_readOrder_65 : decode cX8_readOrder 65 = .ok (.if_icmp .ne 12, 3) := by decide +kernel
theorem dX8_readOrder_68 : decode cX8_readOrder 68 = .ok (.iload_n 3, 1) := by decide +kernel
theorem dX8_readOrder_69 : decode cX8_readOrder 69 = .ok (.iconst 1, 1) := by decide +kernel
theorem dX8_readOrder_70 : decode cX8_readOrder 70 = .ok (.if_icmp .ne 7, 3) := by decide +kernel
theorem dX8_readOrder_73 : decode cX8_readOrder 73 = .ok (.iconst 1, 1) := by decide +kernel
theorem dX8_readOrder_74 : decode cX8_readOrder 74 = .ok (.goto 4, 3) := by decide +kernel
theorem dX8_readOrder_77 : decode cX8_readOrder 77 = .ok (.iconst 0, 1) := by decide +kernel
theorem dX8_readOrder_78 : decode cX8_readOrder 78 = .ok (.invokevirtual 247, 3) := by decide +kernel
theorem dX8_readOrder_81 : decode cX8_readOrder 81 = .ok (.iastore, 1) := by decide +kernel
theorem dX8_readOrder_82 : decode cX8_readOrder 82 = .ok (.iinc 3 1, 3) := by decide +kernel
theorem dX8_readOrder_85 : decode cX8_readOrder 85 = .ok (.goto (-49), 3) := by decide +kernel
theorem dX8_readOrder_88 : decode cX8_readOrder 88 = .ok (.aload_n 0, 1) := by decide +kernel
theorem dX8_readOrder_89 : decode cX8_readOrder 89 = .ok (.getfield 225, 3) := by decide +kernel
theorem dX8_readOrder_92 : decode cX8_readOrder 92 = .ok (.iconst (-1), 1) := by decide +kernel
theorem dX8_readOrder_93 : decode cX8_readOrder 93 = .ok (.if_icmp .ne 10, 3) := by decide +kernel
theorem dX8_readOrder_96 : decode cX8_readOrder 96 = .ok (.aload_n 0, 1) := by decide +kernel
theorem dX8_readOrder_97 : decode cX8_readOrder 97 = .ok (.invokevirtual 235, 3) := by decide +kernel
theorem dX8_readOrder_100 : decode cX8_readOrder 100 = .ok (.goto 5, 3) := by decide +kernel
theorem dX8_readOrder_103 : decode cX8_readOrder 103 = .ok (.bipush 59, 2) := by decide +kernel
theorem dX8_readOrder_105 : decode cX8_readOrder 105 = .ok (.istore_n 3, 1) := by decide +kernel
theorem dX8_readOrder_106 : decode cX8_readOrder 106 = .ok (.aload_n 0, 1) := by decide +kernel
theorem dX8_readOrder_107 : decode cX8_readOrder 107 = .ok (.iload_n 3, 1) := by decide +kernel
theorem dX8_readOrder_108 : decode cX8_readOrder 108 = .ok (.bipush 59, 2) := by decide +kernel
theorem dX8_readOrder_110 : decode cX8_readOrder 110 = .ok (.if_icmp .ne 7, 3) := by decide +kernel
theorem dX8_readOrder_113 : decode cX8_readOrder 113 = .ok (.iconst 1, 1) := by decide +kernel
theorem dX8_readOrder_114 : decode cX8_readOrder 114 = .ok (.goto 4, 3) := by decide +kernel
theorem dX8_readOrder_117 : decode cX8_readOrder 117 = .ok (.iconst 0, 1) := by decide +kernel
theorem dX8_readOrder_118 : decode cX8_readOrder 118 = .ok (.invokevirtual 231, 3) := by decide +kernel
theorem dX8_readOrder_121 : decode cX8_readOrder 121 = .ok (.aload_n 0, 1) := by decide +kernel
theorem dX8_readOrder_122 : decode cX8_readOrder 122 = .ok (.getfield 50, 3) := by decide +kernel
theorem dX8_readOrder_125 : decode cX8_readOrder 125 = .ok (.aload_n 0, 1) := by decide +kernel
theorem dX8_readOrder_126 : decode cX8_readOrder 126 = .ok (.getfield 244, 3) := by decide +kernel
theorem dX8_readOrder_129 : decode cX8_readOrder 129 = .ok (.iload_n 1, 1) := by decide +kernel
theorem dX8_readOrder_130 : decode cX8_readOrder 130 = .ok (.iastore, 1) := by decide +kernel
theorem dX8_readOrder_131 : decode cX8_readOrder 131 = .ok (.aload_n 0, 1) := by decide +kernel
theorem dX8_readOrder_132 : decode cX8_readOrder 132 = .ok (.dup, 1) := by decide +kernel
theorem dX8_readOrder_133 : decode cX8_readOrder 133 = .ok (.getfield 222, 3) := by decide +kernel
theorem dX8_readOrder_136 : decode cX8_readOrder 136 = .ok (.iconst 1, 1) := by decide +kernel
theorem dX8_readOrder_137 : decode cX8_readOrder 137 = .ok (.iadd, 1) := by decide +kernel
theorem dX8_readOrder_138 : decode cX8_readOrder 138 = .ok (.putfield 222, 3) := by decide +kernel
theorem dX8_readOrder_141 : decode cX8_readOrder 141 = .ok (.aload_n 0, 1) := by decide +kernel
theorem dX8_readOrder_142 : decode cX8_readOrder 142 = .ok (.dup, 1) := by decide +kernel
theorem dX8_readOrder_143 : decode cX8_readOrder 143 = .ok (.getfield 244, 3) := by decide +kernel
theorem dX8_readOrder_146 : decode cX8_readOrder 146 = .ok (.iconst 1, 1) := by decide +kernel
theorem dX8_readOrder_147 : decode cX8_readOrder 147 = .ok (.iadd, 1) := by decide +kernel
theorem dX8_readOrder_148 : decode cX8_readOrder 148 = .ok (.putfield 244, 3) := by decide +kernel
theorem dX8_readOrder_151 : decode cX8_readOrder 151 = .ok (.return_, 1) := by decide +kernel
theorem dX8_doOrder_0 : decode cX8_doOrder 0 = .ok (.aload_n 0, 1) := by decide +kernel
theorem dX8_doOrder_1 : decode cX8_doOrder 1 = .ok (.getfield 53, 3) := by decide +kernel
theorem dX8_doOrder_4 : decode cX8_doOrder 4 = .ok (.iconst 3, 1) := by decide +kernel
theorem dX8_doOrder_5 : decode cX8_doOrder 5 = .ok (.iload_n 1, 1) := by decide +kernel
theorem dX8_doOrder_6 : decode cX8_doOrder 6 = .ok (.imul, 1) := by decide +kernel
theorem dX8_doOrder_7 : decode cX8_doOrder 7 = .ok (.iaload, 1) := by decide +kernel
theorem dX8_doOrder_8 : decode cX8_doOrder 8 = .ok (.istore_n 2, 1) := by decide +kernel
theorem dX8_doOrder_9 : decode cX8_doOrder 9 = .ok (.aload_n 0, 1) := by decide +kernel
theorem dX8_doOrder_10 : decode cX8_doOrder 10 = .ok (.getfield 53, 3) := by decide +kernel
theorem dX8_doOrder_13 : decode cX8_doOrder 13 = .ok (.iconst 3, 1) := by decide +kernel
theorem dX8_doOrder_14 : decode cX8_doOrder 14 = .ok (.iload_n 1, 1) := by decide +kernel
theorem dX8_doOrder_15 : decode cX8_doOrder 15 = .ok (.imul, 1) := by decide +kernel
theorem dX8_doOrder_16 : decode cX8_doOrder 16 = .ok (.iconst 1, 1) := by decide +kernel
theorem dX8_doOrder_17 : decode cX8_doOrder 17 = .ok (.iadd, 1) := by decide +kernel
theorem dX8_doOrder_18 : decode cX8_doOrder 18 = .ok (.iaload, 1) := by decide +kernel
theorem dX8_doOrder_19 : decode cX8_doOrder 19 = .ok (.istore_n 3, 1) := by decide +kernel
theorem dX8_doOrder_20 : decode cX8_doOrder 20 = .ok (.aload_n 0, 1) := by decide +kernel
theorem dX8_doOrder_21 : decode cX8_doOrder 21 = .ok (.getfield 53, 3) := by decide +kernel
theorem dX8_doOrder_24 : decode cX8_doOrder 24 = .ok (.iconst 3, 1) := by decide +kernel
theorem dX8_doOrder_25 : decode cX8_doOrder 25 = .ok (.iload_n 1, 1) := by decide +kernel
theorem dX8_doOrder_26 : decode cX8_doOrder 26 = .ok (.imul, 1) := by decide +kernel
theorem dX8_doOrder_27 : decode cX8_doOrder 27 = .ok (.iconst 2, 1) := by decide +kernel
theorem dX8_doOrder_28 : decode cX8_doOrder 28 = .ok (.iadd, 1) := by decide +kernel
theorem dX8_doOrder_29 : decode cX8_doOrder 29 = .ok (.iaload, 1) := by decide +kernel
theorem dX8_doOrder_30 : decode cX8_doOrder 30 = .ok (.istore 4, 2) := by decide +kernel
theorem dX8_doOrder_32 : decode cX8_doOrder 32 = .ok (.aload_n 0, 1) := by decide +kernel
theorem dX8_doOrder_33 : decode cX8_doOrder 33 = .ok (.getfield 50, 3) := by decide +kernel
theorem dX8_doOrder_36 : decode cX8_doOrder 36 = .ok (.iload_n 1, 1) := by decide +kernel
theorem dX8_doOrder_37 : decode cX8_doOrder 37 = .ok (.iaload, 1) := by decide +kernel
theorem dX8_doOrder_38 : decode cX8_doOrder 38 = .ok (.tableswitch 116 106 117 #[86, 95, 116, 77, 62, 116, 68, 116, 116, 116, 102, 109], 62) := by decide +kernel
theorem dX8_doOrder_100 : decode cX8_doOrder 100 = .ok (.aload_n 0, 1) := by decide +kernel
theorem dX8_doOrder_101 : decode cX8_doOrder 101 = .ok (.iload_n 2, 1) := by decide +kernel
theorem dX8_doOrder_102 : decode cX8_doOrder 102 = .ok (.invokevirtual 140, 3) := by decide +kernel
theorem dX8_doOrder_105 : decode cX8_doOrder 105 = .ok (.ireturn, 1) := by decide +kernel
theorem dX8_doOrder_106 : decode cX8_doOrder 106 = .ok (.aload_n 0, 1) := by decide +kernel
theorem dX8_doOrder_107 : decode cX8_doOrder 107 = .ok (.iload_n 2, 1) := by decide +kernel
theorem dX8_doOrder_108 : decode cX8_doOrder 108 = .ok (.iload_n 3, 1) := by decide +kernel
theorem dX8_doOrder_109 : decode cX8_doOrder 109 = .ok (.iload 4, 2) := by decide +kernel
theorem dX8_doOrder_111 : decode cX8_doOrder 111 = .ok (.invokevirtual 146, 3) := by decide +kernel
theorem dX8_doOrder_114 : decode cX8_doOrder 114 = .ok (.ireturn, 1) := by decide +kernel
theorem dX8_doOrder_115 : decode cX8_doOrder 115 = .ok (.aload_n 0, 1) := by decide +kernel
theorem dX8_doOrder_116 : decode cX8_doOrder 116 = .ok (.iload_n 2, 1) := by decide +kernel
theorem dX8_doOrder_117 : decode cX8_doOrder 117 = .ok (.iload_n 3, 1) := by decide +kernel
theorem dX8_doOrder_118 : decode cX8_doOrder 118 = .ok (.iload 4, 2) := by decide +kernel
theorem dX8_doOrder_120 : decode cX8_doOrder 120 = .ok (.invokevirtual 150, 3) := by decide +kernel
theorem dX8_doOrder_123 : decode cX8_doOrder 123 = .ok (.ireturn, 1) := by decide +kernel
theorem dX8_doOrder_124 : decode cX8_doOrder 124 = .ok (.aload_n 0, 1) := by decide +kernel
theorem dX8_doOrder_125 : decode cX8_doOrder 125 = .ok (.iload_n 2, 1) := by decide +kernel
theorem dX8_doOrder_126 : decode cX8_doOrder 126 = .ok (.iload_n 3, 1) := by decide +kernel
theorem dX8_doOrder_127 : decode cX8_doOrder 127 = .ok (.iload 4, 2) := by decide +kernel
theorem dX8_doOrder_129 : decode cX8_doOrder 129 = .ok (.invokevirtual 153, 3) := by decide +kernel
theorem dX8_doOrder_132 : decode cX8_doOrder 132 = .ok (.ireturn, 1) := by decide +kernel
theorem dX8_doOrder_133 : decode cX8_doOrder 133 = .ok (.aload_n 0, 1) := by decide +kernel
theorem dX8_doOrder_134 : decode cX8_doOrder 134 = .ok (.iload_n 2, 1) := by decide +kernel
theorem dX8_doOrder_135 : decode cX8_doOrder 135 = .ok (.iload_n 3, 1) := by decide +kernel
theorem dX8_doOrder_136 : decode cX8_doOrder 136 = .ok (.invokevirtual 156, 3) := by decide +kernel
theorem dX8_doOrder_139 : decode cX8_doOrder 139 = .ok (.ireturn, 1) := by decide +kernel
theorem dX8_doOrder_140 : decode cX8_doOrder 140 = .ok (.aload_n 0, 1) := by decide +kernel
theorem dX8_doOrder_141 : decode cX8_doOrder 141 = .ok (.iload_n 2, 1) := by decide +kernel
theorem dX8_doOrder_142 : decode cX8_doOrder 142 = .ok (.iload_n 3, 1) := by decide +kernel
theorem dX8_doOrder_143 : decode cX8_doOrder 143 = .ok (.invokevirtual 159, 3) := by decide +kernel
theorem dX8_doOrder_146 : decode cX8_doOrder 146 = .ok (.ireturn, 1) := by decide +kernel
theorem dX8_doOrder_147 : decode cX8_doOrder 147 = .ok (.aload_n 0, 1) := by decide +kernel
theorem dX8_doOrder_148 : decode cX8_doOrder 148 = .ok (.iload_n 2, 1) := by decide +kernel
theorem dX8_doOrder_149 : decode cX8_doOrder 149 = .ok (.iload_n 3, 1) := by decide +kernel
theorem dX8_doOrder_150 : decode cX8_doOrder 150 = .ok (.invokevirtual 162, 3) := by decide +kernel
theorem dX8_doOrder_153 : decode cX8_doOrder 153 = .ok (.ireturn, 1) := by decide +kernel
theorem dX8_doOrder_154 : decode cX8_doOrder 154 = .ok (.aload_n 0, 1) := by decide +kernel
theorem dX8_doOrder_155 : decode cX8_doOrder 155 = .ok (.iload_n 2, 1) := by decide +kernel
theorem dX8_doOrder_156 : decode cX8_doOrder 156 = .ok (.iload_n 3, 1) := by decide +kernel
theorem dX8_doOrder_157 : decode cX8_doOrder 157 = .ok (.invokevirtual 165, 3) := by decide +kernel
theorem dX8_doOrder_160 : decode cX8_doOrder 160 = .ok (.ireturn, 1) := by decide +kernel
theorem dX8_does_0 : decode cX8_does 0 = .ok (.aload_n 0, 1) := by decide +kernel
theorem dX8_does_1 : decode cX8_does 1 = .ok (.iconst 0, 1) := by decide +kernel
theorem dX8_does_2 : decode cX8_does 2 = .ok (.putfield 222, 3) := by decide +kernel
theorem dX8_does_5 : decode cX8_does 5 = .ok (.aload_n 0, 1) := by decide +kernel
theorem dX8_does_6 : decode cX8_does 6 = .ok (.iconst (-1), 1) := by decide +kernel
theorem dX8_does_7 : decode cX8_does 7 = .ok (.putfield 225, 3) := by decide +kernel
theorem dX8_does_10 : decode cX8_does 10 = .ok (.aload_n 0, 1) := by decide +kernel
theorem dX8_does_11 : decode cX8_does 11 = .ok (.iconst 0, 1) := by decide +kernel
theorem dX8_does_12 : decode cX8_does 12 = .ok (.putfield 244, 3) := by decide +kernel
theorem dX8_does_15 : decode cX8_does 15 = .ok (.aload_n 0, 1) := by decide +kernel
theorem dX8_does_16 : decode cX8_does 16 = .ok (.aload_n 0, 1) := by decide +kernel
theorem dX8_does_17 : decode cX8_does 17 = .ok (.invokevirtual 235, 3) := by decide +kernel
theorem dX8_does_20 : decode cX8_does 20 = .ok (.iconst (-1), 1) := by decide +kernel
theorem dX8_does_21 : decode cX8_does 21 = .ok (.if_icmp .eq 7, 3) := by decide +kernel
theorem dX8_does_24 : decode cX8_does 24 = .ok (.iconst 1, 1) := by decide +kernel
theorem dX8_does_25 : decode cX8_does 25 = .ok (.goto 4, 3) := by decide +kernel
theorem dX8_does_28 : decode cX8_does 28 = .ok (.iconst 0, 1) := by decide +kernel
theorem dX8_does_29 : decode cX8_does 29 = .ok (.invokevirtual 231, 3) := by decide +kernel
theorem dX8_does_32 : decode cX8_does 32 = .ok (.aload_n 0, 1) := by decide +kernel
theorem dX8_does_33 : decode cX8_does 33 = .ok (.getfield 225, 3) := by decide +kernel
theorem dX8_does_36 : decode cX8_does 36 = .ok (.iconst (-1), 1) := by decide +kernel
theorem dX8_does_37 : decode cX8_does 37 = .ok (.if_icmp .ne 18, 3) := by decide +kernel
theorem dX8_does_40 : decode cX8_does 40 = .ok (.aload_n 0, 1) := by decide +kernel
theorem dX8_does_41 : decode cX8_does 41 = .ok (.invokevirtual 235, 3) := by decide +kernel
theorem dX8_does_44 : decode cX8_does 44 = .ok (.iconst (-1), 1) := by decide +kernel
theorem dX8_does_45 : decode cX8_does 45 = .ok (.if_icmp .eq 10, 3) := by decide +kernel
theorem dX8_does_48 : decode cX8_does 48 = .ok (.aload_n 0, 1) := by decide +kernel
theorem dX8_does_49 : decode cX8_does 49 = .ok (.invokevirtual 251, 3) := by decide +kernel
theorem dX8_does_52 : decode cX8_does 52 = .ok (.goto (-20), 3) := by decide +kernel
theorem dX8_does_55 : decode cX8_does 55 = .ok (.aload_n 0, 1) := by decide +kernel
theorem dX8_does_56 : decode cX8_does 56 = .ok (.getfield 225, 3) := by decide +kernel
theorem dX8_does_59 : decode cX8_does 59 = .ok (.iconst (-1), 1) := by decide +kernel
theorem dX8_does_60 : decode cX8_does 60 = .ok (.if_icmp .eq 11, 3) := by decide +kernel
theorem dX8_does_63 : decode cX8_does 63 = .ok (.bipush (-10), 2) := by decide +kernel
theorem dX8_does_65 : decode cX8_does 65 = .ok (.aload_n 0, 1) := by decide +kernel
theorem dX8_does_66 : decode cX8_does 66 = .ok (.getfield 225, 3) := by decide +kernel
theorem dX8_does_69 : decode cX8_does 69 = .ok (.isub, 1) := by decide +kernel
theorem dX8_does_70 : decode cX8_does 70 = .ok (.ireturn, 1) := by decide +kernel
theorem dX8_does_71 : decode cX8_does 71 = .ok (.aload_n 0, 1) := by decide +kernel
theorem dX8_does_72 : decode cX8_does 72 = .ok (.invokevirtual 137, 3) := by decide +kernel
theorem dX8_does_75 : decode cX8_does 75 = .ok (.iconst 0, 1) := by decide +kernel
theorem dX8_does_76 : decode cX8_does 76 = .ok (.istore_n 1, 1) := by decide +kernel
theorem dX8_does_77 : decode cX8_does 77 = .ok (.iload_n 1, 1) := by decide +kernel
theorem dX8_does_78 : decode cX8_does 78 = .ok (.aload_n 0, 1) := by decide +kernel
theorem dX8_does_79 : decode cX8_does 79 = .ok (.getfield 244, 3) := by decide +kernel
theorem dX8_does_82 : decode cX8_does 82 = .ok (.if_icmp .ge 49, 3) := by decide +kernel
theorem dX8_does_85 : decode cX8_does 85 = .ok (.aload_n 0, 1) := by decide +kernel
theorem dX8_does_86 : decode cX8_does 86 = .ok (.iload_n 1, 1) := by decide +kernel
theorem dX8_does_87 : decode cX8_does 87 = .ok (.invokevirtual 254, 3) := by decide +kernel
theorem dX8_does_90 : decode cX8_does 90 = .ok (.ifCond .ge 35, 3) := by decide +kernel
theorem dX8_does_93 : decode cX8_does 93 = .ok (.iconst 0, 1) := by decide +kernel
theorem dX8_does_94 : decode cX8_does 94 = .ok (.istore_n 2, 1) := by decide +kernel
theorem dX8_does_95 : decode cX8_does 95 = .ok (.iload_n 2, 1) := by decide +kernel
theorem dX8_does_96 : decode cX8_does 96 = .ok (.bipush 15, 2) := by decide +kernel
theorem dX8_does_98 : decode cX8_does 98 = .ok (.if_icmp .ge 21, 3) := by decide +kernel
theorem dX8_does_101 : decode cX8_does 101 = .ok (.aload_n 0, 1) := by decide +kernel
theorem dX8_does_102 : decode cX8_does 102 = .ok (.getfield 7, 3) := by decide +kernel
theorem dX8_does_105 : decode cX8_does 105 = .ok (.iload_n 2, 1) := by decide +kernel
theorem dX8_does_106 : decode cX8_does 106 = .ok (.aload_n 0, 1) := by decide +kernel
theorem dX8_does_107 : decode cX8_does 107 = .ok (.getfield 13, 3) := by decide +kernel
theorem dX8_does_110 : decode cX8_does 110 = .ok (.iload_n 2, 1) := by decide +kernel
theorem dX8_does_111 : decode cX8_does 111 = .ok (.iaload, 1) := by decide +kernel
theorem dX8_does_112 : decode cX8_does 112 = .ok (.iastore, 1) := by decide +kernel
theorem dX8_does_113 : decode cX8_does 113 = .ok (.iinc 2 1, 3) := by decide +kernel
theorem dX8_does_116 : decode cX8_does 116 = .ok (.goto (-21), 3) := by decide +kernel
theorem dX8_does_119 : decode cX8_does 119 = .ok (.sipush (-1000), 3) := by decide +kernel
theorem dX8_does_122 : decode cX8_does 122 = .ok (.iload_n 1, 1) := by decide +kernel
theorem dX8_does_123 : decode cX8_does 123 = .ok (.isub, 1) := by decide +kernel
theorem dX8_does_124 : decode cX8_does 124 = .ok (.ireturn, 1) := by decide +kernel
theorem dX8_does_125 : decode cX8_does 125 = .ok (.iinc 1 1, 3) := by decide +kernel
theorem dX8_does_128 : decode cX8_does 128 = .ok (.goto (-51), 3) := by decide +kernel
theorem dX8_does_131 : decode cX8_does 131 = .ok (.aload_n 0, 1) := by decide +kernel
theorem dX8_does_132 : decode cX8_does 132 = .ok (.invokevirtual 134, 3) := by decide +kernel
theorem dX8_does_135 : decode cX8_does 135 = .ok (.aload_n 0, 1) := by decide +kernel
theorem dX8_does_136 : decode cX8_does 136 = .ok (.getfield 244, 3) := by decide +kernel
theorem dX8_does_139 : decode cX8_does 139 = .ok (.ireturn, 1) := by decide +kernel
theorem dX8_toldOf_0 : decode cX8_toldOf 0 = .ok (.iload_n 1, 1) := by decide +kernel
theorem dX8_toldOf_1 : decode cX8_toldOf 1 = .ok (.iconst 3, 1) := by decide +kernel
theorem dX8_toldOf_2 : decode cX8_toldOf 2 = .ok (.if_icmp .ge 12, 3) := by decide +kernel
theorem dX8_toldOf_5 : decode cX8_toldOf 5 = .ok (.aload_n 0, 1) := by decide +kernel
theorem dX8_toldOf_6 : decode cX8_toldOf 6 = .ok (.getfield 19, 3) := by decide +kernel
theorem dX8_toldOf_9 : decode cX8_toldOf 9 = .ok (.iload_n 1, 1) := by decide +kernel
theorem dX8_toldOf_10 : decode cX8_toldOf 10 = .ok (.iaload, 1) := by decide +kernel
theorem dX8_toldOf_11 : decode cX8_toldOf 11 = .ok (.goto 19, 3) := by decide +kernel
theorem dX8_toldOf_14 : decode cX8_toldOf 14 = .ok (.iload_n 1, 1) := by decide +kernel
theorem dX8_toldOf_15 : decode cX8_toldOf 15 = .ok (.iconst 3, 1) := by decide +kernel
theorem dX8_toldOf_16 : decode cX8_toldOf 16 = .ok (.if_icmp .ne 10, 3) := by decide +kernel
theorem dX8_toldOf_19 : decode cX8_toldOf 19 = .ok (.aload_n 0, 1) := by decide +kernel
theorem dX8_toldOf_20 : decode cX8_toldOf 20 = .ok (.getfield 219, 3) := by decide +kernel
theorem dX8_toldOf_23 : decode cX8_toldOf 23 = .ok (.goto 7, 3) := by decide +kernel
theorem dX8_toldOf_26 : decode cX8_toldOf 26 = .ok (.aload_n 0, 1) := by decide +kernel
theorem dX8_toldOf_27 : decode cX8_toldOf 27 = .ok (.getfield 128, 3) := by decide +kernel
theorem dX8_toldOf_30 : decode cX8_toldOf 30 = .ok (.ireturn, 1) := by decide +kernel
theorem dX8_told_0 : decode cX8_told 0 = .ok (.iload_n 1, 1) := by decide +kernel
theorem dX8_told_1 : decode cX8_told 1 = .ok (.iconst 0, 1) := by decide +kernel
theorem dX8_told_2 : decode cX8_told 2 = .ok (.iconst 4, 1) := by decide +kernel
theorem dX8_told_3 : decode cX8_told 3 = .ok (.invokestatic 100, 3) := by decide +kernel
theorem dX8_told_6 : decode cX8_told 6 = .ok (.ifCond .eq 11, 3) := by decide +kernel
theorem dX8_told_9 : decode cX8_told 9 = .ok (.aload_n 0, 1) := by decide +kernel
theorem dX8_told_10 : decode cX8_told 10 = .ok (.iload_n 1, 1) := by decide +kernel
theorem dX8_told_11 : decode cX8_told 11 = .ok (.invokevirtual 257, 3) := by decide +kernel
theorem dX8_told_14 : decode cX8_told 14 = .ok (.goto 9, 3) := by decide +kernel
theorem dX8_told_17 : decode cX8_told 17 = .ok (.aload_n 0, 1) := by decide +kernel
theorem dX8_told_18 : decode cX8_told 18 = .ok (.bipush (-2), 2) := by decide +kernel
theorem dX8_told_20 : decode cX8_told 20 = .ok (.invokevirtual 131, 3) := by decide +kernel
theorem dX8_told_23 : decode cX8_told 23 = .ok (.ireturn, 1) := by decide +kernel
theorem dX8_mix_0 : decode cX8_mix 0 = .ok (.aload_n 0, 1) := by decide +kernel
theorem dX8_mix_1 : decode cX8_mix 1 = .ok (.ldc2_w 260, 3) := by decide +kernel
theorem dX8_mix_4 : decode cX8_mix 4 = .ok (.aload_n 0, 1) := by decide +kernel
theorem dX8_mix_5 : decode cX8_mix 5 = .ok (.getfield 262, 3) := by decide +kernel
theorem dX8_mix_8 : decode cX8_mix 8 = .ok (.lmul, 1) := by decide +kernel
theorem dX8_mix_9 : decode cX8_mix 9 = .ok (.lload_n 1, 1) := by decide +kernel
theorem dX8_mix_10 : decode cX8_mix 10 = .ok (.ladd, 1) := by decide +kernel
theorem dX8_mix_11 : decode cX8_mix 11 = .ok (.putfield 262, 3) := by decide +kernel
theorem dX8_mix_14 : decode cX8_mix 14 = .ok (.return_, 1) := by decide +kernel
theorem dX8_digest_0 : decode cX8_digest 0 = .ok (.aload_n 0, 1) := by decide +kernel
theorem dX8_digest_1 : decode cX8_digest 1 = .ok (.ldc2_w 266, 3) := by decide +kernel
theorem dX8_digest_4 : decode cX8_digest 4 = .ok (.putfield 262, 3) := by decide +kernel
theorem dX8_digest_7 : decode cX8_digest 7 = .ok (.iconst 0, 1) := by decide +kernel
theorem dX8_digest_8 : decode cX8_digest 8 = .ok (.istore_n 1, 1) := by decide +kernel
theorem dX8_digest_9 : decode cX8_digest 9 = .ok (.iload_n 1, 1) := by decide +kernel
theorem dX8_digest_10 : decode cX8_digest 10 = .ok (.iconst 5, 1) := by decide +kernel
theorem dX8_digest_11 : decode cX8_digest 11 = .ok (.if_icmp .ge 19, 3) := by decide +kernel
theorem dX8_digest_14 : decode cX8_digest 14 = .ok (.aload_n 0, 1) := by decide +kernel
theorem dX8_digest_15 : decode cX8_digest 15 = .ok (.aload_n 0, 1) := by decide +kernel
theorem dX8_digest_16 : decode cX8_digest 16 = .ok (.iload_n 1, 1) := by decide +kernel
theorem dX8_digest_17 : decode cX8_digest 17 = .ok (.invokevirtual 257, 3) := by decide +kernel
theorem dX8_digest_20 : decode cX8_digest 20 = .ok (.i2l, 1) := by decide +kernel
theorem dX8_digest_21 : decode cX8_digest 21 = .ok (.invokevirtual 268, 3) := by decide +kernel
theorem dX8_digest_24 : decode cX8_digest 24 = .ok (.iinc 1 1, 3) := by decide +kernel
theorem dX8_digest_27 : decode cX8_digest 27 = .ok (.goto (-18), 3) := by decide +kernel
theorem dX8_digest_30 : decode cX8_digest 30 = .ok (.iconst 0, 1) := by decide +kernel
theorem dX8_digest_31 : decode cX8_digest 31 = .ok (.istore_n 1, 1) := by decide +kernel
theorem dX8_digest_32 : decode cX8_digest 32 = .ok (.iload_n 1, 1) := by decide +kernel
theorem dX8_digest_33 : decode cX8_digest 33 = .ok (.bipush 10, 2) := by decide +kernel
theorem dX8_digest_35 : decode cX8_digest 35 = .ok (.if_icmp .ge 19, 3) := by decide +kernel
theorem dX8_digest_38 : decode cX8_digest 38 = .ok (.aload_n 0, 1) := by decide +kernel
theorem dX8_digest_39 : decode cX8_digest 39 = .ok (.aload_n 0, 1) := by decide +kernel
theorem dX8_digest_40 : decode cX8_digest 40 = .ok (.iload_n 1, 1) := by decide +kernel
theorem dX8_digest_41 : decode cX8_digest 41 = .ok (.invokevirtual 185, 3) := by decide +kernel
theorem dX8_digest_44 : decode cX8_digest 44 = .ok (.i2l, 1) := by decide +kernel
theorem dX8_digest_45 : decode cX8_digest 45 = .ok (.invokevirtual 268, 3) := by decide +kernel
theorem dX8_digest_48 : decode cX8_digest 48 = .ok (.iinc 1 1, 3) := by decide +kernel
theorem dX8_digest_51 : decode cX8_digest 51 = .ok (.goto (-19), 3) := by decide +kernel
theorem dX8_digest_54 : decode cX8_digest 54 = .ok (.iconst 0, 1) := by decide +kernel
theorem dX8_digest_55 : decode cX8_digest 55 = .ok (.istore_n 1, 1) := by decide +kernel
theorem dX8_digest_56 : decode cX8_digest 56 = .ok (.iload_n 1, 1) := by decide +kernel
theorem dX8_digest_57 : decode cX8_digest 57 = .ok (.bipush 6, 2) := by decide +kernel
theorem dX8_digest_59 : decode cX8_digest 59 = .ok (.if_icmp .ge 76, 3) := by decide +kernel
theorem dX8_digest_62 : decode cX8_digest 62 = .ok (.iconst 0, 1) := by decide +kernel
theorem dX8_digest_63 : decode cX8_digest 63 = .ok (.istore_n 2, 1) := by decide +kernel
theorem dX8_digest_64 : decode cX8_digest 64 = .ok (.iload_n 2, 1) := by decide +kernel
theorem dX8_digest_65 : decode cX8_digest 65 = .ok (.bipush 6, 2) := by decide +kernel
theorem dX8_digest_67 : decode cX8_digest 67 = .ok (.if_icmp .ge 27, 3) := by decide +kernel
theorem dX8_digest_70 : decode cX8_digest 70 = .ok (.aload_n 0, 1) := by decide +kernel
theorem dX8_digest_71 : decode cX8_digest 71 = .ok (.aload_n 0, 1) := by decide +kernel
theorem dX8_digest_72 : decode cX8_digest 72 = .ok (.aload_n 0, 1) := by decide +kernel
theorem dX8_digest_73 : decode cX8_digest 73 = .ok (.getfield 7, 3) := by decide +kernel
theorem dX8_digest_76 : decode cX8_digest 76 = .ok (.iconst 1, 1) := by decide +kernel
theorem dX8_digest_77 : decode cX8_digest 77 = .ok (.iload_n 1, 1) := by decide +kernel
theorem dX8_digest_78 : decode cX8_digest 78 = .ok (.iadd, 1) := by decide +kernel
theorem dX8_digest_79 : decode cX8_digest 79 = .ok (.iaload, 1) := by decide +kernel
theorem dX8_digest_80 : decode cX8_digest 80 = .ok (.iload_n 2, 1) := by decide +kernel
theorem dX8_digest_81 : decode cX8_digest 81 = .ok (.invokevirtual 182, 3) := by decide +kernel
theorem dX8_digest_84 : decode cX8_digest 84 = .ok (.i2l, 1) := by decide +kernel
theorem dX8_digest_85 : decode cX8_digest 85 = .ok (.invokevirtual 268, 3) := by decide +kernel
theorem dX8_digest_88 : decode cX8_digest 88 = .ok (.iinc 2 1, 3) := by decide +kernel
theorem dX8_digest_91 : decode cX8_digest 91 = .ok (.goto (-27), 3) := by decide +kernel
theorem dX8_digest_94 : decode cX8_digest 94 = .ok (.iconst 0, 1) := by decide +kernel
theorem dX8_digest_95 : decode cX8_digest 95 = .ok (.istore_n 2, 1) := by decide +kernel
theorem dX8_digest_96 : decode cX8_digest 96 = .ok (.iload_n 2, 1) := by decide +kernel
theorem dX8_digest_97 : decode cX8_digest 97 = .ok (.aload_n 0, 1) := by decide +kernel
theorem dX8_digest_98 : decode cX8_digest 98 = .ok (.getfield 7, 3) := by decide +kernel
theorem dX8_digest_101 : decode cX8_digest 101 = .ok (.iconst 0, 1) := by decide +kernel
theorem dX8_digest_102 : decode cX8_digest 102 = .ok (.iaload, 1) := by decide +kernel
theorem dX8_digest_103 : decode cX8_digest 103 = .ok (.if_icmp .ge 26, 3) := by decide +kernel
theorem dX8_digest_106 : decode cX8_digest 106 = .ok (.aload_n 0, 1) := by decide +kernel
theorem dX8_digest_107 : decode cX8_digest 107 = .ok (.aload_n 0, 1) := by decide +kernel
theorem dX8_digest_108 : decode cX8_digest 108 = .ok (.getfield 7, 3) := by decide +kernel
theorem dX8_digest_111 : decode cX8_digest 111 = .ok (.iconst 1, 1) := by decide +kernel
theorem dX8_digest_112 : decode cX8_digest 112 = .ok (.iload_n 1, 1) := by decide +kernel
theorem dX8_digest_113 : decode cX8_digest 113 = .ok (.iadd, 1) := by decide +kernel
theorem dX8_digest_114 : decode cX8_digest 114 = .ok (.iaload, 1) := by decide +kernel
theorem dX8_digest_115 : decode cX8_digest 115 = .ok (.iload_n 2, 1) := by decide +kernel
theorem dX8_digest_116 : decode cX8_digest 116 = .ok (.invokestatic 64, 3) := by decide +kernel
theorem dX8_digest_119 : decode cX8_digest 119 = .ok (.i2l, 1) := by decide +kernel
theorem dX8_digest_120 : decode cX8_digest 120 = .ok (.invokevirtual 268, 3) := by decide +kernel
theorem dX8_digest_123 : decode cX8_digest 123 = .ok (.iinc 2 1, 3) := by decide +kernel
theorem dX8_digest_126 : decode cX8_digest 126 = .ok (.goto (-30), 3) := by decide +kernel
theorem dX8_digest_129 : decode cX8_digest 129 = .ok (.iinc 1 1, 3) := by decide +kernel
theorem dX8_digest_132 : decode cX8_digest 132 = .ok (.goto (-76), 3) := by decide +kernel
theorem dX8_digest_135 : decode cX8_digest 135 = .ok (.iconst 0, 1) := by decide +kernel
theorem dX8_digest_136 : decode cX8_digest 136 = .ok (.istore_n 1, 1) := by decide +kernel
theorem dX8_digest_137 : decode cX8_digest 137 = .ok (.iload_n 1, 1) := by decide +kernel
theorem dX8_digest_138 : decode cX8_digest 138 = .ok (.bipush 8, 2) := by decide +kernel
theorem dX8_digest_140 : decode cX8_digest 140 = .ok (.if_icmp .ge 23, 3) := by decide +kernel
theorem dX8_digest_143 : decode cX8_digest 143 = .ok (.aload_n 0, 1) := by decide +kernel
theorem dX8_digest_144 : decode cX8_digest 144 = .ok (.aload_n 0, 1) := by decide +kernel
theorem dX8_digest_145 : decode cX8_digest 145 = .ok (.getfield 7, 3) := by decide +kernel
theorem dX8_digest_148 : decode cX8_digest 148 = .ok (.bipush 7, 2) := by decide +kernel
theorem dX8_digest_150 : decode cX8_digest 150 = .ok (.iload_n 1, 1) := by decide +kernel
theorem dX8_digest_151 : decode cX8_digest 151 = .ok (.iadd, 1) := by decide +kernel
theorem dX8_digest_152 : decode cX8_digest 152 = .ok (.iaload, 1) := by decide +kernel
theorem dX8_digest_153 : decode cX8_digest 153 = .ok (.i2l, 1) := by decide +kernel
theorem dX8_digest_154 : decode cX8_digest 154 = .ok (.invokevirtual 268, 3) := by decide +kernel
theorem dX8_digest_157 : decode cX8_digest 157 = .ok (.iinc 1 1, 3) := by decide +kernel
theorem dX8_digest_160 : decode cX8_digest 160 = .ok (.goto (-23), 3) := by decide +kernel
theorem dX8_digest_163 : decode cX8_digest 163 = .ok (.iconst 0, 1) := by decide +kernel
theorem dX8_digest_164 : decode cX8_digest 164 = .ok (.istore_n 1, 1) := by decide +kernel
theorem dX8_digest_165 : decode cX8_digest 165 = .ok (.iload_n 1, 1) := by decide +kernel
theorem dX8_digest_166 : decode cX8_digest 166 = .ok (.iconst 4, 1) := by decide +kernel
theorem dX8_digest_167 : decode cX8_digest 167 = .ok (.if_icmp .ge 53, 3) := by decide +kernel
theorem dX8_digest_170 : decode cX8_digest 170 = .ok (.iconst 1, 1) := by decide +kernel
theorem dX8_digest_171 : decode cX8_digest 171 = .ok (.istore_n 2, 1) := by decide +kernel
theorem dX8_digest_172 : decode cX8_digest 172 = .ok (.iload_n 2, 1) := by decide +kernel
theorem dX8_digest_173 : decode cX8_digest 173 = .ok (.bipush 8, 2) := by decide +kernel
theorem dX8_digest_175 : decode cX8_digest 175 = .ok (.if_icmp .gt 39, 3) := by decide +kernel
theorem dX8_digest_178 : decode cX8_digest 178 = .ok (.aload_n 0, 1) := by decide +kernel
theorem dX8_digest_179 : decode cX8_digest 179 = .ok (.iload_n 1, 1) := by decide +kernel
theorem dX8_digest_180 : decode cX8_digest 180 = .ok (.iconst 2, 1) := by decide +kernel
theorem dX8_digest_181 : decode cX8_digest 181 = .ok (.if_icmp .ge 15, 3) := by decide +kernel
theorem dX8_digest_184 : decode cX8_digest 184 = .ok (.aload_n 0, 1) := by decide +kernel
theorem dX8_digest_185 : decode cX8_digest 185 = .ok (.iconst 0, 1) := by decide +kernel
theorem dX8_digest_186 : decode cX8_digest 186 = .ok (.iload_n 1, 1) := by decide +kernel
theorem dX8_digest_187 : decode cX8_digest 187 = .ok (.iconst 1, 1) := by decide +kernel
theorem dX8_digest_188 : decode cX8_digest 188 = .ok (.iadd, 1) := by decide +kernel
theorem dX8_digest_189 : decode cX8_digest 189 = .ok (.iload_n 2, 1) := by decide +kernel
theorem dX8_digest_190 : decode cX8_digest 190 = .ok (.invokevirtual 216, 3) := by decide +kernel
theorem dX8_digest_193 : decode cX8_digest 193 = .ok (.goto 12, 3) := by decide +kernel
theorem dX8_digest_196 : decode cX8_digest 196 = .ok (.aload_n 0, 1) := by decide +kernel
theorem dX8_digest_197 : decode cX8_digest 197 = .ok (.iload_n 1, 1) := by decide +kernel
theorem dX8_digest_198 : decode cX8_digest 198 = .ok (.iconst 1, 1) := by decide +kernel
theorem dX8_digest_199 : decode cX8_digest 199 = .ok (.isub, 1) := by decide +kernel
theorem dX8_digest_200 : decode cX8_digest 200 = .ok (.iconst 0, 1) := by decide +kernel
theorem dX8_digest_201 : decode cX8_digest 201 = .ok (.iload_n 2, 1) := by decide +kernel
theorem dX8_digest_202 : decode cX8_digest 202 = .ok (.invokevirtual 216, 3) := by decide +kernel
theorem dX8_digest_205 : decode cX8_digest 205 = .ok (.invokevirtual 268, 3) := by decide +kernel
theorem dX8_digest_208 : decode cX8_digest 208 = .ok (.iinc 2 1, 3) := by decide +kernel
theorem dX8_digest_211 : decode cX8_digest 211 = .ok (.goto (-39), 3) := by decide +kernel
theorem dX8_digest_214 : decode cX8_digest 214 = .ok (.iinc 1 1, 3) := by decide +kernel
theorem dX8_digest_217 : decode cX8_digest 217 = .ok (.goto (-52), 3) := by decide +kernel
theorem dX8_digest_220 : decode cX8_digest 220 = .ok (.aload_n 0, 1) := by decide +kernel
theorem dX8_digest_221 : decode cX8_digest 221 = .ok (.getfield 262, 3) := by decide +kernel
theorem dX8_digest_224 : decode cX8_digest 224 = .ok (.lreturn, 1) := by decide +kernel
