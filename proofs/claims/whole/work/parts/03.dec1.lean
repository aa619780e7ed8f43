theorem dX0_init_0 : decode cX0_init 0 = .ok (.aload_n 0, 1) := by decide +kernel
theorem dX0_init_1 : decode cX0_init 1 = .ok (.invokespecial 3, 3) := by decide +kernel
theorem dX0_init_4 : decode cX0_init 4 = .ok (.aload_n 0, 1) := by decide +kernel
theorem dX0_init_5 : decode cX0_init 5 = .ok (.new 9, 3) := by decide +kernel
theorem dX0_init_8 : decode cX0_init 8 = .ok (.dup, 1) := by decide +kernel
theorem dX0_init_9 : decode cX0_init 9 = .ok (.invokespecial 11, 3) := by decide +kernel
theorem dX0_init_12 : decode cX0_init 12 = .ok (.putfield 12, 3) := by decide +kernel
theorem dX0_init_15 : decode cX0_init 15 = .ok (.aload_n 0, 1) := by decide +kernel
theorem dX0_init_16 : decode cX0_init 16 = .ok (.new 18, 3) := by decide +kernel
theorem dX0_init_19 : decode cX0_init 19 = .ok (.dup, 1) := by decide +kernel
theorem dX0_init_20 : decode cX0_init 20 = .ok (.invokespecial 20, 3) := by decide +kernel
theorem dX0_init_23 : decode cX0_init 23 = .ok (.putfield 21, 3) := by decide +kernel
theorem dX0_init_26 : decode cX0_init 26 = .ok (.aload_n 0, 1) := by decide +kernel
theorem dX0_init_27 : decode cX0_init 27 = .ok (.new 25, 3) := by decide +kernel
theorem dX0_init_30 : decode cX0_init 30 = .ok (.dup, 1) := by decide +kernel
theorem dX0_init_31 : decode cX0_init 31 = .ok (.invokespecial 27, 3) := by decide +kernel
theorem dX0_init_34 : decode cX0_init 34 = .ok (.putfield 28, 3) := by decide +kernel
theorem dX0_init_37 : decode cX0_init 37 = .ok (.return_, 1) := by decide +kernel
theorem dX0_isPoint_0 : decode cX0_isPoint 0 = .ok (.iload_n 1, 1) := by decide +kernel
theorem dX0_isPoint_1 : decode cX0_isPoint 1 = .ok (.ifCond .lt 18, 3) := by decide +kernel
theorem dX0_isPoint_4 : decode cX0_isPoint 4 = .ok (.iload_n 1, 1) := by decide +kernel
theorem dX0_isPoint_5 : decode cX0_isPoint 5 = .ok (.aload_n 0, 1) := by decide +kernel
theorem dX0_isPoint_6 : decode cX0_isPoint 6 = .ok (.getfield 12, 3) := by decide +kernel
theorem dX0_isPoint_9 : decode cX0_isPoint 9 = .ok (.getfield 32, 3) := by decide +kernel
theorem dX0_isPoint_12 : decode cX0_isPoint 12 = .ok (.if_icmp .ge 7, 3) := by decide +kernel
theorem dX0_isPoint_15 : decode cX0_isPoint 15 = .ok (.iconst 1, 1) := by decide +kernel
theorem dX0_isPoint_16 : decode cX0_isPoint 16 = .ok (.goto 4, 3) := by decide +kernel
theorem dX0_isPoint_19 : decode cX0_isPoint 19 = .ok (.iconst 0, 1) := by decide +kernel
theorem dX0_isPoint_20 : decode cX0_isPoint 20 = .ok (.ireturn, 1) := by decide +kernel
theorem dX0_part_0 : decode cX0_part 0 = .ok (.aload_n 0, 1) := by decide +kernel
theorem dX0_part_1 : decode cX0_part 1 = .ok (.getfield 12, 3) := by decide +kernel
theorem dX0_part_4 : decode cX0_part 4 = .ok (.getfield 36, 3) := by decide +kernel
theorem dX0_part_7 : decode cX0_part 7 = .ok (.iload_n 1, 1) := by decide +kernel
theorem dX0_part_8 : decode cX0_part 8 = .ok (.aaload, 1) := by decide +kernel
theorem dX0_part_9 : decode cX0_part 9 = .ok (.areturn, 1) := by decide +kernel
theorem dX0_changePoints_0 : decode cX0_changePoints 0 = .ok (.iload_n 1, 1) := by decide +kernel
theorem dX0_changePoints_1 : decode cX0_changePoints 1 = .ok (.iconst 1, 1) := by decide +kernel
theorem dX0_changePoints_2 : decode cX0_changePoints 2 = .ok (.if_icmp .lt 9, 3) := by decide +kernel
theorem dX0_changePoints_5 : decode cX0_changePoints 5 = .ok (.iload_n 1, 1) := by decide +kernel
theorem dX0_changePoints_6 : decode cX0_changePoints 6 = .ok (.bipush 8, 2) := by decide +kernel
theorem dX0_changePoints_8 : decode cX0_changePoints 8 = .ok (.if_icmp .le 6, 3) := by decide +kernel
theorem dX0_changePoints_11 : decode cX0_changePoints 11 = .ok (.bipush (-2), 2) := by decide +kernel
theorem dX0_changePoints_13 : decode cX0_changePoints 13 = .ok (.ireturn, 1) := by decide +kernel
theorem dX0_changePoints_14 : decode cX0_changePoints 14 = .ok (.aload_n 0, 1) := by decide +kernel
theorem dX0_changePoints_15 : decode cX0_changePoints 15 = .ok (.getfield 12, 3) := by decide +kernel
theorem dX0_changePoints_18 : decode cX0_changePoints 18 = .ok (.getfield 32, 3) := by decide +kernel
theorem dX0_changePoints_21 : decode cX0_changePoints 21 = .ok (.istore_n 2, 1) := by decide +kernel
theorem dX0_changePoints_22 : decode cX0_changePoints 22 = .ok (.aload_n 0, 1) := by decide +kernel
theorem dX0_changePoints_23 : decode cX0_changePoints 23 = .ok (.getfield 12, 3) := by decide +kernel
theorem dX0_changePoints_26 : decode cX0_changePoints 26 = .ok (.iload_n 1, 1) := by decide +kernel
theorem dX0_changePoints_27 : decode cX0_changePoints 27 = .ok (.putfield 32, 3) := by decide +kernel
theorem dX0_changePoints_30 : decode cX0_changePoints 30 = .ok (.iconst 0, 1) := by decide +kernel
theorem dX0_changePoints_31 : decode cX0_changePoints 31 = .ok (.istore_n 3, 1) := by decide +kernel
theorem dX0_changePoints_32 : decode cX0_changePoints 32 = .ok (.iload_n 3, 1) := by decide +kernel
theorem dX0_changePoints_33 : decode cX0_changePoints 33 = .ok (.bipush 6, 2) := by decide +kernel
theorem dX0_changePoints_35 : decode cX0_changePoints 35 = .ok (.if_icmp .ge 22, 3) := by decide +kernel
theorem dX0_changePoints_38 : decode cX0_changePoints 38 = .ok (.aload_n 0, 1) := by decide +kernel
theorem dX0_changePoints_39 : decode cX0_changePoints 39 = .ok (.getfield 12, 3) := by decide +kernel
theorem dX0_changePoints_42 : decode cX0_changePoints 42 = .ok (.getfield 36, 3) := by decide +kernel
theorem dX0_changePoints_45 : decode cX0_changePoints 45 = .ok (.iload_n 3, 1) := by decide +kernel
theorem dX0_changePoints_46 : decode cX0_changePoints 46 = .ok (.aaload, 1) := by decide +kernel
theorem dX0_changePoints_47 : decode cX0_changePoints 47 = .ok (.iload_n 1, 1) := by decide +kernel
theorem dX0_changePoints_48 : decode cX0_changePoints 48 = .ok (.invokevirtual 40, 3) := by decide +kernel
theorem dX0_changePoints_51 : decode cX0_changePoints 51 = .ok (.iinc 3 1, 3) := by decide +kernel
theorem dX0_changePoints_54 : decode cX0_changePoints 54 = .ok (.goto (-22), 3) := by decide +kernel
theorem dX0_changePoints_57 : decode cX0_changePoints 57 = .ok (.iload_n 2, 1) := by decide +kernel
theorem dX0_changePoints_58 : decode cX0_changePoints 58 = .ok (.ireturn, 1) := by decide +kernel
theorem dX0_unite_0 : decode cX0_unite 0 = .ok (.iload_n 1, 1) := by decide +kernel
theorem dX0_unite_1 : decode cX0_unite 1 = .ok (.invokestatic 44, 3) := by decide +kernel
theorem dX0_unite_4 : decode cX0_unite 4 = .ok (.ifCond .eq 19, 3) := by decide +kernel
theorem dX0_unite_7 : decode cX0_unite 7 = .ok (.aload_n 0, 1) := by decide +kernel
theorem dX0_unite_8 : decode cX0_unite 8 = .ok (.iload_n 2, 1) := by decide +kernel
theorem dX0_unite_9 : decode cX0_unite 9 = .ok (.invokevirtual 48, 3) := by decide +kernel
theorem dX0_unite_12 : decode cX0_unite 12 = .ok (.ifCond .eq 11, 3) := by decide +kernel
theorem dX0_unite_15 : decode cX0_unite 15 = .ok (.aload_n 0, 1) := by decide +kernel
theorem dX0_unite_16 : decode cX0_unite 16 = .ok (.iload_n 3, 1) := by decide +kernel
theorem dX0_unite_17 : decode cX0_unite 17 = .ok (.invokevirtual 48, 3) := by decide +kernel
theorem dX0_unite_20 : decode cX0_unite 20 = .ok (.ifCond .ne 6, 3) := by decide +kernel
theorem dX0_unite_23 : decode cX0_unite 23 = .ok (.bipush (-2), 2) := by decide +kernel
theorem dX0_unite_25 : decode cX0_unite 25 = .ok (.ireturn, 1) := by decide +kernel
theorem dX0_unite_26 : decode cX0_unite 26 = .ok (.aload_n 0, 1) := by decide +kernel
theorem dX0_unite_27 : decode cX0_unite 27 = .ok (.getfield 21, 3) := by decide +kernel
theorem dX0_unite_30 : decode cX0_unite 30 = .ok (.aload_n 0, 1) := by decide +kernel
theorem dX0_unite_31 : decode cX0_unite 31 = .ok (.getfield 28, 3) := by decide +kernel
theorem dX0_unite_34 : decode cX0_unite 34 = .ok (.aload_n 0, 1) := by decide +kernel
theorem dX0_unite_35 : decode cX0_unite 35 = .ok (.getfield 12, 3) := by decide +kernel
theorem dX0_unite_38 : decode cX0_unite 38 = .ok (.getfield 36, 3) := by decide +kernel
theorem dX0_unite_41 : decode cX0_unite 41 = .ok (.iload_n 1, 1) := by decide +kernel
theorem dX0_unite_42 : decode cX0_unite 42 = .ok (.aaload, 1) := by decide +kernel
theorem dX0_unite_43 : decode cX0_unite 43 = .ok (.aload_n 0, 1) := by decide +kernel
theorem dX0_unite_44 : decode cX0_unite 44 = .ok (.getfield 21, 3) := by decide +kernel
theorem dX0_unite_47 : decode cX0_unite 47 = .ok (.aload_n 0, 1) := by decide +kernel
theorem dX0_unite_48 : decode cX0_unite 48 = .ok (.getfield 12, 3) := by decide +kernel
theorem dX0_unite_51 : decode cX0_unite 51 = .ok (.getfield 32, 3) := by decide +kernel
theorem dX0_unite_54 : decode cX0_unite 54 = .ok (.iload_n 2, 1) := by decide +kernel
theorem dX0_unite_55 : decode cX0_unite 55 = .ok (.iload_n 3, 1) := by decide +kernel
theorem dX0_unite_56 : decode cX0_unite 56 = .ok (.invokevirtual 51, 3) := by decide +kernel
theorem dX0_unite_59 : decode cX0_unite 59 = .ok (.invokevirtual 55, 3) := by decide +kernel
theorem dX0_unite_62 : decode cX0_unite 62 = .ok (.aload_n 0, 1) := by decide +kernel
theorem dX0_unite_63 : decode cX0_unite 63 = .ok (.iload_n 1, 1) := by decide +kernel
theorem dX0_unite_64 : decode cX0_unite 64 = .ok (.invokevirtual 59, 3) := by decide +kernel
theorem dX0_unite_67 : decode cX0_unite 67 = .ok (.ireturn, 1) := by decide +kernel
theorem dX0_putMeet_0 : decode cX0_putMeet 0 = .ok (.iload_n 1, 1) := by decide +kernel
theorem dX0_putMeet_1 : decode cX0_putMeet 1 = .ok (.invokestatic 44, 3) := by decide +kernel
theorem dX0_putMeet_4 : decode cX0_putMeet 4 = .ok (.ifCond .eq 17, 3) := by decide +kernel
theorem dX0_putMeet_7 : decode cX0_putMeet 7 = .ok (.iload_n 2, 1) := by decide +kernel
theorem dX0_putMeet_8 : decode cX0_putMeet 8 = .ok (.invokestatic 44, 3) := by decide +kernel
theorem dX0_putMeet_11 : decode cX0_putMeet 11 = .ok (.ifCond .eq 10, 3) := by decide +kernel
theorem dX0_putMeet_14 : decode cX0_putMeet 14 = .ok (.iload_n 3, 1) := by decide +kernel
theorem dX0_putMeet_15 : decode cX0_putMeet 15 = .ok (.invokestatic 44, 3) := by decide +kernel
theorem dX0_putMeet_18 : decode cX0_putMeet 18 = .ok (.ifCond .ne 6, 3) := by decide +kernel
theorem dX0_putMeet_21 : decode cX0_putMeet 21 = .ok (.bipush (-2), 2) := by decide +kernel
theorem dX0_putMeet_23 : decode cX0_putMeet 23 = .ok (.ireturn, 1) := by decide +kernel
theorem dX0_putMeet_24 : decode cX0_putMeet 24 = .ok (.aload_n 0, 1) := by decide +kernel
theorem dX0_putMeet_25 : decode cX0_putMeet 25 = .ok (.getfield 21, 3) := by decide +kernel
theorem dX0_putMeet_28 : decode cX0_putMeet 28 = .ok (.aload_n 0, 1) := by decide +kernel
theorem dX0_putMeet_29 : decode cX0_putMeet 29 = .ok (.getfield 28, 3) := by decide +kernel
theorem dX0_putMeet_32 : decode cX0_putMeet 32 = .ok (.aload_n 0, 1) := by decide +kernel
theorem dX0_putMeet_33 : decode cX0_putMeet 33 = .ok (.getfield 12, 3) := by decide +kernel
theorem dX0_putMeet_36 : decode cX0_putMeet 36 = .ok (.getfield 36, 3) := by decide +kernel
theorem dX0_putMeet_39 : decode cX0_putMeet 39 = .ok (.iload_n 2, 1) := by decide +kernel
theorem dX0_putMeet_40 : decode cX0_putMeet 40 = .ok (.aaload, 1) := by decide +kernel
theorem dX0_putMeet_41 : decode cX0_putMeet 41 = .ok (.aload_n 0, 1) := by decide +kernel
theorem dX0_putMeet_42 : decode cX0_putMeet 42 = .ok (.getfield 12, 3) := by decide +kernel
theorem dX0_putMeet_45 : decode cX0_putMeet 45 = .ok (.getfield 36, 3) := by decide +kernel
theorem dX0_putMeet_48 : decode cX0_putMeet 48 = .ok (.iload_n 3, 1) := by decide +kernel
theorem dX0_putMeet_49 : decode cX0_putMeet 49 = .ok (.aaload, 1) := by decide +kernel
theorem dX0_putMeet_50 : decode cX0_putMeet 50 = .ok (.invokevirtual 63, 3) := by decide +kernel
theorem dX0_putMeet_53 : decode cX0_putMeet 53 = .ok (.aload_n 0, 1) := by decide +kernel
theorem dX0_putMeet_54 : decode cX0_putMeet 54 = .ok (.iload_n 1, 1) := by decide +kernel
theorem dX0_putMeet_55 : decode cX0_putMeet 55 = .ok (.invokevirtual 59, 3) := by decide +kernel
theorem dX0_putMeet_58 : decode cX0_putMeet 58 = .ok (.ireturn, 1) := by decide +kernel
theorem dX0_putJoin_0 : decode cX0_putJoin 0 = .ok (.iload_n 1, 1) := by decide +kernel
theorem dX0_putJoin_1 : decode cX0_putJoin 1 = .ok (.invokestatic 44, 3) := by decide +kernel
theorem dX0_putJoin_4 : decode cX0_putJoin 4 = .ok (.ifCond .eq 17, 3) := by decide +kernel
theorem dX0_putJoin_7 : decode cX0_putJoin 7 = .ok (.iload_n 2, 1) := by decide +kernel
theorem dX0_putJoin_8 : decode cX0_putJoin 8 = .ok (.invokestatic 44, 3) := by decide +kernel
theorem dX0_putJoin_11 : decode cX0_putJoin 11 = .ok (.ifCond .eq 10, 3) := by decide +kernel
theorem dX0_putJoin_14 : decode cX0_putJoin 14 = .ok (.iload_n 3, 1) := by decide +kernel
theorem dX0_putJoin_15 : decode cX0_putJoin 15 = .ok (.invokestatic 44, 3) := by decide +kernel
theorem dX0_putJoin_18 : decode cX0_putJoin 18 = .ok (.ifCond .ne 6, 3) := by decide +kernel
theorem dX0_putJoin_21 : decode cX0_putJoin 21 = .ok (.bipush (-2), 2) := by decide +kernel
theorem dX0_putJoin_23 : decode cX0_putJoin 23 = .ok (.ireturn, 1) := by decide +kernel
theorem dX0_putJoin_24 : decode cX0_putJoin 24 = .ok (.aload_n 0, 1) := by decide +kernel
theorem dX0_putJoin_25 : decode cX0_putJoin 25 = .ok (.getfield 21, 3) := by decide +kernel
theorem dX0_putJoin_28 : decode cX0_putJoin 28 = .ok (.aload_n 0, 1) := by decide +kernel
theorem dX0_putJoin_29 : decode cX0_putJoin 29 = .ok (.getfield 28, 3) := by decide +kernel
theorem dX0_putJoin_32 : decode cX0_putJoin 32 = .ok (.aload_n 0, 1) := by decide +kernel
theorem dX0_putJoin_33 : decode cX0_putJoin 33 = .ok (.getfield 12, 3) := by decide +kernel
theorem dX0_putJoin_36 : decode cX0_putJoin 36 = .ok (.getfield 36, 3) := by decide +kernel
theorem dX0_putJoin_39 : decode cX0_putJoin 39 = .ok (.iload_n 2, 1) := by decide +kernel
theorem dX0_putJoin_40 : decode cX0_putJoin 40 = .ok (.aaload, 1) := by decide +kernel
theorem dX0_putJoin_41 : decode cX0_putJoin 41 = .ok (.aload_n 0, 1) := by decide +kernel
theorem dX0_putJoin_42 : decode cX0_putJoin 42 = .ok (.getfield 12, 3) := by decide +kernel
theorem dX0_putJoin_45 : decode cX0_putJoin 45 = .ok (.getfield 36, 3) := by decide +kernel
theorem dX0_putJoin_48 : decode cX0_putJoin 48 = .ok (.iload_n 3, 1) := by decide +kernel
theorem dX0_putJoin_49 : decode cX0_putJoin 49 = .ok (.aaload, 1) := by decide +kernel
theorem dX0_putJoin_50 : decode cX0_putJoin 50 = .ok (.invokevirtual 55, 3) := by decide +kernel
theorem dX0_putJoin_53 : decode cX0_putJoin 53 = .ok (.aload_n 0, 1) := by decide +kernel
theorem dX0_putJoin_54 : decode cX0_putJoin 54 = .ok (.iload_n 1, 1) := by decide +kernel
theorem dX0_putJoin_55 : decode cX0_putJoin 55 = .ok (.invokevirtual 59, 3) := by decide +kernel
theorem dX0_putJoin_58 : decode cX0_putJoin 58 = .ok (.ireturn, 1) := by decide +kernel
theorem dX0_putComplement_0 : decode cX0_putComplement 0 = .ok (.iload_n 1, 1) := by decide +kernel
theorem dX0_putComplement_1 : decode cX0_putComplement 1 = .ok (.invokestatic 44, 3) := by decide +kernel
theorem dX0_putComplement_4 : decode cX0_putComplement 4 = .ok (.ifCond .eq 10, 3) := by decide +kernel
theorem dX0_putComplement_7 : decode cX0_putComplement 7 = .ok (.iload_n 2, 1) := by decide +kernel
theorem dX0_putComplement_8 : decode cX0_putComplement 8 = .ok (.invokestatic 44, 3) := by decide +kernel
theorem dX0_putComplement_11 : decode cX0_putComplement 11 = .ok (.ifCond .ne 6, 3) := by decide +kernel
theorem dX0_putComplement_14 : decode cX0_putComplement 14 = .ok (.bipush (-2), 2) := by decide +kernel
theorem dX0_putComplement_16 : decode cX0_putComplement 16 = .ok (.ireturn, 1) := by decide +kernel
theorem dX0_putComplement_17 : decode cX0_putComplement 17 = .ok (.aload_n 0, 1) := by decide +kernel
theorem dX0_putComplement_18 : decode cX0_putComplement 18 = .ok (.getfield 21, 3) := by decide +kernel
theorem dX0_putComplement_21 : decode cX0_putComplement 21 = .ok (.aload_n 0, 1) := by decide +kernel
theorem dX0_putComplement_22 : decode cX0_putComplement 22 = .ok (.getfield 28, 3) := by decide +kernel
theorem dX0_putComplement_25 : decode cX0_putComplement 25 = .ok (.aload_n 0, 1) := by decide +kernel
theorem dX0_putComplement_26 : decode cX0_putComplement 26 = .ok (.getfield 12, 3) := by decide +kernel
theorem dX0_putComplement_29 : decode cX0_putComplement 29 = .ok (.getfield 36, 3) := by decide +kernel
theorem dX0_putComplement_32 : decode cX0_putComplement 32 = .ok (.iload_n 2, 1) := by decide +kernel
theorem dX0_putComplement_33 : decode cX0_putComplement 33 = .ok (.aaload, 1) := by decide +kernel
theorem dX0_putComplement_34 : decode cX0_putComplement 34 = .ok (.invokevirtual 66, 3) := by decide +kernel
theorem dX0_putComplement_37 : decode cX0_putComplement 37 = .ok (.aload_n 0, 1) := by decide +kernel
theorem dX0_putComplement_38 : decode cX0_putComplement 38 = .ok (.iload_n 1, 1) := by decide +kernel
theorem dX0_putComplement_39 : decode cX0_putComplement 39 = .ok (.invokevirtual 59, 3) := by decide +kernel
theorem dX0_putComplement_42 : decode cX0_putComplement 42 = .ok (.ireturn, 1) := by decide +kernel
theorem dX0_putTurned_0 : decode cX0_putTurned 0 = .ok (.iload_n 1, 1) := by decide +kernel
theorem dX0_putTurned_1 : decode cX0_putTurned 1 = .ok (.invokestatic 44, 3) := by decide +kernel
theorem dX0_putTurned_4 : decode cX0_putTurned 4 = .ok (.ifCond .eq 10, 3) := by decide +kernel
theorem dX0_putTurned_7 : decode cX0_putTurned 7 = .ok (.iload_n 2, 1) := by decide +kernel
theorem dX0_putTurned_8 : decode cX0_putTurned 8 = .ok (.invokestatic 44, 3) := by decide +kernel
theorem dX0_putTurned_11 : decode cX0_putTurned 11 = .ok (.ifCond .ne 6, 3) := by decide +kernel
theorem dX0_putTurned_14 : decode cX0_putTurned 14 = .ok (.bipush (-2), 2) := by decide +kernel
theorem dX0_putTurned_16 : decode cX0_putTurned 16 = .ok (.ireturn, 1) := by decide +kernel
theorem dX0_putTurned_17 : decode cX0_putTurned 17 = .ok (.aload_n 0, 1) := by decide +kernel
theorem dX0_putTurned_18 : decode cX0_putTurned 18 = .ok (.getfield 21, 3) := by decide +kernel
theorem dX0_putTurned_21 : decode cX0_putTurned 21 = .ok (.aload_n 0, 1) := by decide +kernel
theorem dX0_putTurned_22 : decode cX0_putTurned 22 = .ok (.getfield 28, 3) := by decide +kernel
theorem dX0_putTurned_25 : decode cX0_putTurned 25 = .ok (.aload_n 0, 1) := by decide +kernel
theorem dX0_putTurned_26 : decode cX0_putTurned 26 = .ok (.getfield 12, 3) := by decide +kernel
theorem dX0_putTurned_29 : decode cX0_putTurned 29 = .ok (.getfield 36, 3) := by decide +kernel
theorem dX0_putTurned_32 : decode cX0_putTurned 32 = .ok (.iload_n 2, 1) := by decide +kernel
theorem dX0_putTurned_33 : decode cX0_putTurned 33 = .ok (.aaload, 1) := by decide +kernel
theorem dX0_putTurned_34 : decode cX0_putTurned 34 = .ok (.invokevirtual 70, 3) := by decide +kernel
theorem dX0_putTurned_37 : decode cX0_putTurned 37 = .ok (.aload_n 0, 1) := by decide +kernel
theorem dX0_putTurned_38 : decode cX0_putTurned 38 = .ok (.iload_n 1, 1) := by decide +kernel
theorem dX0_putTurned_39 : decode cX0_putTurned 39 = .ok (.invokevirtual 59, 3) := by decide +kernel
theorem dX0_putTurned_42 : decode cX0_putTurned 42 = .ok (.pop, 1) := by decide +kernel
theorem dX0_putTurned_43 : decode cX0_putTurned 43 = .ok (.aload_n 0, 1) := by decide +kernel
theorem dX0_putTurned_44 : decode cX0_putTurned 44 = .ok (.getfield 21, 3) := by decide +kernel
theorem dX0_putTurned_47 : decode cX0_putTurned 47 = .ok (.aload_n 0, 1) := by decide +kernel
theorem dX0_putTurned_48 : decode cX0_putTurned 48 = .ok (.getfield 28, 3) := by decide +kernel
theorem dX0_putTurned_51 : decode cX0_putTurned 51 = .ok (.invokevirtual 73, 3) := by decide +kernel
theorem dX0_putTurned_54 : decode cX0_putTurned 54 = .ok (.ireturn, 1) := by decide +kernel
theorem dX0_putPlace_0 : decode cX0_putPlace 0 = .ok (.iload_n 1, 1) := by decide +kernel
theorem dX0_putPlace_1 : decode cX0_putPlace 1 = .ok (.invokestatic 44, 3) := by decide +kernel
theorem dX0_putPlace_4 : decode cX0_putPlace 4 = .ok (.ifCond .eq 22, 3) := by decide +kernel
theorem dX0_putPlace_7 : decode cX0_putPlace 7 = .ok (.iload_n 2, 1) := by decide +kernel
theorem dX0_putPlace_8 : decode cX0_putPlace 8 = .ok (.ifCond .lt 18, 3) := by decide +kernel
theorem dX0_putPlace_11 : decode cX0_putPlace 11 = .ok (.iload_n 2, 1) := by decide +kernel
theorem dX0_putPlace_12 : decode cX0_putPlace 12 = .ok (.getstatic 77, 3) := by decide +kernel
theorem dX0_putPlace_15 : decode cX0_putPlace 15 = .ok (.aload_n 0, 1) := by decide +kernel
theorem dX0_putPlace_16 : decode cX0_putPlace 16 = .ok (.getfield 12, 3) := by decide +kernel
theorem dX0_putPlace_19 : decode cX0_putPlace 19 = .ok (.getfield 32, 3) := by decide +kernel
theorem dX0_putPlace_22 : decode cX0_putPlace 22 = .ok (.iaload, 1) := by decide +kernel
theorem dX0_putPlace_23 : decode cX0_putPlace 23 = .ok (.if_icmp .lt 6, 3) := by decide +kernel
theorem dX0_putPlace_26 : decode cX0_putPlace 26 = .ok (.bipush (-2), 2) := by decide +kernel
theorem dX0_putPlace_28 : decode cX0_putPlace 28 = .ok (.ireturn, 1) := by decide +kernel
theorem dX0_putPlace_29 : decode cX0_putPlace 29 = .ok (.aload_n 0, 1) := by decide +kernel
theorem dX0_putPlace_30 : decode cX0_putPlace 30 = .ok (.getfield 21, 3) := by decide +kernel
theorem dX0_putPlace_33 : decode cX0_putPlace 33 = .ok (.aload_n 0, 1) := by decide +kernel
theorem dX0_putPlace_34 : decode cX0_putPlace 34 = .ok (.getfield 28, 3) := by decide +kernel
theorem dX0_putPlace_37 : decode cX0_putPlace 37 = .ok (.aload_n 0, 1) := by decide +kernel
theorem dX0_putPlace_38 : decode cX0_putPlace 38 = .ok (.getfield 12, 3) := by decide +kernel
theorem dX0_putPlace_41 : decode cX0_putPlace 41 = .ok (.getfield 32, 3) := by decide +kernel
theorem dX0_putPlace_44 : decode cX0_putPlace 44 = .ok (.iload_n 2, 1) := by decide +kernel
theorem dX0_putPlace_45 : decode cX0_putPlace 45 = .ok (.invokevirtual 81, 3) := by decide +kernel
theorem dX0_putPlace_48 : decode cX0_putPlace 48 = .ok (.aload_n 0, 1) := by decide +kernel
theorem dX0_putPlace_49 : decode cX0_putPlace 49 = .ok (.iload_n 1, 1) := by decide +kernel
theorem dX0_putPlace_50 : decode cX0_putPlace 50 = .ok (.invokevirtual 59, 3) := by decide +kernel
theorem dX0_putPlace_53 : decode cX0_putPlace 53 = .ok (.ireturn, 1) := by decide +kernel
theorem dX0_putMade_0 : decode cX0_putMade 0 = .ok (.aload_n 0, 1) := by decide +kernel
theorem dX0_putMade_1 : decode cX0_putMade 1 = .ok (.getfield 12, 3) := by decide +kernel
theorem dX0_putMade_4 : decode cX0_putMade 4 = .ok (.getfield 36, 3) := by decide +kernel
theorem dX0_putMade_7 : decode cX0_putMade 7 = .ok (.iload_n 1, 1) := by decide +kernel
theorem dX0_putMade_8 : decode cX0_putMade 8 = .ok (.aaload, 1) := by decide +kernel
theorem dX0_putMade_9 : decode cX0_putMade 9 = .ok (.aload_n 0, 1) := by decide +kernel
theorem dX0_putMade_10 : decode cX0_putMade 10 = .ok (.getfield 28, 3) := by decide +kernel
theorem dX0_putMade_13 : decode cX0_putMade 13 = .ok (.invokevirtual 85, 3) := by decide +kernel
theorem dX0_putMade_16 : decode cX0_putMade 16 = .ok (.aload_n 0, 1) := by decide +kernel
theorem dX0_putMade_17 : decode cX0_putMade 17 = .ok (.getfield 28, 3) := by decide +kernel
theorem dX0_putMade_20 : decode cX0_putMade 20 = .ok (.invokevirtual 89, 3) := by decide +kernel
theorem dX0_putMade_23 : decode cX0_putMade 23 = .ok (.ireturn, 1) := by decide +kernel
theorem dX0_changeNumber_0 : decode cX0_changeNumber 0 = .ok (.iload_n 1, 1) := by decide +kernel
theorem dX0_changeNumber_1 : decode cX0_changeNumber 1 = .ok (.iconst 1, 1) := by decide +kernel
theorem dX0_changeNumber_2 : decode cX0_changeNumber 2 = .ok (.if_icmp .lt 21, 3) := by decide +kernel
theorem dX0_changeNumber_5 : decode cX0_changeNumber 5 = .ok (.iload_n 1, 1) := by decide +kernel
theorem dX0_changeNumber_6 : decode cX0_changeNumber 6 = .ok (.bipush 8, 2) := by decide +kernel
theorem dX0_changeNumber_8 : decode cX0_changeNumber 8 = .ok (.if_icmp .gt 15, 3) := by decide +kernel
theorem dX0_changeNumber_11 : decode cX0_changeNumber 11 = .ok (.iload_n 2, 1) := by decide +kernel
theorem dX0_changeNumber_12 : decode cX0_changeNumber 12 = .ok (.bipush (-9), 2) := by decide +kernel
theorem dX0_changeNumber_14 : decode cX0_changeNumber 14 = .ok (.if_icmp .lt 9, 3) := by decide +kernel
theorem dX0_changeNumber_17 : decode cX0_changeNumber 17 = .ok (.iload_n 2, 1) := by decide +kernel
theorem dX0_changeNumber_18 : decode cX0_changeNumber 18 = .ok (.bipush 9, 2) := by decide +kernel
theorem dX0_changeNumber_20 : decode cX0_changeNumber 20 = .ok (.if_icmp .le 6, 3) := by decide +kernel
theorem dX0_changeNumber_23 : decode cX0_changeNumber 23 = .ok (.bipush (-2), 2) := by decide +kernel
theorem dX0_changeNumber_25 : decode cX0_changeNumber 25 = .ok (.ireturn, 1) := by decide +kernel
theorem dX0_changeNumber_26 : decode cX0_changeNumber 26 = .ok (.aload_n 0, 1) := by decide +kernel
theorem dX0_changeNumber_27 : decode cX0_changeNumber 27 = .ok (.getfield 12, 3) := by decide +kernel
theorem dX0_changeNumber_30 : decode cX0_changeNumber 30 = .ok (.getfield 93, 3) := by decide +kernel
theorem dX0_changeNumber_33 : decode cX0_changeNumber 33 = .ok (.iload_n 1, 1) := by decide +kernel
theorem dX0_changeNumber_34 : decode cX0_changeNumber 34 = .ok (.iconst 1, 1) := by decide +kernel
theorem dX0_changeNumber_35 : decode cX0_changeNumber 35 = .ok (.isub, 1) := by decide +kernel
theorem dX0_changeNumber_36 : decode cX0_changeNumber 36 = .ok (.iaload, 1) := by decide +kernel
theorem dX0_changeNumber_37 : decode cX0_changeNumber 37 = .ok (.istore_n 3, 1) := by decide +kernel
theorem dX0_changeNumber_38 : decode cX0_changeNumber 38 = .ok (.aload_n 0, 1) := by decide +kernel
theorem dX0_changeNumber_39 : decode cX0_changeNumber 39 = .ok (.getfield 12, 3) := by decide +kernel
theorem dX0_changeNumber_42 : decode cX0_changeNumber 42 = .ok (.getfield 93, 3) := by decide +kernel
theorem dX0_changeNumber_45 : decode cX0_changeNumber 45 = .ok (.iload_n 1, 1) := by decide +kernel
theorem dX0_changeNumber_46 : decode cX0_changeNumber 46 = .ok (.iconst 1, 1) := by decide +kernel
theorem dX0_changeNumber_47 : decode cX0_changeNumber 47 = .ok (.isub, 1) := by decide +kernel
theorem dX0_changeNumber_48 : decode cX0_changeNumber 48 = .ok (.iload_n 2, 1) := by decide +kernel
theorem dX0_changeNumber_49 : decode cX0_changeNumber 49 = .ok (.iastore, 1) := by decide +kernel
theorem dX0_changeNumber_50 : decode cX0_changeNumber 50 = .ok (.iload_n 3, 1) := by decide +kernel
theorem dX0_changeNumber_51 : decode cX0_changeNumber 51 = .ok (.bipush 100, 2) := by decide +kernel
theorem dX0_changeNumber_53 : decode cX0_changeNumber 53 = .ok (.iadd, 1) := by decide +kernel
theorem dX0_changeNumber_54 : decode cX0_changeNumber 54 = .ok (.ireturn, 1) := by decide +kernel
theorem dX0_carryOut_0 : decode cX0_carryOut 0 = .ok (.iload_n 1, 1) := by decide +kernel
theorem dX0_carryOut_1 : decode cX0_carryOut 1 = .ok (.tableswitch 146 106 117 #[99, 113, 146, 85, 63, 146, 71, 146, 146, 146, 124, 135], 63) := by decide +kernel
theorem dX0_carryOut_64 : decode cX0_carryOut 64 = .ok (.aload_n 0, 1) := by decide +kernel
theorem dX0_carryOut_65 : decode cX0_carryOut 65 = .ok (.aload_n 2, 1) := by decide +kernel
theorem dX0_carryOut_66 : decode cX0_carryOut 66 = .ok (.iconst 0, 1) := by decide +kernel
theorem dX0_carryOut_67 : decode cX0_carryOut 67 = .ok (.iaload, 1) := by decide +kernel
theorem dX0_carryOut_68 : decode cX0_carryOut 68 = .ok (.invokevirtual 96, 3) := by decide +kernel
theorem dX0_carryOut_71 : decode cX0_carryOut 71 = .ok (.ireturn, 1) := by decide +kernel
theorem dX0_carryOut_72 : decode cX0_carryOut 72 = .ok (.aload_n 0, 1) := by decide +kernel
theorem dX0_carryOut_73 : decode cX0_carryOut 73 = .ok (.aload_n 2, 1) := by decide +kernel
theorem dX0_carryOut_74 : decode cX0_carryOut 74 = .ok (.iconst 0, 1) := by decide +kernel
theorem dX0_carryOut_75 : decode cX0_carryOut 75 = .ok (.iaload, 1) := by decide +kernel
theorem dX0_carryOut_76 : decode cX0_carryOut 76 = .ok (.aload_n 2, 1) := by decide +kernel
theorem dX0_carryOut_77 : decode cX0_carryOut 77 = .ok (.iconst 1, 1) := by decide +kernel
theorem dX0_carryOut_78 : decode cX0_carryOut 78 = .ok (.iaload, 1) := by decide +kernel
theorem dX0_carryOut_79 : decode cX0_carryOut 79 = .ok (.aload_n 2, 1) := by decide +kernel
theorem dX0_carryOut_80 : decode cX0_carryOut 80 = .ok (.iconst 2, 1) := by decide +kernel
theorem dX0_carryOut_81 : decode cX0_carryOut 81 = .ok (.iaload, 1) := by decide +kernel
theorem dX0_carryOut_82 : decode cX0_carryOut 82 = .ok (.invokevirtual 99, 3) := by decide +kernel
theorem dX0_carryOut_85 : decode cX0_carryOut 85 = .ok (.ireturn, 1) := by decide +kernel
theorem dX0_carryOut_86 : decode cX0_carryOut 86 = .ok (.aload_n 0, 1) := by decide +kernel
theorem dX0_carryOut_87 : decode cX0_carryOut 87 = .ok (.aload_n 2, 1) := by decide +kernel
theorem dX0_carryOut_88 : decode cX0_carryOut 88 = .ok (.iconst 0, 1) := by decide +kernel
theorem dX0_carryOut_89 : decode cX0_carryOut 89 = .ok (.iaload, 1) := by decide +kernel
theorem dX0_carryOut_90 : decode cX0_carryOut 90 = .ok (.aload_n 2, 1) := by decide +kernel
theorem dX0_carryOut_91 : decode cX0_carryOut 91 = .ok (.iconst 1, 1) := by decide +kernel
theorem dX0_carryOut_92 : decode cX0_carryOut 92 = .ok (.iaload, 1) := by decide +kernel
theorem dX0_carryOut_93 : decode cX0_carryOut 93 = .ok (.aload_n 2, 1) := by decide +kernel
theorem dX0_carryOut_94 : decode cX0_carryOut 94 = .ok (.iconst 2, 1) := by decide +kernel
theorem dX0_carryOut_95 : decode cX0_carryOut 95 = .ok (.iaload, 1) := by decide +kernel
theorem dX0_carryOut_96 : decode cX0_carryOut 96 = .ok (.invokevirtual 103, 3) := by decide +kernel
theorem dX0_carryOut_99 : decode cX0_carryOut 99 = .ok (.ireturn, 1) := by decide +kernel
theorem dX0_carryOut_100 : decode cX0_carryOut 100 = .ok (.aload_n 0, 1) := by decide +kernel
theorem dX0_carryOut_101 : decode cX0_carryOut 101 = .ok (.aload_n 2, 1) := by decide +kernel
theorem dX0_carryOut_102 : decode cX0_carryOut 102 = .ok (.iconst 0, 1) := by decide +kernel
theorem dX0_carryOut_103 : decode cX0_carryOut 103 = .ok (.iaload, 1) := by decide +kernel
theorem dX0_carryOut_104 : decode cX0_carryOut 104 = .ok (.aload_n 2, 1) := by decide +kernel
theorem dX0_carryOut_105 : decode cX0_carryOut 105 = .ok (.iconst 1, 1) := by decide +kernel
theorem dX0_carryOut_106 : decode cX0_carryOut 106 = .ok (.iaload, 1) := by decide +kernel
theorem dX0_carryOut_107 : decode cX0_carryOut 107 = .ok (.aload_n 2, 1) := by decide +kernel
theorem dX0_carryOut_108 : decode cX0_carryOut 108 = .ok (.iconst 2, 1) := by decide +kernel
theorem dX0_carryOut_109 : decode cX0_carryOut 109 = .ok (.iaload, 1) := by decide +kernel
theorem dX0_carryOut_110 : decode cX0_carryOut 110 = .ok (.invokevirtual 106, 3) := by decide +kernel
theorem dX0_carryOut_113 : decode cX0_carryOut 113 = .ok (.ireturn, 1) := by decide +kernel
theorem dX0_carryOut_114 : decode cX0_carryOut 114 = .ok (.aload_n 0, 1) := by decide +kernel
theorem dX0_carryOut_115 : decode cX0_carryOut 115 = .ok (.aload_n 2, 1) := by decide +kernel
theorem dX0_carryOut_116 : decode cX0_carryOut 116 = .ok (.iconst 0, 1) := by decide +kernel
theorem dX0_carryOut_117 : decode cX0_carryOut 117 = .ok (.iaload, 1) := by decide +kernel
theorem dX0_carryOut_118 : decode cX0_carryOut 118 = .ok (.aload_n 2, 1) := by decide +kernel
theorem dX0_carryOut_119 : decode cX0_carryOut 119 = .ok (.iconst 1, 1) := by decide +kernel
theorem dX0_carryOut_120 : decode cX0_carryOut 120 = .ok (.iaload, 1) := by decide +kernel
theorem dX0_carryOut_121 : decode cX0_carryOut 121 = .ok (.invokevirtual 109, 3) := by decide +kernel
theorem dX0_carryOut_124 : decode cX0_carryOut 124 = .ok (.ireturn, 1) := by decide +kernel
theorem dX0_carryOut_125 : decode cX0_carryOut 125 = .ok (.aload_n 0, 1) := by decide +kernel
theorem dX0_carryOut_126 : decode cX0_carryOut 126 = .ok (.aload_n 2, 1) := by decide +kernel
theorem dX0_carryOut_127 : decode cX0_carryOut 127 = .ok (.iconst 0, 1) := by decide +kernel
theorem dX0_carryOut_128 : decode cX0_carryOut 128 = .ok (.iaload, 1) := by decide +kernel
theorem dX0_carryOut_129 : decode cX0_carryOut 129 = .ok (.aload_n 2, 1) := by decide +kernel
theorem dX0_carryOut_130 : decode cX0_carryOut 130 = .ok (.iconst 1, 1) := by decide +kernel
theorem dX0_carryOut_131 : decode cX0_carryOut 131 = .ok (.iaload, 1) := by decide +kernel
theorem dX0_carryOut_132 : decode cX0_carryOut 132 = .ok (.invokevirtual 113, 3) := by decide +kernel
theorem dX0_carryOut_135 : decode cX0_carryOut 135 = .ok (.ireturn, 1) := by decide +kernel
theorem dX0_carryOut_136 : decode cX0_carryOut 136 = .ok (.aload_n 0, 1) := by decide +kernel
theorem dX0_carryOut_137 : decode cX0_carryOut 137 = .ok (.aload_n 2, 1) := by decide +kernel
theorem dX0_carryOut_138 : decode cX0_carryOut 138 = .ok (.iconst 0, 1) := by decide +kernel
theorem dX0_carryOut_139 : decode cX0_carryOut 139 = .ok (.iaload, 1) := by decide +kernel
theorem dX0_carryOut_140 : decode cX0_carryOut 140 = .ok (.aload_n 2, 1) := by decide +kernel
theorem dX0_carryOut_141 : decode cX0_carryOut 141 = .ok (.iconst 1, 1) := by decide +kernel
theorem dX0_carryOut_142 : decode cX0_carryOut 142 = .ok (.iaload, 1) := by decide +kernel
theorem dX0_carryOut_143 : decode cX0_carryOut 143 = .ok (.invokevirtual 116, 3) := by decide +kernel
theorem dX0_carryOut_146 : decode cX0_carryOut 146 = .ok (.ireturn, 1) := by decide +kernel
theorem dX0_carryOut_147 : decode cX0_carryOut 147 = .ok (.aload_n 0, 1) := by decide +kernel
theorem dX0_carryOut_148 : decode cX0_carryOut 148 = .ok (.aload_n 2, 1) := by decide +kernel
theorem dX0_carryOut_149 : decode cX0_carryOut 149 = .ok (.iconst 0, 1) := by decide +kernel
theorem dX0_carryOut_150 : decode cX0_carryOut 150 = .ok (.iaload, 1) := by decide +kernel
theorem dX0_carryOut_151 : decode cX0_carryOut 151 = .ok (.aload_n 2, 1) := by decide +kernel
theorem dX0_carryOut_152 : decode cX0_carryOut 152 = .ok (.iconst 1, 1) := by decide +kernel
theorem dX0_carryOut_153 : decode cX0_carryOut 153 = .ok (.iaload, 1) := by decide +kernel
theorem dX0_carryOut_154 : decode cX0_carryOut 154 = .ok (.invokevirtual 119, 3) := by decide +kernel
theorem dX0_carryOut_157 : decode cX0_carryOut 157 = .ok (.ireturn, 1) := by decide +kernel
theorem dX0_property_0 : decode cX0_property 0 = .ok (.aload_n 0, 1) := by decide +kernel
theorem dX0_property_1 : decode cX0_property 1 = .ok (.getfield 12, 3) := by decide +kernel
theorem dX0_property_4 : decode cX0_property 4 = .ok (.getfield 36, 3) := by decide +kernel
theorem dX0_property_7 : decode cX0_property 7 = .ok (.iload_n 1, 1) := by decide +kernel
theorem dX0_property_8 : decode cX0_property 8 = .ok (.aaload, 1) := by decide +kernel
theorem dX0_property_9 : decode cX0_property 9 = .ok (.astore_n 3, 1) := by decide +kernel
theorem dX0_property_10 : decode cX0_property 10 = .ok (.iload_n 2, 1) := by decide +kernel
theorem dX0_property_11 : decode cX0_property 11 = .ok (.tableswitch 66 0 4 #[33, 42, 47, 52, 57], 33) := by decide +kernel
theorem dX0_property_44 : decode cX0_property 44 = .ok (.aload_n 0, 1) := by decide +kernel
theorem dX0_property_45 : decode cX0_property 45 = .ok (.getfield 21, 3) := by decide +kernel
theorem dX0_property_48 : decode cX0_property 48 = .ok (.aload_n 3, 1) := by decide +kernel
theorem dX0_property_49 : decode cX0_property 49 = .ok (.invokevirtual 73, 3) := by decide +kernel
theorem dX0_property_52 : decode cX0_property 52 = .ok (.ireturn, 1) := by decide +kernel
theorem dX0_property_53 : decode cX0_property 53 = .ok (.aload_n 3, 1) := by decide +kernel
theorem dX0_property_54 : decode cX0_property 54 = .ok (.invokevirtual 89, 3) := by decide +kernel
theorem dX0_property_57 : decode cX0_property 57 = .ok (.ireturn, 1) := by decide +kernel
theorem dX0_property_58 : decode cX0_property 58 = .ok (.aload_n 3, 1) := by decide +kernel
theorem dX0_property_59 : decode cX0_property 59 = .ok (.invokevirtual 122, 3) := by decide +kernel
theorem dX0_property_62 : decode cX0_property 62 = .ok (.ireturn, 1) := by decide +kernel
theorem dX0_property_63 : decode cX0_property 63 = .ok (.aload_n 3, 1) := by decide +kernel
theorem dX0_property_64 : decode cX0_property 64 = .ok (.invokevirtual 125, 3) := by decide +kernel
theorem dX0_property_67 : decode cX0_property 67 = .ok (.ireturn, 1) := by decide +kernel
theorem dX0_property_68 : decode cX0_property 68 = .ok (.aload_n 0, 1) := by decide +kernel
theorem dX0_property_69 : decode cX0_property 69 = .ok (.getfield 21, 3) := by decide +kernel
theorem dX0_property_72 : decode cX0_property 72 = .ok (.aload_n 3, 1) := by decide +kernel
theorem dX0_property_73 : decode cX0_property 73 = .ok (.invokevirtual 128, 3) := by decide +kernel
theorem dX0_property_76 : decode cX0_property 76 = .ok (.ireturn, 1) := by decide +kernel
theorem dX0_property_77 : decode cX0_property 77 = .ok (.aload_n 3, 1) := by decide +kernel
theorem dX0_property_78 : decode cX0_property 78 = .ok (.invokevirtual 131, 3) := by decide +kernel
theorem dX0_property_81 : decode cX0_property 81 = .ok (.ireturn, 1) := by decide +kernel
theorem dX0_amount_0 : decode cX0_amount 0 = .ok (.iload_n 1, 1) := by decide +kernel
theorem dX0_amount_1 : decode cX0_amount 1 = .ok (.ifCond .ne 11, 3) := by decide +kernel
theorem dX0_amount_4 : decode cX0_amount 4 = .ok (.aload_n 0, 1) := by decide +kernel
theorem dX0_amount_5 : decode cX0_amount 5 = .ok (.getfield 12, 3) := by decide +kernel
theorem dX0_amount_8 : decode cX0_amount 8 = .ok (.getfield 32, 3) := by decide +kernel
theorem dX0_amount_11 : decode cX0_amount 11 = .ok (.ireturn, 1) := by decide +kernel
theorem dX0_amount_12 : decode cX0_amount 12 = .ok (.iload_n 1, 1) := by decide +kernel
theorem dX0_amount_13 : decode cX0_amount 13 = .ok (.iconst 1, 1) := by decide +kernel
theorem dX0_amount_14 : decode cX0_amount 14 = .ok (.if_icmp .ne 17, 3) := by decide +kernel
theorem dX0_amount_17 : decode cX0_amount 17 = .ok (.getstatic 77, 3) := by decide +kernel
theorem dX0_amount_20 : decode cX0_amount 20 = .ok (.aload_n 0, 1) := by decide +kernel
theorem dX0_amount_21 : decode cX0_amount 21 = .ok (.getfield 12, 3) := by decide +kernel
theorem dX0_amount_24 : decode cX0_amount 24 = .ok (.getfield 32, 3) := by decide +kernel
theorem dX0_amount_27 : decode cX0_amount 27 = .ok (.iaload, 1) := by decide +kernel
theorem dX0_amount_28 : decode cX0_amount 28 = .ok (.goto 16, 3) := by decide +kernel
theorem dX0_amount_31 : decode cX0_amount 31 = .ok (.aload_n 0, 1) := by decide +kernel
theorem dX0_amount_32 : decode cX0_amount 32 = .ok (.getfield 12, 3) := by decide +kernel
theorem dX0_amount_35 : decode cX0_amount 35 = .ok (.getfield 32, 3) := by decide +kernel
theorem dX0_amount_38 : decode cX0_amount 38 = .ok (.iload_n 1, 1) := by decide +kernel
theorem dX0_amount_39 : decode cX0_amount 39 = .ok (.iconst 2, 1) := by decide +kernel
theorem dX0_amount_40 : decode cX0_amount 40 = .ok (.isub, 1) := by decide +kernel
theorem dX0_amount_41 : decode cX0_amount 41 = .ok (.invokestatic 134, 3) := by decide +kernel
theorem dX0_amount_44 : decode cX0_amount 44 = .ok (.ireturn, 1) := by decide +kernel
theorem dX0_ranked_0 : decode cX0_ranked 0 = .ok (.iload_n 0, 1) := by decide +kernel
theorem dX0_ranked_1 : decode cX0_ranked 1 = .ok (.iconst 1, 1) := by decide +kernel
theorem dX0_ranked_2 : decode cX0_ranked 2 = .ok (.isub, 1) := by decide +kernel
theorem dX0_ranked_3 : decode cX0_ranked 3 = .ok (.iload_n 1, 1) := by decide +kernel
theorem dX0_ranked_4 : decode cX0_ranked 4 = .ok (.invokestatic 137, 3) := by decide +kernel
theorem dX0_ranked_7 : decode cX0_ranked 7 = .ok (.istore_n 2, 1) := by decide +kernel
theorem dX0_ranked_8 : decode cX0_ranked 8 = .ok (.iload_n 2, 1) := by decide +kernel
theorem dX0_ranked_9 : decode cX0_ranked 9 = .ok (.iload_n 2, 1) := by decide +kernel
theorem dX0_ranked_10 : decode cX0_ranked 10 = .ok (.imul, 1) := by decide +kernel
theorem dX0_ranked_11 : decode cX0_ranked 11 = .ok (.iload_n 0, 1) := by decide +kernel
theorem dX0_ranked_12 : decode cX0_ranked 12 = .ok (.iconst 1, 1) := by decide +kernel
theorem dX0_ranked_13 : decode cX0_ranked 13 = .ok (.isub, 1) := by decide +kernel
theorem dX0_ranked_14 : decode cX0_ranked 14 = .ok (.iload_n 1, 1) := by decide +kernel
theorem dX0_ranked_15 : decode cX0_ranked 15 = .ok (.iconst 1, 1) := by decide +kernel
theorem dX0_ranked_16 : decode cX0_ranked 16 = .ok (.isub, 1) := by decide +kernel
theorem dX0_ranked_17 : decode cX0_ranked 17 = .ok (.invokestatic 137, 3) := by decide +kernel
theorem dX0_ranked_20 : decode cX0_ranked 20 = .ok (.iload_n 0, 1) := by decide +kernel
theorem dX0_ranked_21 : decode cX0_ranked 21 = .ok (.iconst 1, 1) := by decide +kernel
theorem dX0_ranked_22 : decode cX0_ranked 22 = .ok (.isub, 1) := by decide +kernel
theorem dX0_ranked_23 : decode cX0_ranked 23 = .ok (.iload_n 1, 1) := by decide +kernel
theorem dX0_ranked_24 : decode cX0_ranked 24 = .ok (.iconst 1, 1) := by decide +kernel
theorem dX0_ranked_25 : decode cX0_ranked 25 = .ok (.iadd, 1) := by decide +kernel
theorem dX0_ranked_26 : decode cX0_ranked 26 = .ok (.invokestatic 137, 3) := by decide +kernel
theorem dX0_ranked_29 : decode cX0_ranked 29 = .ok (.imul, 1) := by decide +kernel
theorem dX0_ranked_30 : decode cX0_ranked 30 = .ok (.isub, 1) := by decide +kernel
theorem dX0_ranked_31 : decode cX0_ranked 31 = .ok (.ireturn, 1) := by decide +kernel
theorem dX0_interval_0 : decode cX0_interval 0 = .ok (.aload_n 0, 1) := by decide +kernel
theorem dX0_interval_1 : decode cX0_interval 1 = .ok (.getfield 21, 3) := by decide +kernel
theorem dX0_interval_4 : decode cX0_interval 4 = .ok (.aload_n 0, 1) := by decide +kernel
theorem dX0_interval_5 : decode cX0_interval 5 = .ok (.getfield 28, 3) := by decide +kernel
theorem dX0_interval_8 : decode cX0_interval 8 = .ok (.aload_n 0, 1) := by decide +kernel
theorem dX0_interval_9 : decode cX0_interval 9 = .ok (.getfield 12, 3) := by decide +kernel
theorem dX0_interval_12 : decode cX0_interval 12 = .ok (.getfield 36, 3) := by decide +kernel
theorem dX0_interval_15 : decode cX0_interval 15 = .ok (.iload_n 1, 1) := by decide +kernel
theorem dX0_interval_16 : decode cX0_interval 16 = .ok (.aaload, 1) := by decide +kernel
theorem dX0_interval_17 : decode cX0_interval 17 = .ok (.aload_n 0, 1) := by decide +kernel
theorem dX0_interval_18 : decode cX0_interval 18 = .ok (.getfield 12, 3) := by decide +kernel
theorem dX0_interval_21 : decode cX0_interval 21 = .ok (.getfield 36, 3) := by decide +kernel
theorem dX0_interval_24 : decode cX0_interval 24 = .ok (.iload_n 2, 1) := by decide +kernel
theorem dX0_interval_25 : decode cX0_interval 25 = .ok (.aaload, 1) := by decide +kernel
theorem dX0_interval_26 : decode cX0_interval 26 = .ok (.invokevirtual 140, 3) := by decide +kernel
theorem dX0_interval_29 : decode cX0_interval 29 = .ok (.aload_n 0, 1) := by decide +kernel
theorem dX0_interval_30 : decode cX0_interval 30 = .ok (.getfield 28, 3) := by decide +kernel
theorem dX0_interval_33 : decode cX0_interval 33 = .ok (.areturn, 1) := by decide +kernel
theorem dX0_isParking_0 : decode cX0_isParking 0 = .ok (.iconst 1, 1) := by decide +kernel
theorem dX0_isParking_1 : decode cX0_isParking 1 = .ok (.istore_n 2, 1) := by decide +kernel
theorem dX0_isParking_2 : decode cX0_isParking 2 = .ok (.iload_n 2, 1) := by decide +kernel
theorem dX0_isParking_3 : decode cX0_isParking 3 = .ok (.aload_n 0, 1) := by decide +kernel
theorem dX0_isParking_4 : decode cX0_isParking 4 = .ok (.getfield 12, 3) := by decide +kernel
theorem dX0_isParking_7 : decode cX0_isParking 7 = .ok (.getfield 32, 3) := by decide +kernel
theorem dX0_isParking_10 : decode cX0_isParking 10 = .ok (.if_icmp .ge 66, 3) := by decide +kernel
theorem dX0_isParking_13 : decode cX0_isParking 13 = .ok (.iconst 0, 1) := by decide +kernel
theorem dX0_isParking_14 : decode cX0_isParking 14 = .ok (.istore_n 3, 1) := by decide +kernel
theorem dX0_isParking_15 : decode cX0_isParking 15 = .ok (.iload_n 1, 1) := by decide +kernel
theorem dX0_isParking_16 : decode cX0_isParking 16 = .ok (.istore 4, 2) := by decide +kernel
theorem dX0_isParking_18 : decode cX0_isParking 18 = .ok (.iconst 1, 1) := by decide +kernel
theorem dX0_isParking_19 : decode cX0_isParking 19 = .ok (.istore 5, 2) := by decide +kernel
theorem dX0_isParking_21 : decode cX0_isParking 21 = .ok (.iload 5, 2) := by decide +kernel
theorem dX0_isParking_23 : decode cX0_isParking 23 = .ok (.aload_n 0, 1) := by decide +kernel
theorem dX0_isParking_24 : decode cX0_isParking 24 = .ok (.getfield 12, 3) := by decide +kernel
theorem dX0_isParking_27 : decode cX0_isParking 27 = .ok (.getfield 32, 3) := by decide +kernel
theorem dX0_isParking_30 : decode cX0_isParking 30 = .ok (.if_icmp .ge 33, 3) := by decide +kernel
theorem dX0_isParking_33 : decode cX0_isParking 33 = .ok (.iload_n 3, 1) := by decide +kernel
theorem dX0_isParking_34 : decode cX0_isParking 34 = .ok (.iload 4, 2) := by decide +kernel
theorem dX0_isParking_36 : decode cX0_isParking 36 = .ok (.bipush 10, 2) := by decide +kernel
theorem dX0_isParking_38 : decode cX0_isParking 38 = .ok (.irem, 1) := by decide +kernel
theorem dX0_isParking_39 : decode cX0_isParking 39 = .ok (.iload_n 2, 1) := by decide +kernel
theorem dX0_isParking_40 : decode cX0_isParking 40 = .ok (.if_icmp .ge 7, 3) := by decide +kernel
theorem dX0_isParking_43 : decode cX0_isParking 43 = .ok (.iconst 1, 1) := by decide +kernel
theorem dX0_isParking_44 : decode cX0_isParking 44 = .ok (.goto 4, 3) := by decide +kernel
theorem dX0_isParking_47 : decode cX0_isParking 47 = .ok (.iconst 0, 1) := by decide +kernel
theorem dX0_isParking_48 : decode cX0_isParking 48 = .ok (.iadd, 1) := by decide +kernel
theorem dX0_isParking_49 : decode cX0_isParking 49 = .ok (.istore_n 3, 1) := by decide +kernel
theorem dX0_isParking_50 : decode cX0_isParking 50 = .ok (.iload 4, 2) := by decide +kernel
theorem dX0_isParking_52 : decode cX0_isParking 52 = .ok (.bipush 10, 2) := by decide +kernel
theorem dX0_isParking_54 : decode cX0_isParking 54 = .ok (.idiv, 1) := by decide +kernel
theorem dX0_isParking_55 : decode cX0_isParking 55 = .ok (.istore 4, 2) := by decide +kernel
theorem dX0_isParking_57 : decode cX0_isParking 57 = .ok (.iinc 5 1, 3) := by decide +kernel
theorem dX0_isParking_60 : decode cX0_isParking 60 = .ok (.goto (-39), 3) := by decide +kernel
theorem dX0_isParking_63 : decode cX0_isParking 63 = .ok (.iload_n 3, 1) := by decide +kernel
theorem dX0_isParking_64 : decode cX0_isParking 64 = .ok (.iload_n 2, 1) := by decide +kernel
theorem dX0_isParking_65 : decode cX0_isParking 65 = .ok (.if_icmp .ge 5, 3) := by decide +kernel
theorem dX0_isParking_68 : decode cX0_isParking 68 = .ok (.iconst 0, 1) := by decide +kernel
theorem dX0_isParking_69 : decode cX0_isParking 69 = .ok (.ireturn, 1) := by decide +kernel
theorem dX0_isParking_70 : decode cX0_isParking 70 = .ok (.iinc 2 1, 3) := by decide +kernel
theorem dX0_isParking_73 : decode cX0_isParking 73 = .ok (.goto (-71), 3) := by decide +kernel
theorem dX0_isParking_76 : decode cX0_isParking 76 = .ok (.iconst 1, 1) := by decide +kernel
theorem dX0_isParking_77 : decode cX0_isParking 77 = .ok (.ireturn, 1) := by decide +kernel
theorem dX1_init_0 : decode cX1_init 0 = .ok (.aload_n 0, 1) := by decide +kernel
theorem dX1_init_1 : decode cX1_init 1 = .ok (.invokespecial 3, 3) := by decide +kernel
theorem dX1_init_4 : decode cX1_init 4 = .ok (.aload_n 0, 1) := by decide +kernel
theorem dX1_init_5 : decode cX1_init 5 = .ok (.bipush 8, 2) := by decide +kernel
theorem dX1_init_7 : decode cX1_init 7 = .ok (.newarray .int, 2) := by decide +kernel
theorem dX1_init_9 : decode cX1_init 9 = .ok (.putfield 9, 3) := by decide +kernel
theorem dX1_init_12 : decode cX1_init 12 = .ok (.aload_n 0, 1) := by decide +kernel
theorem dX1_init_13 : decode cX1_init 13 = .ok (.bipush 8, 2) := by decide +kernel
theorem dX1_init_15 : decode cX1_init 15 = .ok (.newarray .int, 2) := by decide +kernel
theorem dX1_init_17 : decode cX1_init 17 = .ok (.putfield 15, 3) := by decide +kernel
theorem dX1_init_20 : decode cX1_init 20 = .ok (.aload_n 0, 1) := by decide +kernel
theorem dX1_init_21 : decode cX1_init 21 = .ok (.bipush 9, 2) := by decide +kernel
theorem dX1_init_23 : decode cX1_init 23 = .ok (.newarray .int, 2) := by decide +kernel
theorem dX1_init_25 : decode cX1_init 25 = .ok (.putfield 18, 3) := by decide +kernel
theorem dX1_init_28 : decode cX1_init 28 = .ok (.aload_n 0, 1) := by decide +kernel
theorem dX1_init_29 : decode cX1_init 29 = .ok (.bipush 9, 2) := by decide +kernel
theorem dX1_init_31 : decode cX1_init 31 = .ok (.bipush 9, 2) := by decide +kernel
theorem dX1_init_33 : decode cX1_init 33 = .ok (.multianewarray 21 2, 4) := by decide +kernel
theorem dX1_init_37 : decode cX1_init 37 = .ok (.putfield 23, 3) := by decide +kernel
theorem dX1_init_40 : decode cX1_init 40 = .ok (.aload_n 0, 1) := by decide +kernel
theorem dX1_init_41 : decode cX1_init 41 = .ok (.new 26, 3) := by decide +kernel
theorem dX1_init_44 : decode cX1_init 44 = .ok (.dup, 1) := by decide +kernel
theorem dX1_init_45 : decode cX1_init 45 = .ok (.invokespecial 28, 3) := by decide +kernel
theorem dX1_init_48 : decode cX1_init 48 = .ok (.putfield 29, 3) := by decide +kernel
theorem dX1_init_51 : decode cX1_init 51 = .ok (.aload_n 0, 1) := by decide +kernel
theorem dX1_init_52 : decode cX1_init 52 = .ok (.new 26, 3) := by decide +kernel
theorem dX1_init_55 : decode cX1_init 55 = .ok (.dup, 1) := by decide +kernel
theorem dX1_init_56 : decode cX1_init 56 = .ok (.invokespecial 28, 3) := by decide +kernel
theorem dX1_init_59 : decode cX1_init 59 = .ok (.putfield 33, 3) := by decide +kernel
theorem dX1_init_62 : decode cX1_init 62 = .ok (.aload_n 0, 1) := by decide +kernel
theorem dX1_init_63 : decode cX1_init 63 = .ok (.new 26, 3) := by decide +kernel
theorem dX1_init_66 : decode cX1_init 66 = .ok (.dup, 1) := by decide +kernel
theorem dX1_init_67 : decode cX1_init 67 = .ok (.invokespecial 28, 3) := by decide +kernel
theorem dX1_init_70 : decode cX1_init 70 = .ok (.putfield 36, 3) := by decide +kernel
theorem dX1_init_73 : decode cX1_init 73 = .ok (.aload_n 0, 1) := by decide +kernel
theorem dX1_init_74 : decode cX1_init 74 = .ok (.new 26, 3) := by decide +kernel
theorem dX1_init_77 : decode cX1_init 77 = .ok (.dup, 1) := by decide +kernel
theorem dX1_init_78 : decode cX1_init 78 = .ok (.invokespecial 28, 3) := by decide +kernel
theorem dX1_init_81 : decode cX1_init 81 = .ok (.putfield 39, 3) := by decide +kernel
theorem dX1_init_84 : decode cX1_init 84 = .ok (.aload_n 0, 1) := by decide +kernel
theorem dX1_init_85 : decode cX1_init 85 = .ok (.new 26, 3) := by decide +kernel
theorem dX1_init_88 : decode cX1_init 88 = .ok (.dup, 1) := by decide +kernel
theorem dX1_init_89 : decode cX1_init 89 = .ok (.invokespecial 28, 3) := by decide +kernel
theorem dX1_init_92 : decode cX1_init 92 = .ok (.putfield 42, 3) := by decide +kernel
theorem dX1_init_95 : decode cX1_init 95 = .ok (.aload_n 0, 1) := by decide +kernel
theorem dX1_init_96 : decode cX1_init 96 = .ok (.invokevirtual 45, 3) := by decide +kernel
theorem dX1_init_99 : decode cX1_init 99 = .ok (.return_, 1) := by decide +kernel
theorem dX1_countWays_0 : decode cX1_countWays 0 = .ok (.iconst 0, 1) := by decide +kernel
theorem dX1_countWays_1 : decode cX1_countWays 1 = .ok (.istore_n 1, 1) := by decide +kernel
theorem dX1_countWays_2 : decode cX1_countWays 2 = .ok (.iload_n 1, 1) := by decide +kernel
theorem dX1_countWays_3 : decode cX1_countWays 3 = .ok (.bipush 8, 2) := by decide +kernel
theorem dX1_countWays_5 : decode cX1_countWays 5 = .ok (.if_icmp .gt 18, 3) := by decide +kernel
theorem dX1_countWays_8 : decode cX1_countWays 8 = .ok (.aload_n 0, 1) := by decide +kernel
theorem dX1_countWays_9 : decode cX1_countWays 9 = .ok (.getfield 23, 3) := by decide +kernel
theorem dX1_countWays_12 : decode cX1_countWays 12 = .ok (.iconst 0, 1) := by decide +kernel
theorem dX1_countWays_13 : decode cX1_countWays 13 = .ok (.aaload, 1) := by decide +kernel
theorem dX1_countWays_14 : decode cX1_countWays 14 = .ok (.iload_n 1, 1) := by decide +kernel
theorem dX1_countWays_15 : decode cX1_countWays 15 = .ok (.iconst 1, 1) := by decide +kernel
theorem dX1_countWays_16 : decode cX1_countWays 16 = .ok (.iastore, 1) := by decide +kernel
theorem dX1_countWays_17 : decode cX1_countWays 17 = .ok (.iinc 1 1, 3) := by decide +kernel
theorem dX1_countWays_20 : decode cX1_countWays 20 = .ok (.goto (-18), 3) := by decide +kernel
theorem dX1_countWays_23 : decode cX1_countWays 23 = .ok (.iconst 1, 1) := by decide +kernel
theorem dX1_countWays_24 : decode cX1_countWays 24 = .ok (.istore_n 1, 1) := by decide +kernel
theorem dX1_countWays_25 : decode cX1_countWays 25 = .ok (.iload_n 1, 1) := by decide +kernel
theorem dX1_countWays_26 : decode cX1_countWays 26 = .ok (.bipush 8, 2) := by decide +kernel
theorem dX1_countWays_28 : decode cX1_countWays 28 = .ok (.if_icmp .gt 61, 3) := by decide +kernel
theorem dX1_countWays_31 : decode cX1_countWays 31 = .ok (.iconst 0, 1) := by decide +kernel
theorem dX1_countWays_32 : decode cX1_countWays 32 = .ok (.istore_n 2, 1) := by decide +kernel
theorem dX1_countWays_33 : decode cX1_countWays 33 = .ok (.iload_n 2, 1) := by decide +kernel
theorem dX1_countWays_34 : decode cX1_countWays 34 = .ok (.bipush 8, 2) := by decide +kernel
theorem dX1_countWays_36 : decode cX1_countWays 36 = .ok (.iload_n 1, 1) := by decide +kernel
theorem dX1_countWays_37 : decode cX1_countWays 37 = .ok (.isub, 1) := by decide +kernel
theorem dX1_countWays_38 : decode cX1_countWays 38 = .ok (.if_icmp .gt 45, 3) := by decide +kernel
theorem dX1_countWays_41 : decode cX1_countWays 41 = .ok (.iconst 1, 1) := by decide +kernel
theorem dX1_countWays_42 : decode cX1_countWays 42 = .ok (.istore_n 3, 1) := by decide +kernel
theorem dX1_countWays_43 : decode cX1_countWays 43 = .ok (.iload_n 3, 1) := by decide +kernel
theorem dX1_countWays_44 : decode cX1_countWays 44 = .ok (.iload_n 2, 1) := by decide +kernel
theorem dX1_countWays_45 : decode cX1_countWays 45 = .ok (.iconst 1, 1) := by decide +kernel
theorem dX1_countWays_46 : decode cX1_countWays 46 = .ok (.iadd, 1) := by decide +kernel
theorem dX1_countWays_47 : decode cX1_countWays 47 = .ok (.if_icmp .gt 30, 3) := by decide +kernel
theorem dX1_countWays_50 : decode cX1_countWays 50 = .ok (.aload_n 0, 1) := by decide +kernel
theorem dX1_countWays_51 : decode cX1_countWays 51 = .ok (.getfield 23, 3) := by decide +kernel
theorem dX1_countWays_54 : decode cX1_countWays 54 = .ok (.iload_n 1, 1) := by decide +kernel
theorem dX1_countWays_55 : decode cX1_countWays 55 = .ok (.aaload, 1) := by decide +kernel
theorem dX1_countWays_56 : decode cX1_countWays 56 = .ok (.iload_n 2, 1) := by decide +kernel
theorem dX1_countWays_57 : decode cX1_countWays 57 = .ok (.dup2, 1) := by decide +kernel
theorem dX1_countWays_58 : decode cX1_countWays 58 = .ok (.iaload, 1) := by decide +kernel
theorem dX1_countWays_59 : decode cX1_countWays 59 = .ok (.aload_n 0, 1) := by decide +kernel
theorem dX1_countWays_60 : decode cX1_countWays 60 = .ok (.getfield 23, 3) := by decide +kernel
theorem dX1_countWays_63 : decode cX1_countWays 63 = .ok (.iload_n 1, 1) := by decide +kernel
theorem dX1_countWays_64 : decode cX1_countWays 64 = .ok (.iconst 1, 1) := by decide +kernel
theorem dX1_countWays_65 : decode cX1_countWays 65 = .ok (.isub, 1) := by decide +kernel
theorem dX1_countWays_66 : decode cX1_countWays 66 = .ok (.aaload, 1) := by decide +kernel
theorem dX1_countWays_67 : decode cX1_countWays 67 = .ok (.iload_n 3, 1) := by decide +kernel
theorem dX1_countWays_68 : decode cX1_countWays 68 = .ok (.iaload, 1) := by decide +kernel
theorem dX1_countWays_69 : decode cX1_countWays 69 = .ok (.iadd, 1) := by decide +kernel
theorem dX1_countWays_70 : decode cX1_countWays 70 = .ok (.iastore, 1) := by decide +kernel
theorem dX1_countWays_71 : decode cX1_countWays 71 = .ok (.iinc 3 1, 3) := by decide +kernel
theorem dX1_countWays_74 : decode cX1_countWays 74 = .ok (.goto (-31), 3) := by decide +kernel
theorem dX1_countWays_77 : decode cX1_countWays 77 = .ok (.iinc 2 1, 3) := by decide +kernel
theorem dX1_countWays_80 : decode cX1_countWays 80 = .ok (.goto (-47), 3) := by decide +kernel
theorem dX1_countWays_83 : decode cX1_countWays 83 = .ok (.iinc 1 1, 3) := by decide +kernel
theorem dX1_countWays_86 : decode cX1_countWays 86 = .ok (.goto (-61), 3) := by decide +kernel
theorem dX1_countWays_89 : decode cX1_countWays 89 = .ok (.return_, 1) := by decide +kernel
theorem dX1_placeOf_0 : decode cX1_placeOf 0 = .ok (.iconst 0, 1) := by decide +kernel
theorem dX1_placeOf_1 : decode cX1_placeOf 1 = .ok (.istore_n 2, 1) := by decide +kernel
theorem dX1_placeOf_2 : decode cX1_placeOf 2 = .ok (.iconst 0, 1) := by decide +kernel
theorem dX1_placeOf_3 : decode cX1_placeOf 3 = .ok (.istore_n 3, 1) := by decide +kernel
theorem dX1_placeOf_4 : decode cX1_placeOf 4 = .ok (.iconst 0, 1) := by decide +kernel
theorem dX1_placeOf_5 : decode cX1_placeOf 5 = .ok (.istore 4, 2) := by decide +kernel
theorem dX1_placeOf_7 : decode cX1_placeOf 7 = .ok (.iload 4, 2) := by decide +kernel
theorem dX1_placeOf_9 : decode cX1_placeOf 9 = .ok (.aload_n 1, 1) := by decide +kernel
theorem dX1_placeOf_10 : decode cX1_placeOf 10 = .ok (.getfield 48, 3) := by decide +kernel
theorem dX1_placeOf_13 : decode cX1_placeOf 13 = .ok (.if_icmp .ge 86, 3) := by decide +kernel
theorem dX1_placeOf_16 : decode cX1_placeOf 16 = .ok (.aload_n 1, 1) := by decide +kernel
theorem dX1_placeOf_17 : decode cX1_placeOf 17 = .ok (.iload 4, 2) := by decide +kernel
theorem dX1_placeOf_19 : decode cX1_placeOf 19 = .ok (.invokevirtual 52, 3) := by decide +kernel
theorem dX1_placeOf_22 : decode cX1_placeOf 22 = .ok (.ifCond .eq 9, 3) := by decide +kernel
theorem dX1_placeOf_25 : decode cX1_placeOf 25 = .ok (.iload_n 3, 1) := by decide +kernel
theorem dX1_placeOf_26 : decode cX1_placeOf 26 = .ok (.iconst 1, 1) := by decide +kernel
theorem dX1_placeOf_27 : decode cX1_placeOf 27 = .ok (.iadd, 1) := by decide +kernel
theorem dX1_placeOf_28 : decode cX1_placeOf 28 = .ok (.goto 15, 3) := by decide +kernel
theorem dX1_placeOf_31 : decode cX1_placeOf 31 = .ok (.aload_n 0, 1) := by decide +kernel
theorem dX1_placeOf_32 : decode cX1_placeOf 32 = .ok (.getfield 15, 3) := by decide +kernel
theorem dX1_placeOf_35 : decode cX1_placeOf 35 = .ok (.aload_n 1, 1) := by decide +kernel
theorem dX1_placeOf_36 : decode cX1_placeOf 36 = .ok (.getfield 56, 3) := by decide +kernel
theorem dX1_placeOf_39 : decode cX1_placeOf 39 = .ok (.iload 4, 2) := by decide +kernel
theorem dX1_placeOf_41 : decode cX1_placeOf 41 = .ok (.iaload, 1) := by decide +kernel
theorem dX1_placeOf_42 : decode cX1_placeOf 42 = .ok (.iaload, 1) := by decide +kernel
theorem dX1_placeOf_43 : decode cX1_placeOf 43 = .ok (.istore 5, 2) := by decide +kernel
theorem dX1_placeOf_45 : decode cX1_placeOf 45 = .ok (.iconst 1, 1) := by decide +kernel
theorem dX1_placeOf_46 : decode cX1_placeOf 46 = .ok (.istore 6, 2) := by decide +kernel
theorem dX1_placeOf_48 : decode cX1_placeOf 48 = .ok (.iload 6, 2) := by decide +kernel
theorem dX1_placeOf_50 : decode cX1_placeOf 50 = .ok (.iload 5, 2) := by decide +kernel
theorem dX1_placeOf_52 : decode cX1_placeOf 52 = .ok (.if_icmp .ge 29, 3) := by decide +kernel
theorem dX1_placeOf_55 : decode cX1_placeOf 55 = .ok (.iload_n 2, 1) := by decide +kernel
theorem dX1_placeOf_56 : decode cX1_placeOf 56 = .ok (.aload_n 0, 1) := by decide +kernel
theorem dX1_placeOf_57 : decode cX1_placeOf 57 = .ok (.getfield 23, 3) := by decide +kernel
theorem dX1_placeOf_60 : decode cX1_placeOf 60 = .ok (.aload_n 1, 1) := by decide +kernel
theorem dX1_placeOf_61 : decode cX1_placeOf 61 = .ok (.getfield 48, 3) := by decide +kernel
theorem dX1_placeOf_64 : decode cX1_placeOf 64 = .ok (.iconst 1, 1) := by decide +kernel
theorem dX1_placeOf_65 : decode cX1_placeOf 65 = .ok (.isub, 1) := by decide +kernel
theorem dX1_placeOf_66 : decode cX1_placeOf 66 = .ok (.iload 4, 2) := by decide +kernel
theorem dX1_placeOf_68 : decode cX1_placeOf 68 = .ok (.isub, 1) := by decide +kernel
theorem dX1_placeOf_69 : decode cX1_placeOf 69 = .ok (.aaload, 1) := by decide +kernel
theorem dX1_placeOf_70 : decode cX1_placeOf 70 = .ok (.iload 6, 2) := by decide +kernel
theorem dX1_placeOf_72 : decode cX1_placeOf 72 = .ok (.iaload, 1) := by decide +kernel
theorem dX1_placeOf_73 : decode cX1_placeOf 73 = .ok (.iadd, 1) := by decide +kernel
theorem dX1_placeOf_74 : decode cX1_placeOf 74 = .ok (.istore_n 2, 1) := by decide +kernel
theorem dX1_placeOf_75 : decode cX1_placeOf 75 = .ok (.iinc 6 1, 3) := by decide +kernel
theorem dX1_placeOf_78 : decode cX1_placeOf 78 = .ok (.goto (-30), 3) := by decide +kernel
theorem dX1_placeOf_81 : decode cX1_placeOf 81 = .ok (.aload_n 0, 1) := by decide +kernel
theorem dX1_placeOf_82 : decode cX1_placeOf 82 = .ok (.getfield 15, 3) := by decide +kernel
theorem dX1_placeOf_85 : decode cX1_placeOf 85 = .ok (.iload 4, 2) := by decide +kernel
theorem dX1_placeOf_87 : decode cX1_placeOf 87 = .ok (.iload 5, 2) := by decide +kernel
theorem dX1_placeOf_89 : decode cX1_placeOf 89 = .ok (.iastore, 1) := by decide +kernel
theorem dX1_placeOf_90 : decode cX1_placeOf 90 = .ok (.iload 5, 2) := by decide +kernel
theorem dX1_placeOf_92 : decode cX1_placeOf 92 = .ok (.istore_n 3, 1) := by decide +kernel
theorem dX1_placeOf_93 : decode cX1_placeOf 93 = .ok (.iinc 4 1, 3) := by decide +kernel
theorem dX1_placeOf_96 : decode cX1_placeOf 96 = .ok (.goto (-89), 3) := by decide +kernel
theorem dX1_placeOf_99 : decode cX1_placeOf 99 = .ok (.iload_n 2, 1) := by decide +kernel
theorem dX1_placeOf_100 : decode cX1_placeOf 100 = .ok (.ireturn, 1) := by decide +kernel
theorem dX1_takePlace_0 : decode cX1_takePlace 0 = .ok (.iload_n 3, 1) := by decide +kernel
theorem dX1_takePlace_1 : decode cX1_takePlace 1 = .ok (.istore 4, 2) := by decide +kernel
theorem dX1_takePlace_3 : decode cX1_takePlace 3 = .ok (.iconst 0, 1) := by decide +kernel
theorem dX1_takePlace_4 : decode cX1_takePlace 4 = .ok (.istore 5, 2) := by decide +kernel
theorem dX1_takePlace_6 : decode cX1_takePlace 6 = .ok (.aload_n 1, 1) := by decide +kernel
theorem dX1_takePlace_7 : decode cX1_takePlace 7 = .ok (.iload_n 2, 1) := by decide +kernel
theorem dX1_takePlace_8 : decode cX1_takePlace 8 = .ok (.invokevirtual 59, 3) := by decide +kernel
theorem dX1_takePlace_11 : decode cX1_takePlace 11 = .ok (.iconst 0, 1) := by decide +kernel
theorem dX1_takePlace_12 : decode cX1_takePlace 12 = .ok (.istore 6, 2) := by decide +kernel
theorem dX1_takePlace_14 : decode cX1_takePlace 14 = .ok (.iload 6, 2) := by decide +kernel
theorem dX1_takePlace_16 : decode cX1_takePlace 16 = .ok (.iload_n 2, 1) := by decide +kernel
theorem dX1_takePlace_17 : decode cX1_takePlace 17 = .ok (.if_icmp .ge 106, 3) := by decide +kernel
theorem dX1_takePlace_20 : decode cX1_takePlace 20 = .ok (.iconst 1, 1) := by decide +kernel
theorem dX1_takePlace_21 : decode cX1_takePlace 21 = .ok (.istore 7, 2) := by decide +kernel
theorem dX1_takePlace_23 : decode cX1_takePlace 23 = .ok (.iconst 1, 1) := by decide +kernel
theorem dX1_takePlace_24 : decode cX1_takePlace 24 = .ok (.istore 8, 2) := by decide +kernel
theorem dX1_takePlace_26 : decode cX1_takePlace 26 = .ok (.iload 8, 2) := by decide +kernel
theorem dX1_takePlace_28 : decode cX1_takePlace 28 = .ok (.iload 5, 2) := by decide +kernel
theorem dX1_takePlace_30 : decode cX1_takePlace 30 = .ok (.if_icmp .gt 53, 3) := by decide +kernel
theorem dX1_takePlace_33 : decode cX1_takePlace 33 = .ok (.iload 4, 2) := by decide +kernel
theorem dX1_takePlace_35 : decode cX1_takePlace 35 = .ok (.aload_n 0, 1) := by decide +kernel
theorem dX1_takePlace_36 : decode cX1_takePlace 36 = .ok (.getfield 23, 3) := by decide +kernel
theorem dX1_takePlace_39 : decode cX1_takePlace 39 = .ok (.iload_n 2, 1) := by decide +kernel
theorem dX1_takePlace_40 : decode cX1_takePlace 40 = .ok (.iconst 1, 1) := by decide +kernel
theorem dX1_takePlace_41 : decode cX1_takePlace 41 = .ok (.isub, 1) := by decide +kernel
theorem dX1_takePlace_42 : decode cX1_takePlace 42 = .ok (.iload 6, 2) := by decide +kernel
theorem dX1_takePlace_44 : decode cX1_takePlace 44 = .ok (.isub, 1) := by decide +kernel
theorem dX1_takePlace_45 : decode cX1_takePlace 45 = .ok (.aaload, 1) := by decide +kernel
theorem dX1_takePlace_46 : decode cX1_takePlace 46 = .ok (.iload 8, 2) := by decide +kernel
theorem dX1_takePlace_48 : decode cX1_takePlace 48 = .ok (.iaload, 1) := by decide +kernel
theorem dX1_takePlace_49 : decode cX1_takePlace 49 = .ok (.if_icmp .lt 34, 3) := by decide +kernel
theorem dX1_takePlace_52 : decode cX1_takePlace 52 = .ok (.iload 4, 2) := by decide +kernel
theorem dX1_takePlace_54 : decode cX1_takePlace 54 = .ok (.aload_n 0, 1) := by decide +kernel
theorem dX1_takePlace_55 : decode cX1_takePlace 55 = .ok (.getfield 23, 3) := by decide +kernel
theorem dX1_takePlace_58 : decode cX1_takePlace 58 = .ok (.iload_n 2, 1) := by decide +kernel
theorem dX1_takePlace_59 : decode cX1_takePlace 59 = .ok (.iconst 1, 1) := by decide +kernel
theorem dX1_takePlace_60 : decode cX1_takePlace 60 = .ok (.isub, 1) := by decide +kernel
theorem dX1_takePlace_61 : decode cX1_takePlace 61 = .ok (.iload 6, 2) := by decide +kernel
theorem dX1_takePlace_63 : decode cX1_takePlace 63 = .ok (.isub, 1) := by decide +kernel
theorem dX1_takePlace_64 : decode cX1_takePlace 64 = .ok (.aaload, 1) := by decide +kernel
theorem dX1_takePlace_65 : decode cX1_takePlace 65 = .ok (.iload 8, 2) := by decide +kernel
theorem dX1_takePlace_67 : decode cX1_takePlace 67 = .ok (.iaload, 1) := by decide +kernel
theorem dX1_takePlace_68 : decode cX1_takePlace 68 = .ok (.isub, 1) := by decide +kernel
theorem dX1_takePlace_69 : decode cX1_takePlace 69 = .ok (.istore 4, 2) := by decide +kernel
theorem dX1_takePlace_71 : decode cX1_takePlace 71 = .ok (.iload 8, 2) := by decide +kernel
theorem dX1_takePlace_73 : decode cX1_takePlace 73 = .ok (.iconst 1, 1) := by decide +kernel
theorem dX1_takePlace_74 : decode cX1_takePlace 74 = .ok (.iadd, 1) := by decide +kernel
theorem dX1_takePlace_75 : decode cX1_takePlace 75 = .ok (.istore 7, 2) := by decide +kernel
theorem dX1_takePlace_77 : decode cX1_takePlace 77 = .ok (.iinc 8 1, 3) := by decide +kernel
theorem dX1_takePlace_80 : decode cX1_takePlace 80 = .ok (.goto (-54), 3) := by decide +kernel
theorem dX1_takePlace_83 : decode cX1_takePlace 83 = .ok (.iload 7, 2) := by decide +kernel
theorem dX1_takePlace_85 : decode cX1_takePlace 85 = .ok (.iload 5, 2) := by decide +kernel
theorem dX1_takePlace_87 : decode cX1_takePlace 87 = .ok (.if_icmp .le 12, 3) := by decide +kernel
theorem dX1_takePlace_90 : decode cX1_takePlace 90 = .ok (.aload_n 0, 1) := by decide +kernel
theorem dX1_takePlace_91 : decode cX1_takePlace 91 = .ok (.getfield 18, 3) := by decide +kernel
theorem dX1_takePlace_94 : decode cX1_takePlace 94 = .ok (.iload 7, 2) := by decide +kernel
theorem dX1_takePlace_96 : decode cX1_takePlace 96 = .ok (.iload 6, 2) := by decide +kernel
theorem dX1_takePlace_98 : decode cX1_takePlace 98 = .ok (.iastore, 1) := by decide +kernel
theorem dX1_takePlace_99 : decode cX1_takePlace 99 = .ok (.aload_n 1, 1) := by decide +kernel
theorem dX1_takePlace_100 : decode cX1_takePlace 100 = .ok (.getfield 56, 3) := by decide +kernel
theorem dX1_takePlace_103 : decode cX1_takePlace 103 = .ok (.iload 6, 2) := by decide +kernel
theorem dX1_takePlace_105 : decode cX1_takePlace 105 = .ok (.aload_n 0, 1) := by decide +kernel
theorem dX1_takePlace_106 : decode cX1_takePlace 106 = .ok (.getfield 18, 3) := by decide +kernel
theorem dX1_takePlace_109 : decode cX1_takePlace 109 = .ok (.iload 7, 2) := by decide +kernel
theorem dX1_takePlace_111 : decode cX1_takePlace 111 = .ok (.iaload, 1) := by decide +kernel
theorem dX1_takePlace_112 : decode cX1_takePlace 112 = .ok (.iastore, 1) := by decide +kernel
theorem dX1_takePlace_113 : decode cX1_takePlace 113 = .ok (.iload 7, 2) := by decide +kernel
theorem dX1_takePlace_115 : decode cX1_takePlace 115 = .ok (.istore 5, 2) := by decide +kernel
theorem dX1_takePlace_117 : decode cX1_takePlace 117 = .ok (.iinc 6 1, 3) := by decide +kernel
theorem dX1_takePlace_120 : decode cX1_takePlace 120 = .ok (.goto (-106), 3) := by decide +kernel
theorem dX1_takePlace_123 : decode cX1_takePlace 123 = .ok (.return_, 1) := by decide +kernel
theorem dX1_meet_0 : decode cX1_meet 0 = .ok (.aload_n 1, 1) := by decide +kernel
theorem dX1_meet_1 : decode cX1_meet 1 = .ok (.aload_n 2, 1) := by decide +kernel
theorem dX1_meet_2 : decode cX1_meet 2 = .ok (.getfield 48, 3) := by decide +kernel
theorem dX1_meet_5 : decode cX1_meet 5 = .ok (.invokevirtual 59, 3) := by decide +kernel
theorem dX1_meet_8 : decode cX1_meet 8 = .ok (.iconst 0, 1) := by decide +kernel
theorem dX1_meet_9 : decode cX1_meet 9 = .ok (.istore 4, 2) := by decide +kernel
theorem dX1_meet_11 : decode cX1_meet 11 = .ok (.iload 4, 2) := by decide +kernel
theorem dX1_meet_13 : decode cX1_meet 13 = .ok (.aload_n 2, 1) := by decide +kernel
theorem dX1_meet_14 : decode cX1_meet 14 = .ok (.getfield 48, 3) := by decide +kernel
theorem dX1_meet_17 : decode cX1_meet 17 = .ok (.if_icmp .ge 57, 3) := by decide +kernel
theorem dX1_meet_20 : decode cX1_meet 20 = .ok (.iload 4, 2) := by decide +kernel
theorem dX1_meet_22 : decode cX1_meet 22 = .ok (.iconst 1, 1) := by decide +kernel
theorem dX1_meet_23 : decode cX1_meet 23 = .ok (.isub, 1) := by decide +kernel
theorem dX1_meet_24 : decode cX1_meet 24 = .ok (.istore 5, 2) := by decide +kernel
theorem dX1_meet_26 : decode cX1_meet 26 = .ok (.iload 5, 2) := by decide +kernel
theorem dX1_meet_28 : decode cX1_meet 28 = .ok (.ifCond .lt 40, 3) := by decide +kernel
theorem dX1_meet_31 : decode cX1_meet 31 = .ok (.aload_n 2, 1) := by decide +kernel
theorem dX1_meet_32 : decode cX1_meet 32 = .ok (.iload 4, 2) := by decide +kernel
theorem dX1_meet_34 : decode cX1_meet 34 = .ok (.iload 5, 2) := by decide +kernel
theorem dX1_meet_36 : decode cX1_meet 36 = .ok (.invokevirtual 63, 3) := by decide +kernel
theorem dX1_meet_39 : decode cX1_meet 39 = .ok (.ifCond .eq 23, 3) := by decide +kernel
theorem dX1_meet_42 : decode cX1_meet 42 = .ok (.aload_n 3, 1) := by decide +kernel
theorem dX1_meet_43 : decode cX1_meet 43 = .ok (.iload 4, 2) := by decide +kernel
theorem dX1_meet_45 : decode cX1_meet 45 = .ok (.iload 5, 2) := by decide +kernel
theorem dX1_meet_47 : decode cX1_meet 47 = .ok (.invokevirtual 63, 3) := by decide +kernel
theorem dX1_meet_50 : decode cX1_meet 50 = .ok (.ifCond .eq 12, 3) := by decide +kernel
theorem dX1_meet_53 : decode cX1_meet 53 = .ok (.aload_n 1, 1) := by decide +kernel
theorem dX1_meet_54 : decode cX1_meet 54 = .ok (.getfield 56, 3) := by decide +kernel
theorem dX1_meet_57 : decode cX1_meet 57 = .ok (.iload 4, 2) := by decide +kernel
theorem dX1_meet_59 : decode cX1_meet 59 = .ok (.iload 5, 2) := by decide +kernel
theorem dX1_meet_61 : decode cX1_meet 61 = .ok (.iastore, 1) := by decide +kernel
theorem dX1_meet_62 : decode cX1_meet 62 = .ok (.iinc 5 (-1), 3) := by decide +kernel
theorem dX1_meet_65 : decode cX1_meet 65 = .ok (.goto (-39), 3) := by decide +kernel
theorem dX1_meet_68 : decode cX1_meet 68 = .ok (.iinc 4 1, 3) := by decide +kernel
theorem dX1_meet_71 : decode cX1_meet 71 = .ok (.goto (-60), 3) := by decide +kernel
theorem dX1_meet_74 : decode cX1_meet 74 = .ok (.return_, 1) := by decide +kernel
theorem dX1_join_0 : decode cX1_join 0 = .ok (.aload_n 0, 1) := by decide +kernel
theorem dX1_join_1 : decode cX1_join 1 = .ok (.aload_n 0, 1) := by decide +kernel
theorem dX1_join_2 : decode cX1_join 2 = .ok (.getfield 29, 3) := by decide +kernel
theorem dX1_join_5 : decode cX1_join 5 = .ok (.aload_n 2, 1) := by decide +kernel
theorem dX1_join_6 : decode cX1_join 6 = .ok (.invokevirtual 67, 3) := by decide +kernel
theorem dX1_join_9 : decode cX1_join 9 = .ok (.aload_n 0, 1) := by decide +kernel
theorem dX1_join_10 : decode cX1_join 10 = .ok (.aload_n 0, 1) := by decide +kernel
theorem dX1_join_11 : decode cX1_join 11 = .ok (.getfield 33, 3) := by decide +kernel
theorem dX1_join_14 : decode cX1_join 14 = .ok (.aload_n 3, 1) := by decide +kernel
theorem dX1_join_15 : decode cX1_join 15 = .ok (.invokevirtual 67, 3) := by decide +kernel
theorem dX1_join_18 : decode cX1_join 18 = .ok (.aload_n 0, 1) := by decide +kernel
theorem dX1_join_19 : decode cX1_join 19 = .ok (.aload_n 0, 1) := by decide +kernel
theorem dX1_join_20 : decode cX1_join 20 = .ok (.getfield 36, 3) := by decide +kernel
theorem dX1_join_23 : decode cX1_join 23 = .ok (.aload_n 0, 1) := by decide +kernel
theorem dX1_join_24 : decode cX1_join 24 = .ok (.getfield 29, 3) := by decide +kernel
theorem dX1_join_27 : decode cX1_join 27 = .ok (.aload_n 0, 1) := by decide +kernel
theorem dX1_join_28 : decode cX1_join 28 = .ok (.getfield 33, 3) := by decide +kernel
theorem dX1_join_31 : decode cX1_join 31 = .ok (.invokevirtual 71, 3) := by decide +kernel
theorem dX1_join_34 : decode cX1_join 34 = .ok (.aload_n 0, 1) := by decide +kernel
theorem dX1_join_35 : decode cX1_join 35 = .ok (.aload_n 1, 1) := by decide +kernel
theorem dX1_join_36 : decode cX1_join 36 = .ok (.aload_n 0, 1) := by decide +kernel
theorem dX1_join_37 : decode cX1_join 37 = .ok (.getfield 36, 3) := by decide +kernel
theorem dX1_join_40 : decode cX1_join 40 = .ok (.invokevirtual 75, 3) := by decide +kernel
theorem dX1_join_43 : decode cX1_join 43 = .ok (.return_, 1) := by decide +kernel
theorem dX1_pairOf_0 : decode cX1_pairOf 0 = .ok (.aload_n 0, 1) := by decide +kernel
theorem dX1_pairOf_1 : decode cX1_pairOf 1 = .ok (.getfield 39, 3) := by decide +kernel
theorem dX1_pairOf_4 : decode cX1_pairOf 4 = .ok (.iload_n 1, 1) := by decide +kernel
theorem dX1_pairOf_5 : decode cX1_pairOf 5 = .ok (.invokevirtual 59, 3) := by decide +kernel
theorem dX1_pairOf_8 : decode cX1_pairOf 8 = .ok (.iload_n 2, 1) := by decide +kernel
theorem dX1_pairOf_9 : decode cX1_pairOf 9 = .ok (.iload_n 3, 1) := by decide +kernel
theorem dX1_pairOf_10 : decode cX1_pairOf 10 = .ok (.if_icmp .ge 16, 3) := by decide +kernel
theorem dX1_pairOf_13 : decode cX1_pairOf 13 = .ok (.aload_n 0, 1) := by decide +kernel
theorem dX1_pairOf_14 : decode cX1_pairOf 14 = .ok (.getfield 39, 3) := by decide +kernel
theorem dX1_pairOf_17 : decode cX1_pairOf 17 = .ok (.getfield 56, 3) := by decide +kernel
theorem dX1_pairOf_20 : decode cX1_pairOf 20 = .ok (.iload_n 3, 1) := by decide +kernel
theorem dX1_pairOf_21 : decode cX1_pairOf 21 = .ok (.iload_n 2, 1) := by decide +kernel
theorem dX1_pairOf_22 : decode cX1_pairOf 22 = .ok (.iastore, 1) := by decide +kernel
theorem dX1_pairOf_23 : decode cX1_pairOf 23 = .ok (.goto 13, 3) := by decide +kernel
theorem dX1_pairOf_26 : decode cX1_pairOf 26 = .ok (.aload_n 0, 1) := by decide +kernel
theorem dX1_pairOf_27 : decode cX1_pairOf 27 = .ok (.getfield 39, 3) := by decide +kernel
theorem dX1_pairOf_30 : decode cX1_pairOf 30 = .ok (.getfield 56, 3) := by decide +kernel
theorem dX1_pairOf_33 : decode cX1_pairOf 33 = .ok (.iload_n 2, 1) := by decide +kernel
theorem dX1_pairOf_34 : decode cX1_pairOf 34 = .ok (.iload_n 3, 1) := by decide +kernel
theorem dX1_pairOf_35 : decode cX1_pairOf 35 = .ok (.iastore, 1) := by decide +kernel
theorem dX1_pairOf_36 : decode cX1_pairOf 36 = .ok (.aload_n 0, 1) := by decide +kernel
theorem dX1_pairOf_37 : decode cX1_pairOf 37 = .ok (.getfield 39, 3) := by decide +kernel
theorem dX1_pairOf_40 : decode cX1_pairOf 40 = .ok (.areturn, 1) := by decide +kernel
theorem dX1_complement_0 : decode cX1_complement 0 = .ok (.iconst 0, 1) := by decide +kernel
theorem dX1_complement_1 : decode cX1_complement 1 = .ok (.istore_n 3, 1) := by decide +kernel
theorem dX1_complement_2 : decode cX1_complement 2 = .ok (.iload_n 3, 1) := by decide +kernel
theorem dX1_complement_3 : decode cX1_complement 3 = .ok (.aload_n 2, 1) := by decide +kernel
theorem dX1_complement_4 : decode cX1_complement 4 = .ok (.getfield 48, 3) := by decide +kernel
theorem dX1_complement_7 : decode cX1_complement 7 = .ok (.if_icmp .ge 27, 3) := by decide +kernel
theorem dX1_complement_10 : decode cX1_complement 10 = .ok (.aload_n 0, 1) := by decide +kernel
theorem dX1_complement_11 : decode cX1_complement 11 = .ok (.getfield 9, 3) := by decide +kernel
theorem dX1_complement_14 : decode cX1_complement 14 = .ok (.iload_n 3, 1) := by decide +kernel
theorem dX1_complement_15 : decode cX1_complement 15 = .ok (.aload_n 2, 1) := by decide +kernel
theorem dX1_complement_16 : decode cX1_complement 16 = .ok (.iload_n 3, 1) := by decide +kernel
theorem dX1_complement_17 : decode cX1_complement 17 = .ok (.aload_n 2, 1) := by decide +kernel
theorem dX1_complement_18 : decode cX1_complement 18 = .ok (.getfield 48, 3) := by decide +kernel
theorem dX1_complement_21 : decode cX1_complement 21 = .ok (.invokestatic 78, 3) := by decide +kernel
theorem dX1_complement_24 : decode cX1_complement 24 = .ok (.invokevirtual 82, 3) := by decide +kernel
theorem dX1_complement_27 : decode cX1_complement 27 = .ok (.iastore, 1) := by decide +kernel
theorem dX1_complement_28 : decode cX1_complement 28 = .ok (.iinc 3 1, 3) := by decide +kernel
theorem dX1_complement_31 : decode cX1_complement 31 = .ok (.goto (-29), 3) := by decide +kernel
theorem dX1_complement_34 : decode cX1_complement 34 = .ok (.aload_n 0, 1) := by decide +kernel
theorem dX1_complement_35 : decode cX1_complement 35 = .ok (.aload_n 1, 1) := by decide +kernel
theorem dX1_complement_36 : decode cX1_complement 36 = .ok (.aload_n 2, 1) := by decide +kernel
theorem dX1_complement_37 : decode cX1_complement 37 = .ok (.getfield 48, 3) := by decide +kernel
theorem dX1_complement_40 : decode cX1_complement 40 = .ok (.invokevirtual 86, 3) := by decide +kernel
theorem dX1_complement_43 : decode cX1_complement 43 = .ok (.return_, 1) := by decide +kernel
theorem dX1_uncomplement_0 : decode cX1_uncomplement 0 = .ok (.iconst 0, 1) := by decide +kernel
theorem dX1_uncomplement_1 : decode cX1_uncomplement 1 = .ok (.istore_n 3, 1) := by decide +kernel
theorem dX1_uncomplement_2 : decode cX1_uncomplement 2 = .ok (.iload_n 3, 1) := by decide +kernel
theorem dX1_uncomplement_3 : decode cX1_uncomplement 3 = .ok (.aload_n 2, 1) := by decide +kernel
theorem dX1_uncomplement_4 : decode cX1_uncomplement 4 = .ok (.getfield 48, 3) := by decide +kernel
theorem dX1_uncomplement_7 : decode cX1_uncomplement 7 = .ok (.if_icmp .ge 27, 3) := by decide +kernel
theorem dX1_uncomplement_10 : decode cX1_uncomplement 10 = .ok (.aload_n 0, 1) := by decide +kernel
theorem dX1_uncomplement_11 : decode cX1_uncomplement 11 = .ok (.getfield 9, 3) := by decide +kernel
theorem dX1_uncomplement_14 : decode cX1_uncomplement 14 = .ok (.iload_n 3, 1) := by decide +kernel
theorem dX1_uncomplement_15 : decode cX1_uncomplement 15 = .ok (.aload_n 2, 1) := by decide +kernel
theorem dX1_uncomplement_16 : decode cX1_uncomplement 16 = .ok (.iload_n 3, 1) := by decide +kernel
theorem dX1_uncomplement_17 : decode cX1_uncomplement 17 = .ok (.invokevirtual 82, 3) := by decide +kernel
theorem dX1_uncomplement_20 : decode cX1_uncomplement 20 = .ok (.aload_n 2, 1) := by decide +kernel
theorem dX1_uncomplement_21 : decode cX1_uncomplement 21 = .ok (.getfield 48, 3) := by decide +kernel
theorem dX1_uncomplement_24 : decode cX1_uncomplement 24 = .ok (.invokestatic 78, 3) := by decide +kernel
theorem dX1_uncomplement_27 : decode cX1_uncomplement 27 = .ok (.iastore, 1) := by decide +kernel
theorem dX1_uncomplement_28 : decode cX1_uncomplement 28 = .ok (.iinc 3 1, 3) := by decide +kernel
theorem dX1_uncomplement_31 : decode cX1_uncomplement 31 = .ok (.goto (-29), 3) := by decide +kernel
theorem dX1_uncomplement_34 : decode cX1_uncomplement 34 = .ok (.aload_n 0, 1) := by decide +kernel
theorem dX1_uncomplement_35 : decode cX1_uncomplement 35 = .ok (.aload_n 1, 1) := by decide +kernel
theorem dX1_uncomplement_36 : decode cX1_uncomplement 36 = .ok (.aload_n 2, 1) := by decide +kernel
theorem dX1_uncomplement_37 : decode cX1_uncomplement 37 = .ok (.getfield 48, 3) := by decide +kernel
theorem dX1_uncomplement_40 : decode cX1_uncomplement 40 = .ok (.invokevirtual 86, 3) := by decide +kernel
theorem dX1_uncomplement_43 : decode cX1_uncomplement 43 = .ok (.return_, 1) := by decide +kernel
theorem dX1_complementInside_0 : decode cX1_complementInside 0 = .ok (.iconst 0, 1) := by decide +kernel
theorem dX1_complementInside_1 : decode cX1_complementInside 1 = .ok (.istore 4, 2) := by decide +kernel
theorem dX1_complementInside_3 : decode cX1_complementInside 3 = .ok (.iload 4, 2) := by decide +kernel
theorem dX1_complementInside_5 : decode cX1_complementInside 5 = .ok (.aload_n 2, 1) := by decide +kernel
theorem dX1_complementInside_6 : decode cX1_complementInside 6 = .ok (.getfield 48, 3) := by decide +kernel
theorem dX1_complementInside_9 : decode cX1_complementInside 9 = .ok (.if_icmp .ge 26, 3) := by decide +kernel
theorem dX1_complementInside_12 : decode cX1_complementInside 12 = .ok (.aload_n 0, 1) := by decide +kernel
theorem dX1_complementInside_13 : decode cX1_complementInside 13 = .ok (.getfield 9, 3) := by decide +kernel
theorem dX1_complementInside_16 : decode cX1_complementInside 16 = .ok (.iload 4, 2) := by decide +kernel
theorem dX1_complementInside_18 : decode cX1_complementInside 18 = .ok (.aload_n 2, 1) := by decide +kernel
theorem dX1_complementInside_19 : decode cX1_complementInside 19 = .ok (.aload_n 3, 1) := by decide +kernel
theorem dX1_complementInside_20 : decode cX1_complementInside 20 = .ok (.iload 4, 2) := by decide +kernel
theorem dX1_complementInside_22 : decode cX1_complementInside 22 = .ok (.invokevirtual 90, 3) := by decide +kernel
theorem dX1_complementInside_25 : decode cX1_complementInside 25 = .ok (.invokevirtual 82, 3) := by decide +kernel
theorem dX1_complementInside_28 : decode cX1_complementInside 28 = .ok (.iastore, 1) := by decide +kernel
theorem dX1_complementInside_29 : decode cX1_complementInside 29 = .ok (.iinc 4 1, 3) := by decide +kernel
theorem dX1_complementInside_32 : decode cX1_complementInside 32 = .ok (.goto (-29), 3) := by decide +kernel
theorem dX1_complementInside_35 : decode cX1_complementInside 35 = .ok (.aload_n 0, 1) := by decide +kernel
theorem dX1_complementInside_36 : decode cX1_complementInside 36 = .ok (.aload_n 1, 1) := by decide +kernel
theorem dX1_complementInside_37 : decode cX1_complementInside 37 = .ok (.aload_n 2, 1) := by decide +kernel
theorem dX1_complementInside_38 : decode cX1_complementInside 38 = .ok (.getfield 48, 3) := by decide +kernel
theorem dX1_complementInside_41 : decode cX1_complementInside 41 = .ok (.invokevirtual 86, 3) := by decide +kernel
theorem dX1_complementInside_44 : decode cX1_complementInside 44 = .ok (.return_, 1) := by decide +kernel
theorem dX1_turn_0 : decode cX1_turn 0 = .ok (.iconst 0, 1) := by decide +kernel
theorem dX1_turn_1 : decode cX1_turn 1 = .ok (.istore_n 3, 1) := by decide +kernel
theorem dX1_turn_2 : decode cX1_turn 2 = .ok (.iload_n 3, 1) := by decide +kernel
theorem dX1_turn_3 : decode cX1_turn 3 = .ok (.aload_n 2, 1) := by decide +kernel
theorem dX1_turn_4 : decode cX1_turn 4 = .ok (.getfield 48, 3) := by decide +kernel
theorem dX1_turn_7 : decode cX1_turn 7 = .ok (.if_icmp .ge 34, 3) := by decide +kernel
theorem dX1_turn_10 : decode cX1_turn 10 = .ok (.aload_n 0, 1) := by decide +kernel
theorem dX1_turn_11 : decode cX1_turn 11 = .ok (.getfield 9, 3) := by decide +kernel
theorem dX1_turn_14 : decode cX1_turn 14 = .ok (.iload_n 3, 1) := by decide +kernel
theorem dX1_turn_15 : decode cX1_turn 15 = .ok (.aload_n 2, 1) := by decide +kernel
theorem dX1_turn_16 : decode cX1_turn 16 = .ok (.getfield 48, 3) := by decide +kernel
theorem dX1_turn_19 : decode cX1_turn 19 = .ok (.invokestatic 78, 3) := by decide +kernel
theorem dX1_turn_22 : decode cX1_turn 22 = .ok (.aload_n 2, 1) := by decide +kernel
theorem dX1_turn_23 : decode cX1_turn 23 = .ok (.iload_n 3, 1) := by decide +kernel
theorem dX1_turn_24 : decode cX1_turn 24 = .ok (.invokevirtual 90, 3) := by decide +kernel
theorem dX1_turn_27 : decode cX1_turn 27 = .ok (.aload_n 2, 1) := by decide +kernel
theorem dX1_turn_28 : decode cX1_turn 28 = .ok (.getfield 48, 3) := by decide +kernel
theorem dX1_turn_31 : decode cX1_turn 31 = .ok (.invokestatic 78, 3) := by decide +kernel
theorem dX1_turn_34 : decode cX1_turn 34 = .ok (.iastore, 1) := by decide +kernel
theorem dX1_turn_35 : decode cX1_turn 35 = .ok (.iinc 3 1, 3) := by decide +kernel
theorem dX1_turn_38 : decode cX1_turn 38 = .ok (.goto (-36), 3) := by decide +kernel
theorem dX1_turn_41 : decode cX1_turn 41 = .ok (.aload_n 0, 1) := by decide +kernel
theorem dX1_turn_42 : decode cX1_turn 42 = .ok (.aload_n 1, 1) := by decide +kernel
theorem dX1_turn_43 : decode cX1_turn 43 = .ok (.aload_n 2, 1) := by decide +kernel
theorem dX1_turn_44 : decode cX1_turn 44 = .ok (.getfield 48, 3) := by decide +kernel
theorem dX1_turn_47 : decode cX1_turn 47 = .ok (.invokevirtual 86, 3) := by decide +kernel
theorem dX1_turn_50 : decode cX1_turn 50 = .ok (.return_, 1) := by decide +kernel
theorem dX1_after_0 : decode cX1_after 0 = .ok (.iload_n 0, 1) := by decide +kernel
theorem dX1_after_1 : decode cX1_after 1 = .ok (.iconst 1, 1) := by decide +kernel
theorem dX1_after_2 : decode cX1_after 2 = .ok (.iadd, 1) := by decide +kernel
theorem dX1_after_3 : decode cX1_after 3 = .ok (.iload_n 1, 1) := by decide +kernel
theorem dX1_after_4 : decode cX1_after 4 = .ok (.if_icmp .ge 9, 3) := by decide +kernel
theorem dX1_after_7 : decode cX1_after 7 = .ok (.iload_n 0, 1) := by decide +kernel
theorem dX1_after_8 : decode cX1_after 8 = .ok (.iconst 1, 1) := by decide +kernel
theorem dX1_after_9 : decode cX1_after 9 = .ok (.iadd, 1) := by decide +kernel
theorem dX1_after_10 : decode cX1_after 10 = .ok (.goto 4, 3) := by decide +kernel
theorem dX1_after_13 : decode cX1_after 13 = .ok (.iconst 0, 1) := by decide +kernel
theorem dX1_after_14 : decode cX1_after 14 = .ok (.ireturn, 1) := by decide +kernel
theorem dX1_takeCycles_0 : decode cX1_takeCycles 0 = .ok (.aload_n 1, 1) := by decide +kernel
theorem dX1_takeCycles_1 : decode cX1_takeCycles 1 = .ok (.iload_n 2, 1) := by decide +kernel
theorem dX1_takeCycles_2 : decode cX1_takeCycles 2 = .ok (.invokevirtual 59, 3) := by decide +kernel
theorem dX1_takeCycles_5 : decode cX1_takeCycles 5 = .ok (.iconst 0, 1) := by decide +kernel
theorem dX1_takeCycles_6 : decode cX1_takeCycles 6 = .ok (.istore_n 3, 1) := by decide +kernel
theorem dX1_takeCycles_7 : decode cX1_takeCycles 7 = .ok (.iload_n 3, 1) := by decide +kernel
theorem dX1_takeCycles_8 : decode cX1_takeCycles 8 = .ok (.iload_n 2, 1) := by decide +kernel
theorem dX1_takeCycles_9 : decode cX1_takeCycles 9 = .ok (.if_icmp .ge 63, 3) := by decide +kernel
theorem dX1_takeCycles_12 : decode cX1_takeCycles 12 = .ok (.aload_n 1, 1) := by decide +kernel
theorem dX1_takeCycles_13 : decode cX1_takeCycles 13 = .ok (.iload_n 3, 1) := by decide +kernel
theorem dX1_takeCycles_14 : decode cX1_takeCycles 14 = .ok (.invokevirtual 52, 3) := by decide +kernel
theorem dX1_takeCycles_17 : decode cX1_takeCycles 17 = .ok (.ifCond .eq 49, 3) := by decide +kernel
theorem dX1_takeCycles_20 : decode cX1_takeCycles 20 = .ok (.aload_n 0, 1) := by decide +kernel
theorem dX1_takeCycles_21 : decode cX1_takeCycles 21 = .ok (.getfield 9, 3) := by decide +kernel
theorem dX1_takeCycles_24 : decode cX1_takeCycles 24 = .ok (.iload_n 3, 1) := by decide +kernel
theorem dX1_takeCycles_25 : decode cX1_takeCycles 25 = .ok (.iaload, 1) := by decide +kernel
theorem dX1_takeCycles_26 : decode cX1_takeCycles 26 = .ok (.istore 4, 2) := by decide +kernel
theorem dX1_takeCycles_28 : decode cX1_takeCycles 28 = .ok (.iconst 1, 1) := by decide +kernel
theorem dX1_takeCycles_29 : decode cX1_takeCycles 29 = .ok (.istore 5, 2) := by decide +kernel
theorem dX1_takeCycles_31 : decode cX1_takeCycles 31 = .ok (.iload 5, 2) := by decide +kernel
theorem dX1_takeCycles_33 : decode cX1_takeCycles 33 = .ok (.iload_n 2, 1) := by decide +kernel
theorem dX1_takeCycles_34 : decode cX1_takeCycles 34 = .ok (.if_icmp .ge 32, 3) := by decide +kernel
theorem dX1_takeCycles_37 : decode cX1_takeCycles 37 = .ok (.iload 4, 2) := by decide +kernel
theorem dX1_takeCycles_39 : decode cX1_takeCycles 39 = .ok (.iload_n 3, 1) := by decide +kernel
theorem dX1_takeCycles_40 : decode cX1_takeCycles 40 = .ok (.if_icmp .eq 26, 3) := by decide +kernel
theorem dX1_takeCycles_43 : decode cX1_takeCycles 43 = .ok (.aload_n 1, 1) := by decide +kernel
theorem dX1_takeCycles_44 : decode cX1_takeCycles 44 = .ok (.getfield 56, 3) := by decide +kernel
theorem dX1_takeCycles_47 : decode cX1_takeCycles 47 = .ok (.iload 4, 2) := by decide +kernel
theorem dX1_takeCycles_49 : decode cX1_takeCycles 49 = .ok (.iload_n 3, 1) := by decide +kernel
theorem dX1_takeCycles_50 : decode cX1_takeCycles 50 = .ok (.iastore, 1) := by decide +kernel
theorem dX1_takeCycles_51 : decode cX1_takeCycles 51 = .ok (.aload_n 0, 1) := by decide +kernel
theorem dX1_takeCycles_52 : decode cX1_takeCycles 52 = .ok (.getfield 9, 3) := by decide +kernel
theorem dX1_takeCycles_55 : decode cX1_takeCycles 55 = .ok (.iload 4, 2) := by decide +kernel
theorem dX1_takeCycles_57 : decode cX1_takeCycles 57 = .ok (.iaload, 1) := by decide +kernel
theorem dX1_takeCycles_58 : decode cX1_takeCycles 58 = .ok (.istore 4, 2) := by decide +kernel
theorem dX1_takeCycles_60 : decode cX1_takeCycles 60 = .ok (.iinc 5 1, 3) := by decide +kernel
theorem dX1_takeCycles_63 : decode cX1_takeCycles 63 = .ok (.goto (-32), 3) := by decide +kernel
theorem dX1_takeCycles_66 : decode cX1_takeCycles 66 = .ok (.iinc 3 1, 3) := by decide +kernel
theorem dX1_takeCycles_69 : decode cX1_takeCycles 69 = .ok (.goto (-62), 3) := by decide +kernel
theorem dX1_takeCycles_72 : decode cX1_takeCycles 72 = .ok (.return_, 1) := by decide +kernel
theorem dX1_coversOf_0 : decode cX1_coversOf 0 = .ok (.aload_n 0, 1) := by decide +kernel
theorem dX1_coversOf_1 : decode cX1_coversOf 1 = .ok (.aload_n 0, 1) := by decide +kernel
theorem dX1_coversOf_2 : decode cX1_coversOf 2 = .ok (.getfield 29, 3) := by decide +kernel
theorem dX1_coversOf_5 : decode cX1_coversOf 5 = .ok (.aload_n 1, 1) := by decide +kernel
theorem dX1_coversOf_6 : decode cX1_coversOf 6 = .ok (.invokevirtual 67, 3) := by decide +kernel
theorem dX1_coversOf_9 : decode cX1_coversOf 9 = .ok (.aload_n 0, 1) := by decide +kernel
theorem dX1_coversOf_10 : decode cX1_coversOf 10 = .ok (.getfield 29, 3) := by decide +kernel
theorem dX1_coversOf_13 : decode cX1_coversOf 13 = .ok (.invokevirtual 93, 3) := by decide +kernel
theorem dX1_coversOf_16 : decode cX1_coversOf 16 = .ok (.ireturn, 1) := by decide +kernel
theorem dX1_coverOf_0 : decode cX1_coverOf 0 = .ok (.iconst 0, 1) := by decide +kernel
theorem dX1_coverOf_1 : decode cX1_coverOf 1 = .ok (.istore_n 3, 1) := by decide +kernel
theorem dX1_coverOf_2 : decode cX1_coverOf 2 = .ok (.iconst 1, 1) := by decide +kernel
theorem dX1_coverOf_3 : decode cX1_coverOf 3 = .ok (.istore 4, 2) := by decide +kernel
theorem dX1_coverOf_5 : decode cX1_coverOf 5 = .ok (.iload 4, 2) := by decide +kernel
theorem dX1_coverOf_7 : decode cX1_coverOf 7 = .ok (.aload_n 1, 1) := by decide +kernel
theorem dX1_coverOf_8 : decode cX1_coverOf 8 = .ok (.getfield 48, 3) := by decide +kernel
theorem dX1_coverOf_11 : decode cX1_coverOf 11 = .ok (.if_icmp .ge 72, 3) := by decide +kernel
theorem dX1_coverOf_14 : decode cX1_coverOf 14 = .ok (.iconst 0, 1) := by decide +kernel
theorem dX1_coverOf_15 : decode cX1_coverOf 15 = .ok (.istore 5, 2) := by decide +kernel
theorem dX1_coverOf_17 : decode cX1_coverOf 17 = .ok (.iload 5, 2) := by decide +kernel
theorem dX1_coverOf_19 : decode cX1_coverOf 19 = .ok (.iload 4, 2) := by decide +kernel
theorem dX1_coverOf_21 : decode cX1_coverOf 21 = .ok (.if_icmp .ge 56, 3) := by decide +kernel
theorem dX1_coverOf_24 : decode cX1_coverOf 24 = .ok (.aload_n 1, 1) := by decide +kernel
theorem dX1_coverOf_25 : decode cX1_coverOf 25 = .ok (.iload 5, 2) := by decide +kernel
theorem dX1_coverOf_27 : decode cX1_coverOf 27 = .ok (.invokevirtual 52, 3) := by decide +kernel
theorem dX1_coverOf_30 : decode cX1_coverOf 30 = .ok (.ifCond .eq 41, 3) := by decide +kernel
theorem dX1_coverOf_33 : decode cX1_coverOf 33 = .ok (.aload_n 1, 1) := by decide +kernel
theorem dX1_coverOf_34 : decode cX1_coverOf 34 = .ok (.iload 4, 2) := by decide +kernel
theorem dX1_coverOf_36 : decode cX1_coverOf 36 = .ok (.invokevirtual 52, 3) := by decide +kernel
theorem dX1_coverOf_39 : decode cX1_coverOf 39 = .ok (.ifCond .eq 32, 3) := by decide +kernel
theorem dX1_coverOf_42 : decode cX1_coverOf 42 = .ok (.aload_n 0, 1) := by decide +kernel
theorem dX1_coverOf_43 : decode cX1_coverOf 43 = .ok (.aload_n 1, 1) := by decide +kernel
theorem dX1_coverOf_44 : decode cX1_coverOf 44 = .ok (.iload 5, 2) := by decide +kernel
theorem dX1_coverOf_46 : decode cX1_coverOf 46 = .ok (.iload 4, 2) := by decide +kernel
theorem dX1_coverOf_48 : decode cX1_coverOf 48 = .ok (.invokevirtual 97, 3) := by decide +kernel
theorem dX1_coverOf_51 : decode cX1_coverOf 51 = .ok (.ifCond .eq 20, 3) := by decide +kernel
theorem dX1_coverOf_54 : decode cX1_coverOf 54 = .ok (.iload_n 3, 1) := by decide +kernel
theorem dX1_coverOf_55 : decode cX1_coverOf 55 = .ok (.iload_n 2, 1) := by decide +kernel
theorem dX1_coverOf_56 : decode cX1_coverOf 56 = .ok (.if_icmp .ne 12, 3) := by decide +kernel
theorem dX1_coverOf_59 : decode cX1_coverOf 59 = .ok (.aload_n 0, 1) := by decide +kernel
theorem dX1_coverOf_60 : decode cX1_coverOf 60 = .ok (.aload_n 0, 1) := by decide +kernel
theorem dX1_coverOf_61 : decode cX1_coverOf 61 = .ok (.getfield 42, 3) := by decide +kernel
theorem dX1_coverOf_64 : decode cX1_coverOf 64 = .ok (.invokevirtual 101, 3) := by decide +kernel
theorem dX1_coverOf_67 : decode cX1_coverOf 67 = .ok (.ireturn, 1) := by decide +kernel
theorem dX1_coverOf_68 : decode cX1_coverOf 68 = .ok (.iinc 3 1, 3) := by decide +kernel
theorem dX1_coverOf_71 : decode cX1_coverOf 71 = .ok (.iinc 5 1, 3) := by decide +kernel
theorem dX1_coverOf_74 : decode cX1_coverOf 74 = .ok (.goto (-57), 3) := by decide +kernel
theorem dX1_coverOf_77 : decode cX1_coverOf 77 = .ok (.iinc 4 1, 3) := by decide +kernel
theorem dX1_coverOf_80 : decode cX1_coverOf 80 = .ok (.goto (-75), 3) := by decide +kernel
theorem dX1_coverOf_83 : decode cX1_coverOf 83 = .ok (.iconst (-1), 1) := by decide +kernel
theorem dX1_coverOf_84 : decode cX1_coverOf 84 = .ok (.ireturn, 1) := by decide +kernel
theorem dX1_unites_0 : decode cX1_unites 0 = .ok (.aload_n 0, 1) := by decide +kernel
theorem dX1_unites_1 : decode cX1_unites 1 = .ok (.aload_n 0, 1) := by decide +kernel
theorem dX1_unites_2 : decode cX1_unites 2 = .ok (.getfield 42, 3) := by decide +kernel
theorem dX1_unites_5 : decode cX1_unites 5 = .ok (.aload_n 1, 1) := by decide +kernel
theorem dX1_unites_6 : decode cX1_unites 6 = .ok (.aload_n 0, 1) := by decide +kernel
theorem dX1_unites_7 : decode cX1_unites 7 = .ok (.aload_n 1, 1) := by decide +kernel
theorem dX1_unites_8 : decode cX1_unites 8 = .ok (.getfield 48, 3) := by decide +kernel
theorem dX1_unites_11 : decode cX1_unites 11 = .ok (.iload_n 2, 1) := by decide +kernel
theorem dX1_unites_12 : decode cX1_unites 12 = .ok (.iload_n 3, 1) := by decide +kernel
theorem dX1_unites_13 : decode cX1_unites 13 = .ok (.invokevirtual 105, 3) := by decide +kernel
theorem dX1_unites_16 : decode cX1_unites 16 = .ok (.invokevirtual 109, 3) := by decide +kernel
theorem dX1_unites_19 : decode cX1_unites 19 = .ok (.aload_n 0, 1) := by decide +kernel
theorem dX1_unites_20 : decode cX1_unites 20 = .ok (.getfield 42, 3) := by decide +kernel
theorem dX1_unites_23 : decode cX1_unites 23 = .ok (.invokevirtual 112, 3) := by decide +kernel
theorem dX1_unites_26 : decode cX1_unites 26 = .ok (.aload_n 1, 1) := by decide +kernel
theorem dX1_unites_27 : decode cX1_unites 27 = .ok (.invokevirtual 112, 3) := by decide +kernel
theorem dX1_unites_30 : decode cX1_unites 30 = .ok (.iconst 1, 1) := by decide +kernel
theorem dX1_unites_31 : decode cX1_unites 31 = .ok (.iadd, 1) := by decide +kernel
theorem dX1_unites_32 : decode cX1_unites 32 = .ok (.if_icmp .ne 7, 3) := by decide +kernel
theorem dX1_unites_35 : decode cX1_unites 35 = .ok (.iconst 1, 1) := by decide +kernel
theorem dX1_unites_36 : decode cX1_unites 36 = .ok (.goto 4, 3) := by decide +kernel
theorem dX1_unites_39 : decode cX1_unites 39 = .ok (.iconst 0, 1) := by decide +kernel
theorem dX1_unites_40 : decode cX1_unites 40 = .ok (.ireturn, 1) := by decide +kernel
theorem dX2_init_0 : decode cX2_init 0 = .ok (.aload_n 0, 1) := by decide +kernel
theorem dX2_init_1 : decode cX2_init 1 = .ok (.invokespecial 3, 3) := by decide +kernel
theorem dX2_init_4 : decode cX2_init 4 = .ok (.aload_n 0, 1) := by decide +kernel
theorem dX2_init_5 : decode cX2_init 5 = .ok (.bipush 120, 2) := by decide +kernel
theorem dX2_init_7 : decode cX2_init 7 = .ok (.newarray .int, 2) := by decide +kernel
theorem dX2_init_9 : decode cX2_init 9 = .ok (.putfield 9, 3) := by decide +kernel
theorem dX2_init_12 : decode cX2_init 12 = .ok (.aload_n 0, 1) := by decide +kernel
theorem dX2_init_13 : decode cX2_init 13 = .ok (.iconst 0, 1) := by decide +kernel
theorem dX2_init_14 : decode cX2_init 14 = .ok (.putfield 15, 3) := by decide +kernel
theorem dX2_init_17 : decode cX2_init 17 = .ok (.aload_n 0, 1) := by decide +kernel
theorem dX2_init_18 : decode cX2_init 18 = .ok (.iconst 0, 1) := by decide +kernel
theorem dX2_init_19 : decode cX2_init 19 = .ok (.putfield 19, 3) := by decide +kernel
theorem dX2_init_22 : decode cX2_init 22 = .ok (.aload_n 0, 1) := by decide +kernel
theorem dX2_init_23 : decode cX2_init 23 = .ok (.iconst 0, 1) := by decide +kernel
theorem dX2_init_24 : decode cX2_init 24 = .ok (.putfield 22, 3) := by decide +kernel
theorem dX2_init_27 : decode cX2_init 27 = .ok (.aload_n 0, 1) := by decide +kernel
theorem dX2_init_28 : decode cX2_init 28 = .ok (.bipush 40, 2) := by decide +kernel
theorem dX2_init_30 : decode cX2_init 30 = .ok (.newarray .int, 2) := by decide +kernel
theorem dX2_init_32 : decode cX2_init 32 = .ok (.putfield 25, 3) := by decide +kernel
theorem dX2_init_35 : decode cX2_init 35 = .ok (.aload_n 0, 1) := by decide +kernel
theorem dX2_init_36 : decode cX2_init 36 = .ok (.bipush 40, 2) := by decide +kernel
theorem dX2_init_38 : decode cX2_init 38 = .ok (.iconst 3, 1) := by decide +kernel
theorem dX2_init_39 : decode cX2_init 39 = .ok (.multianewarray 28 2, 4) := by decide +kernel
theorem dX2_init_43 : decode cX2_init 43 = .ok (.putfield 30, 3) := by decide +kernel
theorem dX2_init_46 : decode cX2_init 46 = .ok (.return_, 1) := by decide +kernel
theorem dX2_append_0 : decode cX2_append 0 = .ok (.aload_n 0, 1) := by decide +kernel
theorem dX2_append_1 : decode cX2_append 1 = .ok (.getfield 15, 3) := by decide +kernel
theorem dX2_append_4 : decode cX2_append 4 = .ok (.bipush 120, 2) := by decide +kernel
theorem dX2_append_6 : decode cX2_append 6 = .ok (.if_icmp .ge 23, 3) := by decide +kernel
theorem dX2_append_9 : decode cX2_append 9 = .ok (.aload_n 0, 1) := by decide +kernel
theorem dX2_append_10 : decode cX2_append 10 = .ok (.getfield 9, 3) := by decide +kernel
theorem dX2_append_13 : decode cX2_append 13 = .ok (.aload_n 0, 1) := by decide +kernel
theorem dX2_append_14 : decode cX2_append 14 = .ok (.getfield 15, 3) := by decide +kernel
theorem dX2_append_17 : decode cX2_append 17 = .ok (.iload_n 1, 1) := by decide +kernel
theorem dX2_append_18 : decode cX2_append 18 = .ok (.iastore, 1) := by decide +kernel
theorem dX2_append_19 : decode cX2_append 19 = .ok (.aload_n 0, 1) := by decide +kernel
theorem dX2_append_20 : decode cX2_append 20 = .ok (.dup, 1) := by decide +kernel
theorem dX2_append_21 : decode cX2_append 21 = .ok (.getfield 15, 3) := by decide +kernel
theorem dX2_append_24 : decode cX2_append 24 = .ok (.iconst 1, 1) := by decide +kernel
theorem dX2_append_25 : decode cX2_append 25 = .ok (.iadd, 1) := by decide +kernel
theorem dX2_append_26 : decode cX2_append 26 = .ok (.putfield 15, 3) := by decide +kernel
theorem dX2_append_29 : decode cX2_append 29 = .ok (.return_, 1) := by decide +kernel
theorem dX2_fault_0 : decode cX2_fault 0 = .ok (.aload_n 0, 1) := by decide +kernel
theorem dX2_fault_1 : decode cX2_fault 1 = .ok (.iconst 0, 1) := by decide +kernel
theorem dX2_fault_2 : decode cX2_fault 2 = .ok (.putfield 19, 3) := by decide +kernel
theorem dX2_fault_5 : decode cX2_fault 5 = .ok (.aload_n 0, 1) := by decide +kernel
theorem dX2_fault_6 : decode cX2_fault 6 = .ok (.iconst 0, 1) := by decide +kernel
theorem dX2_fault_7 : decode cX2_fault 7 = .ok (.putfield 22, 3) := by decide +kernel
theorem dX2_fault_10 : decode cX2_fault 10 = .ok (.aload_n 0, 1) := by decide +kernel
theorem dX2_fault_11 : decode cX2_fault 11 = .ok (.invokevirtual 33, 3) := by decide +kernel
theorem dX2_fault_14 : decode cX2_fault 14 = .ok (.iconst 0, 1) := by decide +kernel
theorem dX2_fault_15 : decode cX2_fault 15 = .ok (.istore_n 1, 1) := by decide +kernel
theorem dX2_fault_16 : decode cX2_fault 16 = .ok (.iload_n 1, 1) := by decide +kernel
theorem dX2_fault_17 : decode cX2_fault 17 = .ok (.bipush 40, 2) := by decide +kernel
theorem dX2_fault_19 : decode cX2_fault 19 = .ok (.if_icmp .gt 36, 3) := by decide +kernel
theorem dX2_fault_22 : decode cX2_fault 22 = .ok (.aload_n 0, 1) := by decide +kernel
theorem dX2_fault_23 : decode cX2_fault 23 = .ok (.getfield 19, 3) := by decide +kernel
theorem dX2_fault_26 : decode cX2_fault 26 = .ok (.aload_n 0, 1) := by decide +kernel
theorem dX2_fault_27 : decode cX2_fault 27 = .ok (.getfield 15, 3) := by decide +kernel
theorem dX2_fault_30 : decode cX2_fault 30 = .ok (.if_icmp .ge 25, 3) := by decide +kernel
theorem dX2_fault_33 : decode cX2_fault 33 = .ok (.aload_n 0, 1) := by decide +kernel
theorem dX2_fault_34 : decode cX2_fault 34 = .ok (.invokevirtual 36, 3) := by decide +kernel
theorem dX2_fault_37 : decode cX2_fault 37 = .ok (.ifCond .ne 8, 3) := by decide +kernel
theorem dX2_fault_40 : decode cX2_fault 40 = .ok (.aload_n 0, 1) := by decide +kernel
theorem dX2_fault_41 : decode cX2_fault 41 = .ok (.getfield 19, 3) := by decide +kernel
theorem dX2_fault_44 : decode cX2_fault 44 = .ok (.ireturn, 1) := by decide +kernel
theorem dX2_fault_45 : decode cX2_fault 45 = .ok (.aload_n 0, 1) := by decide +kernel
theorem dX2_fault_46 : decode cX2_fault 46 = .ok (.invokevirtual 33, 3) := by decide +kernel
theorem dX2_fault_49 : decode cX2_fault 49 = .ok (.iinc 1 1, 3) := by decide +kernel
theorem dX2_fault_52 : decode cX2_fault 52 = .ok (.goto (-36), 3) := by decide +kernel
theorem dX2_fault_55 : decode cX2_fault 55 = .ok (.aload_n 0, 1) := by decide +kernel
theorem dX2_fault_56 : decode cX2_fault 56 = .ok (.getfield 22, 3) := by decide +kernel
theorem dX2_fault_59 : decode cX2_fault 59 = .ok (.ifCond .le 7, 3) := by decide +kernel
theorem dX2_fault_62 : decode cX2_fault 62 = .ok (.iconst (-1), 1) := by decide +kernel
theorem dX2_fault_63 : decode cX2_fault 63 = .ok (.goto 7, 3) := by decide +kernel
theorem dX2_fault_66 : decode cX2_fault 66 = .ok (.aload_n 0, 1) := by decide +kernel
theorem dX2_fault_67 : decode cX2_fault 67 = .ok (.getfield 15, 3) := by decide +kernel
theorem dX2_fault_70 : decode cX2_fault 70 = .ok (.ireturn, 1) := by decide +kernel
theorem dX2_readsOrder_0 : decode cX2_readsOrder 0 = .ok (.aload_n 0, 1) := by decide +kernel
theorem dX2_readsOrder_1 : decode cX2_readsOrder 1 = .ok (.invokevirtual 40, 3) := by decide +kernel
theorem dX2_readsOrder_4 : decode cX2_readsOrder 4 = .ok (.istore_n 1, 1) := by decide +kernel
theorem dX2_readsOrder_5 : decode cX2_readsOrder 5 = .ok (.iload_n 1, 1) := by decide +kernel
theorem dX2_readsOrder_6 : decode cX2_readsOrder 6 = .ok (.invokestatic 44, 3) := by decide +kernel
theorem dX2_readsOrder_9 : decode cX2_readsOrder 9 = .ok (.istore_n 2, 1) := by decide +kernel
theorem dX2_readsOrder_10 : decode cX2_readsOrder 10 = .ok (.iload_n 2, 1) := by decide +kernel
theorem dX2_readsOrder_11 : decode cX2_readsOrder 11 = .ok (.ifCond .eq 12, 3) := by decide +kernel
theorem dX2_readsOrder_14 : decode cX2_readsOrder 14 = .ok (.aload_n 0, 1) := by decide +kernel
theorem dX2_readsOrder_15 : decode cX2_readsOrder 15 = .ok (.getfield 22, 3) := by decide +kernel
theorem dX2_readsOrder_18 : decode cX2_readsOrder 18 = .ok (.bipush 40, 2) := by decide +kernel
theorem dX2_readsOrder_20 : decode cX2_readsOrder 20 = .ok (.if_icmp .lt 5, 3) := by decide +kernel
theorem dX2_readsOrder_23 : decode cX2_readsOrder 23 = .ok (.iconst 0, 1) := by decide +kernel
theorem dX2_readsOrder_24 : decode cX2_readsOrder 24 = .ok (.ireturn, 1) := by decide +kernel
theorem dX2_readsOrder_25 : decode cX2_readsOrder 25 = .ok (.aload_n 0, 1) := by decide +kernel
theorem dX2_readsOrder_26 : decode cX2_readsOrder 26 = .ok (.dup, 1) := by decide +kernel
theorem dX2_readsOrder_27 : decode cX2_readsOrder 27 = .ok (.getfield 19, 3) := by decide +kernel
theorem dX2_readsOrder_30 : decode cX2_readsOrder 30 = .ok (.iconst 1, 1) := by decide +kernel
theorem dX2_readsOrder_31 : decode cX2_readsOrder 31 = .ok (.iadd, 1) := by decide +kernel
theorem dX2_readsOrder_32 : decode cX2_readsOrder 32 = .ok (.putfield 19, 3) := by decide +kernel
theorem dX2_readsOrder_35 : decode cX2_readsOrder 35 = .ok (.iconst 0, 1) := by decide +kernel
theorem dX2_readsOrder_36 : decode cX2_readsOrder 36 = .ok (.istore_n 3, 1) := by decide +kernel
theorem dX2_readsOrder_37 : decode cX2_readsOrder 37 = .ok (.iload_n 3, 1) := by decide +kernel
theorem dX2_readsOrder_38 : decode cX2_readsOrder 38 = .ok (.iload_n 2, 1) := by decide +kernel
theorem dX2_readsOrder_39 : decode cX2_readsOrder 39 = .ok (.if_icmp .ge 39, 3) := by decide +kernel
theorem dX2_readsOrder_42 : decode cX2_readsOrder 42 = .ok (.iload_n 1, 1) := by decide +kernel
theorem dX2_readsOrder_43 : decode cX2_readsOrder 43 = .ok (.bipush 120, 2) := by decide +kernel
theorem dX2_readsOrder_45 : decode cX2_readsOrder 45 = .ok (.if_icmp .ne 12, 3) := by decide +kernel
theorem dX2_readsOrder_48 : decode cX2_readsOrder 48 = .ok (.iload_n 3, 1) := by decide +kernel
theorem dX2_readsOrder_49 : decode cX2_readsOrder 49 = .ok (.iconst 1, 1) := by decide +kernel
theorem dX2_readsOrder_50 : decode cX2_readsOrder 50 = .ok (.if_icmp .ne 7, 3) := by decide +kernel
theorem dX2_readsOrder_53 : decode cX2_readsOrder 53 = .ok (.iconst 1, 1) := by decide +kernel
theorem dX2_readsOrder_54 : decode cX2_readsOrder 54 = .ok (.goto 4, 3) := by decide +kernel
theorem dX2_readsOrder_57 : decode cX2_readsOrder 57 = .ok (.iconst 0, 1) := by decide +kernel
theorem dX2_readsOrder_58 : decode cX2_readsOrder 58 = .ok (.istore 4, 2) := by decide +kernel
theorem dX2_readsOrder_60 : decode cX2_readsOrder 60 = .ok (.aload_n 0, 1) := by decide +kernel
theorem dX2_readsOrder_61 : decode cX2_readsOrder 61 = .ok (.iload_n 3, 1) := by decide +kernel
theorem dX2_readsOrder_62 : decode cX2_readsOrder 62 = .ok (.iload 4, 2) := by decide +kernel
theorem dX2_readsOrder_64 : decode cX2_readsOrder 64 = .ok (.invokevirtual 48, 3) := by decide +kernel
theorem dX2_readsOrder_67 : decode cX2_readsOrder 67 = .ok (.ifCond .ne 5, 3) := by decide +kernel
theorem dX2_readsOrder_70 : decode cX2_readsOrder 70 = .ok (.iconst 0, 1) := by decide +kernel
theorem dX2_readsOrder_71 : decode cX2_readsOrder 71 = .ok (.ireturn, 1) := by decide +kernel
theorem dX2_readsOrder_72 : decode cX2_readsOrder 72 = .ok (.iinc 3 1, 3) := by decide +kernel
theorem dX2_readsOrder_75 : decode cX2_readsOrder 75 = .ok (.goto (-38), 3) := by decide +kernel
theorem dX2_readsOrder_78 : decode cX2_readsOrder 78 = .ok (.aload_n 0, 1) := by decide +kernel
theorem dX2_readsOrder_79 : decode cX2_readsOrder 79 = .ok (.invokevirtual 33, 3) := by decide +kernel
theorem dX2_readsOrder_82 : decode cX2_readsOrder 82 = .ok (.aload_n 0, 1) := by decide +kernel
theorem dX2_readsOrder_83 : decode cX2_readsOrder 83 = .ok (.invokevirtual 40, 3) := by decide +kernel
theorem dX2_readsOrder_86 : decode cX2_readsOrder 86 = .ok (.bipush 59, 2) := by decide +kernel
theorem dX2_readsOrder_88 : decode cX2_readsOrder 88 = .ok (.if_icmp .eq 5, 3) := by decide +kernel
theorem dX2_readsOrder_91 : decode cX2_readsOrder 91 = .ok (.iconst 0, 1) := by decide +kernel
theorem dX2_readsOrder_92 : decode cX2_readsOrder 92 = .ok (.ireturn, 1) := by decide +kernel
theorem dX2_readsOrder_93 : decode cX2_readsOrder 93 = .ok (.aload_n 0, 1) := by decide +kernel
theorem dX2_readsOrder_94 : decode cX2_readsOrder 94 = .ok (.dup, 1) := by decide +kernel
theorem dX2_readsOrder_95 : decode cX2_readsOrder 95 = .ok (.getfield 19, 3) := by decide +kernel
theorem dX2_readsOrder_98 : decode cX2_readsOrder 98 = .ok (.iconst 1, 1) := by decide +kernel
theorem dX2_readsOrder_99 : decode cX2_readsOrder 99 = .ok (.iadd, 1) := by decide +kernel
theorem dX2_readsOrder_100 : decode cX2_readsOrder 100 = .ok (.putfield 19, 3) := by decide +kernel
theorem dX2_readsOrder_103 : decode cX2_readsOrder 103 = .ok (.aload_n 0, 1) := by decide +kernel
theorem dX2_readsOrder_104 : decode cX2_readsOrder 104 = .ok (.getfield 25, 3) := by decide +kernel
theorem dX2_readsOrder_107 : decode cX2_readsOrder 107 = .ok (.aload_n 0, 1) := by decide +kernel
theorem dX2_readsOrder_108 : decode cX2_readsOrder 108 = .ok (.getfield 22, 3) := by decide +kernel
theorem dX2_readsOrder_111 : decode cX2_readsOrder 111 = .ok (.iload_n 1, 1) := by decide +kernel
theorem dX2_readsOrder_112 : decode cX2_readsOrder 112 = .ok (.iastore, 1) := by decide +kernel
theorem dX2_readsOrder_113 : decode cX2_readsOrder 113 = .ok (.aload_n 0, 1) := by decide +kernel
theorem dX2_readsOrder_114 : decode cX2_readsOrder 114 = .ok (.dup, 1) := by decide +kernel
theorem dX2_readsOrder_115 : decode cX2_readsOrder 115 = .ok (.getfield 22, 3) := by decide +kernel
theorem dX2_readsOrder_118 : decode cX2_readsOrder 118 = .ok (.iconst 1, 1) := by decide +kernel
theorem dX2_readsOrder_119 : decode cX2_readsOrder 119 = .ok (.iadd, 1) := by decide +kernel
theorem dX2_readsOrder_120 : decode cX2_readsOrder 120 = .ok (.putfield 22, 3) := by decide +kernel
theorem dX2_readsOrder_123 : decode cX2_readsOrder 123 = .ok (.iconst 1, 1) := by decide +kernel
theorem dX2_readsOrder_124 : decode cX2_readsOrder 124 = .ok (.ireturn, 1) := by decide +kernel
theorem dX2_readsNumber_0 : decode cX2_readsNumber 0 = .ok (.aload_n 0, 1) := by decide +kernel
theorem dX2_readsNumber_1 : decode cX2_readsNumber 1 = .ok (.invokevirtual 33, 3) := by decide +kernel
theorem dX2_readsNumber_4 : decode cX2_readsNumber 4 = .ok (.iload_n 2, 1) := by decide +kernel
theorem dX2_readsNumber_5 : decode cX2_readsNumber 5 = .ok (.ifCond .eq 16, 3) := by decide +kernel
theorem dX2_readsNumber_8 : decode cX2_readsNumber 8 = .ok (.aload_n 0, 1) := by decide +kernel
theorem dX2_readsNumber_9 : decode cX2_readsNumber 9 = .ok (.invokevirtual 40, 3) := by decide +kernel
theorem dX2_readsNumber_12 : decode cX2_readsNumber 12 = .ok (.bipush 45, 2) := by decide +kernel
theorem dX2_readsNumber_14 : decode cX2_readsNumber 14 = .ok (.if_icmp .ne 7, 3) := by decide +kernel
theorem dX2_readsNumber_17 : decode cX2_readsNumber 17 = .ok (.iconst 1, 1) := by decide +kernel
theorem dX2_readsNumber_18 : decode cX2_readsNumber 18 = .ok (.goto 4, 3) := by decide +kernel
theorem dX2_readsNumber_21 : decode cX2_readsNumber 21 = .ok (.iconst 0, 1) := by decide +kernel
theorem dX2_readsNumber_22 : decode cX2_readsNumber 22 = .ok (.istore_n 3, 1) := by decide +kernel
theorem dX2_readsNumber_23 : decode cX2_readsNumber 23 = .ok (.iload_n 3, 1) := by decide +kernel
theorem dX2_readsNumber_24 : decode cX2_readsNumber 24 = .ok (.ifCond .eq 13, 3) := by decide +kernel
theorem dX2_readsNumber_27 : decode cX2_readsNumber 27 = .ok (.aload_n 0, 1) := by decide +kernel
theorem dX2_readsNumber_28 : decode cX2_readsNumber 28 = .ok (.dup, 1) := by decide +kernel
theorem dX2_readsNumber_29 : decode cX2_readsNumber 29 = .ok (.getfield 19, 3) := by decide +kernel
theorem dX2_readsNumber_32 : decode cX2_readsNumber 32 = .ok (.iconst 1, 1) := by decide +kernel
theorem dX2_readsNumber_33 : decode cX2_readsNumber 33 = .ok (.iadd, 1) := by decide +kernel
theorem dX2_readsNumber_34 : decode cX2_readsNumber 34 = .ok (.putfield 19, 3) := by decide +kernel
theorem dX2_readsNumber_37 : decode cX2_readsNumber 37 = .ok (.iconst 0, 1) := by decide +kernel
theorem dX2_readsNumber_38 : decode cX2_readsNumber 38 = .ok (.istore 4, 2) := by decide +kernel
theorem dX2_readsNumber_40 : decode cX2_readsNumber 40 = .ok (.iconst 0, 1) := by decide +kernel
theorem dX2_readsNumber_41 : decode cX2_readsNumber 41 = .ok (.istore 5, 2) := by decide +kernel
theorem dX2_readsNumber_43 : decode cX2_readsNumber 43 = .ok (.aload_n 0, 1) := by decide +kernel
theorem dX2_readsNumber_44 : decode cX2_readsNumber 44 = .ok (.invokevirtual 40, 3) := by decide +kernel
theorem dX2_readsNumber_47 : decode cX2_readsNumber 47 = .ok (.invokestatic 52, 3) := by decide +kernel
theorem dX2_readsNumber_50 : decode cX2_readsNumber 50 = .ok (.ifCond .eq 40, 3) := by decide +kernel
theorem dX2_readsNumber_53 : decode cX2_readsNumber 53 = .ok (.iload 5, 2) := by decide +kernel
theorem dX2_readsNumber_55 : decode cX2_readsNumber 55 = .ok (.iconst 4, 1) := by decide +kernel
theorem dX2_readsNumber_56 : decode cX2_readsNumber 56 = .ok (.if_icmp .ge 34, 3) := by decide +kernel
theorem dX2_readsNumber_59 : decode cX2_readsNumber 59 = .ok (.bipush 10, 2) := by decide +kernel
theorem dX2_readsNumber_61 : decode cX2_readsNumber 61 = .ok (.iload 4, 2) := by decide +kernel
theorem dX2_readsNumber_63 : decode cX2_readsNumber 63 = .ok (.imul, 1) := by decide +kernel
theorem dX2_readsNumber_64 : decode cX2_readsNumber 64 = .ok (.aload_n 0, 1) := by decide +kernel
theorem dX2_readsNumber_65 : decode cX2_readsNumber 65 = .ok (.invokevirtual 40, 3) := by decide +kernel
theorem dX2_readsNumber_68 : decode cX2_readsNumber 68 = .ok (.iadd, 1) := by decide +kernel
theorem dX2_readsNumber_69 : decode cX2_readsNumber 69 = .ok (.bipush 48, 2) := by decide +kernel
theorem dX2_readsNumber_71 : decode cX2_readsNumber 71 = .ok (.isub, 1) := by decide +kernel
theorem dX2_readsNumber_72 : decode cX2_readsNumber 72 = .ok (.istore 4, 2) := by decide +kernel
theorem dX2_readsNumber_74 : decode cX2_readsNumber 74 = .ok (.iinc 5 1, 3) := by decide +kernel
theorem dX2_readsNumber_77 : decode cX2_readsNumber 77 = .ok (.aload_n 0, 1) := by decide +kernel
theorem dX2_readsNumber_78 : decode cX2_readsNumber 78 = .ok (.dup, 1) := by decide +kernel
theorem dX2_readsNumber_79 : decode cX2_readsNumber 79 = .ok (.getfield 19, 3) := by decide +kernel
theorem dX2_readsNumber_82 : decode cX2_readsNumber 82 = .ok (.iconst 1, 1) := by decide +kernel
theorem dX2_readsNumber_83 : decode cX2_readsNumber 83 = .ok (.iadd, 1) := by decide +kernel
theorem dX2_readsNumber_84 : decode cX2_readsNumber 84 = .ok (.putfield 19, 3) := by decide +kernel
theorem dX2_readsNumber_87 : decode cX2_readsNumber 87 = .ok (.goto (-44), 3) := by decide +kernel
theorem dX2_readsNumber_90 : decode cX2_readsNumber 90 = .ok (.aload_n 0, 1) := by decide +kernel
theorem dX2_readsNumber_91 : decode cX2_readsNumber 91 = .ok (.getfield 30, 3) := by decide +kernel
theorem dX2_readsNumber_94 : decode cX2_readsNumber 94 = .ok (.aload_n 0, 1) := by decide +kernel
theorem dX2_readsNumber_95 : decode cX2_readsNumber 95 = .ok (.getfield 22, 3) := by decide +kernel
theorem dX2_readsNumber_98 : decode cX2_readsNumber 98 = .ok (.aaload, 1) := by decide +kernel
theorem dX2_readsNumber_99 : decode cX2_readsNumber 99 = .ok (.iload_n 1, 1) := by decide +kernel
theorem dX2_readsNumber_100 : decode cX2_readsNumber 100 = .ok (.iload_n 3, 1) := by decide +kernel
theorem dX2_readsNumber_101 : decode cX2_readsNumber 101 = .ok (.ifCond .eq 9, 3) := by decide +kernel
theorem dX2_readsNumber_104 : decode cX2_readsNumber 104 = .ok (.iload 4, 2) := by decide +kernel
theorem dX2_readsNumber_106 : decode cX2_readsNumber 106 = .ok (.ineg, 1) := by decide +kernel
theorem dX2_readsNumber_107 : decode cX2_readsNumber 107 = .ok (.goto 5, 3) := by decide +kernel
theorem dX2_readsNumber_110 : decode cX2_readsNumber 110 = .ok (.iload 4, 2) := by decide +kernel
theorem dX2_readsNumber_112 : decode cX2_readsNumber 112 = .ok (.iastore, 1) := by decide +kernel
theorem dX2_readsNumber_113 : decode cX2_readsNumber 113 = .ok (.iload 5, 2) := by decide +kernel
theorem dX2_readsNumber_115 : decode cX2_readsNumber 115 = .ok (.ifCond .le 17, 3) := by decide +kernel
theorem dX2_readsNumber_118 : decode cX2_readsNumber 118 = .ok (.aload_n 0, 1) := by decide +kernel
theorem dX2_readsNumber_119 : decode cX2_readsNumber 119 = .ok (.invokevirtual 40, 3) := by decide +kernel
theorem dX2_readsNumber_122 : decode cX2_readsNumber 122 = .ok (.invokestatic 52, 3) := by decide +kernel
theorem dX2_readsNumber_125 : decode cX2_readsNumber 125 = .ok (.ifCond .ne 7, 3) := by decide +kernel
theorem dX2_readsNumber_128 : decode cX2_readsNumber 128 = .ok (.iconst 1, 1) := by decide +kernel
theorem dX2_readsNumber_129 : decode cX2_readsNumber 129 = .ok (.goto 4, 3) := by decide +kernel
theorem dX2_readsNumber_132 : decode cX2_readsNumber 132 = .ok (.iconst 0, 1) := by decide +kernel
theorem dX2_readsNumber_133 : decode cX2_readsNumber 133 = .ok (.ireturn, 1) := by decide +kernel
theorem dX2_skipBlanks_0 : decode cX2_skipBlanks 0 = .ok (.aload_n 0, 1) := by decide +kernel
theorem dX2_skipBlanks_1 : decode cX2_skipBlanks 1 = .ok (.getfield 19, 3) := by decide +kernel
theorem dX2_skipBlanks_4 : decode cX2_skipBlanks 4 = .ok (.aload_n 0, 1) := by decide +kernel
theorem dX2_skipBlanks_5 : decode cX2_skipBlanks 5 = .ok (.getfield 15, 3) := by decide +kernel
theorem dX2_skipBlanks_8 : decode cX2_skipBlanks 8 = .ok (.if_icmp .ge 30, 3) := by decide +kernel
theorem dX2_skipBlanks_11 : decode cX2_skipBlanks 11 = .ok (.aload_n 0, 1) := by decide +kernel
theorem dX2_skipBlanks_12 : decode cX2_skipBlanks 12 = .ok (.getfield 9, 3) := by decide +kernel
theorem dX2_skipBlanks_15 : decode cX2_skipBlanks 15 = .ok (.aload_n 0, 1) := by decide +kernel
theorem dX2_skipBlanks_16 : decode cX2_skipBlanks 16 = .ok (.getfield 19, 3) := by decide +kernel
theorem dX2_skipBlanks_19 : decode cX2_skipBlanks 19 = .ok (.iaload, 1) := by decide +kernel
theorem dX2_skipBlanks_20 : decode cX2_skipBlanks 20 = .ok (.bipush 32, 2) := by decide +kernel
theorem dX2_skipBlanks_22 : decode cX2_skipBlanks 22 = .ok (.if_icmp .ne 16, 3) := by decide +kernel
theorem dX2_skipBlanks_25 : decode cX2_skipBlanks 25 = .ok (.aload_n 0, 1) := by decide +kernel
theorem dX2_skipBlanks_26 : decode cX2_skipBlanks 26 = .ok (.dup, 1) := by decide +kernel
theorem dX2_skipBlanks_27 : decode cX2_skipBlanks 27 = .ok (.getfield 19, 3) := by decide +kernel
theorem dX2_skipBlanks_30 : decode cX2_skipBlanks 30 = .ok (.iconst 1, 1) := by decide +kernel
theorem dX2_skipBlanks_31 : decode cX2_skipBlanks 31 = .ok (.iadd, 1) := by decide +kernel
theorem dX2_skipBlanks_32 : decode cX2_skipBlanks 32 = .ok (.putfield 19, 3) := by decide +kernel
theorem dX2_skipBlanks_35 : decode cX2_skipBlanks 35 = .ok (.goto (-35), 3) := by decide +kernel
theorem dX2_skipBlanks_38 : decode cX2_skipBlanks 38 = .ok (.return_, 1) := by decide +kernel
theorem dX2_present_0 : decode cX2_present 0 = .ok (.aload_n 0, 1) := by decide +kernel
theorem dX2_present_1 : decode cX2_present 1 = .ok (.getfield 19, 3) := by decide +kernel
theorem dX2_present_4 : decode cX2_present 4 = .ok (.aload_n 0, 1) := by decide +kernel
theorem dX2_present_5 : decode cX2_present 5 = .ok (.getfield 15, 3) := by decide +kernel
theorem dX2_present_8 : decode cX2_present 8 = .ok (.if_icmp .ge 15, 3) := by decide +kernel
theorem dX2_present_11 : decode cX2_present 11 = .ok (.aload_n 0, 1) := by decide +kernel
theorem dX2_present_12 : decode cX2_present 12 = .ok (.getfield 9, 3) := by decide +kernel
theorem dX2_present_15 : decode cX2_present 15 = .ok (.aload_n 0, 1) := by decide +kernel
theorem dX2_present_16 : decode cX2_present 16 = .ok (.getfield 19, 3) := by decide +kernel
theorem dX2_present_19 : decode cX2_present 19 = .ok (.iaload, 1) := by decide +kernel
theorem dX2_present_20 : decode cX2_present 20 = .ok (.goto 4, 3) := by decide +kernel
theorem dX2_present_23 : decode cX2_present 23 = .ok (.iconst (-1), 1) := by decide +kernel
theorem dX2_present_24 : decode cX2_present 24 = .ok (.ireturn, 1) := by decide +kernel
theorem dX2_isDigit_0 : decode cX2_isDigit 0 = .ok (.iload_n 0, 1) := by decide +kernel
theorem dX2_isDigit_1 : decode cX2_isDigit 1 = .ok (.bipush 48, 2) := by decide +kernel
theorem dX2_isDigit_3 : decode cX2_isDigit 3 = .ok (.if_icmp .lt 13, 3) := by decide +kernel
theorem dX2_isDigit_6 : decode cX2_isDigit 6 = .ok (.iload_n 0, 1) := by decide +kernel
theorem dX2_isDigit_7 : decode cX2_isDigit 7 = .ok (.bipush 57, 2) := by decide +kernel
theorem dX2_isDigit_9 : decode cX2_isDigit 9 = .ok (.if_icmp .gt 7, 3) := by decide +kernel
theorem dX2_isDigit_12 : decode cX2_isDigit 12 = .ok (.iconst 1, 1) := by decide +kernel
theorem dX2_isDigit_13 : decode cX2_isDigit 13 = .ok (.goto 4, 3) := by decide +kernel
theorem dX2_isDigit_16 : decode cX2_isDigit 16 = .ok (.iconst 0, 1) := by decide +kernel
theorem dX2_isDigit_17 : decode cX2_isDigit 17 = .ok (.ireturn, 1) := by decide +kernel
theorem dX2_argumentsOf_0 : decode cX2_argumentsOf 0 = .ok (.iload_n 0, 1) := by decide +kernel
theorem dX2_argumentsOf_1 : decode cX2_argumentsOf 1 = .ok (.tableswitch 81 106 120 #[79, 77, 81, 79, 75, 81, 79, 81, 81, 81, 77, 77, 81, 81, 77], 75) := by decide +kernel
theorem dX2_argumentsOf_76 : decode cX2_argumentsOf 76 = .ok (.iconst 1, 1) := by decide +kernel
theorem dX2_argumentsOf_77 : decode cX2_argumentsOf 77 = .ok (.ireturn, 1) := by decide +kernel
theorem dX2_argumentsOf_78 : decode cX2_argumentsOf 78 = .ok (.iconst 2, 1) := by decide +kernel
theorem dX2_argumentsOf_79 : decode cX2_argumentsOf 79 = .ok (.ireturn, 1) := by decide +kernel
theorem dX2_argumentsOf_80 : decode cX2_argumentsOf 80 = .ok (.iconst 3, 1) := by decide +kernel
theorem dX2_argumentsOf_81 : decode cX2_argumentsOf 81 = .ok (.ireturn, 1) := by decide +kernel
theorem dX2_argumentsOf_82 : decode cX2_argumentsOf 82 = .ok (.iconst 0, 1) := by decide +kernel
theorem dX2_argumentsOf_83 : decode cX2_argumentsOf 83 = .ok (.ireturn, 1) := by decide +kernel
theorem dX3_init_0 : decode cX3_init 0 = .ok (.aload_n 0, 1) := by decide +kernel
theorem dX3_init_1 : decode cX3_init 1 = .ok (.invokespecial 3, 3) := by decide +kernel
theorem dX3_init_4 : decode cX3_init 4 = .ok (.aload_n 0, 1) := by decide +kernel
theorem dX3_init_5 : decode cX3_init 5 = .ok (.bipush 8, 2) := by decide +kernel
theorem dX3_init_7 : decode cX3_init 7 = .ok (.newarray .int, 2) := by decide +kernel
theorem dX3_init_9 : decode cX3_init 9 = .ok (.putfield 9, 3) := by decide +kernel
theorem dX3_init_12 : decode cX3_init 12 = .ok (.aload_n 0, 1) := by decide +kernel
theorem dX3_init_13 : decode cX3_init 13 = .ok (.iconst 4, 1) := by decide +kernel
theorem dX3_init_14 : decode cX3_init 14 = .ok (.invokevirtual 15, 3) := by decide +kernel
theorem dX3_init_17 : decode cX3_init 17 = .ok (.return_, 1) := by decide +kernel
theorem dX3_split_0 : decode cX3_split 0 = .ok (.aload_n 0, 1) := by decide +kernel
theorem dX3_split_1 : decode cX3_split 1 = .ok (.iload_n 1, 1) := by decide +kernel
theorem dX3_split_2 : decode cX3_split 2 = .ok (.putfield 19, 3) := by decide +kernel
theorem dX3_split_5 : decode cX3_split 5 = .ok (.iconst 0, 1) := by decide +kernel
theorem dX3_split_6 : decode cX3_split 6 = .ok (.istore_n 2, 1) := by decide +kernel
theorem dX3_split_7 : decode cX3_split 7 = .ok (.iload_n 2, 1) := by decide +kernel
theorem dX3_split_8 : decode cX3_split 8 = .ok (.bipush 8, 2) := by decide +kernel
theorem dX3_split_10 : decode cX3_split 10 = .ok (.if_icmp .ge 16, 3) := by decide +kernel
theorem dX3_split_13 : decode cX3_split 13 = .ok (.aload_n 0, 1) := by decide +kernel
theorem dX3_split_14 : decode cX3_split 14 = .ok (.getfield 9, 3) := by decide +kernel
theorem dX3_split_17 : decode cX3_split 17 = .ok (.iload_n 2, 1) := by decide +kernel
theorem dX3_split_18 : decode cX3_split 18 = .ok (.iload_n 2, 1) := by decide +kernel
theorem dX3_split_19 : decode cX3_split 19 = .ok (.iastore, 1) := by decide +kernel
theorem dX3_split_20 : decode cX3_split 20 = .ok (.iinc 2 1, 3) := by decide +kernel
theorem dX3_split_23 : decode cX3_split 23 = .ok (.goto (-16), 3) := by decide +kernel
theorem dX3_split_26 : decode cX3_split 26 = .ok (.return_, 1) := by decide +kernel
theorem dX3_copy_0 : decode cX3_copy 0 = .ok (.aload_n 0, 1) := by decide +kernel
theorem dX3_copy_1 : decode cX3_copy 1 = .ok (.aload_n 1, 1) := by decide +kernel
theorem dX3_copy_2 : decode cX3_copy 2 = .ok (.getfield 19, 3) := by decide +kernel
theorem dX3_copy_5 : decode cX3_copy 5 = .ok (.putfield 19, 3) := by decide +kernel
theorem dX3_copy_8 : decode cX3_copy 8 = .ok (.iconst 0, 1) := by decide +kernel
theorem dX3_copy_9 : decode cX3_copy 9 = .ok (.istore_n 2, 1) := by decide +kernel
theorem dX3_copy_10 : decode cX3_copy 10 = .ok (.iload_n 2, 1) := by decide +kernel
theorem dX3_copy_11 : decode cX3_copy 11 = .ok (.bipush 8, 2) := by decide +kernel
theorem dX3_copy_13 : decode cX3_copy 13 = .ok (.if_icmp .ge 21, 3) := by decide +kernel
theorem dX3_copy_16 : decode cX3_copy 16 = .ok (.aload_n 0, 1) := by decide +kernel
theorem dX3_copy_17 : decode cX3_copy 17 = .ok (.getfield 9, 3) := by decide +kernel
theorem dX3_copy_20 : decode cX3_copy 20 = .ok (.iload_n 2, 1) := by decide +kernel
theorem dX3_copy_21 : decode cX3_copy 21 = .ok (.aload_n 1, 1) := by decide +kernel
theorem dX3_copy_22 : decode cX3_copy 22 = .ok (.getfield 9, 3) := by decide +kernel
theorem dX3_copy_25 : decode cX3_copy 25 = .ok (.iload_n 2, 1) := by decide +kernel
theorem dX3_copy_26 : decode cX3_copy 26 = .ok (.iaload, 1) := by decide +kernel
theorem dX3_copy_27 : decode cX3_copy 27 = .ok (.iastore, 1) := by decide +kernel
theorem dX3_copy_28 : decode cX3_copy 28 = .ok (.iinc 2 1, 3) := by decide +kernel
theorem dX3_copy_31 : decode cX3_copy 31 = .ok (.goto (-21), 3) := by decide +kernel
theorem dX3_copy_34 : decode cX3_copy 34 = .ok (.return_, 1) := by decide +kernel
theorem dX3_isLowest_0 : decode cX3_isLowest 0 = .ok (.aload_n 0, 1) := by decide +kernel
theorem dX3_isLowest_1 : decode cX3_isLowest 1 = .ok (.getfield 9, 3) := by decide +kernel
theorem dX3_isLowest_4 : decode cX3_isLowest 4 = .ok (.iload_n 1, 1) := by decide +kernel
theorem dX3_isLowest_5 : decode cX3_isLowest 5 = .ok (.iaload, 1) := by decide +kernel
theorem dX3_isLowest_6 : decode cX3_isLowest 6 = .ok (.iload_n 1, 1) := by decide +kernel
theorem dX3_isLowest_7 : decode cX3_isLowest 7 = .ok (.if_icmp .ne 7, 3) := by decide +kernel
theorem dX3_isLowest_10 : decode cX3_isLowest 10 = .ok (.iconst 1, 1) := by decide +kernel
theorem dX3_isLowest_11 : decode cX3_isLowest 11 = .ok (.goto 4, 3) := by decide +kernel
theorem dX3_isLowest_14 : decode cX3_isLowest 14 = .ok (.iconst 0, 1) := by decide +kernel
theorem dX3_isLowest_15 : decode cX3_isLowest 15 = .ok (.ireturn, 1) := by decide +kernel
theorem dX3_areTogether_0 : decode cX3_areTogether 0 = .ok (.aload_n 0, 1) := by decide +kernel
theorem dX3_areTogether_1 : decode cX3_areTogether 1 = .ok (.getfield 9, 3) := by decide +kernel
theorem dX3_areTogether_4 : decode cX3_areTogether 4 = .ok (.iload_n 1, 1) := by decide +kernel
theorem dX3_areTogether_5 : decode cX3_areTogether 5 = .ok (.iaload, 1) := by decide +kernel
theorem dX3_areTogether_6 : decode cX3_areTogether 6 = .ok (.aload_n 0, 1) := by decide +kernel
theorem dX3_areTogether_7 : decode cX3_areTogether 7 = .ok (.getfield 9, 3) := by decide +kernel
theorem dX3_areTogether_10 : decode cX3_areTogether 10 = .ok (.iload_n 2, 1) := by decide +kernel
theorem dX3_areTogether_11 : decode cX3_areTogether 11 = .ok (.iaload, 1) := by decide +kernel
theorem dX3_areTogether_12 : decode cX3_areTogether 12 = .ok (.if_icmp .ne 7, 3) := by decide +kernel
theorem dX3_areTogether_15 : decode cX3_areTogether 15 = .ok (.iconst 1, 1) := by decide +kernel
theorem dX3_areTogether_16 : decode cX3_areTogether 16 = .ok (.goto 4, 3) := by decide +kernel
theorem dX3_areTogether_19 : decode cX3_areTogether 19 = .ok (.iconst 0, 1) := by decide +kernel
theorem dX3_areTogether_20 : decode cX3_areTogether 20 = .ok (.ireturn, 1) := by decide +kernel
theorem dX3_rank_0 : decode cX3_rank 0 = .ok (.iconst 0, 1) := by decide +kernel
theorem dX3_rank_1 : decode cX3_rank 1 = .ok (.istore_n 1, 1) := by decide +kernel
theorem dX3_rank_2 : decode cX3_rank 2 = .ok (.iconst 0, 1) := by decide +kernel
theorem dX3_rank_3 : decode cX3_rank 3 = .ok (.istore_n 2, 1) := by decide +kernel
theorem dX3_rank_4 : decode cX3_rank 4 = .ok (.iload_n 2, 1) := by decide +kernel
theorem dX3_rank_5 : decode cX3_rank 5 = .ok (.aload_n 0, 1) := by decide +kernel
theorem dX3_rank_6 : decode cX3_rank 6 = .ok (.getfield 19, 3) := by decide +kernel
theorem dX3_rank_9 : decode cX3_rank 9 = .ok (.if_icmp .ge 25, 3) := by decide +kernel
theorem dX3_rank_12 : decode cX3_rank 12 = .ok (.iload_n 1, 1) := by decide +kernel
theorem dX3_rank_13 : decode cX3_rank 13 = .ok (.aload_n 0, 1) := by decide +kernel
theorem dX3_rank_14 : decode cX3_rank 14 = .ok (.iload_n 2, 1) := by decide +kernel
theorem dX3_rank_15 : decode cX3_rank 15 = .ok (.invokevirtual 23, 3) := by decide +kernel
theorem dX3_rank_18 : decode cX3_rank 18 = .ok (.ifCond .eq 7, 3) := by decide +kernel
theorem dX3_rank_21 : decode cX3_rank 21 = .ok (.iconst 0, 1) := by decide +kernel
theorem dX3_rank_22 : decode cX3_rank 22 = .ok (.goto 4, 3) := by decide +kernel
theorem dX3_rank_25 : decode cX3_rank 25 = .ok (.iconst 1, 1) := by decide +kernel
theorem dX3_rank_26 : decode cX3_rank 26 = .ok (.iadd, 1) := by decide +kernel
theorem dX3_rank_27 : decode cX3_rank 27 = .ok (.istore_n 1, 1) := by decide +kernel
theorem dX3_rank_28 : decode cX3_rank 28 = .ok (.iinc 2 1, 3) := by decide +kernel
theorem dX3_rank_31 : decode cX3_rank 31 = .ok (.goto (-27), 3) := by decide +kernel
theorem dX3_rank_34 : decode cX3_rank 34 = .ok (.iload_n 1, 1) := by decide +kernel
theorem dX3_rank_35 : decode cX3_rank 35 = .ok (.ireturn, 1) := by decide +kernel
theorem dX3_sizeFrom_0 : decode cX3_sizeFrom 0 = .ok (.iconst 0, 1) := by decide +kernel
theorem dX3_sizeFrom_1 : decode cX3_sizeFrom 1 = .ok (.istore_n 2, 1) := by decide +kernel
theorem dX3_sizeFrom_2 : decode cX3_sizeFrom 2 = .ok (.iload_n 1, 1) := by decide +kernel
theorem dX3_sizeFrom_3 : decode cX3_sizeFrom 3 = .ok (.istore_n 3, 1) := by decide +kernel
theorem dX3_sizeFrom_4 : decode cX3_sizeFrom 4 = .ok (.iload_n 3, 1) := by decide +kernel
theorem dX3_sizeFrom_5 : decode cX3_sizeFrom 5 = .ok (.aload_n 0, 1) := by decide +kernel
theorem dX3_sizeFrom_6 : decode cX3_sizeFrom 6 = .ok (.getfield 19, 3) := by decide +kernel
theorem dX3_sizeFrom_9 : decode cX3_sizeFrom 9 = .ok (.if_icmp .ge 27, 3) := by decide +kernel
theorem dX3_sizeFrom_12 : decode cX3_sizeFrom 12 = .ok (.iload_n 2, 1) := by decide +kernel
theorem dX3_sizeFrom_13 : decode cX3_sizeFrom 13 = .ok (.aload_n 0, 1) := by decide +kernel
theorem dX3_sizeFrom_14 : decode cX3_sizeFrom 14 = .ok (.getfield 9, 3) := by decide +kernel
theorem dX3_sizeFrom_17 : decode cX3_sizeFrom 17 = .ok (.iload_n 3, 1) := by decide +kernel
theorem dX3_sizeFrom_18 : decode cX3_sizeFrom 18 = .ok (.iaload, 1) := by decide +kernel
theorem dX3_sizeFrom_19 : decode cX3_sizeFrom 19 = .ok (.iload_n 1, 1) := by decide +kernel
theorem dX3_sizeFrom_20 : decode cX3_sizeFrom 20 = .ok (.if_icmp .ne 7, 3) := by decide +kernel
theorem dX3_sizeFrom_23 : decode cX3_sizeFrom 23 = .ok (.iconst 1, 1) := by decide +kernel
theorem dX3_sizeFrom_24 : decode cX3_sizeFrom 24 = .ok (.goto 4, 3) := by decide +kernel
theorem dX3_sizeFrom_27 : decode cX3_sizeFrom 27 = .ok (.iconst 0, 1) := by decide +kernel
theorem dX3_sizeFrom_28 : decode cX3_sizeFrom 28 = .ok (.iadd, 1) := by decide +kernel
theorem dX3_sizeFrom_29 : decode cX3_sizeFrom 29 = .ok (.istore_n 2, 1) := by decide +kernel
theorem dX3_sizeFrom_30 : decode cX3_sizeFrom 30 = .ok (.iinc 3 1, 3) := by decide +kernel
theorem dX3_sizeFrom_33 : decode cX3_sizeFrom 33 = .ok (.goto (-29), 3) := by decide +kernel
theorem dX3_sizeFrom_36 : decode cX3_sizeFrom 36 = .ok (.iload_n 2, 1) := by decide +kernel
theorem dX3_sizeFrom_37 : decode cX3_sizeFrom 37 = .ok (.ireturn, 1) := by decide +kernel
theorem dX3_next_0 : decode cX3_next 0 = .ok (.iload_n 1, 1) := by decide +kernel
theorem dX3_next_1 : decode cX3_next 1 = .ok (.iconst 1, 1) := by decide +kernel
theorem dX3_next_2 : decode cX3_next 2 = .ok (.iadd, 1) := by decide +kernel
theorem dX3_next_3 : decode cX3_next 3 = .ok (.istore_n 2, 1) := by decide +kernel
theorem dX3_next_4 : decode cX3_next 4 = .ok (.iload_n 2, 1) := by decide +kernel
theorem dX3_next_5 : decode cX3_next 5 = .ok (.aload_n 0, 1) := by decide +kernel
theorem dX3_next_6 : decode cX3_next 6 = .ok (.getfield 19, 3) := by decide +kernel
theorem dX3_next_9 : decode cX3_next 9 = .ok (.if_icmp .ge 20, 3) := by decide +kernel
theorem dX3_next_12 : decode cX3_next 12 = .ok (.aload_n 0, 1) := by decide +kernel
theorem dX3_next_13 : decode cX3_next 13 = .ok (.iload_n 1, 1) := by decide +kernel
theorem dX3_next_14 : decode cX3_next 14 = .ok (.iload_n 2, 1) := by decide +kernel
theorem dX3_next_15 : decode cX3_next 15 = .ok (.invokevirtual 27, 3) := by decide +kernel
theorem dX3_next_18 : decode cX3_next 18 = .ok (.ifCond .eq 5, 3) := by decide +kernel
theorem dX3_next_21 : decode cX3_next 21 = .ok (.iload_n 2, 1) := by decide +kernel
theorem dX3_next_22 : decode cX3_next 22 = .ok (.ireturn, 1) := by decide +kernel
theorem dX3_next_23 : decode cX3_next 23 = .ok (.iinc 2 1, 3) := by decide +kernel
theorem dX3_next_26 : decode cX3_next 26 = .ok (.goto (-22), 3) := by decide +kernel
theorem dX3_next_29 : decode cX3_next 29 = .ok (.aload_n 0, 1) := by decide +kernel
theorem dX3_next_30 : decode cX3_next 30 = .ok (.getfield 9, 3) := by decide +kernel
theorem dX3_next_33 : decode cX3_next 33 = .ok (.iload_n 1, 1) := by decide +kernel
theorem dX3_next_34 : decode cX3_next 34 = .ok (.iaload, 1) := by decide +kernel
theorem dX3_next_35 : decode cX3_next 35 = .ok (.ireturn, 1) := by decide +kernel
theorem dX3_previous_0 : decode cX3_previous 0 = .ok (.iload_n 1, 1) := by decide +kernel
theorem dX3_previous_1 : decode cX3_previous 1 = .ok (.iconst 1, 1) := by decide +kernel
theorem dX3_previous_2 : decode cX3_previous 2 = .ok (.isub, 1) := by decide +kernel
theorem dX3_previous_3 : decode cX3_previous 3 = .ok (.istore_n 2, 1) := by decide +kernel
theorem dX3_previous_4 : decode cX3_previous 4 = .ok (.iload_n 2, 1) := by decide +kernel
theorem dX3_previous_5 : decode cX3_previous 5 = .ok (.ifCond .lt 20, 3) := by decide +kernel
theorem dX3_previous_8 : decode cX3_previous 8 = .ok (.aload_n 0, 1) := by decide +kernel
theorem dX3_previous_9 : decode cX3_previous 9 = .ok (.iload_n 1, 1) := by decide +kernel
theorem dX3_previous_10 : decode cX3_previous 10 = .ok (.iload_n 2, 1) := by decide +kernel
theorem dX3_previous_11 : decode cX3_previous 11 = .ok (.invokevirtual 27, 3) := by decide +kernel
theorem dX3_previous_14 : decode cX3_previous 14 = .ok (.ifCond .eq 5, 3) := by decide +kernel
theorem dX3_previous_17 : decode cX3_previous 17 = .ok (.iload_n 2, 1) := by decide +kernel
theorem dX3_previous_18 : decode cX3_previous 18 = .ok (.ireturn, 1) := by decide +kernel
theorem dX3_previous_19 : decode cX3_previous 19 = .ok (.iinc 2 (-1), 3) := by decide +kernel
theorem dX3_previous_22 : decode cX3_previous 22 = .ok (.goto (-18), 3) := by decide +kernel
theorem dX3_previous_25 : decode cX3_previous 25 = .ok (.aload_n 0, 1) := by decide +kernel
theorem dX3_previous_26 : decode cX3_previous 26 = .ok (.getfield 19, 3) := by decide +kernel
theorem dX3_previous_29 : decode cX3_previous 29 = .ok (.iconst 1, 1) := by decide +kernel
theorem dX3_previous_30 : decode cX3_previous 30 = .ok (.isub, 1) := by decide +kernel
theorem dX3_previous_31 : decode cX3_previous 31 = .ok (.istore_n 2, 1) := by decide +kernel
theorem dX3_previous_32 : decode cX3_previous 32 = .ok (.iload_n 2, 1) := by decide +kernel
theorem dX3_previous_33 : decode cX3_previous 33 = .ok (.iload_n 1, 1) := by decide +kernel
theorem dX3_previous_34 : decode cX3_previous 34 = .ok (.if_icmp .le 20, 3) := by decide +kernel
theorem dX3_previous_37 : decode cX3_previous 37 = .ok (.aload_n 0, 1) := by decide +kernel
theorem dX3_previous_38 : decode cX3_previous 38 = .ok (.iload_n 1, 1) := by decide +kernel
theorem dX3_previous_39 : decode cX3_previous 39 = .ok (.iload_n 2, 1) := by decide +kernel
theorem dX3_previous_40 : decode cX3_previous 40 = .ok (.invokevirtual 27, 3) := by decide +kernel
theorem dX3_previous_43 : decode cX3_previous 43 = .ok (.ifCond .eq 5, 3) := by decide +kernel
theorem dX3_previous_46 : decode cX3_previous 46 = .ok (.iload_n 2, 1) := by decide +kernel
theorem dX3_previous_47 : decode cX3_previous 47 = .ok (.ireturn, 1) := by decide +kernel
theorem dX3_previous_48 : decode cX3_previous 48 = .ok (.iinc 2 (-1), 3) := by decide +kernel
theorem dX3_previous_51 : decode cX3_previous 51 = .ok (.goto (-19), 3) := by decide +kernel
theorem dX3_previous_54 : decode cX3_previous 54 = .ok (.iload_n 1, 1) := by decide +kernel
theorem dX3_previous_55 : decode cX3_previous 55 = .ok (.ireturn, 1) := by decide +kernel
theorem dX3_isUnder_0 : decode cX3_isUnder 0 = .ok (.iconst 0, 1) := by decide +kernel
theorem dX3_isUnder_1 : decode cX3_isUnder 1 = .ok (.istore_n 2, 1) := by decide +kernel
theorem dX3_isUnder_2 : decode cX3_isUnder 2 = .ok (.iload_n 2, 1) := by decide +kernel
theorem dX3_isUnder_3 : decode cX3_isUnder 3 = .ok (.aload_n 0, 1) := by decide +kernel
theorem dX3_isUnder_4 : decode cX3_isUnder 4 = .ok (.getfield 19, 3) := by decide +kernel
theorem dX3_isUnder_7 : decode cX3_isUnder 7 = .ok (.if_icmp .ge 25, 3) := by decide +kernel
theorem dX3_isUnder_10 : decode cX3_isUnder 10 = .ok (.aload_n 1, 1) := by decide +kernel
theorem dX3_isUnder_11 : decode cX3_isUnder 11 = .ok (.iload_n 2, 1) := by decide +kernel
theorem dX3_isUnder_12 : decode cX3_isUnder 12 = .ok (.aload_n 0, 1) := by decide +kernel
theorem dX3_isUnder_13 : decode cX3_isUnder 13 = .ok (.getfield 9, 3) := by decide +kernel
theorem dX3_isUnder_16 : decode cX3_isUnder 16 = .ok (.iload_n 2, 1) := by decide +kernel
theorem dX3_isUnder_17 : decode cX3_isUnder 17 = .ok (.iaload, 1) := by decide +kernel
theorem dX3_isUnder_18 : decode cX3_isUnder 18 = .ok (.invokevirtual 27, 3) := by decide +kernel
theorem dX3_isUnder_21 : decode cX3_isUnder 21 = .ok (.ifCond .ne 5, 3) := by decide +kernel
theorem dX3_isUnder_24 : decode cX3_isUnder 24 = .ok (.iconst 0, 1) := by decide +kernel
theorem dX3_isUnder_25 : decode cX3_isUnder 25 = .ok (.ireturn, 1) := by decide +kernel
theorem dX3_isUnder_26 : decode cX3_isUnder 26 = .ok (.iinc 2 1, 3) := by decide +kernel
theorem dX3_isUnder_29 : decode cX3_isUnder 29 = .ok (.goto (-27), 3) := by decide +kernel
theorem dX3_isUnder_32 : decode cX3_isUnder 32 = .ok (.iconst 1, 1) := by decide +kernel
theorem dX3_isUnder_33 : decode cX3_isUnder 33 = .ok (.ireturn, 1) := by decide +kernel
theorem dX3_labelTo_0 : decode cX3_labelTo 0 = .ok (.iconst 0, 1) := by decide +kernel
theorem dX3_labelTo_1 : decode cX3_labelTo 1 = .ok (.istore_n 2, 1) := by decide +kernel
theorem dX3_labelTo_2 : decode cX3_labelTo 2 = .ok (.iconst 0, 1) := by decide +kernel
theorem dX3_labelTo_3 : decode cX3_labelTo 3 = .ok (.istore_n 3, 1) := by decide +kernel
theorem dX3_labelTo_4 : decode cX3_labelTo 4 = .ok (.iload_n 3, 1) := by decide +kernel
theorem dX3_labelTo_5 : decode cX3_labelTo 5 = .ok (.aload_n 0, 1) := by decide +kernel
theorem dX3_labelTo_6 : decode cX3_labelTo 6 = .ok (.getfield 19, 3) := by decide +kernel
theorem dX3_labelTo_9 : decode cX3_labelTo 9 = .ok (.if_icmp .ge 27, 3) := by decide +kernel
theorem dX3_labelTo_12 : decode cX3_labelTo 12 = .ok (.aload_n 0, 1) := by decide +kernel
theorem dX3_labelTo_13 : decode cX3_labelTo 13 = .ok (.iload_n 3, 1) := by decide +kernel
theorem dX3_labelTo_14 : decode cX3_labelTo 14 = .ok (.invokevirtual 23, 3) := by decide +kernel
theorem dX3_labelTo_17 : decode cX3_labelTo 17 = .ok (.ifCond .eq 13, 3) := by decide +kernel
theorem dX3_labelTo_20 : decode cX3_labelTo 20 = .ok (.aload_n 1, 1) := by decide +kernel
theorem dX3_labelTo_21 : decode cX3_labelTo 21 = .ok (.iload_n 3, 1) := by decide +kernel
theorem dX3_labelTo_22 : decode cX3_labelTo 22 = .ok (.invokevirtual 23, 3) := by decide +kernel
theorem dX3_labelTo_25 : decode cX3_labelTo 25 = .ok (.ifCond .ne 5, 3) := by decide +kernel
theorem dX3_labelTo_28 : decode cX3_labelTo 28 = .ok (.iload_n 3, 1) := by decide +kernel
theorem dX3_labelTo_29 : decode cX3_labelTo 29 = .ok (.istore_n 2, 1) := by decide +kernel
theorem dX3_labelTo_30 : decode cX3_labelTo 30 = .ok (.iinc 3 1, 3) := by decide +kernel
theorem dX3_labelTo_33 : decode cX3_labelTo 33 = .ok (.goto (-29), 3) := by decide +kernel
theorem dX3_labelTo_36 : decode cX3_labelTo 36 = .ok (.aload_n 1, 1) := by decide +kernel
theorem dX3_labelTo_37 : decode cX3_labelTo 37 = .ok (.getfield 9, 3) := by decide +kernel
theorem dX3_labelTo_40 : decode cX3_labelTo 40 = .ok (.iload_n 2, 1) := by decide +kernel
theorem dX3_labelTo_41 : decode cX3_labelTo 41 = .ok (.iaload, 1) := by decide +kernel
theorem dX3_labelTo_42 : decode cX3_labelTo 42 = .ok (.istore_n 3, 1) := by decide +kernel
theorem dX3_labelTo_43 : decode cX3_labelTo 43 = .ok (.iload_n 3, 1) := by decide +kernel
theorem dX3_labelTo_44 : decode cX3_labelTo 44 = .ok (.istore 4, 2) := by decide +kernel
theorem dX3_labelTo_46 : decode cX3_labelTo 46 = .ok (.iload_n 3, 1) := by decide +kernel
theorem dX3_labelTo_47 : decode cX3_labelTo 47 = .ok (.istore 5, 2) := by decide +kernel
theorem dX3_labelTo_49 : decode cX3_labelTo 49 = .ok (.iload 5, 2) := by decide +kernel
theorem dX3_labelTo_51 : decode cX3_labelTo 51 = .ok (.iload_n 2, 1) := by decide +kernel
theorem dX3_labelTo_52 : decode cX3_labelTo 52 = .ok (.if_icmp .ge 24, 3) := by decide +kernel
theorem dX3_labelTo_55 : decode cX3_labelTo 55 = .ok (.aload_n 0, 1) := by decide +kernel
theorem dX3_labelTo_56 : decode cX3_labelTo 56 = .ok (.getfield 9, 3) := by decide +kernel
theorem dX3_labelTo_59 : decode cX3_labelTo 59 = .ok (.iload 5, 2) := by decide +kernel
theorem dX3_labelTo_61 : decode cX3_labelTo 61 = .ok (.iaload, 1) := by decide +kernel
theorem dX3_labelTo_62 : decode cX3_labelTo 62 = .ok (.iload_n 3, 1) := by decide +kernel
theorem dX3_labelTo_63 : decode cX3_labelTo 63 = .ok (.if_icmp .ne 7, 3) := by decide +kernel
theorem dX3_labelTo_66 : decode cX3_labelTo 66 = .ok (.iload 5, 2) := by decide +kernel
theorem dX3_labelTo_68 : decode cX3_labelTo 68 = .ok (.istore 4, 2) := by decide +kernel
theorem dX3_labelTo_70 : decode cX3_labelTo 70 = .ok (.iinc 5 1, 3) := by decide +kernel
theorem dX3_labelTo_73 : decode cX3_labelTo 73 = .ok (.goto (-24), 3) := by decide +kernel
theorem dX3_labelTo_76 : decode cX3_labelTo 76 = .ok (.iload 4, 2) := by decide +kernel
theorem dX3_labelTo_78 : decode cX3_labelTo 78 = .ok (.ireturn, 1) := by decide +kernel
theorem dX3_singles_0 : decode cX3_singles 0 = .ok (.iconst 0, 1) := by decide +kernel
theorem dX3_singles_1 : decode cX3_singles 1 = .ok (.istore_n 1, 1) := by decide +kernel
theorem dX3_singles_2 : decode cX3_singles 2 = .ok (.iconst 0, 1) := by decide +kernel
theorem dX3_singles_3 : decode cX3_singles 3 = .ok (.istore_n 2, 1) := by decide +kernel
theorem dX3_singles_4 : decode cX3_singles 4 = .ok (.iload_n 2, 1) := by decide +kernel
theorem dX3_singles_5 : decode cX3_singles 5 = .ok (.aload_n 0, 1) := by decide +kernel
theorem dX3_singles_6 : decode cX3_singles 6 = .ok (.getfield 19, 3) := by decide +kernel
theorem dX3_singles_9 : decode cX3_singles 9 = .ok (.if_icmp .ge 26, 3) := by decide +kernel
theorem dX3_singles_12 : decode cX3_singles 12 = .ok (.iload_n 1, 1) := by decide +kernel
theorem dX3_singles_13 : decode cX3_singles 13 = .ok (.aload_n 0, 1) := by decide +kernel
theorem dX3_singles_14 : decode cX3_singles 14 = .ok (.iload_n 2, 1) := by decide +kernel
theorem dX3_singles_15 : decode cX3_singles 15 = .ok (.invokevirtual 31, 3) := by decide +kernel
theorem dX3_singles_18 : decode cX3_singles 18 = .ok (.iconst 1, 1) := by decide +kernel
theorem dX3_singles_19 : decode cX3_singles 19 = .ok (.if_icmp .ne 7, 3) := by decide +kernel
theorem dX3_singles_22 : decode cX3_singles 22 = .ok (.iconst 1, 1) := by decide +kernel
theorem dX3_singles_23 : decode cX3_singles 23 = .ok (.goto 4, 3) := by decide +kernel
theorem dX3_singles_26 : decode cX3_singles 26 = .ok (.iconst 0, 1) := by decide +kernel
theorem dX3_singles_27 : decode cX3_singles 27 = .ok (.iadd, 1) := by decide +kernel
theorem dX3_singles_28 : decode cX3_singles 28 = .ok (.istore_n 1, 1) := by decide +kernel
theorem dX3_singles_29 : decode cX3_singles 29 = .ok (.iinc 2 1, 3) := by decide +kernel
theorem dX3_singles_32 : decode cX3_singles 32 = .ok (.goto (-28), 3) := by decide +kernel
theorem dX3_singles_35 : decode cX3_singles 35 = .ok (.iload_n 1, 1) := by decide +kernel
theorem dX3_singles_36 : decode cX3_singles 36 = .ok (.ireturn, 1) := by decide +kernel
theorem dX3_largest_0 : decode cX3_largest 0 = .ok (.iconst 0, 1) := by decide +kernel
theorem dX3_largest_1 : decode cX3_largest 1 = .ok (.istore_n 1, 1) := by decide +kernel
theorem dX3_largest_2 : decode cX3_largest 2 = .ok (.iconst 0, 1) := by decide +kernel
theorem dX3_largest_3 : decode cX3_largest 3 = .ok (.istore_n 2, 1) := by decide +kernel
theorem dX3_largest_4 : decode cX3_largest 4 = .ok (.iload_n 2, 1) := by decide +kernel
theorem dX3_largest_5 : decode cX3_largest 5 = .ok (.aload_n 0, 1) := by decide +kernel
theorem dX3_largest_6 : decode cX3_largest 6 = .ok (.getfield 19, 3) := by decide +kernel
theorem dX3_largest_9 : decode cX3_largest 9 = .ok (.if_icmp .ge 26, 3) := by decide +kernel
theorem dX3_largest_12 : decode cX3_largest 12 = .ok (.aload_n 0, 1) := by decide +kernel
theorem dX3_largest_13 : decode cX3_largest 13 = .ok (.iload_n 2, 1) := by decide +kernel
theorem dX3_largest_14 : decode cX3_largest 14 = .ok (.invokevirtual 31, 3) := by decide +kernel
theorem dX3_largest_17 : decode cX3_largest 17 = .ok (.istore_n 3, 1) := by decide +kernel
theorem dX3_largest_18 : decode cX3_largest 18 = .ok (.iload_n 3, 1) := by decide +kernel
theorem dX3_largest_19 : decode cX3_largest 19 = .ok (.iload_n 1, 1) := by decide +kernel
theorem dX3_largest_20 : decode cX3_largest 20 = .ok (.if_icmp .le 7, 3) := by decide +kernel
theorem dX3_largest_23 : decode cX3_largest 23 = .ok (.iload_n 3, 1) := by decide +kernel
theorem dX3_largest_24 : decode cX3_largest 24 = .ok (.goto 4, 3) := by decide +kernel
theorem dX3_largest_27 : decode cX3_largest 27 = .ok (.iload_n 1, 1) := by decide +kernel
theorem dX3_largest_28 : decode cX3_largest 28 = .ok (.istore_n 1, 1) := by decide +kernel
theorem dX3_largest_29 : decode cX3_largest 29 = .ok (.iinc 2 1, 3) := by decide +kernel
theorem dX3_largest_32 : decode cX3_largest 32 = .ok (.goto (-28), 3) := by decide +kernel
theorem dX3_largest_35 : decode cX3_largest 35 = .ok (.iload_n 1, 1) := by decide +kernel
theorem dX3_largest_36 : decode cX3_largest 36 = .ok (.ireturn, 1) := by decide +kernel
theorem dX3_pairs_0 : decode cX3_pairs 0 = .ok (.iconst 0, 1) := by decide +kernel
theorem dX3_pairs_1 : decode cX3_pairs 1 = .ok (.istore_n 1, 1) := by decide +kernel
theorem dX3_pairs_2 : decode cX3_pairs 2 = .ok (.iconst 0, 1) := by decide +kernel
theorem dX3_pairs_3 : decode cX3_pairs 3 = .ok (.istore_n 2, 1) := by decide +kernel
theorem dX3_pairs_4 : decode cX3_pairs 4 = .ok (.iload_n 2, 1) := by decide +kernel
theorem dX3_pairs_5 : decode cX3_pairs 5 = .ok (.aload_n 0, 1) := by decide +kernel
theorem dX3_pairs_6 : decode cX3_pairs 6 = .ok (.getfield 19, 3) := by decide +kernel
theorem dX3_pairs_9 : decode cX3_pairs 9 = .ok (.if_icmp .ge 21, 3) := by decide +kernel
theorem dX3_pairs_12 : decode cX3_pairs 12 = .ok (.iload_n 1, 1) := by decide +kernel
theorem dX3_pairs_13 : decode cX3_pairs 13 = .ok (.aload_n 0, 1) := by decide +kernel
theorem dX3_pairs_14 : decode cX3_pairs 14 = .ok (.iload_n 2, 1) := by decide +kernel
theorem dX3_pairs_15 : decode cX3_pairs 15 = .ok (.invokevirtual 31, 3) := by decide +kernel
theorem dX3_pairs_18 : decode cX3_pairs 18 = .ok (.iconst 2, 1) := by decide +kernel
theorem dX3_pairs_19 : decode cX3_pairs 19 = .ok (.invokestatic 35, 3) := by decide +kernel
theorem dX3_pairs_22 : decode cX3_pairs 22 = .ok (.iadd, 1) := by decide +kernel
theorem dX3_pairs_23 : decode cX3_pairs 23 = .ok (.istore_n 1, 1) := by decide +kernel
theorem dX3_pairs_24 : decode cX3_pairs 24 = .ok (.iinc 2 1, 3) := by decide +kernel
theorem dX3_pairs_27 : decode cX3_pairs 27 = .ok (.goto (-23), 3) := by decide +kernel
theorem dX3_pairs_30 : decode cX3_pairs 30 = .ok (.iload_n 1, 1) := by decide +kernel
theorem dX3_pairs_31 : decode cX3_pairs 31 = .ok (.ireturn, 1) := by decide +kernel
theorem dX3_chainsOfProduct_0 : decode cX3_chainsOfProduct 0 = .ok (.iconst 0, 1) := by decide +kernel
theorem dX3_chainsOfProduct_1 : decode cX3_chainsOfProduct 1 = .ok (.istore_n 1, 1) := by decide +kernel
theorem dX3_chainsOfProduct_2 : decode cX3_chainsOfProduct 2 = .ok (.iconst 1, 1) := by decide +kernel
theorem dX3_chainsOfProduct_3 : decode cX3_chainsOfProduct 3 = .ok (.istore_n 2, 1) := by decide +kernel
theorem dX3_chainsOfProduct_4 : decode cX3_chainsOfProduct 4 = .ok (.iconst 0, 1) := by decide +kernel
theorem dX3_chainsOfProduct_5 : decode cX3_chainsOfProduct 5 = .ok (.istore_n 3, 1) := by decide +kernel
theorem dX3_chainsOfProduct_6 : decode cX3_chainsOfProduct 6 = .ok (.iload_n 3, 1) := by decide +kernel
theorem dX3_chainsOfProduct_7 : decode cX3_chainsOfProduct 7 = .ok (.aload_n 0, 1) := by decide +kernel
theorem dX3_chainsOfProduct_8 : decode cX3_chainsOfProduct 8 = .ok (.getfield 19, 3) := by decide +kernel
theorem dX3_chainsOfProduct_11 : decode cX3_chainsOfProduct 11 = .ok (.if_icmp .ge 49, 3) := by decide +kernel
theorem dX3_chainsOfProduct_14 : decode cX3_chainsOfProduct 14 = .ok (.aload_n 0, 1) := by decide +kernel
theorem dX3_chainsOfProduct_15 : decode cX3_chainsOfProduct 15 = .ok (.iload_n 3, 1) := by decide +kernel
theorem dX3_chainsOfProduct_16 : decode cX3_chainsOfProduct 16 = .ok (.invokevirtual 23, 3) := by decide +kernel
theorem dX3_chainsOfProduct_19 : decode cX3_chainsOfProduct 19 = .ok (.ifCond .eq 35, 3) := by decide +kernel
theorem dX3_chainsOfProduct_22 : decode cX3_chainsOfProduct 22 = .ok (.aload_n 0, 1) := by decide +kernel
theorem dX3_chainsOfProduct_23 : decode cX3_chainsOfProduct 23 = .ok (.iload_n 3, 1) := by decide +kernel
theorem dX3_chainsOfProduct_24 : decode cX3_chainsOfProduct 24 = .ok (.invokevirtual 31, 3) := by decide +kernel
theorem dX3_chainsOfProduct_27 : decode cX3_chainsOfProduct 27 = .ok (.istore 4, 2) := by decide +kernel
theorem dX3_chainsOfProduct_29 : decode cX3_chainsOfProduct 29 = .ok (.iload_n 1, 1) := by decide +kernel
theorem dX3_chainsOfProduct_30 : decode cX3_chainsOfProduct 30 = .ok (.iload 4, 2) := by decide +kernel
theorem dX3_chainsOfProduct_32 : decode cX3_chainsOfProduct 32 = .ok (.iconst 1, 1) := by decide +kernel
theorem dX3_chainsOfProduct_33 : decode cX3_chainsOfProduct 33 = .ok (.isub, 1) := by decide +kernel
theorem dX3_chainsOfProduct_34 : decode cX3_chainsOfProduct 34 = .ok (.iadd, 1) := by decide +kernel
theorem dX3_chainsOfProduct_35 : decode cX3_chainsOfProduct 35 = .ok (.istore_n 1, 1) := by decide +kernel
theorem dX3_chainsOfProduct_36 : decode cX3_chainsOfProduct 36 = .ok (.iload_n 2, 1) := by decide +kernel
theorem dX3_chainsOfProduct_37 : decode cX3_chainsOfProduct 37 = .ok (.iload_n 1, 1) := by decide +kernel
theorem dX3_chainsOfProduct_38 : decode cX3_chainsOfProduct 38 = .ok (.iload 4, 2) := by decide +kernel
theorem dX3_chainsOfProduct_40 : decode cX3_chainsOfProduct 40 = .ok (.iconst 1, 1) := by decide +kernel
theorem dX3_chainsOfProduct_41 : decode cX3_chainsOfProduct 41 = .ok (.isub, 1) := by decide +kernel
theorem dX3_chainsOfProduct_42 : decode cX3_chainsOfProduct 42 = .ok (.invokestatic 35, 3) := by decide +kernel
theorem dX3_chainsOfProduct_45 : decode cX3_chainsOfProduct 45 = .ok (.getstatic 39, 3) := by decide +kernel
theorem dX3_chainsOfProduct_48 : decode cX3_chainsOfProduct 48 = .ok (.iload 4, 2) := by decide +kernel
theorem dX3_chainsOfProduct_50 : decode cX3_chainsOfProduct 50 = .ok (.iaload, 1) := by decide +kernel
theorem dX3_chainsOfProduct_51 : decode cX3_chainsOfProduct 51 = .ok (.imul, 1) := by decide +kernel
theorem dX3_chainsOfProduct_52 : decode cX3_chainsOfProduct 52 = .ok (.imul, 1) := by decide +kernel
theorem dX3_chainsOfProduct_53 : decode cX3_chainsOfProduct 53 = .ok (.istore_n 2, 1) := by decide +kernel
theorem dX3_chainsOfProduct_54 : decode cX3_chainsOfProduct 54 = .ok (.iinc 3 1, 3) := by decide +kernel
theorem dX3_chainsOfProduct_57 : decode cX3_chainsOfProduct 57 = .ok (.goto (-51), 3) := by decide +kernel
theorem dX3_chainsOfProduct_60 : decode cX3_chainsOfProduct 60 = .ok (.iload_n 2, 1) := by decide +kernel
theorem dX3_chainsOfProduct_61 : decode cX3_chainsOfProduct 61 = .ok (.ireturn, 1) := by decide +kernel
theorem dX3_moebiusOfProduct_0 : decode cX3_moebiusOfProduct 0 = .ok (.iconst 1, 1) := by decide +kernel
theorem dX3_moebiusOfProduct_1 : decode cX3_moebiusOfProduct 1 = .ok (.istore_n 1, 1) := by decide +kernel
theorem dX3_moebiusOfProduct_2 : decode cX3_moebiusOfProduct 2 = .ok (.iconst 0, 1) := by decide +kernel
theorem dX3_moebiusOfProduct_3 : decode cX3_moebiusOfProduct 3 = .ok (.istore_n 2, 1) := by decide +kernel
theorem dX3_moebiusOfProduct_4 : decode cX3_moebiusOfProduct 4 = .ok (.iload_n 2, 1) := by decide +kernel
theorem dX3_moebiusOfProduct_5 : decode cX3_moebiusOfProduct 5 = .ok (.aload_n 0, 1) := by decide +kernel
theorem dX3_moebiusOfProduct_6 : decode cX3_moebiusOfProduct 6 = .ok (.getfield 19, 3) := by decide +kernel
theorem dX3_moebiusOfProduct_9 : decode cX3_moebiusOfProduct 9 = .ok (.if_icmp .ge 51, 3) := by decide +kernel
theorem dX3_moebiusOfProduct_12 : decode cX3_moebiusOfProduct 12 = .ok (.aload_n 0, 1) := by decide +kernel
theorem dX3_moebiusOfProduct_13 : decode cX3_moebiusOfProduct 13 = .ok (.iload_n 2, 1) := by decide +kernel
theorem dX3_moebiusOfProduct_14 : decode cX3_moebiusOfProduct 14 = .ok (.invokevirtual 23, 3) := by decide +kernel
theorem dX3_moebiusOfProduct_17 : decode cX3_moebiusOfProduct 17 = .ok (.ifCond .eq 37, 3) := by decide +kernel
theorem dX3_moebiusOfProduct_20 : decode cX3_moebiusOfProduct 20 = .ok (.aload_n 0, 1) := by decide +kernel
theorem dX3_moebiusOfProduct_21 : decode cX3_moebiusOfProduct 21 = .ok (.iload_n 2, 1) := by decide +kernel
theorem dX3_moebiusOfProduct_22 : decode cX3_moebiusOfProduct 22 = .ok (.invokevirtual 31, 3) := by decide +kernel
theorem dX3_moebiusOfProduct_25 : decode cX3_moebiusOfProduct 25 = .ok (.istore_n 3, 1) := by decide +kernel
theorem dX3_moebiusOfProduct_26 : decode cX3_moebiusOfProduct 26 = .ok (.iload_n 1, 1) := by decide +kernel
theorem dX3_moebiusOfProduct_27 : decode cX3_moebiusOfProduct 27 = .ok (.iload_n 3, 1) := by decide +kernel
theorem dX3_moebiusOfProduct_28 : decode cX3_moebiusOfProduct 28 = .ok (.iconst 2, 1) := by decide +kernel
theorem dX3_moebiusOfProduct_29 : decode cX3_moebiusOfProduct 29 = .ok (.irem, 1) := by decide +kernel
theorem dX3_moebiusOfProduct_30 : decode cX3_moebiusOfProduct 30 = .ok (.iconst 1, 1) := by decide +kernel
theorem dX3_moebiusOfProduct_31 : decode cX3_moebiusOfProduct 31 = .ok (.if_icmp .ne 13, 3) := by decide +kernel
theorem dX3_moebiusOfProduct_34 : decode cX3_moebiusOfProduct 34 = .ok (.getstatic 42, 3) := by decide +kernel
theorem dX3_moebiusOfProduct_37 : decode cX3_moebiusOfProduct 37 = .ok (.iload_n 3, 1) := by decide +kernel
theorem dX3_moebiusOfProduct_38 : decode cX3_moebiusOfProduct 38 = .ok (.iconst 1, 1) := by decide +kernel
theorem dX3_moebiusOfProduct_39 : decode cX3_moebiusOfProduct 39 = .ok (.isub, 1) := by decide +kernel
theorem dX3_moebiusOfProduct_40 : decode cX3_moebiusOfProduct 40 = .ok (.iaload, 1) := by decide +kernel
theorem dX3_moebiusOfProduct_41 : decode cX3_moebiusOfProduct 41 = .ok (.goto 11, 3) := by decide +kernel
theorem dX3_moebiusOfProduct_44 : decode cX3_moebiusOfProduct 44 = .ok (.getstatic 42, 3) := by decide +kernel
theorem dX3_moebiusOfProduct_47 : decode cX3_moebiusOfProduct 47 = .ok (.iload_n 3, 1) := by decide +kernel
theorem dX3_moebiusOfProduct_48 : decode cX3_moebiusOfProduct 48 = .ok (.iconst 1, 1) := by decide +kernel
theorem dX3_moebiusOfProduct_49 : decode cX3_moebiusOfProduct 49 = .ok (.isub, 1) := by decide +kernel
theorem dX3_moebiusOfProduct_50 : decode cX3_moebiusOfProduct 50 = .ok (.iaload, 1) := by decide +kernel
theorem dX3_moebiusOfProduct_51 : decode cX3_moebiusOfProduct 51 = .ok (.ineg, 1) := by decide +kernel
theorem dX3_moebiusOfProduct_52 : decode cX3_moebiusOfProduct 52 = .ok (.imul, 1) := by decide +kernel
theorem dX3_moebiusOfProduct_53 : decode cX3_moebiusOfProduct 53 = .ok (.istore_n 1, 1) := by decide +kernel
theorem dX3_moebiusOfProduct_54 : decode cX3_moebiusOfProduct 54 = .ok (.iinc 2 1, 3) := by decide +kernel
theorem dX3_moebiusOfProduct_57 : decode cX3_moebiusOfProduct 57 = .ok (.goto (-53), 3) := by decide +kernel
theorem dX3_moebiusOfProduct_60 : decode cX3_moebiusOfProduct 60 = .ok (.iload_n 1, 1) := by decide +kernel
theorem dX3_moebiusOfProduct_61 : decode cX3_moebiusOfProduct 61 = .ok (.ireturn, 1) := by decide +kernel
theorem dX3_sizeOfProduct_0 : decode cX3_sizeOfProduct 0 = .ok (.iconst 1, 1) := by decide +kernel
theorem dX3_sizeOfProduct_1 : decode cX3_sizeOfProduct 1 = .ok (.istore_n 1, 1) := by decide +kernel
theorem dX3_sizeOfProduct_2 : decode cX3_sizeOfProduct 2 = .ok (.iconst 0, 1) := by decide +kernel
theorem dX3_sizeOfProduct_3 : decode cX3_sizeOfProduct 3 = .ok (.istore_n 2, 1) := by decide +kernel
theorem dX3_sizeOfProduct_4 : decode cX3_sizeOfProduct 4 = .ok (.iload_n 2, 1) := by decide +kernel
theorem dX3_sizeOfProduct_5 : decode cX3_sizeOfProduct 5 = .ok (.aload_n 0, 1) := by decide +kernel
theorem dX3_sizeOfProduct_6 : decode cX3_sizeOfProduct 6 = .ok (.getfield 19, 3) := by decide +kernel
theorem dX3_sizeOfProduct_9 : decode cX3_sizeOfProduct 9 = .ok (.if_icmp .ge 21, 3) := by decide +kernel
theorem dX3_sizeOfProduct_12 : decode cX3_sizeOfProduct 12 = .ok (.iload_n 1, 1) := by decide +kernel
theorem dX3_sizeOfProduct_13 : decode cX3_sizeOfProduct 13 = .ok (.getstatic 42, 3) := by decide +kernel
theorem dX3_sizeOfProduct_16 : decode cX3_sizeOfProduct 16 = .ok (.aload_n 0, 1) := by decide +kernel
theorem dX3_sizeOfProduct_17 : decode cX3_sizeOfProduct 17 = .ok (.iload_n 2, 1) := by decide +kernel
theorem dX3_sizeOfProduct_18 : decode cX3_sizeOfProduct 18 = .ok (.invokevirtual 31, 3) := by decide +kernel
theorem dX3_sizeOfProduct_21 : decode cX3_sizeOfProduct 21 = .ok (.iaload, 1) := by decide +kernel
theorem dX3_sizeOfProduct_22 : decode cX3_sizeOfProduct 22 = .ok (.imul, 1) := by decide +kernel
theorem dX3_sizeOfProduct_23 : decode cX3_sizeOfProduct 23 = .ok (.istore_n 1, 1) := by decide +kernel
theorem dX3_sizeOfProduct_24 : decode cX3_sizeOfProduct 24 = .ok (.iinc 2 1, 3) := by decide +kernel
theorem dX3_sizeOfProduct_27 : decode cX3_sizeOfProduct 27 = .ok (.goto (-23), 3) := by decide +kernel
theorem dX3_sizeOfProduct_30 : decode cX3_sizeOfProduct 30 = .ok (.iload_n 1, 1) := by decide +kernel
theorem dX3_sizeOfProduct_31 : decode cX3_sizeOfProduct 31 = .ok (.ireturn, 1) := by decide +kernel
theorem dX4_init_0 : decode cX4_init 0 = .ok (.aload_n 0, 1) := by decide +kernel
theorem dX4_init_1 : decode cX4_init 1 = .ok (.invokespecial 3, 3) := by decide +kernel
theorem dX4_init_4 : decode cX4_init 4 = .ok (.aload_n 0, 1) := by decide +kernel
theorem dX4_init_5 : decode cX4_init 5 = .ok (.bipush 6, 2) := by decide +kernel
theorem dX4_init_7 : decode cX4_init 7 = .ok (.anewarray 9, 3) := by decide +kernel
theorem dX4_init_10 : decode cX4_init 10 = .ok (.putfield 11, 3) := by decide +kernel
theorem dX4_init_13 : decode cX4_init 13 = .ok (.iconst 0, 1) := by decide +kernel
theorem dX4_init_14 : decode cX4_init 14 = .ok (.istore_n 1, 1) := by decide +kernel
theorem dX4_init_15 : decode cX4_init 15 = .ok (.iload_n 1, 1) := by decide +kernel
theorem dX4_init_16 : decode cX4_init 16 = .ok (.iconst 5, 1) := by decide +kernel
theorem dX4_init_17 : decode cX4_init 17 = .ok (.if_icmp .gt 22, 3) := by decide +kernel
theorem dX4_init_20 : decode cX4_init 20 = .ok (.aload_n 0, 1) := by decide +kernel
theorem dX4_init_21 : decode cX4_init 21 = .ok (.getfield 11, 3) := by decide +kernel
theorem dX4_init_24 : decode cX4_init 24 = .ok (.iload_n 1, 1) := by decide +kernel
theorem dX4_init_25 : decode cX4_init 25 = .ok (.new 9, 3) := by decide +kernel
theorem dX4_init_28 : decode cX4_init 28 = .ok (.dup, 1) := by decide +kernel
theorem dX4_init_29 : decode cX4_init 29 = .ok (.invokespecial 17, 3) := by decide +kernel
theorem dX4_init_32 : decode cX4_init 32 = .ok (.aastore, 1) := by decide +kernel
theorem dX4_init_33 : decode cX4_init 33 = .ok (.iinc 1 1, 3) := by decide +kernel
theorem dX4_init_36 : decode cX4_init 36 = .ok (.goto (-21), 3) := by decide +kernel
theorem dX4_init_39 : decode cX4_init 39 = .ok (.aload_n 0, 1) := by decide +kernel
theorem dX4_init_40 : decode cX4_init 40 = .ok (.iconst 0, 1) := by decide +kernel
theorem dX4_init_41 : decode cX4_init 41 = .ok (.putfield 18, 3) := by decide +kernel
theorem dX4_init_44 : decode cX4_init 44 = .ok (.aload_n 0, 1) := by decide +kernel
theorem dX4_init_45 : decode cX4_init 45 = .ok (.iconst 0, 1) := by decide +kernel
theorem dX4_init_46 : decode cX4_init 46 = .ok (.putfield 22, 3) := by decide +kernel
theorem dX4_init_49 : decode cX4_init 49 = .ok (.return_, 1) := by decide +kernel
theorem dX4_prepare_0 : decode cX4_prepare 0 = .ok (.aload_n 0, 1) := by decide +kernel
theorem dX4_prepare_1 : decode cX4_prepare 1 = .ok (.getfield 11, 3) := by decide +kernel
theorem dX4_prepare_4 : decode cX4_prepare 4 = .ok (.aload_n 0, 1) := by decide +kernel
theorem dX4_prepare_5 : decode cX4_prepare 5 = .ok (.getfield 18, 3) := by decide +kernel
theorem dX4_prepare_8 : decode cX4_prepare 8 = .ok (.aaload, 1) := by decide +kernel
theorem dX4_prepare_9 : decode cX4_prepare 9 = .ok (.aload_n 1, 1) := by decide +kernel
theorem dX4_prepare_10 : decode cX4_prepare 10 = .ok (.invokevirtual 25, 3) := by decide +kernel
theorem dX4_prepare_13 : decode cX4_prepare 13 = .ok (.return_, 1) := by decide +kernel
theorem dX4_prepared_0 : decode cX4_prepared 0 = .ok (.aload_n 0, 1) := by decide +kernel
theorem dX4_prepared_1 : decode cX4_prepared 1 = .ok (.getfield 11, 3) := by decide +kernel
theorem dX4_prepared_4 : decode cX4_prepared 4 = .ok (.aload_n 0, 1) := by decide +kernel
theorem dX4_prepared_5 : decode cX4_prepared 5 = .ok (.getfield 18, 3) := by decide +kernel
theorem dX4_prepared_8 : decode cX4_prepared 8 = .ok (.aaload, 1) := by decide +kernel
theorem dX4_prepared_9 : decode cX4_prepared 9 = .ok (.areturn, 1) := by decide +kernel
theorem dX4_keep_0 : decode cX4_keep 0 = .ok (.aload_n 0, 1) := by decide +kernel
theorem dX4_keep_1 : decode cX4_keep 1 = .ok (.aload_n 0, 1) := by decide +kernel
theorem dX4_keep_2 : decode cX4_keep 2 = .ok (.getfield 18, 3) := by decide +kernel
theorem dX4_keep_5 : decode cX4_keep 5 = .ok (.iconst 5, 1) := by decide +kernel
theorem dX4_keep_6 : decode cX4_keep 6 = .ok (.if_icmp .ge 12, 3) := by decide +kernel
theorem dX4_keep_9 : decode cX4_keep 9 = .ok (.aload_n 0, 1) := by decide +kernel
theorem dX4_keep_10 : decode cX4_keep 10 = .ok (.getfield 18, 3) := by decide +kernel
theorem dX4_keep_13 : decode cX4_keep 13 = .ok (.iconst 1, 1) := by decide +kernel
theorem dX4_keep_14 : decode cX4_keep 14 = .ok (.iadd, 1) := by decide +kernel
theorem dX4_keep_15 : decode cX4_keep 15 = .ok (.goto 4, 3) := by decide +kernel
theorem dX4_keep_18 : decode cX4_keep 18 = .ok (.iconst 0, 1) := by decide +kernel
theorem dX4_keep_19 : decode cX4_keep 19 = .ok (.putfield 18, 3) := by decide +kernel
theorem dX4_keep_22 : decode cX4_keep 22 = .ok (.aload_n 0, 1) := by decide +kernel
theorem dX4_keep_23 : decode cX4_keep 23 = .ok (.aload_n 0, 1) := by decide +kernel
theorem dX4_keep_24 : decode cX4_keep 24 = .ok (.getfield 22, 3) := by decide +kernel
theorem dX4_keep_27 : decode cX4_keep 27 = .ok (.iconst 5, 1) := by decide +kernel
theorem dX4_keep_28 : decode cX4_keep 28 = .ok (.if_icmp .ge 12, 3) := by decide +kernel
theorem dX4_keep_31 : decode cX4_keep 31 = .ok (.aload_n 0, 1) := by decide +kernel
theorem dX4_keep_32 : decode cX4_keep 32 = .ok (.getfield 22, 3) := by decide +kernel
theorem dX4_keep_35 : decode cX4_keep 35 = .ok (.iconst 1, 1) := by decide +kernel
theorem dX4_keep_36 : decode cX4_keep 36 = .ok (.iadd, 1) := by decide +kernel
theorem dX4_keep_37 : decode cX4_keep 37 = .ok (.goto 4, 3) := by decide +kernel
theorem dX4_keep_40 : decode cX4_keep 40 = .ok (.iconst 5, 1) := by decide +kernel
theorem dX4_keep_41 : decode cX4_keep 41 = .ok (.putfield 22, 3) := by decide +kernel
theorem dX4_keep_44 : decode cX4_keep 44 = .ok (.return_, 1) := by decide +kernel
theorem dX4_stepBack_0 : decode cX4_stepBack 0 = .ok (.aload_n 0, 1) := by decide +kernel
theorem dX4_stepBack_1 : decode cX4_stepBack 1 = .ok (.aload_n 0, 1) := by decide +kernel
theorem dX4_stepBack_2 : decode cX4_stepBack 2 = .ok (.getfield 18, 3) := by decide +kernel
theorem dX4_stepBack_5 : decode cX4_stepBack 5 = .ok (.ifCond .le 12, 3) := by decide +kernel
theorem dX4_stepBack_8 : decode cX4_stepBack 8 = .ok (.aload_n 0, 1) := by decide +kernel
theorem dX4_stepBack_9 : decode cX4_stepBack 9 = .ok (.getfield 18, 3) := by decide +kernel
theorem dX4_stepBack_12 : decode cX4_stepBack 12 = .ok (.iconst 1, 1) := by decide +kernel
theorem dX4_stepBack_13 : decode cX4_stepBack 13 = .ok (.isub, 1) := by decide +kernel
theorem dX4_stepBack_14 : decode cX4_stepBack 14 = .ok (.goto 4, 3) := by decide +kernel
theorem dX4_stepBack_17 : decode cX4_stepBack 17 = .ok (.iconst 5, 1) := by decide +kernel
theorem dX4_stepBack_18 : decode cX4_stepBack 18 = .ok (.putfield 18, 3) := by decide +kernel
theorem dX4_stepBack_21 : decode cX4_stepBack 21 = .ok (.aload_n 0, 1) := by decide +kernel
theorem dX4_stepBack_22 : decode cX4_stepBack 22 = .ok (.dup, 1) := by decide +kernel
theorem dX4_stepBack_23 : decode cX4_stepBack 23 = .ok (.getfield 22, 3) := by decide +kernel
theorem dX4_stepBack_26 : decode cX4_stepBack 26 = .ok (.iconst 1, 1) := by decide +kernel
theorem dX4_stepBack_27 : decode cX4_stepBack 27 = .ok (.isub, 1) := by decide +kernel
theorem dX4_stepBack_28 : decode cX4_stepBack 28 = .ok (.putfield 22, 3) := by decide +kernel
theorem dX4_stepBack_31 : decode cX4_stepBack 31 = .ok (.return_, 1) := by decide +kernel
theorem dX5_init_0 : decode cX5_init 0 = .ok (.aload_n 0, 1) := by decide +kernel
theorem dX5_init_1 : decode cX5_init 1 = .ok (.invokespecial 3, 3) := by decide +kernel
theorem dX5_init_4 : decode cX5_init 4 = .ok (.aload_n 0, 1) := by decide +kernel
theorem dX5_init_5 : decode cX5_init 5 = .ok (.bipush 9, 2) := by decide +kernel
theorem dX5_init_7 : decode cX5_init 7 = .ok (.newarray .long, 2) := by decide +kernel
theorem dX5_init_9 : decode cX5_init 9 = .ok (.putfield 9, 3) := by decide +kernel
theorem dX5_init_12 : decode cX5_init 12 = .ok (.aload_n 0, 1) := by decide +kernel
theorem dX5_init_13 : decode cX5_init 13 = .ok (.bipush 9, 2) := by decide +kernel
theorem dX5_init_15 : decode cX5_init 15 = .ok (.newarray .long, 2) := by decide +kernel
theorem dX5_init_17 : decode cX5_init 17 = .ok (.putfield 15, 3) := by decide +kernel
theorem dX5_init_20 : decode cX5_init 20 = .ok (.aload_n 0, 1) := by decide +kernel
theorem dX5_init_21 : decode cX5_init 21 = .ok (.bipush 9, 2) := by decide +kernel
theorem dX5_init_23 : decode cX5_init 23 = .ok (.newarray .long, 2) := by decide +kernel
theorem dX5_init_25 : decode cX5_init 25 = .ok (.putfield 18, 3) := by decide +kernel
theorem dX5_init_28 : decode cX5_init 28 = .ok (.aload_n 0, 1) := by decide +kernel
theorem dX5_init_29 : decode cX5_init 29 = .ok (.bipush 9, 2) := by decide +kernel
theorem dX5_init_31 : decode cX5_init 31 = .ok (.bipush 9, 2) := by decide +kernel
theorem dX5_init_33 : decode cX5_init 33 = .ok (.multianewarray 21 2, 4) := by decide +kernel
theorem dX5_init_37 : decode cX5_init 37 = .ok (.putfield 23, 3) := by decide +kernel
theorem dX5_init_40 : decode cX5_init 40 = .ok (.aload_n 0, 1) := by decide +kernel
theorem dX5_init_41 : decode cX5_init 41 = .ok (.getfield 18, 3) := by decide +kernel
theorem dX5_init_44 : decode cX5_init 44 = .ok (.iconst 0, 1) := by decide +kernel
theorem dX5_init_45 : decode cX5_init 45 = .ok (.lconst 1, 1) := by decide +kernel
theorem dX5_init_46 : decode cX5_init 46 = .ok (.lastore, 1) := by decide +kernel
theorem dX5_init_47 : decode cX5_init 47 = .ok (.aload_n 0, 1) := by decide +kernel
theorem dX5_init_48 : decode cX5_init 48 = .ok (.getfield 23, 3) := by decide +kernel
theorem dX5_init_51 : decode cX5_init 51 = .ok (.iconst 0, 1) := by decide +kernel
theorem dX5_init_52 : decode cX5_init 52 = .ok (.aaload, 1) := by decide +kernel
theorem dX5_init_53 : decode cX5_init 53 = .ok (.iconst 0, 1) := by decide +kernel
theorem dX5_init_54 : decode cX5_init 54 = .ok (.lconst 1, 1) := by decide +kernel
theorem dX5_init_55 : decode cX5_init 55 = .ok (.lastore, 1) := by decide +kernel
theorem dX5_init_56 : decode cX5_init 56 = .ok (.return_, 1) := by decide +kernel
theorem dX5_convert_0 : decode cX5_convert 0 = .ok (.iconst 1, 1) := by decide +kernel
theorem dX5_convert_1 : decode cX5_convert 1 = .ok (.istore 4, 2) := by decide +kernel
theorem dX5_convert_3 : decode cX5_convert 3 = .ok (.iload 4, 2) := by decide +kernel
theorem dX5_convert_5 : decode cX5_convert 5 = .ok (.bipush 8, 2) := by decide +kernel
theorem dX5_convert_7 : decode cX5_convert 7 = .ok (.if_icmp .gt 49, 3) := by decide +kernel
theorem dX5_convert_10 : decode cX5_convert 10 = .ok (.aload_n 0, 1) := by decide +kernel
theorem dX5_convert_11 : decode cX5_convert 11 = .ok (.getfield 15, 3) := by decide +kernel
theorem dX5_convert_14 : decode cX5_convert 14 = .ok (.iload 4, 2) := by decide +kernel
theorem dX5_convert_16 : decode cX5_convert 16 = .ok (.aload_n 1, 1) := by decide +kernel
theorem dX5_convert_17 : decode cX5_convert 17 = .ok (.iload 4, 2) := by decide +kernel
theorem dX5_convert_19 : decode cX5_convert 19 = .ok (.iconst 1, 1) := by decide +kernel
theorem dX5_convert_20 : decode cX5_convert 20 = .ok (.isub, 1) := by decide +kernel
theorem dX5_convert_21 : decode cX5_convert 21 = .ok (.iaload, 1) := by decide +kernel
theorem dX5_convert_22 : decode cX5_convert 22 = .ok (.i2l, 1) := by decide +kernel
theorem dX5_convert_23 : decode cX5_convert 23 = .ok (.lastore, 1) := by decide +kernel
theorem dX5_convert_24 : decode cX5_convert 24 = .ok (.aload_n 0, 1) := by decide +kernel
theorem dX5_convert_25 : decode cX5_convert 25 = .ok (.getfield 18, 3) := by decide +kernel
theorem dX5_convert_28 : decode cX5_convert 28 = .ok (.iload 4, 2) := by decide +kernel
theorem dX5_convert_30 : decode cX5_convert 30 = .ok (.aload_n 0, 1) := by decide +kernel
theorem dX5_convert_31 : decode cX5_convert 31 = .ok (.getfield 15, 3) := by decide +kernel
theorem dX5_convert_34 : decode cX5_convert 34 = .ok (.iload 4, 2) := by decide +kernel
theorem dX5_convert_36 : decode cX5_convert 36 = .ok (.laload, 1) := by decide +kernel
theorem dX5_convert_37 : decode cX5_convert 37 = .ok (.aload_n 0, 1) := by decide +kernel
theorem dX5_convert_38 : decode cX5_convert 38 = .ok (.iload_n 2, 1) := by decide +kernel
theorem dX5_convert_39 : decode cX5_convert 39 = .ok (.iload 4, 2) := by decide +kernel
theorem dX5_convert_41 : decode cX5_convert 41 = .ok (.aload_n 0, 1) := by decide +kernel
theorem dX5_convert_42 : decode cX5_convert 42 = .ok (.getfield 15, 3) := by decide +kernel
theorem dX5_convert_45 : decode cX5_convert 45 = .ok (.invokevirtual 26, 3) := by decide +kernel
theorem dX5_convert_48 : decode cX5_convert 48 = .ok (.ladd, 1) := by decide +kernel
theorem dX5_convert_49 : decode cX5_convert 49 = .ok (.lastore, 1) := by decide +kernel
theorem dX5_convert_50 : decode cX5_convert 50 = .ok (.iinc 4 1, 3) := by decide +kernel
theorem dX5_convert_53 : decode cX5_convert 53 = .ok (.goto (-50), 3) := by decide +kernel
theorem dX5_convert_56 : decode cX5_convert 56 = .ok (.iconst 1, 1) := by decide +kernel
theorem dX5_convert_57 : decode cX5_convert 57 = .ok (.istore 4, 2) := by decide +kernel
theorem dX5_convert_59 : decode cX5_convert 59 = .ok (.iload 4, 2) := by decide +kernel
theorem dX5_convert_61 : decode cX5_convert 61 = .ok (.bipush 8, 2) := by decide +kernel
theorem dX5_convert_63 : decode cX5_convert 63 = .ok (.if_icmp .gt 35, 3) := by decide +kernel
theorem dX5_convert_66 : decode cX5_convert 66 = .ok (.aload_n 0, 1) := by decide +kernel
theorem dX5_convert_67 : decode cX5_convert 67 = .ok (.getfield 9, 3) := by decide +kernel
theorem dX5_convert_70 : decode cX5_convert 70 = .ok (.iload 4, 2) := by decide +kernel
theorem dX5_convert_72 : decode cX5_convert 72 = .ok (.aload_n 0, 1) := by decide +kernel
theorem dX5_convert_73 : decode cX5_convert 73 = .ok (.getfield 18, 3) := by decide +kernel
theorem dX5_convert_76 : decode cX5_convert 76 = .ok (.iload 4, 2) := by decide +kernel
theorem dX5_convert_78 : decode cX5_convert 78 = .ok (.laload, 1) := by decide +kernel
theorem dX5_convert_79 : decode cX5_convert 79 = .ok (.aload_n 0, 1) := by decide +kernel
theorem dX5_convert_80 : decode cX5_convert 80 = .ok (.iload_n 3, 1) := by decide +kernel
theorem dX5_convert_81 : decode cX5_convert 81 = .ok (.iload 4, 2) := by decide +kernel
theorem dX5_convert_83 : decode cX5_convert 83 = .ok (.aload_n 0, 1) := by decide +kernel
theorem dX5_convert_84 : decode cX5_convert 84 = .ok (.getfield 9, 3) := by decide +kernel
theorem dX5_convert_87 : decode cX5_convert 87 = .ok (.invokevirtual 26, 3) := by decide +kernel
theorem dX5_convert_90 : decode cX5_convert 90 = .ok (.lsub, 1) := by decide +kernel
theorem dX5_convert_91 : decode cX5_convert 91 = .ok (.lastore, 1) := by decide +kernel
theorem dX5_convert_92 : decode cX5_convert 92 = .ok (.iinc 4 1, 3) := by decide +kernel
theorem dX5_convert_95 : decode cX5_convert 95 = .ok (.goto (-36), 3) := by decide +kernel
theorem dX5_convert_98 : decode cX5_convert 98 = .ok (.return_, 1) := by decide +kernel
theorem dX5_remainder_0 : decode cX5_remainder 0 = .ok (.iload_n 1, 1) := by decide +kernel
theorem dX5_remainder_1 : decode cX5_remainder 1 = .ok (.ifCond .ne 5, 3) := by decide +kernel
theorem dX5_remainder_4 : decode cX5_remainder 4 = .ok (.lconst 0, 1) := by decide +kernel
theorem dX5_remainder_5 : decode cX5_remainder 5 = .ok (.lreturn, 1) := by decide +kernel
theorem dX5_remainder_6 : decode cX5_remainder 6 = .ok (.iload_n 1, 1) := by decide +kernel
theorem dX5_remainder_7 : decode cX5_remainder 7 = .ok (.iconst 1, 1) := by decide +kernel
theorem dX5_remainder_8 : decode cX5_remainder 8 = .ok (.if_icmp .ne 10, 3) := by decide +kernel
theorem dX5_remainder_11 : decode cX5_remainder 11 = .ok (.aload_n 0, 1) := by decide +kernel
theorem dX5_remainder_12 : decode cX5_remainder 12 = .ok (.iload_n 2, 1) := by decide +kernel
theorem dX5_remainder_13 : decode cX5_remainder 13 = .ok (.iconst 1, 1) := by decide +kernel
theorem dX5_remainder_14 : decode cX5_remainder 14 = .ok (.isub, 1) := by decide +kernel
theorem dX5_remainder_15 : decode cX5_remainder 15 = .ok (.invokevirtual 30, 3) := by decide +kernel
theorem dX5_remainder_18 : decode cX5_remainder 18 = .ok (.lconst 0, 1) := by decide +kernel
theorem dX5_remainder_19 : decode cX5_remainder 19 = .ok (.lstore 4, 2) := by decide +kernel
theorem dX5_remainder_21 : decode cX5_remainder 21 = .ok (.iconst 1, 1) := by decide +kernel
theorem dX5_remainder_22 : decode cX5_remainder 22 = .ok (.istore 6, 2) := by decide +kernel
theorem dX5_remainder_24 : decode cX5_remainder 24 = .ok (.iload 6, 2) := by decide +kernel
theorem dX5_remainder_26 : decode cX5_remainder 26 = .ok (.iload_n 2, 1) := by decide +kernel
theorem dX5_remainder_27 : decode cX5_remainder 27 = .ok (.if_icmp .ge 46, 3) := by decide +kernel
theorem dX5_remainder_30 : decode cX5_remainder 30 = .ok (.lload 4, 2) := by decide +kernel
theorem dX5_remainder_32 : decode cX5_remainder 32 = .ok (.aload_n 3, 1) := by decide +kernel
theorem dX5_remainder_33 : decode cX5_remainder 33 = .ok (.iload 6, 2) := by decide +kernel
theorem dX5_remainder_35 : decode cX5_remainder 35 = .ok (.laload, 1) := by decide +kernel
theorem dX5_remainder_36 : decode cX5_remainder 36 = .ok (.iload_n 1, 1) := by decide +kernel
theorem dX5_remainder_37 : decode cX5_remainder 37 = .ok (.iconst 1, 1) := by decide +kernel
theorem dX5_remainder_38 : decode cX5_remainder 38 = .ok (.if_icmp .ne 18, 3) := by decide +kernel
theorem dX5_remainder_41 : decode cX5_remainder 41 = .ok (.aload_n 0, 1) := by decide +kernel
theorem dX5_remainder_42 : decode cX5_remainder 42 = .ok (.getfield 23, 3) := by decide +kernel
theorem dX5_remainder_45 : decode cX5_remainder 45 = .ok (.iload 6, 2) := by decide +kernel
theorem dX5_remainder_47 : decode cX5_remainder 47 = .ok (.aaload, 1) := by decide +kernel
theorem dX5_remainder_48 : decode cX5_remainder 48 = .ok (.iload_n 2, 1) := by decide +kernel
theorem dX5_remainder_49 : decode cX5_remainder 49 = .ok (.iload 6, 2) := by decide +kernel
theorem dX5_remainder_51 : decode cX5_remainder 51 = .ok (.isub, 1) := by decide +kernel
theorem dX5_remainder_52 : decode cX5_remainder 52 = .ok (.laload, 1) := by decide +kernel
theorem dX5_remainder_53 : decode cX5_remainder 53 = .ok (.goto 10, 3) := by decide +kernel
theorem dX5_remainder_56 : decode cX5_remainder 56 = .ok (.aload_n 0, 1) := by decide +kernel
theorem dX5_remainder_57 : decode cX5_remainder 57 = .ok (.iload_n 2, 1) := by decide +kernel
theorem dX5_remainder_58 : decode cX5_remainder 58 = .ok (.iload 6, 2) := by decide +kernel
theorem dX5_remainder_60 : decode cX5_remainder 60 = .ok (.invokevirtual 34, 3) := by decide +kernel
theorem dX5_remainder_63 : decode cX5_remainder 63 = .ok (.lmul, 1) := by decide +kernel
theorem dX5_remainder_64 : decode cX5_remainder 64 = .ok (.ladd, 1) := by decide +kernel
theorem dX5_remainder_65 : decode cX5_remainder 65 = .ok (.lstore 4, 2) := by decide +kernel
theorem dX5_remainder_67 : decode cX5_remainder 67 = .ok (.iinc 6 1, 3) := by decide +kernel
theorem dX5_remainder_70 : decode cX5_remainder 70 = .ok (.goto (-46), 3) := by decide +kernel
theorem dX5_remainder_73 : decode cX5_remainder 73 = .ok (.lload 4, 2) := by decide +kernel
theorem dX5_remainder_75 : decode cX5_remainder 75 = .ok (.lreturn, 1) := by decide +kernel
theorem dX5_besides_0 : decode cX5_besides 0 = .ok (.iload_n 1, 1) := by decide +kernel
theorem dX5_besides_1 : decode cX5_besides 1 = .ok (.iconst 1, 1) := by decide +kernel
theorem dX5_besides_2 : decode cX5_besides 2 = .ok (.isub, 1) := by decide +kernel
theorem dX5_besides_3 : decode cX5_besides 3 = .ok (.iload_n 2, 1) := by decide +kernel
theorem dX5_besides_4 : decode cX5_besides 4 = .ok (.iconst 1, 1) := by decide +kernel
theorem dX5_besides_5 : decode cX5_besides 5 = .ok (.isub, 1) := by decide +kernel
theorem dX5_besides_6 : decode cX5_besides 6 = .ok (.invokestatic 38, 3) := by decide +kernel
theorem dX5_besides_9 : decode cX5_besides 9 = .ok (.i2l, 1) := by decide +kernel
theorem dX5_besides_10 : decode cX5_besides 10 = .ok (.aload_n 0, 1) := by decide +kernel
theorem dX5_besides_11 : decode cX5_besides 11 = .ok (.getfield 18, 3) := by decide +kernel
theorem dX5_besides_14 : decode cX5_besides 14 = .ok (.iload_n 1, 1) := by decide +kernel
theorem dX5_besides_15 : decode cX5_besides 15 = .ok (.iload_n 2, 1) := by decide +kernel
theorem dX5_besides_16 : decode cX5_besides 16 = .ok (.isub, 1) := by decide +kernel
theorem dX5_besides_17 : decode cX5_besides 17 = .ok (.laload, 1) := by decide +kernel
theorem dX5_besides_18 : decode cX5_besides 18 = .ok (.lmul, 1) := by decide +kernel
theorem dX5_besides_19 : decode cX5_besides 19 = .ok (.lreturn, 1) := by decide +kernel
theorem dX5_raise_0 : decode cX5_raise 0 = .ok (.iconst 1, 1) := by decide +kernel
theorem dX5_raise_1 : decode cX5_raise 1 = .ok (.istore_n 2, 1) := by decide +kernel
theorem dX5_raise_2 : decode cX5_raise 2 = .ok (.iload_n 2, 1) := by decide +kernel
theorem dX5_raise_3 : decode cX5_raise 3 = .ok (.iload_n 1, 1) := by decide +kernel
theorem dX5_raise_4 : decode cX5_raise 4 = .ok (.iadd, 1) := by decide +kernel
theorem dX5_raise_5 : decode cX5_raise 5 = .ok (.bipush 8, 2) := by decide +kernel
theorem dX5_raise_7 : decode cX5_raise 7 = .ok (.if_icmp .gt 59, 3) := by decide +kernel
theorem dX5_raise_10 : decode cX5_raise 10 = .ok (.lconst 0, 1) := by decide +kernel
theorem dX5_raise_11 : decode cX5_raise 11 = .ok (.lstore_n 3, 1) := by decide +kernel
theorem dX5_raise_12 : decode cX5_raise 12 = .ok (.iconst 0, 1) := by decide +kernel
theorem dX5_raise_13 : decode cX5_raise 13 = .ok (.istore 5, 2) := by decide +kernel
theorem dX5_raise_15 : decode cX5_raise 15 = .ok (.iload 5, 2) := by decide +kernel
theorem dX5_raise_17 : decode cX5_raise 17 = .ok (.iload_n 1, 1) := by decide +kernel
theorem dX5_raise_18 : decode cX5_raise 18 = .ok (.if_icmp .gt 33, 3) := by decide +kernel
theorem dX5_raise_21 : decode cX5_raise 21 = .ok (.lload_n 3, 1) := by decide +kernel
theorem dX5_raise_22 : decode cX5_raise 22 = .ok (.aload_n 0, 1) := by decide +kernel
theorem dX5_raise_23 : decode cX5_raise 23 = .ok (.getfield 18, 3) := by decide +kernel
theorem dX5_raise_26 : decode cX5_raise 26 = .ok (.iload 5, 2) := by decide +kernel
theorem dX5_raise_28 : decode cX5_raise 28 = .ok (.laload, 1) := by decide +kernel
theorem dX5_raise_29 : decode cX5_raise 29 = .ok (.aload_n 0, 1) := by decide +kernel
theorem dX5_raise_30 : decode cX5_raise 30 = .ok (.getfield 23, 3) := by decide +kernel
theorem dX5_raise_33 : decode cX5_raise 33 = .ok (.iload_n 2, 1) := by decide +kernel
theorem dX5_raise_34 : decode cX5_raise 34 = .ok (.iconst 1, 1) := by decide +kernel
theorem dX5_raise_35 : decode cX5_raise 35 = .ok (.isub, 1) := by decide +kernel
theorem dX5_raise_36 : decode cX5_raise 36 = .ok (.aaload, 1) := by decide +kernel
theorem dX5_raise_37 : decode cX5_raise 37 = .ok (.iload_n 1, 1) := by decide +kernel
theorem dX5_raise_38 : decode cX5_raise 38 = .ok (.iload 5, 2) := by decide +kernel
theorem dX5_raise_40 : decode cX5_raise 40 = .ok (.isub, 1) := by decide +kernel
theorem dX5_raise_41 : decode cX5_raise 41 = .ok (.laload, 1) := by decide +kernel
theorem dX5_raise_42 : decode cX5_raise 42 = .ok (.lmul, 1) := by decide +kernel
theorem dX5_raise_43 : decode cX5_raise 43 = .ok (.ladd, 1) := by decide +kernel
theorem dX5_raise_44 : decode cX5_raise 44 = .ok (.lstore_n 3, 1) := by decide +kernel
theorem dX5_raise_45 : decode cX5_raise 45 = .ok (.iinc 5 1, 3) := by decide +kernel
theorem dX5_raise_48 : decode cX5_raise 48 = .ok (.goto (-33), 3) := by decide +kernel
theorem dX5_raise_51 : decode cX5_raise 51 = .ok (.aload_n 0, 1) := by decide +kernel
theorem dX5_raise_52 : decode cX5_raise 52 = .ok (.getfield 23, 3) := by decide +kernel
theorem dX5_raise_55 : decode cX5_raise 55 = .ok (.iload_n 2, 1) := by decide +kernel
theorem dX5_raise_56 : decode cX5_raise 56 = .ok (.aaload, 1) := by decide +kernel
theorem dX5_raise_57 : decode cX5_raise 57 = .ok (.iload_n 1, 1) := by decide +kernel
theorem dX5_raise_58 : decode cX5_raise 58 = .ok (.lload_n 3, 1) := by decide +kernel
theorem dX5_raise_59 : decode cX5_raise 59 = .ok (.lastore, 1) := by decide +kernel
theorem dX5_raise_60 : decode cX5_raise 60 = .ok (.iinc 2 1, 3) := by decide +kernel
theorem dX5_raise_63 : decode cX5_raise 63 = .ok (.goto (-61), 3) := by decide +kernel
theorem dX5_raise_66 : decode cX5_raise 66 = .ok (.return_, 1) := by decide +kernel
theorem dX6_init_0 : decode cX6_init 0 = .ok (.aload_n 0, 1) := by decide +kernel
theorem dX6_init_1 : decode cX6_init 1 = .ok (.invokespecial 3, 3) := by decide +kernel
theorem dX6_init_4 : decode cX6_init 4 = .ok (.aload_n 0, 1) := by decide +kernel
theorem dX6_init_5 : decode cX6_init 5 = .ok (.iconst 4, 1) := by decide +kernel
theorem dX6_init_6 : decode cX6_init 6 = .ok (.putfield 9, 3) := by decide +kernel
theorem dX6_init_9 : decode cX6_init 9 = .ok (.aload_n 0, 1) := by decide +kernel
theorem dX6_init_10 : decode cX6_init 10 = .ok (.bipush 6, 2) := by decide +kernel
theorem dX6_init_12 : decode cX6_init 12 = .ok (.anewarray 15, 3) := by decide +kernel
theorem dX6_init_15 : decode cX6_init 15 = .ok (.putfield 17, 3) := by decide +kernel
theorem dX6_init_18 : decode cX6_init 18 = .ok (.iconst 0, 1) := by decide +kernel
theorem dX6_init_19 : decode cX6_init 19 = .ok (.istore_n 1, 1) := by decide +kernel
theorem dX6_init_20 : decode cX6_init 20 = .ok (.iload_n 1, 1) := by decide +kernel
theorem dX6_init_21 : decode cX6_init 21 = .ok (.bipush 6, 2) := by decide +kernel
theorem dX6_init_23 : decode cX6_init 23 = .ok (.if_icmp .ge 22, 3) := by decide +kernel
theorem dX6_init_26 : decode cX6_init 26 = .ok (.aload_n 0, 1) := by decide +kernel
theorem dX6_init_27 : decode cX6_init 27 = .ok (.getfield 17, 3) := by decide +kernel
theorem dX6_init_30 : decode cX6_init 30 = .ok (.iload_n 1, 1) := by decide +kernel
theorem dX6_init_31 : decode cX6_init 31 = .ok (.new 15, 3) := by decide +kernel
theorem dX6_init_34 : decode cX6_init 34 = .ok (.dup, 1) := by decide +kernel
theorem dX6_init_35 : decode cX6_init 35 = .ok (.invokespecial 21, 3) := by decide +kernel
theorem dX6_init_38 : decode cX6_init 38 = .ok (.aastore, 1) := by decide +kernel
theorem dX6_init_39 : decode cX6_init 39 = .ok (.iinc 1 1, 3) := by decide +kernel
theorem dX6_init_42 : decode cX6_init 42 = .ok (.goto (-22), 3) := by decide +kernel
theorem dX6_init_45 : decode cX6_init 45 = .ok (.aload_n 0, 1) := by decide +kernel
theorem dX6_init_46 : decode cX6_init 46 = .ok (.bipush 8, 2) := by decide +kernel
theorem dX6_init_48 : decode cX6_init 48 = .ok (.newarray .int, 2) := by decide +kernel
theorem dX6_init_50 : decode cX6_init 50 = .ok (.putfield 22, 3) := by decide +kernel
theorem dX6_init_53 : decode cX6_init 53 = .ok (.return_, 1) := by decide +kernel
theorem dX6_copy_0 : decode cX6_copy 0 = .ok (.aload_n 0, 1) := by decide +kernel
theorem dX6_copy_1 : decode cX6_copy 1 = .ok (.aload_n 1, 1) := by decide +kernel
theorem dX6_copy_2 : decode cX6_copy 2 = .ok (.getfield 9, 3) := by decide +kernel
theorem dX6_copy_5 : decode cX6_copy 5 = .ok (.putfield 9, 3) := by decide +kernel
theorem dX6_copy_8 : decode cX6_copy 8 = .ok (.iconst 0, 1) := by decide +kernel
theorem dX6_copy_9 : decode cX6_copy 9 = .ok (.istore_n 2, 1) := by decide +kernel
theorem dX6_copy_10 : decode cX6_copy 10 = .ok (.iload_n 2, 1) := by decide +kernel
theorem dX6_copy_11 : decode cX6_copy 11 = .ok (.bipush 6, 2) := by decide +kernel
theorem dX6_copy_13 : decode cX6_copy 13 = .ok (.if_icmp .ge 24, 3) := by decide +kernel
theorem dX6_copy_16 : decode cX6_copy 16 = .ok (.aload_n 0, 1) := by decide +kernel
theorem dX6_copy_17 : decode cX6_copy 17 = .ok (.getfield 17, 3) := by decide +kernel
theorem dX6_copy_20 : decode cX6_copy 20 = .ok (.iload_n 2, 1) := by decide +kernel
theorem dX6_copy_21 : decode cX6_copy 21 = .ok (.aaload, 1) := by decide +kernel
theorem dX6_copy_22 : decode cX6_copy 22 = .ok (.aload_n 1, 1) := by decide +kernel
theorem dX6_copy_23 : decode cX6_copy 23 = .ok (.getfield 17, 3) := by decide +kernel
theorem dX6_copy_26 : decode cX6_copy 26 = .ok (.iload_n 2, 1) := by decide +kernel
theorem dX6_copy_27 : decode cX6_copy 27 = .ok (.aaload, 1) := by decide +kernel
theorem dX6_copy_28 : decode cX6_copy 28 = .ok (.invokevirtual 26, 3) := by decide +kernel
theorem dX6_copy_31 : decode cX6_copy 31 = .ok (.iinc 2 1, 3) := by decide +kernel
theorem dX6_copy_34 : decode cX6_copy 34 = .ok (.goto (-24), 3) := by decide +kernel
theorem dX6_copy_37 : decode cX6_copy 37 = .ok (.iconst 0, 1) := by decide +kernel
theorem dX6_copy_38 : decode cX6_copy 38 = .ok (.istore_n 2, 1) := by decide +kernel
theorem dX6_copy_39 : decode cX6_copy 39 = .ok (.iload_n 2, 1) := by decide +kernel
theorem dX6_copy_40 : decode cX6_copy 40 = .ok (.bipush 8, 2) := by decide +kernel
theorem dX6_copy_42 : decode cX6_copy 42 = .ok (.if_icmp .ge 21, 3) := by decide +kernel
theorem dX6_copy_45 : decode cX6_copy 45 = .ok (.aload_n 0, 1) := by decide +kernel
theorem dX6_copy_46 : decode cX6_copy 46 = .ok (.getfield 22, 3) := by decide +kernel
theorem dX6_copy_49 : decode cX6_copy 49 = .ok (.iload_n 2, 1) := by decide +kernel
theorem dX6_copy_50 : decode cX6_copy 50 = .ok (.aload_n 1, 1) := by decide +kernel
theorem dX6_copy_51 : decode cX6_copy 51 = .ok (.getfield 22, 3) := by decide +kernel
theorem dX6_copy_54 : decode cX6_copy 54 = .ok (.iload_n 2, 1) := by decide +kernel
theorem dX6_copy_55 : decode cX6_copy 55 = .ok (.iaload, 1) := by decide +kernel
theorem dX6_copy_56 : decode cX6_copy 56 = .ok (.iastore, 1) := by decide +kernel
theorem dX6_copy_57 : decode cX6_copy 57 = .ok (.iinc 2 1, 3) := by decide +kernel
theorem dX6_copy_60 : decode cX6_copy 60 = .ok (.goto (-21), 3) := by decide +kernel
theorem dX6_copy_63 : decode cX6_copy 63 = .ok (.return_, 1) := by decide +kernel
theorem dX7_init_0 : decode cX7_init 0 = .ok (.aload_n 0, 1) := by decide +kernel
theorem dX7_init_1 : decode cX7_init 1 = .ok (.invokespecial 1, 3) := by decide +kernel
theorem dX7_init_4 : decode cX7_init 4 = .ok (.aload_n 0, 1) := by decide +kernel
theorem dX7_init_5 : decode cX7_init 5 = .ok (.new 7, 3) := by decide +kernel
theorem dX7_init_8 : decode cX7_init 8 = .ok (.dup, 1) := by decide +kernel
theorem dX7_init_9 : decode cX7_init 9 = .ok (.invokespecial 9, 3) := by decide +kernel
theorem dX7_init_12 : decode cX7_init 12 = .ok (.putfield 10, 3) := by decide +kernel
theorem dX7_init_15 : decode cX7_init 15 = .ok (.aload_n 0, 1) := by decide +kernel
theorem dX7_init_16 : decode cX7_init 16 = .ok (.new 16, 3) := by decide +kernel
theorem dX7_init_19 : decode cX7_init 19 = .ok (.dup, 1) := by decide +kernel
theorem dX7_init_20 : decode cX7_init 20 = .ok (.invokespecial 18, 3) := by decide +kernel
theorem dX7_init_23 : decode cX7_init 23 = .ok (.putfield 19, 3) := by decide +kernel
theorem dX7_init_26 : decode cX7_init 26 = .ok (.aload_n 0, 1) := by decide +kernel
theorem dX7_init_27 : decode cX7_init 27 = .ok (.new 23, 3) := by decide +kernel
theorem dX7_init_30 : decode cX7_init 30 = .ok (.dup, 1) := by decide +kernel
theorem dX7_init_31 : decode cX7_init 31 = .ok (.invokespecial 25, 3) := by decide +kernel
theorem dX7_init_34 : decode cX7_init 34 = .ok (.putfield 26, 3) := by decide +kernel
theorem dX7_init_37 : decode cX7_init 37 = .ok (.aload_n 0, 1) := by decide +kernel
theorem dX7_init_38 : decode cX7_init 38 = .ok (.new 30, 3) := by decide +kernel
theorem dX7_init_41 : decode cX7_init 41 = .ok (.dup, 1) := by decide +kernel
theorem dX7_init_42 : decode cX7_init 42 = .ok (.invokespecial 32, 3) := by decide +kernel
theorem dX7_init_45 : decode cX7_init 45 = .ok (.putfield 33, 3) := by decide +kernel
theorem dX7_init_48 : decode cX7_init 48 = .ok (.aload_n 0, 1) := by decide +kernel
theorem dX7_init_49 : decode cX7_init 49 = .ok (.iconst 0, 1) := by decide +kernel
theorem dX7_init_50 : decode cX7_init 50 = .ok (.putfield 37, 3) := by decide +kernel
theorem dX7_init_53 : decode cX7_init 53 = .ok (.aload_n 0, 1) := by decide +kernel
theorem dX7_init_54 : decode cX7_init 54 = .ok (.iconst 0, 1) := by decide +kernel
theorem dX7_init_55 : decode cX7_init 55 = .ok (.putfield 41, 3) := by decide +kernel
theorem dX7_init_58 : decode cX7_init 58 = .ok (.aload_n 0, 1) := by decide +kernel
theorem dX7_init_59 : decode cX7_init 59 = .ok (.iconst 0, 1) := by decide +kernel
theorem dX7_init_60 : decode cX7_init 60 = .ok (.putfield 44, 3) := by decide +kernel
theorem dX7_init_63 : decode cX7_init 63 = .ok (.return_, 1) := by decide +kernel
theorem dX7_points_0 : decode cX7_points 0 = .ok (.aload_n 0, 1) := by decide +kernel
theorem dX7_points_1 : decode cX7_points 1 = .ok (.getfield 19, 3) := by decide +kernel
theorem dX7_points_4 : decode cX7_points 4 = .ok (.aload_n 0, 1) := by decide +kernel
theorem dX7_points_5 : decode cX7_points 5 = .ok (.getfield 10, 3) := by decide +kernel
theorem dX7_points_8 : decode cX7_points 8 = .ok (.getfield 47, 3) := by decide +kernel
theorem dX7_points_11 : decode cX7_points 11 = .ok (.invokevirtual 51, 3) := by decide +kernel
theorem dX7_points_14 : decode cX7_points 14 = .ok (.aload_n 0, 1) := by decide +kernel
theorem dX7_points_15 : decode cX7_points 15 = .ok (.aload_n 0, 1) := by decide +kernel
theorem dX7_points_16 : decode cX7_points 16 = .ok (.getfield 10, 3) := by decide +kernel
theorem dX7_points_19 : decode cX7_points 19 = .ok (.iload_n 1, 1) := by decide +kernel
theorem dX7_points_20 : decode cX7_points 20 = .ok (.invokevirtual 55, 3) := by decide +kernel
theorem dX7_points_23 : decode cX7_points 23 = .ok (.invokevirtual 59, 3) := by decide +kernel
theorem dX7_points_26 : decode cX7_points 26 = .ok (.ireturn, 1) := by decide +kernel
theorem dX7_puts_0 : decode cX7_puts 0 = .ok (.aload_n 0, 1) := by decide +kernel
theorem dX7_puts_1 : decode cX7_puts 1 = .ok (.getfield 19, 3) := by decide +kernel
theorem dX7_puts_4 : decode cX7_puts 4 = .ok (.aload_n 0, 1) := by decide +kernel
theorem dX7_puts_5 : decode cX7_puts 5 = .ok (.getfield 10, 3) := by decide +kernel
theorem dX7_puts_8 : decode cX7_puts 8 = .ok (.getfield 47, 3) := by decide +kernel
theorem dX7_puts_11 : decode cX7_puts 11 = .ok (.invokevirtual 51, 3) := by decide +kernel
theorem dX7_puts_14 : decode cX7_puts 14 = .ok (.aload_n 0, 1) := by decide +kernel
theorem dX7_puts_15 : decode cX7_puts 15 = .ok (.aload_n 0, 1) := by decide +kernel
theorem dX7_puts_16 : decode cX7_puts 16 = .ok (.getfield 10, 3) := by decide +kernel
theorem dX7_puts_19 : decode cX7_puts 19 = .ok (.iload_n 1, 1) := by decide +kernel
theorem dX7_puts_20 : decode cX7_puts 20 = .ok (.iload_n 2, 1) := by decide +kernel
theorem dX7_puts_21 : decode cX7_puts 21 = .ok (.iload_n 3, 1) := by decide +kernel
theorem dX7_puts_22 : decode cX7_puts 22 = .ok (.invokevirtual 62, 3) := by decide +kernel
theorem dX7_puts_25 : decode cX7_puts 25 = .ok (.invokevirtual 59, 3) := by decide +kernel
theorem dX7_puts_28 : decode cX7_puts 28 = .ok (.ireturn, 1) := by decide +kernel
theorem dX7_meets_0 : decode cX7_meets 0 = .ok (.aload_n 0, 1) := by decide +kernel
theorem dX7_meets_1 : decode cX7_meets 1 = .ok (.getfield 19, 3) := by decide +kernel
theorem dX7_meets_4 : decode cX7_meets 4 = .ok (.aload_n 0, 1) := by decide +kernel
theorem dX7_meets_5 : decode cX7_meets 5 = .ok (.getfield 10, 3) := by decide +kernel
theorem dX7_meets_8 : decode cX7_meets 8 = .ok (.getfield 47, 3) := by decide +kernel
theorem dX7_meets_11 : decode cX7_meets 11 = .ok (.invokevirtual 51, 3) := by decide +kernel
theorem dX7_meets_14 : decode cX7_meets 14 = .ok (.aload_n 0, 1) := by decide +kernel
theorem dX7_meets_15 : decode cX7_meets 15 = .ok (.aload_n 0, 1) := by decide +kernel
theorem dX7_meets_16 : decode cX7_meets 16 = .ok (.getfield 10, 3) := by decide +kernel
theorem dX7_meets_19 : decode cX7_meets 19 = .ok (.iload_n 1, 1) := by decide +kernel
theorem dX7_meets_20 : decode cX7_meets 20 = .ok (.iload_n 2, 1) := by decide +kernel
theorem dX7_meets_21 : decode cX7_meets 21 = .ok (.iload_n 3, 1) := by decide +kernel
theorem dX7_meets_22 : decode cX7_meets 22 = .ok (.invokevirtual 66, 3) := by decide +kernel
theorem dX7_meets_25 : decode cX7_meets 25 = .ok (.invokevirtual 59, 3) := by decide +kernel
theorem dX7_meets_28 : decode cX7_meets 28 = .ok (.ireturn, 1) := by decide +kernel
theorem dX7_joins_0 : decode cX7_joins 0 = .ok (.aload_n 0, 1) := by decide +kernel
theorem dX7_joins_1 : decode cX7_joins 1 = .ok (.getfield 19, 3) := by decide +kernel
theorem dX7_joins_4 : decode cX7_joins 4 = .ok (.aload_n 0, 1) := by decide +kernel
theorem dX7_joins_5 : decode cX7_joins 5 = .ok (.getfield 10, 3) := by decide +kernel
theorem dX7_joins_8 : decode cX7_joins 8 = .ok (.getfield 47, 3) := by decide +kernel
theorem dX7_joins_11 : decode cX7_joins 11 = .ok (.invokevirtual 51, 3) := by decide +kernel
theorem dX7_joins_14 : decode cX7_joins 14 = .ok (.aload_n 0, 1) := by decide +kernel
theorem dX7_joins_15 : decode cX7_joins 15 = .ok (.aload_n 0, 1) := by decide +kernel
theorem dX7_joins_16 : decode cX7_joins 16 = .ok (.getfield 10, 3) := by decide +kernel
theorem dX7_joins_19 : decode cX7_joins 19 = .ok (.iload_n 1, 1) := by decide +kernel
theorem dX7_joins_20 : decode cX7_joins 20 = .ok (.iload_n 2, 1) := by decide +kernel
theorem dX7_joins_21 : decode cX7_joins 21 = .ok (.iload_n 3, 1) := by decide +kernel
theorem dX7_joins_22 : decode cX7_joins 22 = .ok (.invokevirtual 69, 3) := by decide +kernel
theorem dX7_joins_25 : decode cX7_joins 25 = .ok (.invokevirtual 59, 3) := by decide +kernel
theorem dX7_joins_28 : decode cX7_joins 28 = .ok (.ireturn, 1) := by decide +kernel
theorem dX7_complements_0 : decode cX7_complements 0 = .ok (.aload_n 0, 1) := by decide +kernel
theorem dX7_complements_1 : decode cX7_complements 1 = .ok (.getfield 19, 3) := by decide +kernel
theorem dX7_complements_4 : decode cX7_complements 4 = .ok (.aload_n 0, 1) := by decide +kernel
theorem dX7_complements_5 : decode cX7_complements 5 = .ok (.getfield 10, 3) := by decide +kernel
theorem dX7_complements_8 : decode cX7_complements 8 = .ok (.getfield 47, 3) := by decide +kernel
theorem dX7_complements_11 : decode cX7_complements 11 = .ok (.invokevirtual 51, 3) := by decide +kernel
theorem dX7_complements_14 : decode cX7_complements 14 = .ok (.aload_n 0, 1) := by decide +kernel
theorem dX7_complements_15 : decode cX7_complements 15 = .ok (.aload_n 0, 1) := by decide +kernel
theorem dX7_complements_16 : decode cX7_complements 16 = .ok (.getfield 10, 3) := by decide +kernel
theorem dX7_complements_19 : decode cX7_complements 19 = .ok (.iload_n 1, 1) := by decide +kernel
theorem dX7_complements_20 : decode cX7_complements 20 = .ok (.iload_n 2, 1) := by decide +kernel
theorem dX7_complements_21 : decode cX7_complements 21 = .ok (.invokevirtual 72, 3) := by decide +kernel
theorem dX7_complements_24 : decode cX7_complements 24 = .ok (.invokevirtual 59, 3) := by decide +kernel
theorem dX7_complements_27 : decode cX7_complements 27 = .ok (.ireturn, 1) := by decide +kernel
theorem dX7_turns_0 : decode cX7_turns 0 = .ok (.aload_n 0, 1) := by decide +kernel
theorem dX7_turns_1 : decode cX7_turns 1 = .ok (.getfield 19, 3) := by decide +kernel
theorem dX7_turns_4 : decode cX7_turns 4 = .ok (.aload_n 0, 1) := by decide +kernel
theorem dX7_turns_5 : decode cX7_turns 5 = .ok (.getfield 10, 3) := by decide +kernel
theorem dX7_turns_8 : decode cX7_turns 8 = .ok (.getfield 47, 3) := by decide +kernel
theorem dX7_turns_11 : decode cX7_turns 11 = .ok (.invokevirtual 51, 3) := by decide +kernel
theorem dX7_turns_14 : decode cX7_turns 14 = .ok (.aload_n 0, 1) := by decide +kernel
theorem dX7_turns_15 : decode cX7_turns 15 = .ok (.aload_n 0, 1) := by decide +kernel
theorem dX7_turns_16 : decode cX7_turns 16 = .ok (.getfield 10, 3) := by decide +kernel
theorem dX7_turns_19 : decode cX7_turns 19 = .ok (.iload_n 1, 1) := by decide +kernel
theorem dX7_turns_20 : decode cX7_turns 20 = .ok (.iload_n 2, 1) := by decide +kernel
theorem dX7_turns_21 : decode cX7_turns 21 = .ok (.invokevirtual 76, 3) := by decide +kernel
theorem dX7_turns_24 : decode cX7_turns 24 = .ok (.invokevirtual 59, 3) := by decide +kernel
theorem dX7_turns_27 : decode cX7_turns 27 = .ok (.ireturn, 1) := by decide +kernel
theorem dX7_takes_0 : decode cX7_takes 0 = .ok (.aload_n 0, 1) := by decide +kernel
theorem dX7_takes_1 : decode cX7_takes 1 = .ok (.getfield 19, 3) := by decide +kernel
theorem dX7_takes_4 : decode cX7_takes 4 = .ok (.aload_n 0, 1) := by decide +kernel
theorem dX7_takes_5 : decode cX7_takes 5 = .ok (.getfield 10, 3) := by decide +kernel
theorem dX7_takes_8 : decode cX7_takes 8 = .ok (.getfield 47, 3) := by decide +kernel
theorem dX7_takes_11 : decode cX7_takes 11 = .ok (.invokevirtual 51, 3) := by decide +kernel
theorem dX7_takes_14 : decode cX7_takes 14 = .ok (.aload_n 0, 1) := by decide +kernel
theorem dX7_takes_15 : decode cX7_takes 15 = .ok (.aload_n 0, 1) := by decide +kernel
theorem dX7_takes_16 : decode cX7_takes 16 = .ok (.getfield 10, 3) := by decide +kernel
theorem dX7_takes_19 : decode cX7_takes 19 = .ok (.iload_n 1, 1) := by decide +kernel
theorem dX7_takes_20 : decode cX7_takes 20 = .ok (.iload_n 2, 1) := by decide +kernel
theorem dX7_takes_21 : decode cX7_takes 21 = .ok (.invokevirtual 79, 3) := by decide +kernel
theorem dX7_takes_24 : decode cX7_takes 24 = .ok (.invokevirtual 59, 3) := by decide +kernel
theorem dX7_takes_27 : decode cX7_takes 27 = .ok (.ireturn, 1) := by decide +kernel
theorem dX7_of_0 : decode cX7_of 0 = .ok (.iload_n 1, 1) := by decide +kernel
theorem dX7_of_1 : decode cX7_of 1 = .ok (.invokestatic 82, 3) := by decide +kernel
theorem dX7_of_4 : decode cX7_of 4 = .ok (.ifCond .eq 13, 3) := by decide +kernel
theorem dX7_of_7 : decode cX7_of 7 = .ok (.iload_n 2, 1) := by decide +kernel
theorem dX7_of_8 : decode cX7_of 8 = .ok (.ifCond .lt 9, 3) := by decide +kernel
theorem dX7_of_11 : decode cX7_of 11 = .ok (.iload_n 2, 1) := by decide +kernel
theorem dX7_of_12 : decode cX7_of 12 = .ok (.bipush 6, 2) := by decide +kernel
theorem dX7_of_14 : decode cX7_of 14 = .ok (.if_icmp .lt 8, 3) := by decide +kernel
theorem dX7_of_17 : decode cX7_of 17 = .ok (.aload_n 0, 1) := by decide +kernel
theorem dX7_of_18 : decode cX7_of 18 = .ok (.invokevirtual 86, 3) := by decide +kernel
theorem dX7_of_21 : decode cX7_of 21 = .ok (.ireturn, 1) := by decide +kernel
theorem dX7_of_22 : decode cX7_of 22 = .ok (.aload_n 0, 1) := by decide +kernel
theorem dX7_of_23 : decode cX7_of 23 = .ok (.getfield 10, 3) := by decide +kernel
theorem dX7_of_26 : decode cX7_of 26 = .ok (.iload_n 1, 1) := by decide +kernel
theorem dX7_of_27 : decode cX7_of 27 = .ok (.iload_n 2, 1) := by decide +kernel
theorem dX7_of_28 : decode cX7_of 28 = .ok (.invokevirtual 90, 3) := by decide +kernel
theorem dX7_of_31 : decode cX7_of 31 = .ok (.ireturn, 1) := by decide +kernel
theorem dX7_row_0 : decode cX7_row 0 = .ok (.iload_n 1, 1) := by decide +kernel
theorem dX7_row_1 : decode cX7_row 1 = .ok (.invokestatic 82, 3) := by decide +kernel
theorem dX7_row_4 : decode cX7_row 4 = .ok (.ifCond .eq 14, 3) := by decide +kernel
theorem dX7_row_7 : decode cX7_row 7 = .ok (.aload_n 0, 1) := by decide +kernel
theorem dX7_row_8 : decode cX7_row 8 = .ok (.getfield 10, 3) := by decide +kernel
theorem dX7_row_11 : decode cX7_row 11 = .ok (.iload_n 2, 1) := by decide +kernel
theorem dX7_row_12 : decode cX7_row 12 = .ok (.invokevirtual 93, 3) := by decide +kernel
theorem dX7_row_15 : decode cX7_row 15 = .ok (.ifCond .ne 8, 3) := by decide +kernel
theorem dX7_row_18 : decode cX7_row 18 = .ok (.aload_n 0, 1) := by decide +kernel
theorem dX7_row_19 : decode cX7_row 19 = .ok (.invokevirtual 86, 3) := by decide +kernel
theorem dX7_row_22 : decode cX7_row 22 = .ok (.ireturn, 1) := by decide +kernel
theorem dX7_row_23 : decode cX7_row 23 = .ok (.aload_n 0, 1) := by decide +kernel
theorem dX7_row_24 : decode cX7_row 24 = .ok (.getfield 10, 3) := by decide +kernel
theorem dX7_row_27 : decode cX7_row 27 = .ok (.iload_n 1, 1) := by decide +kernel
theorem dX7_row_28 : decode cX7_row 28 = .ok (.invokevirtual 96, 3) := by decide +kernel
theorem dX7_row_31 : decode cX7_row 31 = .ok (.getfield 100, 3) := by decide +kernel
theorem dX7_row_34 : decode cX7_row 34 = .ok (.iload_n 2, 1) := by decide +kernel
theorem dX7_row_35 : decode cX7_row 35 = .ok (.iaload, 1) := by decide +kernel
theorem dX7_row_36 : decode cX7_row 36 = .ok (.ireturn, 1) := by decide +kernel
theorem dX7_below_0 : decode cX7_below 0 = .ok (.iload_n 1, 1) := by decide +kernel
theorem dX7_below_1 : decode cX7_below 1 = .ok (.invokestatic 82, 3) := by decide +kernel
theorem dX7_below_4 : decode cX7_below 4 = .ok (.ifCond .eq 10, 3) := by decide +kernel
theorem dX7_below_7 : decode cX7_below 7 = .ok (.iload_n 2, 1) := by decide +kernel
theorem dX7_below_8 : decode cX7_below 8 = .ok (.invokestatic 82, 3) := by decide +kernel
theorem dX7_below_11 : decode cX7_below 11 = .ok (.ifCond .ne 8, 3) := by decide +kernel
theorem dX7_below_14 : decode cX7_below 14 = .ok (.aload_n 0, 1) := by decide +kernel
theorem dX7_below_15 : decode cX7_below 15 = .ok (.invokevirtual 86, 3) := by decide +kernel
theorem dX7_below_18 : decode cX7_below 18 = .ok (.ireturn, 1) := by decide +kernel
theorem dX7_below_19 : decode cX7_below 19 = .ok (.aload_n 0, 1) := by decide +kernel
theorem dX7_below_20 : decode cX7_below 20 = .ok (.getfield 10, 3) := by decide +kernel
theorem dX7_below_23 : decode cX7_below 23 = .ok (.iload_n 1, 1) := by decide +kernel
theorem dX7_below_24 : decode cX7_below 24 = .ok (.invokevirtual 96, 3) := by decide +kernel
theorem dX7_below_27 : decode cX7_below 27 = .ok (.aload_n 0, 1) := by decide +kernel
theorem dX7_below_28 : decode cX7_below 28 = .ok (.getfield 10, 3) := by decide +kernel
theorem dX7_below_31 : decode cX7_below 31 = .ok (.iload_n 2, 1) := by decide +kernel
theorem dX7_below_32 : decode cX7_below 32 = .ok (.invokevirtual 96, 3) := by decide +kernel
theorem dX7_below_35 : decode cX7_below 35 = .ok (.invokevirtual 106, 3) := by decide +kernel
theorem dX7_below_38 : decode cX7_below 38 = .ok (.ifCond .eq 7, 3) := by decide +kernel
theorem dX7_below_41 : decode cX7_below 41 = .ok (.iconst 1, 1) := by decide +kernel
theorem dX7_below_42 : decode cX7_below 42 = .ok (.goto 4, 3) := by decide +kernel
theorem dX7_below_45 : decode cX7_below 45 = .ok (.iconst 0, 1) := by decide +kernel
theorem dX7_below_46 : decode cX7_below 46 = .ok (.ireturn, 1) := by decide +kernel
theorem dX7_count_0 : decode cX7_count 0 = .ok (.iload_n 1, 1) := by decide +kernel
theorem dX7_count_1 : decode cX7_count 1 = .ok (.ifCond .lt 9, 3) := by decide +kernel
theorem dX7_count_4 : decode cX7_count 4 = .ok (.iload_n 1, 1) := by decide +kernel
theorem dX7_count_5 : decode cX7_count 5 = .ok (.bipush 10, 2) := by decide +kernel
theorem dX7_count_7 : decode cX7_count 7 = .ok (.if_icmp .lt 8, 3) := by decide +kernel
theorem dX7_count_10 : decode cX7_count 10 = .ok (.aload_n 0, 1) := by decide +kernel
theorem dX7_count_11 : decode cX7_count 11 = .ok (.invokevirtual 86, 3) := by decide +kernel
theorem dX7_count_14 : decode cX7_count 14 = .ok (.ireturn, 1) := by decide +kernel
theorem dX7_count_15 : decode cX7_count 15 = .ok (.aload_n 0, 1) := by decide +kernel
theorem dX7_count_16 : decode cX7_count 16 = .ok (.getfield 10, 3) := by decide +kernel
theorem dX7_count_19 : decode cX7_count 19 = .ok (.iload_n 1, 1) := by decide +kernel
theorem dX7_count_20 : decode cX7_count 20 = .ok (.invokevirtual 110, 3) := by decide +kernel
theorem dX7_count_23 : decode cX7_count 23 = .ok (.ireturn, 1) := by decide +kernel
theorem dX7_evens_0 : decode cX7_evens 0 = .ok (.aload_n 0, 1) := by decide +kernel
theorem dX7_evens_1 : decode cX7_evens 1 = .ok (.getfield 10, 3) := by decide +kernel
theorem dX7_evens_4 : decode cX7_evens 4 = .ok (.getfield 47, 3) := by decide +kernel
theorem dX7_evens_7 : decode cX7_evens 7 = .ok (.getfield 113, 3) := by decide +kernel
theorem dX7_evens_10 : decode cX7_evens 10 = .ok (.istore_n 1, 1) := by decide +kernel
theorem dX7_evens_11 : decode cX7_evens 11 = .ok (.iload_n 1, 1) := by decide +kernel
theorem dX7_evens_12 : decode cX7_evens 12 = .ok (.iconst 2, 1) := by decide +kernel
theorem dX7_evens_13 : decode cX7_evens 13 = .ok (.irem, 1) := by decide +kernel
theorem dX7_evens_14 : decode cX7_evens 14 = .ok (.ifCond .ne 13, 3) := by decide +kernel
theorem dX7_evens_17 : decode cX7_evens 17 = .ok (.iload_n 1, 1) := by decide +kernel
theorem dX7_evens_18 : decode cX7_evens 18 = .ok (.iload_n 1, 1) := by decide +kernel
theorem dX7_evens_19 : decode cX7_evens 19 = .ok (.iconst 2, 1) := by decide +kernel
theorem dX7_evens_20 : decode cX7_evens 20 = .ok (.idiv, 1) := by decide +kernel
theorem dX7_evens_21 : decode cX7_evens 21 = .ok (.invokestatic 118, 3) := by decide +kernel
theorem dX7_evens_24 : decode cX7_evens 24 = .ok (.goto 7, 3) := by decide +kernel
theorem dX7_evens_27 : decode cX7_evens 27 = .ok (.aload_n 0, 1) := by decide +kernel
theorem dX7_evens_28 : decode cX7_evens 28 = .ok (.invokevirtual 121, 3) := by decide +kernel
theorem dX7_evens_31 : decode cX7_evens 31 = .ok (.ireturn, 1) := by decide +kernel
theorem dX7_covers_0 : decode cX7_covers 0 = .ok (.iload_n 1, 1) := by decide +kernel
theorem dX7_covers_1 : decode cX7_covers 1 = .ok (.invokestatic 82, 3) := by decide +kernel
theorem dX7_covers_4 : decode cX7_covers 4 = .ok (.ifCond .eq 7, 3) := by decide +kernel
theorem dX7_covers_7 : decode cX7_covers 7 = .ok (.iload_n 2, 1) := by decide +kernel
theorem dX7_covers_8 : decode cX7_covers 8 = .ok (.ifCond .ge 8, 3) := by decide +kernel
theorem dX7_covers_11 : decode cX7_covers 11 = .ok (.aload_n 0, 1) := by decide +kernel
theorem dX7_covers_12 : decode cX7_covers 12 = .ok (.invokevirtual 86, 3) := by decide +kernel
theorem dX7_covers_15 : decode cX7_covers 15 = .ok (.ireturn, 1) := by decide +kernel
theorem dX7_covers_16 : decode cX7_covers 16 = .ok (.aload_n 0, 1) := by decide +kernel
theorem dX7_covers_17 : decode cX7_covers 17 = .ok (.getfield 10, 3) := by decide +kernel
theorem dX7_covers_20 : decode cX7_covers 20 = .ok (.getfield 124, 3) := by decide +kernel
theorem dX7_covers_23 : decode cX7_covers 23 = .ok (.aload_n 0, 1) := by decide +kernel
theorem dX7_covers_24 : decode cX7_covers 24 = .ok (.getfield 10, 3) := by decide +kernel
theorem dX7_covers_27 : decode cX7_covers 27 = .ok (.iload_n 1, 1) := by decide +kernel
theorem dX7_covers_28 : decode cX7_covers 28 = .ok (.invokevirtual 96, 3) := by decide +kernel
theorem dX7_covers_31 : decode cX7_covers 31 = .ok (.iload_n 2, 1) := by decide +kernel
theorem dX7_covers_32 : decode cX7_covers 32 = .ok (.invokevirtual 128, 3) := by decide +kernel
theorem dX7_covers_35 : decode cX7_covers 35 = .ok (.ireturn, 1) := by decide +kernel
theorem dX7_mark_0 : decode cX7_mark 0 = .ok (.iload_n 1, 1) := by decide +kernel
theorem dX7_mark_1 : decode cX7_mark 1 = .ok (.invokestatic 82, 3) := by decide +kernel
theorem dX7_mark_4 : decode cX7_mark 4 = .ok (.ifCond .eq 10, 3) := by decide +kernel
theorem dX7_mark_7 : decode cX7_mark 7 = .ok (.iload_n 2, 1) := by decide +kernel
theorem dX7_mark_8 : decode cX7_mark 8 = .ok (.invokestatic 82, 3) := by decide +kernel
theorem dX7_mark_11 : decode cX7_mark 11 = .ok (.ifCond .ne 8, 3) := by decide +kernel
theorem dX7_mark_14 : decode cX7_mark 14 = .ok (.aload_n 0, 1) := by decide +kernel
theorem dX7_mark_15 : decode cX7_mark 15 = .ok (.invokevirtual 86, 3) := by decide +kernel
theorem dX7_mark_18 : decode cX7_mark 18 = .ok (.ireturn, 1) := by decide +kernel
theorem dX7_mark_19 : decode cX7_mark 19 = .ok (.aload_n 0, 1) := by decide +kernel
theorem dX7_mark_20 : decode cX7_mark 20 = .ok (.getfield 10, 3) := by decide +kernel
theorem dX7_mark_23 : decode cX7_mark 23 = .ok (.iload_n 1, 1) := by decide +kernel
theorem dX7_mark_24 : decode cX7_mark 24 = .ok (.invokevirtual 96, 3) := by decide +kernel
theorem dX7_mark_27 : decode cX7_mark 27 = .ok (.astore_n 3, 1) := by decide +kernel
theorem dX7_mark_28 : decode cX7_mark 28 = .ok (.aload_n 0, 1) := by decide +kernel
theorem dX7_mark_29 : decode cX7_mark 29 = .ok (.getfield 10, 3) := by decide +kernel
theorem dX7_mark_32 : decode cX7_mark 32 = .ok (.iload_n 2, 1) := by decide +kernel
theorem dX7_mark_33 : decode cX7_mark 33 = .ok (.invokevirtual 96, 3) := by decide +kernel
theorem dX7_mark_36 : decode cX7_mark 36 = .ok (.astore 4, 2) := by decide +kernel
theorem dX7_mark_38 : decode cX7_mark 38 = .ok (.aload_n 3, 1) := by decide +kernel
theorem dX7_mark_39 : decode cX7_mark 39 = .ok (.aload 4, 2) := by decide +kernel
theorem dX7_mark_41 : decode cX7_mark 41 = .ok (.invokevirtual 106, 3) := by decide +kernel
theorem dX7_mark_44 : decode cX7_mark 44 = .ok (.ifCond .eq 17, 3) := by decide +kernel
theorem dX7_mark_47 : decode cX7_mark 47 = .ok (.aload 4, 2) := by decide +kernel
theorem dX7_mark_49 : decode cX7_mark 49 = .ok (.invokevirtual 134, 3) := by decide +kernel
theorem dX7_mark_52 : decode cX7_mark 52 = .ok (.aload_n 3, 1) := by decide +kernel
theorem dX7_mark_53 : decode cX7_mark 53 = .ok (.invokevirtual 134, 3) := by decide +kernel
theorem dX7_mark_56 : decode cX7_mark 56 = .ok (.iconst 1, 1) := by decide +kernel
theorem dX7_mark_57 : decode cX7_mark 57 = .ok (.iadd, 1) := by decide +kernel
theorem dX7_mark_58 : decode cX7_mark 58 = .ok (.if_icmp .eq 8, 3) := by decide +kernel
theorem dX7_mark_61 : decode cX7_mark 61 = .ok (.aload_n 0, 1) := by decide +kernel
theorem dX7_mark_62 : decode cX7_mark 62 = .ok (.invokevirtual 121, 3) := by decide +kernel
theorem dX7_mark_65 : decode cX7_mark 65 = .ok (.ireturn, 1) := by decide +kernel
theorem dX7_mark_66 : decode cX7_mark 66 = .ok (.aload_n 3, 1) := by decide +kernel
theorem dX7_mark_67 : decode cX7_mark 67 = .ok (.aload 4, 2) := by decide +kernel
theorem dX7_mark_69 : decode cX7_mark 69 = .ok (.invokevirtual 137, 3) := by decide +kernel
theorem dX7_mark_72 : decode cX7_mark 72 = .ok (.ireturn, 1) := by decide +kernel
theorem dX7_chains_0 : decode cX7_chains 0 = .ok (.aload_n 0, 1) := by decide +kernel
theorem dX7_chains_1 : decode cX7_chains 1 = .ok (.iload_n 1, 1) := by decide +kernel
theorem dX7_chains_2 : decode cX7_chains 2 = .ok (.iload_n 2, 1) := by decide +kernel
theorem dX7_chains_3 : decode cX7_chains 3 = .ok (.invokevirtual 141, 3) := by decide +kernel
theorem dX7_chains_6 : decode cX7_chains 6 = .ok (.istore_n 3, 1) := by decide +kernel
theorem dX7_chains_7 : decode cX7_chains 7 = .ok (.iload_n 3, 1) := by decide +kernel
theorem dX7_chains_8 : decode cX7_chains 8 = .ok (.ifCond .ne 18, 3) := by decide +kernel
theorem dX7_chains_11 : decode cX7_chains 11 = .ok (.aload_n 0, 1) := by decide +kernel
theorem dX7_chains_12 : decode cX7_chains 12 = .ok (.getfield 10, 3) := by decide +kernel
theorem dX7_chains_15 : decode cX7_chains 15 = .ok (.iload_n 1, 1) := by decide +kernel
theorem dX7_chains_16 : decode cX7_chains 16 = .ok (.iload_n 2, 1) := by decide +kernel
theorem dX7_chains_17 : decode cX7_chains 17 = .ok (.invokevirtual 144, 3) := by decide +kernel
theorem dX7_chains_20 : decode cX7_chains 20 = .ok (.invokevirtual 148, 3) := by decide +kernel
theorem dX7_chains_23 : decode cX7_chains 23 = .ok (.goto 4, 3) := by decide +kernel
theorem dX7_chains_26 : decode cX7_chains 26 = .ok (.iload_n 3, 1) := by decide +kernel
theorem dX7_chains_27 : decode cX7_chains 27 = .ok (.ireturn, 1) := by decide +kernel
theorem dX7_marked_0 : decode cX7_marked 0 = .ok (.aload_n 0, 1) := by decide +kernel
theorem dX7_marked_1 : decode cX7_marked 1 = .ok (.iload_n 1, 1) := by decide +kernel
theorem dX7_marked_2 : decode cX7_marked 2 = .ok (.invokevirtual 151, 3) := by decide +kernel
theorem dX7_marked_5 : decode cX7_marked 5 = .ok (.ifCond .ne 8, 3) := by decide +kernel
theorem dX7_marked_8 : decode cX7_marked 8 = .ok (.aload_n 0, 1) := by decide +kernel
theorem dX7_marked_9 : decode cX7_marked 9 = .ok (.invokevirtual 86, 3) := by decide +kernel
theorem dX7_marked_12 : decode cX7_marked 12 = .ok (.ireturn, 1) := by decide +kernel
theorem dX7_marked_13 : decode cX7_marked 13 = .ok (.aload_n 0, 1) := by decide +kernel
theorem dX7_marked_14 : decode cX7_marked 14 = .ok (.getfield 10, 3) := by decide +kernel
theorem dX7_marked_17 : decode cX7_marked 17 = .ok (.iload_n 1, 1) := by decide +kernel
theorem dX7_marked_18 : decode cX7_marked 18 = .ok (.invokevirtual 154, 3) := by decide +kernel
theorem dX7_marked_21 : decode cX7_marked 21 = .ok (.ifCond .eq 7, 3) := by decide +kernel
theorem dX7_marked_24 : decode cX7_marked 24 = .ok (.iconst 1, 1) := by decide +kernel
theorem dX7_marked_25 : decode cX7_marked 25 = .ok (.goto 4, 3) := by decide +kernel
theorem dX7_marked_28 : decode cX7_marked 28 = .ok (.iconst 0, 1) := by decide +kernel
theorem dX7_marked_29 : decode cX7_marked 29 = .ok (.ireturn, 1) := by decide +kernel
theorem dX7_signed_0 : decode cX7_signed 0 = .ok (.aload_n 0, 1) := by decide +kernel
theorem dX7_signed_1 : decode cX7_signed 1 = .ok (.iload_n 1, 1) := by decide +kernel
theorem dX7_signed_2 : decode cX7_signed 2 = .ok (.iload_n 2, 1) := by decide +kernel
theorem dX7_signed_3 : decode cX7_signed 3 = .ok (.invokevirtual 141, 3) := by decide +kernel
theorem dX7_signed_6 : decode cX7_signed 6 = .ok (.istore_n 3, 1) := by decide +kernel
theorem dX7_signed_7 : decode cX7_signed 7 = .ok (.iload_n 3, 1) := by decide +kernel
theorem dX7_signed_8 : decode cX7_signed 8 = .ok (.ifCond .ne 18, 3) := by decide +kernel
theorem dX7_signed_11 : decode cX7_signed 11 = .ok (.aload_n 0, 1) := by decide +kernel
theorem dX7_signed_12 : decode cX7_signed 12 = .ok (.getfield 10, 3) := by decide +kernel
theorem dX7_signed_15 : decode cX7_signed 15 = .ok (.iload_n 1, 1) := by decide +kernel
theorem dX7_signed_16 : decode cX7_signed 16 = .ok (.iload_n 2, 1) := by decide +kernel
theorem dX7_signed_17 : decode cX7_signed 17 = .ok (.invokevirtual 144, 3) := by decide +kernel
theorem dX7_signed_20 : decode cX7_signed 20 = .ok (.invokevirtual 157, 3) := by decide +kernel
theorem dX7_signed_23 : decode cX7_signed 23 = .ok (.goto 4, 3) := by decide +kernel
theorem dX7_signed_26 : decode cX7_signed 26 = .ok (.iload_n 3, 1) := by decide +kernel
theorem dX7_signed_27 : decode cX7_signed 27 = .ok (.ireturn, 1) := by decide +kernel
theorem dX7_between_0 : decode cX7_between 0 = .ok (.aload_n 0, 1) := by decide +kernel
theorem dX7_between_1 : decode cX7_between 1 = .ok (.iload_n 1, 1) := by decide +kernel
theorem dX7_between_2 : decode cX7_between 2 = .ok (.iload_n 2, 1) := by decide +kernel
theorem dX7_between_3 : decode cX7_between 3 = .ok (.invokevirtual 141, 3) := by decide +kernel
theorem dX7_between_6 : decode cX7_between 6 = .ok (.istore_n 3, 1) := by decide +kernel
theorem dX7_between_7 : decode cX7_between 7 = .ok (.iload_n 3, 1) := by decide +kernel
theorem dX7_between_8 : decode cX7_between 8 = .ok (.ifCond .ne 18, 3) := by decide +kernel
theorem dX7_between_11 : decode cX7_between 11 = .ok (.aload_n 0, 1) := by decide +kernel
theorem dX7_between_12 : decode cX7_between 12 = .ok (.getfield 10, 3) := by decide +kernel
theorem dX7_between_15 : decode cX7_between 15 = .ok (.iload_n 1, 1) := by decide +kernel
theorem dX7_between_16 : decode cX7_between 16 = .ok (.iload_n 2, 1) := by decide +kernel
theorem dX7_between_17 : decode cX7_between 17 = .ok (.invokevirtual 144, 3) := by decide +kernel
theorem dX7_between_20 : decode cX7_between 20 = .ok (.invokevirtual 160, 3) := by decide +kernel
theorem dX7_between_23 : decode cX7_between 23 = .ok (.goto 4, 3) := by decide +kernel
theorem dX7_between_26 : decode cX7_between 26 = .ok (.iload_n 3, 1) := by decide +kernel
theorem dX7_between_27 : decode cX7_between 27 = .ok (.ireturn, 1) := by decide +kernel
theorem dX7_number_0 : decode cX7_number 0 = .ok (.aload_n 0, 1) := by decide +kernel
theorem dX7_number_1 : decode cX7_number 1 = .ok (.getfield 19, 3) := by decide +kernel
theorem dX7_number_4 : decode cX7_number 4 = .ok (.aload_n 0, 1) := by decide +kernel
theorem dX7_number_5 : decode cX7_number 5 = .ok (.getfield 10, 3) := by decide +kernel
theorem dX7_number_8 : decode cX7_number 8 = .ok (.getfield 47, 3) := by decide +kernel
theorem dX7_number_11 : decode cX7_number 11 = .ok (.invokevirtual 51, 3) := by decide +kernel
theorem dX7_number_14 : decode cX7_number 14 = .ok (.aload_n 0, 1) := by decide +kernel
theorem dX7_number_15 : decode cX7_number 15 = .ok (.aload_n 0, 1) := by decide +kernel
theorem dX7_number_16 : decode cX7_number 16 = .ok (.getfield 10, 3) := by decide +kernel
theorem dX7_number_19 : decode cX7_number 19 = .ok (.iload_n 1, 1) := by decide +kernel
theorem dX7_number_20 : decode cX7_number 20 = .ok (.iload_n 2, 1) := by decide +kernel
theorem dX7_number_21 : decode cX7_number 21 = .ok (.invokevirtual 163, 3) := by decide +kernel
theorem dX7_number_24 : decode cX7_number 24 = .ok (.invokevirtual 59, 3) := by decide +kernel
theorem dX7_number_27 : decode cX7_number 27 = .ok (.ireturn, 1) := by decide +kernel
theorem dX7_as_0 : decode cX7_as 0 = .ok (.iload_n 1, 1) := by decide +kernel
theorem dX7_as_1 : decode cX7_as 1 = .ok (.ifCond .lt 28, 3) := by decide +kernel
theorem dX7_as_4 : decode cX7_as 4 = .ok (.iload_n 1, 1) := by decide +kernel
theorem dX7_as_5 : decode cX7_as 5 = .ok (.iconst 3, 1) := by decide +kernel
theorem dX7_as_6 : decode cX7_as 6 = .ok (.if_icmp .ge 23, 3) := by decide +kernel
theorem dX7_as_9 : decode cX7_as 9 = .ok (.iload_n 2, 1) := by decide +kernel
theorem dX7_as_10 : decode cX7_as 10 = .ok (.ifCond .lt 19, 3) := by decide +kernel
theorem dX7_as_13 : decode cX7_as 13 = .ok (.iload_n 2, 1) := by decide +kernel
theorem dX7_as_14 : decode cX7_as 14 = .ok (.iconst 3, 1) := by decide +kernel
theorem dX7_as_15 : decode cX7_as 15 = .ok (.if_icmp .ge 14, 3) := by decide +kernel
theorem dX7_as_18 : decode cX7_as 18 = .ok (.iload_n 3, 1) := by decide +kernel
theorem dX7_as_19 : decode cX7_as 19 = .ok (.iconst 1, 1) := by decide +kernel
theorem dX7_as_20 : decode cX7_as 20 = .ok (.if_icmp .lt 9, 3) := by decide +kernel
theorem dX7_as_23 : decode cX7_as 23 = .ok (.iload_n 3, 1) := by decide +kernel
theorem dX7_as_24 : decode cX7_as 24 = .ok (.bipush 8, 2) := by decide +kernel
theorem dX7_as_26 : decode cX7_as 26 = .ok (.if_icmp .le 17, 3) := by decide +kernel
theorem dX7_as_29 : decode cX7_as 29 = .ok (.aload_n 0, 1) := by decide +kernel
theorem dX7_as_30 : decode cX7_as 30 = .ok (.dup, 1) := by decide +kernel
theorem dX7_as_31 : decode cX7_as 31 = .ok (.getfield 37, 3) := by decide +kernel
theorem dX7_as_34 : decode cX7_as 34 = .ok (.iconst 1, 1) := by decide +kernel
theorem dX7_as_35 : decode cX7_as 35 = .ok (.iadd, 1) := by decide +kernel
theorem dX7_as_36 : decode cX7_as 36 = .ok (.putfield 37, 3) := by decide +kernel
theorem dX7_as_39 : decode cX7_as 39 = .ok (.ldc2_w 166, 3) := by decide +kernel
theorem dX7_as_42 : decode cX7_as 42 = .ok (.lreturn, 1) := by decide +kernel
theorem dX7_as_43 : decode cX7_as 43 = .ok (.aload_n 0, 1) := by decide +kernel
theorem dX7_as_44 : decode cX7_as 44 = .ok (.getfield 33, 3) := by decide +kernel
theorem dX7_as_47 : decode cX7_as 47 = .ok (.aload_n 0, 1) := by decide +kernel
theorem dX7_as_48 : decode cX7_as 48 = .ok (.getfield 10, 3) := by decide +kernel
theorem dX7_as_51 : decode cX7_as 51 = .ok (.getfield 47, 3) := by decide +kernel
theorem dX7_as_54 : decode cX7_as 54 = .ok (.getfield 168, 3) := by decide +kernel
theorem dX7_as_57 : decode cX7_as 57 = .ok (.iload_n 1, 1) := by decide +kernel
theorem dX7_as_58 : decode cX7_as 58 = .ok (.iload_n 2, 1) := by decide +kernel
theorem dX7_as_59 : decode cX7_as 59 = .ok (.invokevirtual 171, 3) := by decide +kernel
theorem dX7_as_62 : decode cX7_as 62 = .ok (.aload_n 0, 1) := by decide +kernel
theorem dX7_as_63 : decode cX7_as 63 = .ok (.getfield 33, 3) := by decide +kernel
theorem dX7_as_66 : decode cX7_as 66 = .ok (.getfield 175, 3) := by decide +kernel
theorem dX7_as_69 : decode cX7_as 69 = .ok (.iload_n 3, 1) := by decide +kernel
theorem dX7_as_70 : decode cX7_as 70 = .ok (.laload, 1) := by decide +kernel
theorem dX7_as_71 : decode cX7_as 71 = .ok (.lreturn, 1) := by decide +kernel
theorem dX7_type_0 : decode cX7_type 0 = .ok (.iload_n 1, 1) := by decide +kernel
theorem dX7_type_1 : decode cX7_type 1 = .ok (.ifCond .lt 9, 3) := by decide +kernel
theorem dX7_type_4 : decode cX7_type 4 = .ok (.iload_n 1, 1) := by decide +kernel
theorem dX7_type_5 : decode cX7_type 5 = .ok (.bipush 127, 2) := by decide +kernel
theorem dX7_type_7 : decode cX7_type 7 = .ok (.if_icmp .le 8, 3) := by decide +kernel
theorem dX7_type_10 : decode cX7_type 10 = .ok (.aload_n 0, 1) := by decide +kernel
theorem dX7_type_11 : decode cX7_type 11 = .ok (.invokevirtual 86, 3) := by decide +kernel
theorem dX7_type_14 : decode cX7_type 14 = .ok (.ireturn, 1) := by decide +kernel
theorem dX7_type_15 : decode cX7_type 15 = .ok (.aload_n 0, 1) := by decide +kernel
theorem dX7_type_16 : decode cX7_type 16 = .ok (.getfield 26, 3) := by decide +kernel
theorem dX7_type_19 : decode cX7_type 19 = .ok (.getfield 179, 3) := by decide +kernel
theorem dX7_type_22 : decode cX7_type 22 = .ok (.bipush 120, 2) := by decide +kernel
theorem dX7_type_24 : decode cX7_type 24 = .ok (.if_icmp .lt 16, 3) := by decide +kernel
theorem dX7_type_27 : decode cX7_type 27 = .ok (.aload_n 0, 1) := by decide +kernel
theorem dX7_type_28 : decode cX7_type 28 = .ok (.dup, 1) := by decide +kernel
theorem dX7_type_29 : decode cX7_type 29 = .ok (.getfield 44, 3) := by decide +kernel
theorem dX7_type_32 : decode cX7_type 32 = .ok (.iconst 1, 1) := by decide +kernel
theorem dX7_type_33 : decode cX7_type 33 = .ok (.iadd, 1) := by decide +kernel
theorem dX7_type_34 : decode cX7_type 34 = .ok (.putfield 44, 3) := by decide +kernel
theorem dX7_type_37 : decode cX7_type 37 = .ok (.bipush (-4), 2) := by decide +kernel
theorem dX7_type_39 : decode cX7_type 39 = .ok (.ireturn, 1) := by decide +kernel
theorem dX7_type_40 : decode cX7_type 40 = .ok (.aload_n 0, 1) := by decide +kernel
theorem dX7_type_41 : decode cX7_type 41 = .ok (.getfield 26, 3) := by decide +kernel
theorem dX7_type_44 : decode cX7_type 44 = .ok (.iload_n 1, 1) := by decide +kernel
theorem dX7_type_45 : decode cX7_type 45 = .ok (.invokevirtual 182, 3) := by decide +kernel
theorem dX7_type_48 : decode cX7_type 48 = .ok (.aload_n 0, 1) := by decide +kernel
theorem dX7_type_49 : decode cX7_type 49 = .ok (.getfield 26, 3) := by decide +kernel
theorem dX7_type_52 : decode cX7_type 52 = .ok (.getfield 179, 3) := by decide +kernel
theorem dX7_type_55 : decode cX7_type 55 = .ok (.ireturn, 1) := by decide +kernel
theorem dX7_clear_0 : decode cX7_clear 0 = .ok (.aload_n 0, 1) := by decide +kernel
theorem dX7_clear_1 : decode cX7_clear 1 = .ok (.getfield 26, 3) := by decide +kernel
theorem dX7_clear_4 : decode cX7_clear 4 = .ok (.getfield 179, 3) := by decide +kernel
theorem dX7_clear_7 : decode cX7_clear 7 = .ok (.istore_n 1, 1) := by decide +kernel
theorem dX7_clear_8 : decode cX7_clear 8 = .ok (.aload_n 0, 1) := by decide +kernel
theorem dX7_clear_9 : decode cX7_clear 9 = .ok (.getfield 26, 3) := by decide +kernel
theorem dX7_clear_12 : decode cX7_clear 12 = .ok (.iconst 0, 1) := by decide +kernel
theorem dX7_clear_13 : decode cX7_clear 13 = .ok (.putfield 179, 3) := by decide +kernel
theorem dX7_clear_16 : decode cX7_clear 16 = .ok (.iload_n 1, 1) := by decide +kernel
theorem dX7_clear_17 : decode cX7_clear 17 = .ok (.ireturn, 1) := by decide +kernel
theorem dX7_does_0 : decode cX7_does 0 = .ok (.aload_n 0, 1) := by decide +kernel
theorem dX7_does_1 : decode cX7_does 1 = .ok (.getfield 26, 3) := by decide +kernel
theorem dX7_does_4 : decode cX7_does 4 = .ok (.invokevirtual 186, 3) := by decide +kernel
theorem dX7_does_7 : decode cX7_does 7 = .ok (.istore_n 1, 1) := by decide +kernel
theorem dX7_does_8 : decode cX7_does 8 = .ok (.iload_n 1, 1) := by decide +kernel
theorem dX7_does_9 : decode cX7_does 9 = .ok (.iconst (-1), 1) := by decide +kernel
theorem dX7_does_10 : decode cX7_does 10 = .ok (.if_icmp .eq 8, 3) := by decide +kernel
theorem dX7_does_13 : decode cX7_does 13 = .ok (.bipush (-10), 2) := by decide +kernel
theorem dX7_does_15 : decode cX7_does 15 = .ok (.iload_n 1, 1) := by decide +kernel
theorem dX7_does_16 : decode cX7_does 16 = .ok (.isub, 1) := by decide +kernel
theorem dX7_does_17 : decode cX7_does 17 = .ok (.ireturn, 1) := by decide +kernel
theorem dX7_does_18 : decode cX7_does 18 = .ok (.aload_n 0, 1) := by decide +kernel
theorem dX7_does_19 : decode cX7_does 19 = .ok (.getfield 19, 3) := by decide +kernel
theorem dX7_does_22 : decode cX7_does 22 = .ok (.aload_n 0, 1) := by decide +kernel
theorem dX7_does_23 : decode cX7_does 23 = .ok (.getfield 10, 3) := by decide +kernel
theorem dX7_does_26 : decode cX7_does 26 = .ok (.getfield 47, 3) := by decide +kernel
theorem dX7_does_29 : decode cX7_does 29 = .ok (.invokevirtual 51, 3) := by decide +kernel
theorem dX7_does_32 : decode cX7_does 32 = .ok (.iconst 0, 1) := by decide +kernel
theorem dX7_does_33 : decode cX7_does 33 = .ok (.istore_n 2, 1) := by decide +kernel
theorem dX7_does_34 : decode cX7_does 34 = .ok (.iload_n 2, 1) := by decide +kernel
theorem dX7_does_35 : decode cX7_does 35 = .ok (.aload_n 0, 1) := by decide +kernel
theorem dX7_does_36 : decode cX7_does 36 = .ok (.getfield 26, 3) := by decide +kernel
theorem dX7_does_39 : decode cX7_does 39 = .ok (.getfield 189, 3) := by decide +kernel
theorem dX7_does_42 : decode cX7_does 42 = .ok (.if_icmp .ge 60, 3) := by decide +kernel
theorem dX7_does_45 : decode cX7_does 45 = .ok (.aload_n 0, 1) := by decide +kernel
theorem dX7_does_46 : decode cX7_does 46 = .ok (.getfield 10, 3) := by decide +kernel
theorem dX7_does_49 : decode cX7_does 49 = .ok (.aload_n 0, 1) := by decide +kernel
theorem dX7_does_50 : decode cX7_does 50 = .ok (.getfield 26, 3) := by decide +kernel
theorem dX7_does_53 : decode cX7_does 53 = .ok (.getfield 192, 3) := by decide +kernel
theorem dX7_does_56 : decode cX7_does 56 = .ok (.iload_n 2, 1) := by decide +kernel
theorem dX7_does_57 : decode cX7_does 57 = .ok (.iaload, 1) := by decide +kernel
theorem dX7_does_58 : decode cX7_does 58 = .ok (.aload_n 0, 1) := by decide +kernel
theorem dX7_does_59 : decode cX7_does 59 = .ok (.getfield 26, 3) := by decide +kernel
theorem dX7_does_62 : decode cX7_does 62 = .ok (.getfield 195, 3) := by decide +kernel
theorem dX7_does_65 : decode cX7_does 65 = .ok (.iload_n 2, 1) := by decide +kernel
theorem dX7_does_66 : decode cX7_does 66 = .ok (.aaload, 1) := by decide +kernel
theorem dX7_does_67 : decode cX7_does 67 = .ok (.invokevirtual 199, 3) := by decide +kernel
theorem dX7_does_70 : decode cX7_does 70 = .ok (.ifCond .ge 26, 3) := by decide +kernel
theorem dX7_does_73 : decode cX7_does 73 = .ok (.aload_n 0, 1) := by decide +kernel
theorem dX7_does_74 : decode cX7_does 74 = .ok (.getfield 10, 3) := by decide +kernel
theorem dX7_does_77 : decode cX7_does 77 = .ok (.getfield 47, 3) := by decide +kernel
theorem dX7_does_80 : decode cX7_does 80 = .ok (.aload_n 0, 1) := by decide +kernel
theorem dX7_does_81 : decode cX7_does 81 = .ok (.getfield 19, 3) := by decide +kernel
theorem dX7_does_84 : decode cX7_does 84 = .ok (.invokevirtual 203, 3) := by decide +kernel
theorem dX7_does_87 : decode cX7_does 87 = .ok (.invokevirtual 207, 3) := by decide +kernel
theorem dX7_does_90 : decode cX7_does 90 = .ok (.sipush (-1000), 3) := by decide +kernel
theorem dX7_does_93 : decode cX7_does 93 = .ok (.iload_n 2, 1) := by decide +kernel
theorem dX7_does_94 : decode cX7_does 94 = .ok (.isub, 1) := by decide +kernel
theorem dX7_does_95 : decode cX7_does 95 = .ok (.ireturn, 1) := by decide +kernel
theorem dX7_does_96 : decode cX7_does 96 = .ok (.iinc 2 1, 3) := by decide +kernel
theorem dX7_does_99 : decode cX7_does 99 = .ok (.goto (-65), 3) := by decide +kernel
theorem dX7_does_102 : decode cX7_does 102 = .ok (.aload_n 0, 1) := by decide +kernel
theorem dX7_does_103 : decode cX7_does 103 = .ok (.getfield 19, 3) := by decide +kernel
theorem dX7_does_106 : decode cX7_does 106 = .ok (.invokevirtual 210, 3) := by decide +kernel
theorem dX7_does_109 : decode cX7_does 109 = .ok (.aload_n 0, 1) := by decide +kernel
theorem dX7_does_110 : decode cX7_does 110 = .ok (.getfield 26, 3) := by decide +kernel
theorem dX7_does_113 : decode cX7_does 113 = .ok (.getfield 189, 3) := by decide +kernel
theorem dX7_does_116 : decode cX7_does 116 = .ok (.ireturn, 1) := by decide +kernel
theorem dX7_back_0 : decode cX7_back 0 = .ok (.aload_n 0, 1) := by decide +kernel
theorem dX7_back_1 : decode cX7_back 1 = .ok (.getfield 19, 3) := by decide +kernel
theorem dX7_back_4 : decode cX7_back 4 = .ok (.getfield 213, 3) := by decide +kernel
theorem dX7_back_7 : decode cX7_back 7 = .ok (.ifCond .ne 8, 3) := by decide +kernel
theorem dX7_back_10 : decode cX7_back 10 = .ok (.aload_n 0, 1) := by decide +kernel
theorem dX7_back_11 : decode cX7_back 11 = .ok (.invokevirtual 121, 3) := by decide +kernel
theorem dX7_back_14 : decode cX7_back 14 = .ok (.ireturn, 1) := by decide +kernel
theorem dX7_back_15 : decode cX7_back 15 = .ok (.aload_n 0, 1) := by decide +kernel
theorem dX7_back_16 : decode cX7_back 16 = .ok (.getfield 19, 3) := by decide +kernel
theorem dX7_back_19 : decode cX7_back 19 = .ok (.invokevirtual 216, 3) := by decide +kernel
theorem dX7_back_22 : decode cX7_back 22 = .ok (.aload_n 0, 1) := by decide +kernel
theorem dX7_back_23 : decode cX7_back 23 = .ok (.getfield 10, 3) := by decide +kernel
theorem dX7_back_26 : decode cX7_back 26 = .ok (.getfield 47, 3) := by decide +kernel
theorem dX7_back_29 : decode cX7_back 29 = .ok (.aload_n 0, 1) := by decide +kernel
theorem dX7_back_30 : decode cX7_back 30 = .ok (.getfield 19, 3) := by decide +kernel
theorem dX7_back_33 : decode cX7_back 33 = .ok (.invokevirtual 203, 3) := by decide +kernel
theorem dX7_back_36 : decode cX7_back 36 = .ok (.invokevirtual 207, 3) := by decide +kernel
theorem dX7_back_39 : decode cX7_back 39 = .ok (.aload_n 0, 1) := by decide +kernel
theorem dX7_back_40 : decode cX7_back 40 = .ok (.getfield 19, 3) := by decide +kernel
theorem dX7_back_43 : decode cX7_back 43 = .ok (.getfield 213, 3) := by decide +kernel
theorem dX7_back_46 : decode cX7_back 46 = .ok (.ireturn, 1) := by decide +kernel
theorem dX7_told_0 : decode cX7_told 0 = .ok (.iload_n 1, 1) := by decide +kernel
theorem dX7_told_1 : decode cX7_told 1 = .ok (.ifCond .lt 8, 3) := by decide +kernel
theorem dX7_told_4 : decode cX7_told 4 = .ok (.iload_n 1, 1) := by decide +kernel
theorem dX7_told_5 : decode cX7_told 5 = .ok (.iconst 5, 1) := by decide +kernel
theorem dX7_told_6 : decode cX7_told 6 = .ok (.if_icmp .lt 8, 3) := by decide +kernel
theorem dX7_told_9 : decode cX7_told 9 = .ok (.aload_n 0, 1) := by decide +kernel
theorem dX7_told_10 : decode cX7_told 10 = .ok (.invokevirtual 86, 3) := by decide +kernel
theorem dX7_told_13 : decode cX7_told 13 = .ok (.ireturn, 1) := by decide +kernel
theorem dX7_told_14 : decode cX7_told 14 = .ok (.aload_n 0, 1) := by decide +kernel
theorem dX7_told_15 : decode cX7_told 15 = .ok (.iload_n 1, 1) := by decide +kernel
theorem dX7_told_16 : decode cX7_told 16 = .ok (.invokevirtual 219, 3) := by decide +kernel
theorem dX7_told_19 : decode cX7_told 19 = .ok (.ireturn, 1) := by decide +kernel
theorem dX7_digest_0 : decode cX7_digest 0 = .ok (.ldc2_w 222, 3) := by decide +kernel
theorem dX7_digest_3 : decode cX7_digest 3 = .ok (.lstore_n 1, 1) := by decide +kernel
theorem dX7_digest_4 : decode cX7_digest 4 = .ok (.iconst 0, 1) := by decide +kernel
theorem dX7_digest_5 : decode cX7_digest 5 = .ok (.istore_n 3, 1) := by decide +kernel
theorem dX7_digest_6 : decode cX7_digest 6 = .ok (.iload_n 3, 1) := by decide +kernel
theorem dX7_digest_7 : decode cX7_digest 7 = .ok (.iconst 5, 1) := by decide +kernel
theorem dX7_digest_8 : decode cX7_digest 8 = .ok (.if_icmp .ge 22, 3) := by decide +kernel
theorem dX7_digest_11 : decode cX7_digest 11 = .ok (.ldc2_w 224, 3) := by decide +kernel
theorem dX7_digest_14 : decode cX7_digest 14 = .ok (.lload_n 1, 1) := by decide +kernel
theorem dX7_digest_15 : decode cX7_digest 15 = .ok (.lmul, 1) := by decide +kernel
theorem dX7_digest_16 : decode cX7_digest 16 = .ok (.aload_n 0, 1) := by decide +kernel
theorem dX7_digest_17 : decode cX7_digest 17 = .ok (.iload_n 3, 1) := by decide +kernel
theorem dX7_digest_18 : decode cX7_digest 18 = .ok (.invokevirtual 219, 3) := by decide +kernel
theorem dX7_digest_21 : decode cX7_digest 21 = .ok (.i2l, 1) := by decide +kernel
theorem dX7_digest_22 : decode cX7_digest 22 = .ok (.ladd, 1) := by decide +kernel
theorem dX7_digest_23 : decode cX7_digest 23 = .ok (.lstore_n 1, 1) := by decide +kernel
theorem dX7_digest_24 : decode cX7_digest 24 = .ok (.iinc 3 1, 3) := by decide +kernel
theorem dX7_digest_27 : decode cX7_digest 27 = .ok (.goto (-21), 3) := by decide +kernel
theorem dX7_digest_30 : decode cX7_digest 30 = .ok (.iconst 0, 1) := by decide +kernel
theorem dX7_digest_31 : decode cX7_digest 31 = .ok (.istore_n 3, 1) := by decide +kernel
theorem dX7_digest_32 : decode cX7_digest 32 = .ok (.iload_n 3, 1) := by decide +kernel
theorem dX7_digest_33 : decode cX7_digest 33 = .ok (.bipush 10, 2) := by decide +kernel
theorem dX7_digest_35 : decode cX7_digest 35 = .ok (.if_icmp .ge 25, 3) := by decide +kernel
theorem dX7_digest_38 : decode cX7_digest 38 = .ok (.ldc2_w 224, 3) := by decide +kernel
theorem dX7_digest_41 : decode cX7_digest 41 = .ok (.lload_n 1, 1) := by decide +kernel
theorem dX7_digest_42 : decode cX7_digest 42 = .ok (.lmul, 1) := by decide +kernel
theorem dX7_digest_43 : decode cX7_digest 43 = .ok (.aload_n 0, 1) := by decide +kernel
theorem dX7_digest_44 : decode cX7_digest 44 = .ok (.getfield 10, 3) := by decide +kernel
theorem dX7_digest_47 : decode cX7_digest 47 = .ok (.iload_n 3, 1) := by decide +kernel
theorem dX7_digest_48 : decode cX7_digest 48 = .ok (.invokevirtual 110, 3) := by decide +kernel
theorem dX7_digest_51 : decode cX7_digest 51 = .ok (.i2l, 1) := by decide +kernel
theorem dX7_digest_52 : decode cX7_digest 52 = .ok (.ladd, 1) := by decide +kernel
theorem dX7_digest_53 : decode cX7_digest 53 = .ok (.lstore_n 1, 1) := by decide +kernel
theorem dX7_digest_54 : decode cX7_digest 54 = .ok (.iinc 3 1, 3) := by decide +kernel
theorem dX7_digest_57 : decode cX7_digest 57 = .ok (.goto (-25), 3) := by decide +kernel
theorem dX7_digest_60 : decode cX7_digest 60 = .ok (.iconst 0, 1) := by decide +kernel
theorem dX7_digest_61 : decode cX7_digest 61 = .ok (.istore_n 3, 1) := by decide +kernel
theorem dX7_digest_62 : decode cX7_digest 62 = .ok (.iload_n 3, 1) := by decide +kernel
theorem dX7_digest_63 : decode cX7_digest 63 = .ok (.bipush 6, 2) := by decide +kernel
theorem dX7_digest_65 : decode cX7_digest 65 = .ok (.if_icmp .ge 16, 3) := by decide +kernel
theorem dX7_digest_68 : decode cX7_digest 68 = .ok (.aload_n 0, 1) := by decide +kernel
theorem dX7_digest_69 : decode cX7_digest 69 = .ok (.lload_n 1, 1) := by decide +kernel
theorem dX7_digest_70 : decode cX7_digest 70 = .ok (.iload_n 3, 1) := by decide +kernel
theorem dX7_digest_71 : decode cX7_digest 71 = .ok (.invokevirtual 226, 3) := by decide +kernel
theorem dX7_digest_74 : decode cX7_digest 74 = .ok (.lstore_n 1, 1) := by decide +kernel
theorem dX7_digest_75 : decode cX7_digest 75 = .ok (.iinc 3 1, 3) := by decide +kernel
theorem dX7_digest_78 : decode cX7_digest 78 = .ok (.goto (-16), 3) := by decide +kernel
theorem dX7_digest_81 : decode cX7_digest 81 = .ok (.iconst 0, 1) := by decide +kernel
theorem dX7_digest_82 : decode cX7_digest 82 = .ok (.istore_n 3, 1) := by decide +kernel
theorem dX7_digest_83 : decode cX7_digest 83 = .ok (.iload_n 3, 1) := by decide +kernel
theorem dX7_digest_84 : decode cX7_digest 84 = .ok (.bipush 8, 2) := by decide +kernel
theorem dX7_digest_86 : decode cX7_digest 86 = .ok (.if_icmp .ge 29, 3) := by decide +kernel
theorem dX7_digest_89 : decode cX7_digest 89 = .ok (.ldc2_w 224, 3) := by decide +kernel
theorem dX7_digest_92 : decode cX7_digest 92 = .ok (.lload_n 1, 1) := by decide +kernel
theorem dX7_digest_93 : decode cX7_digest 93 = .ok (.lmul, 1) := by decide +kernel
theorem dX7_digest_94 : decode cX7_digest 94 = .ok (.aload_n 0, 1) := by decide +kernel
theorem dX7_digest_95 : decode cX7_digest 95 = .ok (.getfield 10, 3) := by decide +kernel
theorem dX7_digest_98 : decode cX7_digest 98 = .ok (.getfield 47, 3) := by decide +kernel
theorem dX7_digest_101 : decode cX7_digest 101 = .ok (.getfield 168, 3) := by decide +kernel
theorem dX7_digest_104 : decode cX7_digest 104 = .ok (.iload_n 3, 1) := by decide +kernel
theorem dX7_digest_105 : decode cX7_digest 105 = .ok (.iaload, 1) := by decide +kernel
theorem dX7_digest_106 : decode cX7_digest 106 = .ok (.i2l, 1) := by decide +kernel
theorem dX7_digest_107 : decode cX7_digest 107 = .ok (.ladd, 1) := by decide +kernel
theorem dX7_digest_108 : decode cX7_digest 108 = .ok (.lstore_n 1, 1) := by decide +kernel
theorem dX7_digest_109 : decode cX7_digest 109 = .ok (.iinc 3 1, 3) := by decide +kernel
theorem dX7_digest_112 : decode cX7_digest 112 = .ok (.goto (-29), 3) := by decide +kernel
theorem dX7_digest_115 : decode cX7_digest 115 = .ok (.aload_n 0, 1) := by decide +kernel
theorem dX7_digest_116 : decode cX7_digest 116 = .ok (.lload_n 1, 1) := by decide +kernel
theorem dX7_digest_117 : decode cX7_digest 117 = .ok (.iconst 0, 1) := by decide +kernel
theorem dX7_digest_118 : decode cX7_digest 118 = .ok (.iconst 1, 1) := by decide +kernel
theorem dX7_digest_119 : decode cX7_digest 119 = .ok (.invokevirtual 230, 3) := by decide +kernel
theorem dX7_digest_122 : decode cX7_digest 122 = .ok (.lstore_n 1, 1) := by decide +kernel
theorem dX7_digest_123 : decode cX7_digest 123 = .ok (.aload_n 0, 1) := by decide +kernel
theorem dX7_digest_124 : decode cX7_digest 124 = .ok (.lload_n 1, 1) := by decide +kernel
theorem dX7_digest_125 : decode cX7_digest 125 = .ok (.iconst 0, 1) := by decide +kernel
theorem dX7_digest_126 : decode cX7_digest 126 = .ok (.iconst 2, 1) := by decide +kernel
theorem dX7_digest_127 : decode cX7_digest 127 = .ok (.invokevirtual 230, 3) := by decide +kernel
theorem dX7_digest_130 : decode cX7_digest 130 = .ok (.lstore_n 1, 1) := by decide +kernel
theorem dX7_digest_131 : decode cX7_digest 131 = .ok (.aload_n 0, 1) := by decide +kernel
theorem dX7_digest_132 : decode cX7_digest 132 = .ok (.lload_n 1, 1) := by decide +kernel
theorem dX7_digest_133 : decode cX7_digest 133 = .ok (.iconst 1, 1) := by decide +kernel
theorem dX7_digest_134 : decode cX7_digest 134 = .ok (.iconst 0, 1) := by decide +kernel
theorem dX7_digest_135 : decode cX7_digest 135 = .ok (.invokevirtual 230, 3) := by decide +kernel
theorem dX7_digest_138 : decode cX7_digest 138 = .ok (.lstore_n 1, 1) := by decide +kernel
theorem dX7_digest_139 : decode cX7_digest 139 = .ok (.aload_n 0, 1) := by decide +kernel
theorem dX7_digest_140 : decode cX7_digest 140 = .ok (.lload_n 1, 1) := by decide +kernel
theorem dX7_digest_141 : decode cX7_digest 141 = .ok (.iconst 2, 1) := by decide +kernel
theorem dX7_digest_142 : decode cX7_digest 142 = .ok (.iconst 0, 1) := by decide +kernel
theorem dX7_digest_143 : decode cX7_digest 143 = .ok (.invokevirtual 230, 3) := by decide +kernel
theorem dX7_digest_146 : decode cX7_digest 146 = .ok (.lreturn, 1) := by decide +kernel
theorem dX7_digestSlot_0 : decode cX7_digestSlot 0 = .ok (.lload_n 1, 1) := by decide +kernel
theorem dX7_digestSlot_1 : decode cX7_digestSlot 1 = .ok (.lstore 4, 2) := by decide +kernel
theorem dX7_digestSlot_3 : decode cX7_digestSlot 3 = .ok (.iconst 0, 1) := by decide +kernel
theorem dX7_digestSlot_4 : decode cX7_digestSlot 4 = .ok (.istore 6, 2) := by decide +kernel
theorem dX7_digestSlot_6 : decode cX7_digestSlot 6 = .ok (.iload 6, 2) := by decide +kernel
theorem dX7_digestSlot_8 : decode cX7_digestSlot 8 = .ok (.bipush 6, 2) := by decide +kernel
theorem dX7_digestSlot_10 : decode cX7_digestSlot 10 = .ok (.if_icmp .ge 29, 3) := by decide +kernel
theorem dX7_digestSlot_13 : decode cX7_digestSlot 13 = .ok (.ldc2_w 224, 3) := by decide +kernel
theorem dX7_digestSlot_16 : decode cX7_digestSlot 16 = .ok (.lload 4, 2) := by decide +kernel
theorem dX7_digestSlot_18 : decode cX7_digestSlot 18 = .ok (.lmul, 1) := by decide +kernel
theorem dX7_digestSlot_19 : decode cX7_digestSlot 19 = .ok (.aload_n 0, 1) := by decide +kernel
theorem dX7_digestSlot_20 : decode cX7_digestSlot 20 = .ok (.getfield 10, 3) := by decide +kernel
theorem dX7_digestSlot_23 : decode cX7_digestSlot 23 = .ok (.iload_n 3, 1) := by decide +kernel
theorem dX7_digestSlot_24 : decode cX7_digestSlot 24 = .ok (.iload 6, 2) := by decide +kernel
theorem dX7_digestSlot_26 : decode cX7_digestSlot 26 = .ok (.invokevirtual 90, 3) := by decide +kernel
theorem dX7_digestSlot_29 : decode cX7_digestSlot 29 = .ok (.i2l, 1) := by decide +kernel
theorem dX7_digestSlot_30 : decode cX7_digestSlot 30 = .ok (.ladd, 1) := by decide +kernel
theorem dX7_digestSlot_31 : decode cX7_digestSlot 31 = .ok (.lstore 4, 2) := by decide +kernel
theorem dX7_digestSlot_33 : decode cX7_digestSlot 33 = .ok (.iinc 6 1, 3) := by decide +kernel
theorem dX7_digestSlot_36 : decode cX7_digestSlot 36 = .ok (.goto (-30), 3) := by decide +kernel
theorem dX7_digestSlot_39 : decode cX7_digestSlot 39 = .ok (.aload_n 0, 1) := by decide +kernel
theorem dX7_digestSlot_40 : decode cX7_digestSlot 40 = .ok (.getfield 10, 3) := by decide +kernel
theorem dX7_digestSlot_43 : decode cX7_digestSlot 43 = .ok (.iload_n 3, 1) := by decide +kernel
theorem dX7_digestSlot_44 : decode cX7_digestSlot 44 = .ok (.invokevirtual 96, 3) := by decide +kernel
theorem dX7_digestSlot_47 : decode cX7_digestSlot 47 = .ok (.astore 6, 2) := by decide +kernel
theorem dX7_digestSlot_49 : decode cX7_digestSlot 49 = .ok (.iconst 0, 1) := by decide +kernel
theorem dX7_digestSlot_50 : decode cX7_digestSlot 50 = .ok (.istore 7, 2) := by decide +kernel
theorem dX7_digestSlot_52 : decode cX7_digestSlot 52 = .ok (.iload 7, 2) := by decide +kernel
theorem dX7_digestSlot_54 : decode cX7_digestSlot 54 = .ok (.aload 6, 2) := by decide +kernel
theorem dX7_digestSlot_56 : decode cX7_digestSlot 56 = .ok (.getfield 234, 3) := by decide +kernel
theorem dX7_digestSlot_59 : decode cX7_digestSlot 59 = .ok (.if_icmp .ge 27, 3) := by decide +kernel
theorem dX7_digestSlot_62 : decode cX7_digestSlot 62 = .ok (.ldc2_w 224, 3) := by decide +kernel
theorem dX7_digestSlot_65 : decode cX7_digestSlot 65 = .ok (.lload 4, 2) := by decide +kernel
theorem dX7_digestSlot_67 : decode cX7_digestSlot 67 = .ok (.lmul, 1) := by decide +kernel
theorem dX7_digestSlot_68 : decode cX7_digestSlot 68 = .ok (.aload 6, 2) := by decide +kernel
theorem dX7_digestSlot_70 : decode cX7_digestSlot 70 = .ok (.getfield 100, 3) := by decide +kernel
theorem dX7_digestSlot_73 : decode cX7_digestSlot 73 = .ok (.iload 7, 2) := by decide +kernel
theorem dX7_digestSlot_75 : decode cX7_digestSlot 75 = .ok (.iaload, 1) := by decide +kernel
theorem dX7_digestSlot_76 : decode cX7_digestSlot 76 = .ok (.i2l, 1) := by decide +kernel
theorem dX7_digestSlot_77 : decode cX7_digestSlot 77 = .ok (.ladd, 1) := by decide +kernel
theorem dX7_digestSlot_78 : decode cX7_digestSlot 78 = .ok (.lstore 4, 2) := by decide +kernel
theorem dX7_digestSlot_80 : decode cX7_digestSlot 80 = .ok (.iinc 7 1, 3) := by decide +kernel
theorem dX7_digestSlot_83 : decode cX7_digestSlot 83 = .ok (.goto (-31), 3) := by decide +kernel
theorem dX7_digestSlot_86 : decode cX7_digestSlot 86 = .ok (.lload 4, 2) := by decide +kernel
theorem dX7_digestSlot_88 : decode cX7_digestSlot 88 = .ok (.lreturn, 1) := by decide +kernel
theorem dX7_digestKind_0 : decode cX7_digestKind 0 = .ok (.lload_n 1, 1) := by decide +kernel
theorem dX7_digestKind_1 : decode cX7_digestKind 1 = .ok (.lstore 5, 2) := by decide +kernel
theorem dX7_digestKind_3 : decode cX7_digestKind 3 = .ok (.aload_n 0, 1) := by decide +kernel
theorem dX7_digestKind_4 : decode cX7_digestKind 4 = .ok (.getfield 33, 3) := by decide +kernel
theorem dX7_digestKind_7 : decode cX7_digestKind 7 = .ok (.aload_n 0, 1) := by decide +kernel
theorem dX7_digestKind_8 : decode cX7_digestKind 8 = .ok (.getfield 10, 3) := by decide +kernel
theorem dX7_digestKind_11 : decode cX7_digestKind 11 = .ok (.getfield 47, 3) := by decide +kernel
theorem dX7_digestKind_14 : decode cX7_digestKind 14 = .ok (.getfield 168, 3) := by decide +kernel
theorem dX7_digestKind_17 : decode cX7_digestKind 17 = .ok (.iload_n 3, 1) := by decide +kernel
theorem dX7_digestKind_18 : decode cX7_digestKind 18 = .ok (.iload 4, 2) := by decide +kernel
theorem dX7_digestKind_20 : decode cX7_digestKind 20 = .ok (.invokevirtual 171, 3) := by decide +kernel
theorem dX7_digestKind_23 : decode cX7_digestKind 23 = .ok (.iconst 1, 1) := by decide +kernel
theorem dX7_digestKind_24 : decode cX7_digestKind 24 = .ok (.istore 7, 2) := by decide +kernel
theorem dX7_digestKind_26 : decode cX7_digestKind 26 = .ok (.iload 7, 2) := by decide +kernel
theorem dX7_digestKind_28 : decode cX7_digestKind 28 = .ok (.bipush 8, 2) := by decide +kernel
theorem dX7_digestKind_30 : decode cX7_digestKind 30 = .ok (.if_icmp .gt 28, 3) := by decide +kernel
theorem dX7_digestKind_33 : decode cX7_digestKind 33 = .ok (.ldc2_w 224, 3) := by decide +kernel
theorem dX7_digestKind_36 : decode cX7_digestKind 36 = .ok (.lload 5, 2) := by decide +kernel
theorem dX7_digestKind_38 : decode cX7_digestKind 38 = .ok (.lmul, 1) := by decide +kernel
theorem dX7_digestKind_39 : decode cX7_digestKind 39 = .ok (.aload_n 0, 1) := by decide +kernel
theorem dX7_digestKind_40 : decode cX7_digestKind 40 = .ok (.getfield 33, 3) := by decide +kernel
theorem dX7_digestKind_43 : decode cX7_digestKind 43 = .ok (.getfield 175, 3) := by decide +kernel
theorem dX7_digestKind_46 : decode cX7_digestKind 46 = .ok (.iload 7, 2) := by decide +kernel
theorem dX7_digestKind_48 : decode cX7_digestKind 48 = .ok (.laload, 1) := by decide +kernel
theorem dX7_digestKind_49 : decode cX7_digestKind 49 = .ok (.ladd, 1) := by decide +kernel
theorem dX7_digestKind_50 : decode cX7_digestKind 50 = .ok (.lstore 5, 2) := by decide +kernel
theorem dX7_digestKind_52 : decode cX7_digestKind 52 = .ok (.iinc 7 1, 3) := by decide +kernel
theorem dX7_digestKind_55 : decode cX7_digestKind 55 = .ok (.goto (-29), 3) := by decide +kernel
theorem dX7_digestKind_58 : decode cX7_digestKind 58 = .ok (.lload 5, 2) := by decide +kernel
theorem dX7_digestKind_60 : decode cX7_digestKind 60 = .ok (.lreturn, 1) := by decide +kernel
theorem dX7_toldValue_0 : decode cX7_toldValue 0 = .ok (.iload_n 1, 1) := by decide +kernel
theorem dX7_toldValue_1 : decode cX7_toldValue 1 = .ok (.tableswitch 54 0 3 #[31, 36, 41, 46], 31) := by decide +kernel
theorem dX7_toldValue_32 : decode cX7_toldValue 32 = .ok (.aload_n 0, 1) := by decide +kernel
theorem dX7_toldValue_33 : decode cX7_toldValue 33 = .ok (.getfield 37, 3) := by decide +kernel
theorem dX7_toldValue_36 : decode cX7_toldValue 36 = .ok (.ireturn, 1) := by decide +kernel
theorem dX7_toldValue_37 : decode cX7_toldValue 37 = .ok (.aload_n 0, 1) := by decide +kernel
theorem dX7_toldValue_38 : decode cX7_toldValue 38 = .ok (.getfield 41, 3) := by decide +kernel
theorem dX7_toldValue_41 : decode cX7_toldValue 41 = .ok (.ireturn, 1) := by decide +kernel
theorem dX7_toldValue_42 : decode cX7_toldValue 42 = .ok (.aload_n 0, 1) := by decide +kernel
theorem dX7_toldValue_43 : decode cX7_toldValue 43 = .ok (.getfield 44, 3) := by decide +kernel
theorem dX7_toldValue_46 : decode cX7_toldValue 46 = .ok (.ireturn, 1) := by decide +kernel
theorem dX7_toldValue_47 : decode cX7_toldValue 47 = .ok (.aload_n 0, 1) := by decide +kernel
theorem dX7_toldValue_48 : decode cX7_toldValue 48 = .ok (.getfield 26, 3) := by decide +kernel
theorem dX7_toldValue_51 : decode cX7_toldValue 51 = .ok (.getfield 179, 3) := by decide +kernel
theorem dX7_toldValue_54 : decode cX7_toldValue 54 = .ok (.ireturn, 1) := by decide +kernel
theorem dX7_toldValue_55 : decode cX7_toldValue 55 = .ok (.aload_n 0, 1) := by decide +kernel
theorem dX7_toldValue_56 : decode cX7_toldValue 56 = .ok (.getfield 19, 3) := by decide +kernel
theorem dX7_toldValue_59 : decode cX7_toldValue 59 = .ok (.getfield 213, 3) := by decide +kernel
theorem dX7_toldValue_62 : decode cX7_toldValue 62 = .ok (.ireturn, 1) := by decide +kernel
theorem dX7_settled_0 : decode cX7_settled 0 = .ok (.iload_n 1, 1) := by decide +kernel
theorem dX7_settled_1 : decode cX7_settled 1 = .ok (.bipush (-2), 2) := by decide +kernel
theorem dX7_settled_3 : decode cX7_settled 3 = .ok (.if_icmp .ne 16, 3) := by decide +kernel
theorem dX7_settled_6 : decode cX7_settled 6 = .ok (.aload_n 0, 1) := by decide +kernel
theorem dX7_settled_7 : decode cX7_settled 7 = .ok (.dup, 1) := by decide +kernel
theorem dX7_settled_8 : decode cX7_settled 8 = .ok (.getfield 37, 3) := by decide +kernel
theorem dX7_settled_11 : decode cX7_settled 11 = .ok (.iconst 1, 1) := by decide +kernel
theorem dX7_settled_12 : decode cX7_settled 12 = .ok (.iadd, 1) := by decide +kernel
theorem dX7_settled_13 : decode cX7_settled 13 = .ok (.putfield 37, 3) := by decide +kernel
theorem dX7_settled_16 : decode cX7_settled 16 = .ok (.goto 10, 3) := by decide +kernel
theorem dX7_settled_19 : decode cX7_settled 19 = .ok (.aload_n 0, 1) := by decide +kernel
theorem dX7_settled_20 : decode cX7_settled 20 = .ok (.getfield 19, 3) := by decide +kernel
theorem dX7_settled_23 : decode cX7_settled 23 = .ok (.invokevirtual 210, 3) := by decide +kernel
theorem dX7_settled_26 : decode cX7_settled 26 = .ok (.iload_n 1, 1) := by decide +kernel
theorem dX7_settled_27 : decode cX7_settled 27 = .ok (.ireturn, 1) := by decide +kernel
theorem dX7_bad_0 : decode cX7_bad 0 = .ok (.aload_n 0, 1) := by decide +kernel
theorem dX7_bad_1 : decode cX7_bad 1 = .ok (.dup, 1) := by decide +kernel
theorem dX7_bad_2 : decode cX7_bad 2 = .ok (.getfield 37, 3) := by decide +kernel
theorem dX7_bad_5 : decode cX7_bad 5 = .ok (.iconst 1, 1) := by decide +kernel
theorem dX7_bad_6 : decode cX7_bad 6 = .ok (.iadd, 1) := by decide +kernel
theorem dX7_bad_7 : decode cX7_bad 7 = .ok (.putfield 37, 3) := by decide +kernel
theorem dX7_bad_10 : decode cX7_bad 10 = .ok (.bipush (-2), 2) := by decide +kernel
theorem dX7_bad_12 : decode cX7_bad 12 = .ok (.ireturn, 1) := by decide +kernel
theorem dX7_no_0 : decode cX7_no 0 = .ok (.aload_n 0, 1) := by decide +kernel
theorem dX7_no_1 : decode cX7_no 1 = .ok (.dup, 1) := by decide +kernel
theorem dX7_no_2 : decode cX7_no 2 = .ok (.getfield 41, 3) := by decide +kernel
theorem dX7_no_5 : decode cX7_no 5 = .ok (.iconst 1, 1) := by decide +kernel
theorem dX7_no_6 : decode cX7_no 6 = .ok (.iadd, 1) := by decide +kernel
theorem dX7_no_7 : decode cX7_no 7 = .ok (.putfield 41, 3) := by decide +kernel
theorem dX7_no_10 : decode cX7_no 10 = .ok (.bipush (-3), 2) := by decide +kernel
theorem dX7_no_12 : decode cX7_no 12 = .ok (.ireturn, 1) := by decide +kernel
theorem dX7_intervalError_0 : decode cX7_intervalError 0 = .ok (.iload_n 1, 1) := by decide +kernel
theorem dX7_intervalError_1 : decode cX7_intervalError 1 = .ok (.invokestatic 82, 3) := by decide +kernel
theorem dX7_intervalError_4 : decode cX7_intervalError 4 = .ok (.ifCond .eq 10, 3) := by decide +kernel
theorem dX7_intervalError_7 : decode cX7_intervalError 7 = .ok (.iload_n 2, 1) := by decide +kernel
theorem dX7_intervalError_8 : decode cX7_intervalError 8 = .ok (.invokestatic 82, 3) := by decide +kernel
theorem dX7_intervalError_11 : decode cX7_intervalError 11 = .ok (.ifCond .ne 8, 3) := by decide +kernel
theorem dX7_intervalError_14 : decode cX7_intervalError 14 = .ok (.aload_n 0, 1) := by decide +kernel
theorem dX7_intervalError_15 : decode cX7_intervalError 15 = .ok (.invokevirtual 86, 3) := by decide +kernel
theorem dX7_intervalError_18 : decode cX7_intervalError 18 = .ok (.ireturn, 1) := by decide +kernel
theorem dX7_intervalError_19 : decode cX7_intervalError 19 = .ok (.aload_n 0, 1) := by decide +kernel
theorem dX7_intervalError_20 : decode cX7_intervalError 20 = .ok (.getfield 10, 3) := by decide +kernel
theorem dX7_intervalError_23 : decode cX7_intervalError 23 = .ok (.iload_n 1, 1) := by decide +kernel
theorem dX7_intervalError_24 : decode cX7_intervalError 24 = .ok (.invokevirtual 96, 3) := by decide +kernel
theorem dX7_intervalError_27 : decode cX7_intervalError 27 = .ok (.aload_n 0, 1) := by decide +kernel
theorem dX7_intervalError_28 : decode cX7_intervalError 28 = .ok (.getfield 10, 3) := by decide +kernel
theorem dX7_intervalError_31 : decode cX7_intervalError 31 = .ok (.iload_n 2, 1) := by decide +kernel
theorem dX7_intervalError_32 : decode cX7_intervalError 32 = .ok (.invokevirtual 96, 3) := by decide +kernel
theorem dX7_intervalError_35 : decode cX7_intervalError 35 = .ok (.invokevirtual 106, 3) := by decide +kernel
theorem dX7_intervalError_38 : decode cX7_intervalError 38 = .ok (.ifCond .eq 7, 3) := by decide +kernel
theorem dX7_intervalError_41 : decode cX7_intervalError 41 = .ok (.iconst 0, 1) := by decide +kernel
theorem dX7_intervalError_42 : decode cX7_intervalError 42 = .ok (.goto 7, 3) := by decide +kernel
theorem dX7_intervalError_45 : decode cX7_intervalError 45 = .ok (.aload_n 0, 1) := by decide +kernel
theorem dX7_intervalError_46 : decode cX7_intervalError 46 = .ok (.invokevirtual 121, 3) := by decide +kernel
theorem dX7_intervalError_49 : decode cX7_intervalError 49 = .ok (.ireturn, 1) := by decide +kernel
theorem dX7_isLabels_0 : decode cX7_isLabels 0 = .ok (.iload_n 1, 1) := by decide +kernel
theorem dX7_isLabels_1 : decode cX7_isLabels 1 = .ok (.ifCond .ge 5, 3) := by decide +kernel
theorem dX7_isLabels_4 : decode cX7_isLabels 4 = .ok (.iconst 0, 1) := by decide +kernel
theorem dX7_isLabels_5 : decode cX7_isLabels 5 = .ok (.ireturn, 1) := by decide +kernel
theorem dX7_isLabels_6 : decode cX7_isLabels 6 = .ok (.iload_n 1, 1) := by decide +kernel
theorem dX7_isLabels_7 : decode cX7_isLabels 7 = .ok (.istore_n 2, 1) := by decide +kernel
theorem dX7_isLabels_8 : decode cX7_isLabels 8 = .ok (.iconst 1, 1) := by decide +kernel
theorem dX7_isLabels_9 : decode cX7_isLabels 9 = .ok (.istore_n 3, 1) := by decide +kernel
theorem dX7_isLabels_10 : decode cX7_isLabels 10 = .ok (.iload_n 3, 1) := by decide +kernel
theorem dX7_isLabels_11 : decode cX7_isLabels 11 = .ok (.aload_n 0, 1) := by decide +kernel
theorem dX7_isLabels_12 : decode cX7_isLabels 12 = .ok (.getfield 10, 3) := by decide +kernel
theorem dX7_isLabels_15 : decode cX7_isLabels 15 = .ok (.getfield 47, 3) := by decide +kernel
theorem dX7_isLabels_18 : decode cX7_isLabels 18 = .ok (.getfield 113, 3) := by decide +kernel
theorem dX7_isLabels_21 : decode cX7_isLabels 21 = .ok (.if_icmp .ge 25, 3) := by decide +kernel
theorem dX7_isLabels_24 : decode cX7_isLabels 24 = .ok (.iload_n 2, 1) := by decide +kernel
theorem dX7_isLabels_25 : decode cX7_isLabels 25 = .ok (.bipush 10, 2) := by decide +kernel
theorem dX7_isLabels_27 : decode cX7_isLabels 27 = .ok (.irem, 1) := by decide +kernel
theorem dX7_isLabels_28 : decode cX7_isLabels 28 = .ok (.bipush 7, 2) := by decide +kernel
theorem dX7_isLabels_30 : decode cX7_isLabels 30 = .ok (.if_icmp .le 5, 3) := by decide +kernel
theorem dX7_isLabels_33 : decode cX7_isLabels 33 = .ok (.iconst 0, 1) := by decide +kernel
theorem dX7_isLabels_34 : decode cX7_isLabels 34 = .ok (.ireturn, 1) := by decide +kernel
theorem dX7_isLabels_35 : decode cX7_isLabels 35 = .ok (.iload_n 2, 1) := by decide +kernel
theorem dX7_isLabels_36 : decode cX7_isLabels 36 = .ok (.bipush 10, 2) := by decide +kernel
theorem dX7_isLabels_38 : decode cX7_isLabels 38 = .ok (.idiv, 1) := by decide +kernel
theorem dX7_isLabels_39 : decode cX7_isLabels 39 = .ok (.istore_n 2, 1) := by decide +kernel
theorem dX7_isLabels_40 : decode cX7_isLabels 40 = .ok (.iinc 3 1, 3) := by decide +kernel
theorem dX7_isLabels_43 : decode cX7_isLabels 43 = .ok (.goto (-33), 3) := by decide +kernel
theorem dX7_isLabels_46 : decode cX7_isLabels 46 = .ok (.iload_n 2, 1) := by decide +kernel
theorem dX7_isLabels_47 : decode cX7_isLabels 47 = .ok (.ifCond .ne 7, 3) := by decide +kernel
theorem dX7_isLabels_50 : decode cX7_isLabels 50 = .ok (.iconst 1, 1) := by decide +kernel
theorem dX7_isLabels_51 : decode cX7_isLabels 51 = .ok (.goto 4, 3) := by decide +kernel
theorem dX7_isLabels_54 : decode cX7_isLabels 54 = .ok (.iconst 0, 1) := by decide +kernel
theorem dX7_isLabels_55 : decode cX7_isLabels 55 = .ok (.ireturn, 1) := by decide +kernel
theorem dX7_isSlot_0 : decode cX7_isSlot 0 = .ok (.iload_n 0, 1) := by decide +kernel
theorem dX7_isSlot_1 : decode cX7_isSlot 1 = .ok (.ifCond .lt 13, 3) := by decide +kernel
theorem dX7_isSlot_4 : decode cX7_isSlot 4 = .ok (.iload_n 0, 1) := by decide +kernel
theorem dX7_isSlot_5 : decode cX7_isSlot 5 = .ok (.bipush 6, 2) := by decide +kernel
theorem dX7_isSlot_7 : decode cX7_isSlot 7 = .ok (.if_icmp .ge 7, 3) := by decide +kernel
theorem dX7_isSlot_10 : decode cX7_isSlot 10 = .ok (.iconst 1, 1) := by decide +kernel
theorem dX7_isSlot_11 : decode cX7_isSlot 11 = .ok (.goto 4, 3) := by decide +kernel
theorem dX7_isSlot_14 : decode cX7_isSlot 14 = .ok (.iconst 0, 1) := by decide +kernel
theorem dX7_isSlot_15 : decode cX7_isSlot 15 = .ok (.ireturn, 1) := by decide +kernel
theorem dX7_choose_0 : decode cX7_choose 0 = .ok (.iload_n 1, 1) := by decide +kernel
theorem dX7_choose_1 : decode cX7_choose 1 = .ok (.ifCond .lt 8, 3) := by decide +kernel
theorem dX7_choose_4 : decode cX7_choose 4 = .ok (.iload_n 1, 1) := by decide +kernel
theorem dX7_choose_5 : decode cX7_choose 5 = .ok (.iload_n 0, 1) := by decide +kernel
theorem dX7_choose_6 : decode cX7_choose 6 = .ok (.if_icmp .le 5, 3) := by decide +kernel
theorem dX7_choose_9 : decode cX7_choose 9 = .ok (.iconst 0, 1) := by decide +kernel
theorem dX7_choose_10 : decode cX7_choose 10 = .ok (.ireturn, 1) := by decide +kernel
theorem dX7_choose_11 : decode cX7_choose 11 = .ok (.iconst 1, 1) := by decide +kernel
theorem dX7_choose_12 : decode cX7_choose 12 = .ok (.istore_n 2, 1) := by decide +kernel
theorem dX7_choose_13 : decode cX7_choose 13 = .ok (.iconst 1, 1) := by decide +kernel
theorem dX7_choose_14 : decode cX7_choose 14 = .ok (.istore_n 3, 1) := by decide +kernel
theorem dX7_choose_15 : decode cX7_choose 15 = .ok (.iload_n 3, 1) := by decide +kernel
theorem dX7_choose_16 : decode cX7_choose 16 = .ok (.iload_n 1, 1) := by decide +kernel
theorem dX7_choose_17 : decode cX7_choose 17 = .ok (.if_icmp .gt 19, 3) := by decide +kernel
theorem dX7_choose_20 : decode cX7_choose 20 = .ok (.iload_n 2, 1) := by decide +kernel
theorem dX7_choose_21 : decode cX7_choose 21 = .ok (.iload_n 0, 1) := by decide +kernel
theorem dX7_choose_22 : decode cX7_choose 22 = .ok (.iload_n 1, 1) := by decide +kernel
theorem dX7_choose_23 : decode cX7_choose 23 = .ok (.isub, 1) := by decide +kernel
theorem dX7_choose_24 : decode cX7_choose 24 = .ok (.iload_n 3, 1) := by decide +kernel
theorem dX7_choose_25 : decode cX7_choose 25 = .ok (.iadd, 1) := by decide +kernel
theorem dX7_choose_26 : decode cX7_choose 26 = .ok (.imul, 1) := by decide +kernel
theorem dX7_choose_27 : decode cX7_choose 27 = .ok (.iload_n 3, 1) := by decide +kernel
theorem dX7_choose_28 : decode cX7_choose 28 = .ok (.idiv, 1) := by decide +kernel
theorem dX7_choose_29 : decode cX7_choose 29 = .ok (.istore_n 2, 1) := by decide +kernel
theorem dX7_choose_30 : decode cX7_choose 30 = .ok (.iinc 3 1, 3) := by decide +kernel
theorem dX7_choose_33 : decode cX7_choose 33 = .ok (.goto (-18), 3) := by decide +kernel
theorem dX7_choose_36 : decode cX7_choose 36 = .ok (.iload_n 2, 1) := by decide +kernel
theorem dX7_choose_37 : decode cX7_choose 37 = .ok (.ireturn, 1) := by decide +kernel
