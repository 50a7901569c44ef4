theorem dX9_count_36 : decode cX9_count 36 = .ok (.aload_n 0, 1) := by decide +kernel
theorem dX9_count_37 : decode cX9_count 37 = .ok (.getfield 19, 3) := by decide +kernel
theorem dX9_count_40 : decode cX9_count 40 = .ok (.getfield 124, 3) := by decide +kernel
theorem dX9_count_43 : decode cX9_count 43 = .ok (.ireturn, 1) := by decide +kernel
theorem dX9_count_44 : decode cX9_count 44 = .ok (.aload_n 0, 1) := by decide +kernel
theorem dX9_count_45 : decode cX9_count 45 = .ok (.getfield 12, 3) := by decide +kernel
theorem dX9_count_48 : decode cX9_count 48 = .ok (.getfield 96, 3) := by decide +kernel
theorem dX9_count_51 : decode cX9_count 51 = .ok (.ireturn, 1) := by decide +kernel
theorem dX9_count_52 : decode cX9_count 52 = .ok (.aload_n 0, 1) := by decide +kernel
theorem dX9_count_53 : decode cX9_count 53 = .ok (.getfield 38, 3) := by decide +kernel
theorem dX9_count_56 : decode cX9_count 56 = .ok (.invokevirtual 241, 3) := by decide +kernel
theorem dX9_count_59 : decode cX9_count 59 = .ok (.ireturn, 1) := by decide +kernel
theorem dX9_count_60 : decode cX9_count 60 = .ok (.aload_n 0, 1) := by decide +kernel
theorem dX9_count_61 : decode cX9_count 61 = .ok (.getfield 38, 3) := by decide +kernel
theorem dX9_count_64 : decode cX9_count 64 = .ok (.getfield 224, 3) := by decide +kernel
theorem dX9_count_67 : decode cX9_count 67 = .ok (.ireturn, 1) := by decide +kernel
theorem dX9_count_68 : decode cX9_count 68 = .ok (.aload_n 0, 1) := by decide +kernel
theorem dX9_count_69 : decode cX9_count 69 = .ok (.getfield 121, 3) := by decide +kernel
theorem dX9_count_72 : decode cX9_count 72 = .ok (.ireturn, 1) := by decide +kernel
theorem dX9_count_73 : decode cX9_count 73 = .ok (.iconst (-1), 1) := by decide +kernel
theorem dX9_count_74 : decode cX9_count 74 = .ok (.ireturn, 1) := by decide +kernel
theorem dX9_isPart_0 : decode cX9_isPart 0 = .ok (.iload_n 1, 1) := by decide +kernel
theorem dX9_isPart_1 : decode cX9_isPart 1 = .ok (.iconst 0, 1) := by decide +kernel
theorem dX9_isPart_2 : decode cX9_isPart 2 = .ok (.aload_n 0, 1) := by decide +kernel
theorem dX9_isPart_3 : decode cX9_isPart 3 = .ok (.getfield 19, 3) := by decide +kernel
theorem dX9_isPart_6 : decode cX9_isPart 6 = .ok (.getfield 124, 3) := by decide +kernel
theorem dX9_isPart_9 : decode cX9_isPart 9 = .ok (.iconst 1, 1) := by decide +kernel
theorem dX9_isPart_10 : decode cX9_isPart 10 = .ok (.isub, 1) := by decide +kernel
theorem dX9_isPart_11 : decode cX9_isPart 11 = .ok (.invokestatic 89, 3) := by decide +kernel
theorem dX9_isPart_14 : decode cX9_isPart 14 = .ok (.ireturn, 1) := by decide +kernel
theorem dX9_isJoint_0 : decode cX9_isJoint 0 = .ok (.iload_n 1, 1) := by decide +kernel
theorem dX9_isJoint_1 : decode cX9_isJoint 1 = .ok (.iconst 0, 1) := by decide +kernel
theorem dX9_isJoint_2 : decode cX9_isJoint 2 = .ok (.aload_n 0, 1) := by decide +kernel
theorem dX9_isJoint_3 : decode cX9_isJoint 3 = .ok (.getfield 19, 3) := by decide +kernel
theorem dX9_isJoint_6 : decode cX9_isJoint 6 = .ok (.getfield 214, 3) := by decide +kernel
theorem dX9_isJoint_9 : decode cX9_isJoint 9 = .ok (.iconst 1, 1) := by decide +kernel
theorem dX9_isJoint_10 : decode cX9_isJoint 10 = .ok (.isub, 1) := by decide +kernel
theorem dX9_isJoint_11 : decode cX9_isJoint 11 = .ok (.invokestatic 89, 3) := by decide +kernel
theorem dX9_isJoint_14 : decode cX9_isJoint 14 = .ok (.ireturn, 1) := by decide +kernel
theorem dX9_isWay_0 : decode cX9_isWay 0 = .ok (.iload_n 0, 1) := by decide +kernel
theorem dX9_isWay_1 : decode cX9_isWay 1 = .ok (.iconst 0, 1) := by decide +kernel
theorem dX9_isWay_2 : decode cX9_isWay 2 = .ok (.iconst 3, 1) := by decide +kernel
theorem dX9_isWay_3 : decode cX9_isWay 3 = .ok (.invokestatic 89, 3) := by decide +kernel
theorem dX9_isWay_6 : decode cX9_isWay 6 = .ok (.ireturn, 1) := by decide +kernel
theorem dX9_isTurn_0 : decode cX9_isTurn 0 = .ok (.iload_n 0, 1) := by decide +kernel
theorem dX9_isTurn_1 : decode cX9_isTurn 1 = .ok (.iconst 0, 1) := by decide +kernel
theorem dX9_isTurn_2 : decode cX9_isTurn 2 = .ok (.sipush 359, 3) := by decide +kernel
theorem dX9_isTurn_5 : decode cX9_isTurn 5 = .ok (.invokestatic 89, 3) := by decide +kernel
theorem dX9_isTurn_8 : decode cX9_isTurn 8 = .ok (.ireturn, 1) := by decide +kernel
theorem dX9_isWithin_0 : decode cX9_isWithin 0 = .ok (.iload_n 0, 1) := by decide +kernel
theorem dX9_isWithin_1 : decode cX9_isWithin 1 = .ok (.iload_n 1, 1) := by decide +kernel
theorem dX9_isWithin_2 : decode cX9_isWithin 2 = .ok (.if_icmp .lt 12, 3) := by decide +kernel
theorem dX9_isWithin_5 : decode cX9_isWithin 5 = .ok (.iload_n 0, 1) := by decide +kernel
theorem dX9_isWithin_6 : decode cX9_isWithin 6 = .ok (.iload_n 2, 1) := by decide +kernel
theorem dX9_isWithin_7 : decode cX9_isWithin 7 = .ok (.if_icmp .gt 7, 3) := by decide +kernel
theorem dX9_isWithin_10 : decode cX9_isWithin 10 = .ok (.iconst 1, 1) := by decide +kernel
theorem dX9_isWithin_11 : decode cX9_isWithin 11 = .ok (.goto 4, 3) := by decide +kernel
theorem dX9_isWithin_14 : decode cX9_isWithin 14 = .ok (.iconst 0, 1) := by decide +kernel
theorem dX9_isWithin_15 : decode cX9_isWithin 15 = .ok (.ireturn, 1) := by decide +kernel
theorem dX9_cut_0 : decode cX9_cut 0 = .ok (.iload_n 1, 1) := by decide +kernel
theorem dX9_cut_1 : decode cX9_cut 1 = .ok (.ifCond .ne 7, 3) := by decide +kernel
theorem dX9_cut_4 : decode cX9_cut 4 = .ok (.iconst 0, 1) := by decide +kernel
theorem dX9_cut_5 : decode cX9_cut 5 = .ok (.goto 6, 3) := by decide +kernel
theorem dX9_cut_8 : decode cX9_cut 8 = .ok (.iload_n 0, 1) := by decide +kernel
theorem dX9_cut_9 : decode cX9_cut 9 = .ok (.iload_n 1, 1) := by decide +kernel
theorem dX9_cut_10 : decode cX9_cut 10 = .ok (.idiv, 1) := by decide +kernel
theorem dX9_cut_11 : decode cX9_cut 11 = .ok (.ireturn, 1) := by decide +kernel
theorem dX9_off_0 : decode cX9_off 0 = .ok (.iload_n 0, 1) := by decide +kernel
theorem dX9_off_1 : decode cX9_off 1 = .ok (.iload_n 1, 1) := by decide +kernel
theorem dX9_off_2 : decode cX9_off 2 = .ok (.isub, 1) := by decide +kernel
theorem dX9_off_3 : decode cX9_off 3 = .ok (.sipush 360, 3) := by decide +kernel
theorem dX9_off_6 : decode cX9_off 6 = .ok (.invokestatic 180, 3) := by decide +kernel
theorem dX9_off_9 : decode cX9_off 9 = .ok (.istore_n 2, 1) := by decide +kernel
theorem dX9_off_10 : decode cX9_off 10 = .ok (.iload_n 2, 1) := by decide +kernel
theorem dX9_off_11 : decode cX9_off 11 = .ok (.sipush 360, 3) := by decide +kernel
theorem dX9_off_14 : decode cX9_off 14 = .ok (.iload_n 2, 1) := by decide +kernel
theorem dX9_off_15 : decode cX9_off 15 = .ok (.isub, 1) := by decide +kernel
theorem dX9_off_16 : decode cX9_off 16 = .ok (.invokestatic 244, 3) := by decide +kernel
theorem dX9_off_19 : decode cX9_off 19 = .ok (.ireturn, 1) := by decide +kernel
theorem dX9_ticksOfFall_0 : decode cX9_ticksOfFall 0 = .ok (.iconst 0, 1) := by decide +kernel
theorem dX9_ticksOfFall_1 : decode cX9_ticksOfFall 1 = .ok (.istore_n 1, 1) := by decide +kernel
theorem dX9_ticksOfFall_2 : decode cX9_ticksOfFall 2 = .ok (.iload_n 1, 1) := by decide +kernel
theorem dX9_ticksOfFall_3 : decode cX9_ticksOfFall 3 = .ok (.ldc 207, 2) := by decide +kernel
theorem dX9_ticksOfFall_5 : decode cX9_ticksOfFall 5 = .ok (.if_icmp .ge 24, 3) := by decide +kernel
theorem dX9_ticksOfFall_8 : decode cX9_ticksOfFall 8 = .ok (.iload_n 1, 1) := by decide +kernel
theorem dX9_ticksOfFall_9 : decode cX9_ticksOfFall 9 = .ok (.iconst 1, 1) := by decide +kernel
theorem dX9_ticksOfFall_10 : decode cX9_ticksOfFall 10 = .ok (.iadd, 1) := by decide +kernel
theorem dX9_ticksOfFall_11 : decode cX9_ticksOfFall 11 = .ok (.i2l, 1) := by decide +kernel
theorem dX9_ticksOfFall_12 : decode cX9_ticksOfFall 12 = .ok (.iload_n 1, 1) := by decide +kernel
theorem dX9_ticksOfFall_13 : decode cX9_ticksOfFall 13 = .ok (.iconst 1, 1) := by decide +kernel
theorem dX9_ticksOfFall_14 : decode cX9_ticksOfFall 14 = .ok (.iadd, 1) := by decide +kernel
theorem dX9_ticksOfFall_15 : decode cX9_ticksOfFall 15 = .ok (.i2l, 1) := by decide +kernel
theorem dX9_ticksOfFall_16 : decode cX9_ticksOfFall 16 = .ok (.lmul, 1) := by decide +kernel
theorem dX9_ticksOfFall_17 : decode cX9_ticksOfFall 17 = .ok (.iload_n 0, 1) := by decide +kernel
theorem dX9_ticksOfFall_18 : decode cX9_ticksOfFall 18 = .ok (.i2l, 1) := by decide +kernel
theorem dX9_ticksOfFall_19 : decode cX9_ticksOfFall 19 = .ok (.lcmp, 1) := by decide +kernel
theorem dX9_ticksOfFall_20 : decode cX9_ticksOfFall 20 = .ok (.ifCond .gt 9, 3) := by decide +kernel
theorem dX9_ticksOfFall_23 : decode cX9_ticksOfFall 23 = .ok (.iinc 1 1, 3) := by decide +kernel
theorem dX9_ticksOfFall_26 : decode cX9_ticksOfFall 26 = .ok (.goto (-24), 3) := by decide +kernel
theorem dX9_ticksOfFall_29 : decode cX9_ticksOfFall 29 = .ok (.iload_n 1, 1) := by decide +kernel
theorem dX9_ticksOfFall_30 : decode cX9_ticksOfFall 30 = .ok (.ireturn, 1) := by decide +kernel
theorem dX9_findLandings_0 : decode cX9_findLandings 0 = .ok (.iload_n 1, 1) := by decide +kernel
theorem dX9_findLandings_1 : decode cX9_findLandings 1 = .ok (.aload_n 0, 1) := by decide +kernel
theorem dX9_findLandings_2 : decode cX9_findLandings 2 = .ok (.getfield 19, 3) := by decide +kernel
theorem dX9_findLandings_5 : decode cX9_findLandings 5 = .ok (.getfield 144, 3) := by decide +kernel
theorem dX9_findLandings_8 : decode cX9_findLandings 8 = .ok (.aload_n 0, 1) := by decide +kernel
theorem dX9_findLandings_9 : decode cX9_findLandings 9 = .ok (.getfield 19, 3) := by decide +kernel
theorem dX9_findLandings_12 : decode cX9_findLandings 12 = .ok (.invokevirtual 247, 3) := by decide +kernel
theorem dX9_findLandings_15 : decode cX9_findLandings 15 = .ok (.invokestatic 250, 3) := by decide +kernel
theorem dX9_findLandings_18 : decode cX9_findLandings 18 = .ok (.imul, 1) := by decide +kernel
theorem dX9_findLandings_19 : decode cX9_findLandings 19 = .ok (.istore_n 2, 1) := by decide +kernel
theorem dX9_findLandings_20 : decode cX9_findLandings 20 = .ok (.iconst 0, 1) := by decide +kernel
theorem dX9_findLandings_21 : decode cX9_findLandings 21 = .ok (.istore_n 3, 1) := by decide +kernel
theorem dX9_findLandings_22 : decode cX9_findLandings 22 = .ok (.iload_n 3, 1) := by decide +kernel
theorem dX9_findLandings_23 : decode cX9_findLandings 23 = .ok (.aload_n 0, 1) := by decide +kernel
theorem dX9_findLandings_24 : decode cX9_findLandings 24 = .ok (.getfield 55, 3) := by decide +kernel
theorem dX9_findLandings_27 : decode cX9_findLandings 27 = .ok (.arraylength, 1) := by decide +kernel
theorem dX9_findLandings_28 : decode cX9_findLandings 28 = .ok (.if_icmp .ge 92, 3) := by decide +kernel
theorem dX9_findLandings_31 : decode cX9_findLandings 31 = .ok (.aload_n 0, 1) := by decide +kernel
theorem dX9_findLandings_32 : decode cX9_findLandings 32 = .ok (.getfield 51, 3) := by decide +kernel
theorem dX9_findLandings_35 : decode cX9_findLandings 35 = .ok (.aload_n 0, 1) := by decide +kernel
theorem dX9_findLandings_36 : decode cX9_findLandings 36 = .ok (.getfield 38, 3) := by decide +kernel
theorem dX9_findLandings_39 : decode cX9_findLandings 39 = .ok (.iload_n 3, 1) := by decide +kernel
theorem dX9_findLandings_40 : decode cX9_findLandings 40 = .ok (.invokevirtual 166, 3) := by decide +kernel
theorem dX9_findLandings_43 : decode cX9_findLandings 43 = .ok (.aload_n 0, 1) := by decide +kernel
theorem dX9_findLandings_44 : decode cX9_findLandings 44 = .ok (.getfield 51, 3) := by decide +kernel
theorem dX9_findLandings_47 : decode cX9_findLandings 47 = .ok (.aload_n 0, 1) := by decide +kernel
theorem dX9_findLandings_48 : decode cX9_findLandings 48 = .ok (.getfield 19, 3) := by decide +kernel
theorem dX9_findLandings_51 : decode cX9_findLandings 51 = .ok (.getfield 144, 3) := by decide +kernel
theorem dX9_findLandings_54 : decode cX9_findLandings 54 = .ok (.invokevirtual 173, 3) := by decide +kernel
theorem dX9_findLandings_57 : decode cX9_findLandings 57 = .ok (.aload_n 0, 1) := by decide +kernel
theorem dX9_findLandings_58 : decode cX9_findLandings 58 = .ok (.getfield 55, 3) := by decide +kernel
theorem dX9_findLandings_61 : decode cX9_findLandings 61 = .ok (.iload_n 3, 1) := by decide +kernel
theorem dX9_findLandings_62 : decode cX9_findLandings 62 = .ok (.aload_n 0, 1) := by decide +kernel
theorem dX9_findLandings_63 : decode cX9_findLandings 63 = .ok (.getfield 51, 3) := by decide +kernel
theorem dX9_findLandings_66 : decode cX9_findLandings 66 = .ok (.getfield 185, 3) := by decide +kernel
theorem dX9_findLandings_69 : decode cX9_findLandings 69 = .ok (.ifCond .eq 42, 3) := by decide +kernel
theorem dX9_findLandings_72 : decode cX9_findLandings 72 = .ok (.aload_n 0, 1) := by decide +kernel
theorem dX9_findLandings_73 : decode cX9_findLandings 73 = .ok (.getfield 51, 3) := by decide +kernel
theorem dX9_findLandings_76 : decode cX9_findLandings 76 = .ok (.getfield 192, 3) := by decide +kernel
theorem dX9_findLandings_79 : decode cX9_findLandings 79 = .ok (.invokevirtual 196, 3) := by decide +kernel
theorem dX9_findLandings_82 : decode cX9_findLandings 82 = .ok (.ifCond .eq 29, 3) := by decide +kernel
theorem dX9_findLandings_85 : decode cX9_findLandings 85 = .ok (.iload_n 2, 1) := by decide +kernel
theorem dX9_findLandings_86 : decode cX9_findLandings 86 = .ok (.aload_n 0, 1) := by decide +kernel
theorem dX9_findLandings_87 : decode cX9_findLandings 87 = .ok (.getfield 51, 3) := by decide +kernel
theorem dX9_findLandings_90 : decode cX9_findLandings 90 = .ok (.aload_n 0, 1) := by decide +kernel
theorem dX9_findLandings_91 : decode cX9_findLandings 91 = .ok (.getfield 51, 3) := by decide +kernel
theorem dX9_findLandings_94 : decode cX9_findLandings 94 = .ok (.getfield 170, 3) := by decide +kernel
theorem dX9_findLandings_97 : decode cX9_findLandings 97 = .ok (.iconst 0, 1) := by decide +kernel
theorem dX9_findLandings_98 : decode cX9_findLandings 98 = .ok (.invokevirtual 177, 3) := by decide +kernel
theorem dX9_findLandings_101 : decode cX9_findLandings 101 = .ok (.iadd, 1) := by decide +kernel
theorem dX9_findLandings_102 : decode cX9_findLandings 102 = .ok (.sipush 360, 3) := by decide +kernel
theorem dX9_findLandings_105 : decode cX9_findLandings 105 = .ok (.invokestatic 180, 3) := by decide +kernel
theorem dX9_findLandings_108 : decode cX9_findLandings 108 = .ok (.goto 5, 3) := by decide +kernel
theorem dX9_findLandings_111 : decode cX9_findLandings 111 = .ok (.bipush (-4), 2) := by decide +kernel
theorem dX9_findLandings_113 : decode cX9_findLandings 113 = .ok (.iastore, 1) := by decide +kernel
theorem dX9_findLandings_114 : decode cX9_findLandings 114 = .ok (.iinc 3 1, 3) := by decide +kernel
theorem dX9_findLandings_117 : decode cX9_findLandings 117 = .ok (.goto (-95), 3) := by decide +kernel
theorem dX9_findLandings_120 : decode cX9_findLandings 120 = .ok (.return_, 1) := by decide +kernel
theorem dX9_firstHead_0 : decode cX9_firstHead 0 = .ok (.iconst 0, 1) := by decide +kernel
theorem dX9_firstHead_1 : decode cX9_firstHead 1 = .ok (.istore_n 2, 1) := by decide +kernel
theorem dX9_firstHead_2 : decode cX9_firstHead 2 = .ok (.iload_n 2, 1) := by decide +kernel
theorem dX9_firstHead_3 : decode cX9_firstHead 3 = .ok (.aload_n 0, 1) := by decide +kernel
theorem dX9_firstHead_4 : decode cX9_firstHead 4 = .ok (.getfield 55, 3) := by decide +kernel
theorem dX9_firstHead_7 : decode cX9_firstHead 7 = .ok (.arraylength, 1) := by decide +kernel
theorem dX9_firstHead_8 : decode cX9_firstHead 8 = .ok (.if_icmp .ge 44, 3) := by decide +kernel
theorem dX9_firstHead_11 : decode cX9_firstHead 11 = .ok (.aload_n 0, 1) := by decide +kernel
theorem dX9_firstHead_12 : decode cX9_firstHead 12 = .ok (.getfield 55, 3) := by decide +kernel
theorem dX9_firstHead_15 : decode cX9_firstHead 15 = .ok (.iload_n 2, 1) := by decide +kernel
theorem dX9_firstHead_16 : decode cX9_firstHead 16 = .ok (.iaload, 1) := by decide +kernel
theorem dX9_firstHead_17 : decode cX9_firstHead 17 = .ok (.bipush (-4), 2) := by decide +kernel
theorem dX9_firstHead_19 : decode cX9_firstHead 19 = .ok (.if_icmp .eq 27, 3) := by decide +kernel
theorem dX9_firstHead_22 : decode cX9_firstHead 22 = .ok (.iload_n 1, 1) := by decide +kernel
theorem dX9_firstHead_23 : decode cX9_firstHead 23 = .ok (.aload_n 0, 1) := by decide +kernel
theorem dX9_firstHead_24 : decode cX9_firstHead 24 = .ok (.getfield 55, 3) := by decide +kernel
theorem dX9_firstHead_27 : decode cX9_firstHead 27 = .ok (.iload_n 2, 1) := by decide +kernel
theorem dX9_firstHead_28 : decode cX9_firstHead 28 = .ok (.iaload, 1) := by decide +kernel
theorem dX9_firstHead_29 : decode cX9_firstHead 29 = .ok (.iadd, 1) := by decide +kernel
theorem dX9_firstHead_30 : decode cX9_firstHead 30 = .ok (.iconst 0, 1) := by decide +kernel
theorem dX9_firstHead_31 : decode cX9_firstHead 31 = .ok (.invokestatic 253, 3) := by decide +kernel
theorem dX9_firstHead_34 : decode cX9_firstHead 34 = .ok (.aload_n 0, 1) := by decide +kernel
theorem dX9_firstHead_35 : decode cX9_firstHead 35 = .ok (.getfield 19, 3) := by decide +kernel
theorem dX9_firstHead_38 : decode cX9_firstHead 38 = .ok (.getfield 147, 3) := by decide +kernel
theorem dX9_firstHead_41 : decode cX9_firstHead 41 = .ok (.if_icmp .gt 5, 3) := by decide +kernel
theorem dX9_firstHead_44 : decode cX9_firstHead 44 = .ok (.iload_n 2, 1) := by decide +kernel
theorem dX9_firstHead_45 : decode cX9_firstHead 45 = .ok (.ireturn, 1) := by decide +kernel
theorem dX9_firstHead_46 : decode cX9_firstHead 46 = .ok (.iinc 2 1, 3) := by decide +kernel
theorem dX9_firstHead_49 : decode cX9_firstHead 49 = .ok (.goto (-47), 3) := by decide +kernel
theorem dX9_firstHead_52 : decode cX9_firstHead 52 = .ok (.bipush (-4), 2) := by decide +kernel
theorem dX9_firstHead_54 : decode cX9_firstHead 54 = .ok (.ireturn, 1) := by decide +kernel
theorem dX10_init_0 : decode cX10_init 0 = .ok (.aload_n 0, 1) := by decide +kernel
theorem dX10_init_1 : decode cX10_init 1 = .ok (.invokespecial 1, 3) := by decide +kernel
theorem dX10_init_4 : decode cX10_init 4 = .ok (.aload_n 0, 1) := by decide +kernel
theorem dX10_init_5 : decode cX10_init 5 = .ok (.bipush 120, 2) := by decide +kernel
theorem dX10_init_7 : decode cX10_init 7 = .ok (.newarray .int, 2) := by decide +kernel
theorem dX10_init_9 : decode cX10_init 9 = .ok (.putfield 7, 3) := by decide +kernel
theorem dX10_init_12 : decode cX10_init 12 = .ok (.aload_n 0, 1) := by decide +kernel
theorem dX10_init_13 : decode cX10_init 13 = .ok (.iconst 2, 1) := by decide +kernel
theorem dX10_init_14 : decode cX10_init 14 = .ok (.newarray .int, 2) := by decide +kernel
theorem dX10_init_16 : decode cX10_init 16 = .ok (.putfield 13, 3) := by decide +kernel
theorem dX10_init_19 : decode cX10_init 19 = .ok (.aload_n 0, 1) := by decide +kernel
theorem dX10_init_20 : decode cX10_init 20 = .ok (.bipush 18, 2) := by decide +kernel
theorem dX10_init_22 : decode cX10_init 22 = .ok (.newarray .int, 2) := by decide +kernel
theorem dX10_init_24 : decode cX10_init 24 = .ok (.putfield 16, 3) := by decide +kernel
theorem dX10_init_27 : decode cX10_init 27 = .ok (.aload_n 0, 1) := by decide +kernel
theorem dX10_init_28 : decode cX10_init 28 = .ok (.iconst 2, 1) := by decide +kernel
theorem dX10_init_29 : decode cX10_init 29 = .ok (.newarray .int, 2) := by decide +kernel
theorem dX10_init_31 : decode cX10_init 31 = .ok (.putfield 19, 3) := by decide +kernel
theorem dX10_init_34 : decode cX10_init 34 = .ok (.aload_n 0, 1) := by decide +kernel
theorem dX10_init_35 : decode cX10_init 35 = .ok (.iconst 4, 1) := by decide +kernel
theorem dX10_init_36 : decode cX10_init 36 = .ok (.newarray .int, 2) := by decide +kernel
theorem dX10_init_38 : decode cX10_init 38 = .ok (.putfield 22, 3) := by decide +kernel
theorem dX10_init_41 : decode cX10_init 41 = .ok (.aload_n 0, 1) := by decide +kernel
theorem dX10_init_42 : decode cX10_init 42 = .ok (.iconst 4, 1) := by decide +kernel
theorem dX10_init_43 : decode cX10_init 43 = .ok (.newarray .int, 2) := by decide +kernel
theorem dX10_init_45 : decode cX10_init 45 = .ok (.putfield 25, 3) := by decide +kernel
theorem dX10_init_48 : decode cX10_init 48 = .ok (.aload_n 0, 1) := by decide +kernel
theorem dX10_init_49 : decode cX10_init 49 = .ok (.iconst 2, 1) := by decide +kernel
theorem dX10_init_50 : decode cX10_init 50 = .ok (.newarray .int, 2) := by decide +kernel
theorem dX10_init_52 : decode cX10_init 52 = .ok (.putfield 28, 3) := by decide +kernel
theorem dX10_init_55 : decode cX10_init 55 = .ok (.aload_n 0, 1) := by decide +kernel
theorem dX10_init_56 : decode cX10_init 56 = .ok (.iconst 2, 1) := by decide +kernel
theorem dX10_init_57 : decode cX10_init 57 = .ok (.newarray .int, 2) := by decide +kernel
theorem dX10_init_59 : decode cX10_init 59 = .ok (.putfield 31, 3) := by decide +kernel
theorem dX10_init_62 : decode cX10_init 62 = .ok (.aload_n 0, 1) := by decide +kernel
theorem dX10_init_63 : decode cX10_init 63 = .ok (.bipush 12, 2) := by decide +kernel
theorem dX10_init_65 : decode cX10_init 65 = .ok (.newarray .int, 2) := by decide +kernel
theorem dX10_init_67 : decode cX10_init 67 = .ok (.putfield 34, 3) := by decide +kernel
theorem dX10_init_70 : decode cX10_init 70 = .ok (.aload_n 0, 1) := by decide +kernel
theorem dX10_init_71 : decode cX10_init 71 = .ok (.sipush 720, 3) := by decide +kernel
theorem dX10_init_74 : decode cX10_init 74 = .ok (.newarray .int, 2) := by decide +kernel
theorem dX10_init_76 : decode cX10_init 76 = .ok (.putfield 37, 3) := by decide +kernel
theorem dX10_init_79 : decode cX10_init 79 = .ok (.aload_n 0, 1) := by decide +kernel
theorem dX10_init_80 : decode cX10_init 80 = .ok (.iconst 3, 1) := by decide +kernel
theorem dX10_init_81 : decode cX10_init 81 = .ok (.newarray .int, 2) := by decide +kernel
theorem dX10_init_83 : decode cX10_init 83 = .ok (.putfield 40, 3) := by decide +kernel
theorem dX10_init_86 : decode cX10_init 86 = .ok (.aload_n 0, 1) := by decide +kernel
theorem dX10_init_87 : decode cX10_init 87 = .ok (.sipush 360, 3) := by decide +kernel
theorem dX10_init_90 : decode cX10_init 90 = .ok (.newarray .int, 2) := by decide +kernel
theorem dX10_init_92 : decode cX10_init 92 = .ok (.putfield 43, 3) := by decide +kernel
theorem dX10_init_95 : decode cX10_init 95 = .ok (.aload_n 0, 1) := by decide +kernel
theorem dX10_init_96 : decode cX10_init 96 = .ok (.iconst 3, 1) := by decide +kernel
theorem dX10_init_97 : decode cX10_init 97 = .ok (.newarray .int, 2) := by decide +kernel
theorem dX10_init_99 : decode cX10_init 99 = .ok (.putfield 46, 3) := by decide +kernel
theorem dX10_init_102 : decode cX10_init 102 = .ok (.aload_n 0, 1) := by decide +kernel
theorem dX10_init_103 : decode cX10_init 103 = .ok (.bipush (-4), 2) := by decide +kernel
theorem dX10_init_105 : decode cX10_init 105 = .ok (.putfield 49, 3) := by decide +kernel
theorem dX10_init_108 : decode cX10_init 108 = .ok (.aload_n 0, 1) := by decide +kernel
theorem dX10_init_109 : decode cX10_init 109 = .ok (.ldc 53, 2) := by decide +kernel
theorem dX10_init_111 : decode cX10_init 111 = .ok (.newarray .int, 2) := by decide +kernel
theorem dX10_init_113 : decode cX10_init 113 = .ok (.putfield 54, 3) := by decide +kernel
theorem dX10_init_116 : decode cX10_init 116 = .ok (.aload_n 0, 1) := by decide +kernel
theorem dX10_init_117 : decode cX10_init 117 = .ok (.ldc 53, 2) := by decide +kernel
theorem dX10_init_119 : decode cX10_init 119 = .ok (.newarray .int, 2) := by decide +kernel
theorem dX10_init_121 : decode cX10_init 121 = .ok (.putfield 57, 3) := by decide +kernel
theorem dX10_init_124 : decode cX10_init 124 = .ok (.aload_n 0, 1) := by decide +kernel
theorem dX10_init_125 : decode cX10_init 125 = .ok (.iconst 4, 1) := by decide +kernel
theorem dX10_init_126 : decode cX10_init 126 = .ok (.newarray .int, 2) := by decide +kernel
theorem dX10_init_128 : decode cX10_init 128 = .ok (.putfield 60, 3) := by decide +kernel
theorem dX10_init_131 : decode cX10_init 131 = .ok (.iconst 0, 1) := by decide +kernel
theorem dX10_init_132 : decode cX10_init 132 = .ok (.istore_n 1, 1) := by decide +kernel
theorem dX10_init_133 : decode cX10_init 133 = .ok (.iload_n 1, 1) := by decide +kernel
theorem dX10_init_134 : decode cX10_init 134 = .ok (.bipush 6, 2) := by decide +kernel
theorem dX10_init_136 : decode cX10_init 136 = .ok (.if_icmp .ge 16, 3) := by decide +kernel
theorem dX10_init_139 : decode cX10_init 139 = .ok (.aload_n 0, 1) := by decide +kernel
theorem dX10_init_140 : decode cX10_init 140 = .ok (.getfield 16, 3) := by decide +kernel
theorem dX10_init_143 : decode cX10_init 143 = .ok (.iload_n 1, 1) := by decide +kernel
theorem dX10_init_144 : decode cX10_init 144 = .ok (.iconst 1, 1) := by decide +kernel
theorem dX10_init_145 : decode cX10_init 145 = .ok (.iastore, 1) := by decide +kernel
theorem dX10_init_146 : decode cX10_init 146 = .ok (.iinc 1 1, 3) := by decide +kernel
theorem dX10_init_149 : decode cX10_init 149 = .ok (.goto (-16), 3) := by decide +kernel
theorem dX10_init_152 : decode cX10_init 152 = .ok (.aload_n 0, 1) := by decide +kernel
theorem dX10_init_153 : decode cX10_init 153 = .ok (.getfield 13, 3) := by decide +kernel
theorem dX10_init_156 : decode cX10_init 156 = .ok (.iconst 0, 1) := by decide +kernel
theorem dX10_init_157 : decode cX10_init 157 = .ok (.iconst 2, 1) := by decide +kernel
theorem dX10_init_158 : decode cX10_init 158 = .ok (.iastore, 1) := by decide +kernel
theorem dX10_init_159 : decode cX10_init 159 = .ok (.aload_n 0, 1) := by decide +kernel
theorem dX10_init_160 : decode cX10_init 160 = .ok (.getfield 19, 3) := by decide +kernel
theorem dX10_init_163 : decode cX10_init 163 = .ok (.iconst 0, 1) := by decide +kernel
theorem dX10_init_164 : decode cX10_init 164 = .ok (.iconst 1, 1) := by decide +kernel
theorem dX10_init_165 : decode cX10_init 165 = .ok (.iastore, 1) := by decide +kernel
theorem dX10_init_166 : decode cX10_init 166 = .ok (.aload_n 0, 1) := by decide +kernel
theorem dX10_init_167 : decode cX10_init 167 = .ok (.getfield 22, 3) := by decide +kernel
theorem dX10_init_170 : decode cX10_init 170 = .ok (.iconst 0, 1) := by decide +kernel
theorem dX10_init_171 : decode cX10_init 171 = .ok (.bipush 10, 2) := by decide +kernel
theorem dX10_init_173 : decode cX10_init 173 = .ok (.iastore, 1) := by decide +kernel
theorem dX10_init_174 : decode cX10_init 174 = .ok (.aload_n 0, 1) := by decide +kernel
theorem dX10_init_175 : decode cX10_init 175 = .ok (.getfield 31, 3) := by decide +kernel
theorem dX10_init_178 : decode cX10_init 178 = .ok (.iconst 0, 1) := by decide +kernel
theorem dX10_init_179 : decode cX10_init 179 = .ok (.bipush 10, 2) := by decide +kernel
theorem dX10_init_181 : decode cX10_init 181 = .ok (.iastore, 1) := by decide +kernel
theorem dX10_init_182 : decode cX10_init 182 = .ok (.return_, 1) := by decide +kernel
theorem dX10_in_0 : decode cX10_in 0 = .ok (.lload_n 0, 1) := by decide +kernel
theorem dX10_in_1 : decode cX10_in 1 = .ok (.lload_n 2, 1) := by decide +kernel
theorem dX10_in_2 : decode cX10_in 2 = .ok (.lcmp, 1) := by decide +kernel
theorem dX10_in_3 : decode cX10_in 3 = .ok (.ifCond .lt 14, 3) := by decide +kernel
theorem dX10_in_6 : decode cX10_in 6 = .ok (.lload_n 0, 1) := by decide +kernel
theorem dX10_in_7 : decode cX10_in 7 = .ok (.lload 4, 2) := by decide +kernel
theorem dX10_in_9 : decode cX10_in 9 = .ok (.lcmp, 1) := by decide +kernel
theorem dX10_in_10 : decode cX10_in 10 = .ok (.ifCond .gt 7, 3) := by decide +kernel
theorem dX10_in_13 : decode cX10_in 13 = .ok (.iconst 1, 1) := by decide +kernel
theorem dX10_in_14 : decode cX10_in 14 = .ok (.goto 4, 3) := by decide +kernel
theorem dX10_in_17 : decode cX10_in 17 = .ok (.iconst 0, 1) := by decide +kernel
theorem dX10_in_18 : decode cX10_in 18 = .ok (.ireturn, 1) := by decide +kernel
theorem dX10_write_0 : decode cX10_write 0 = .ok (.iload_n 1, 1) := by decide +kernel
theorem dX10_write_1 : decode cX10_write 1 = .ok (.i2l, 1) := by decide +kernel
theorem dX10_write_2 : decode cX10_write 2 = .ok (.lconst 1, 1) := by decide +kernel
theorem dX10_write_3 : decode cX10_write 3 = .ok (.ldc2_w 63, 3) := by decide +kernel
theorem dX10_write_6 : decode cX10_write 6 = .ok (.invokestatic 65, 3) := by decide +kernel
theorem dX10_write_9 : decode cX10_write 9 = .ok (.ifCond .ne 5, 3) := by decide +kernel
theorem dX10_write_12 : decode cX10_write 12 = .ok (.iconst (-1), 1) := by decide +kernel
theorem dX10_write_13 : decode cX10_write 13 = .ok (.ireturn, 1) := by decide +kernel
theorem dX10_write_14 : decode cX10_write 14 = .ok (.aload_n 0, 1) := by decide +kernel
theorem dX10_write_15 : decode cX10_write 15 = .ok (.getfield 69, 3) := by decide +kernel
theorem dX10_write_18 : decode cX10_write 18 = .ok (.iload_n 1, 1) := by decide +kernel
theorem dX10_write_19 : decode cX10_write 19 = .ok (.iadd, 1) := by decide +kernel
theorem dX10_write_20 : decode cX10_write 20 = .ok (.bipush 120, 2) := by decide +kernel
theorem dX10_write_22 : decode cX10_write 22 = .ok (.if_icmp .le 6, 3) := by decide +kernel
theorem dX10_write_25 : decode cX10_write 25 = .ok (.bipush (-3), 2) := by decide +kernel
theorem dX10_write_27 : decode cX10_write 27 = .ok (.ireturn, 1) := by decide +kernel
theorem dX10_write_28 : decode cX10_write 28 = .ok (.iload_n 1, 1) := by decide +kernel
theorem dX10_write_29 : decode cX10_write 29 = .ok (.iconst 1, 1) := by decide +kernel
theorem dX10_write_30 : decode cX10_write 30 = .ok (.isub, 1) := by decide +kernel
theorem dX10_write_31 : decode cX10_write 31 = .ok (.istore 4, 2) := by decide +kernel
theorem dX10_write_33 : decode cX10_write 33 = .ok (.iload 4, 2) := by decide +kernel
theorem dX10_write_35 : decode cX10_write 35 = .ok (.ifCond .lt 40, 3) := by decide +kernel
theorem dX10_write_38 : decode cX10_write 38 = .ok (.aload_n 0, 1) := by decide +kernel
theorem dX10_write_39 : decode cX10_write 39 = .ok (.getfield 7, 3) := by decide +kernel
theorem dX10_write_42 : decode cX10_write 42 = .ok (.aload_n 0, 1) := by decide +kernel
theorem dX10_write_43 : decode cX10_write 43 = .ok (.getfield 69, 3) := by decide +kernel
theorem dX10_write_46 : decode cX10_write 46 = .ok (.lload_n 2, 1) := by decide +kernel
theorem dX10_write_47 : decode cX10_write 47 = .ok (.bipush 8, 2) := by decide +kernel
theorem dX10_write_49 : decode cX10_write 49 = .ok (.iload 4, 2) := by decide +kernel
theorem dX10_write_51 : decode cX10_write 51 = .ok (.imul, 1) := by decide +kernel
theorem dX10_write_52 : decode cX10_write 52 = .ok (.lshr, 1) := by decide +kernel
theorem dX10_write_53 : decode cX10_write 53 = .ok (.ldc2_w 72, 3) := by decide +kernel
theorem dX10_write_56 : decode cX10_write 56 = .ok (.land, 1) := by decide +kernel
theorem dX10_write_57 : decode cX10_write 57 = .ok (.l2i, 1) := by decide +kernel
theorem dX10_write_58 : decode cX10_write 58 = .ok (.iastore, 1) := by decide +kernel
theorem dX10_write_59 : decode cX10_write 59 = .ok (.aload_n 0, 1) := by decide +kernel
theorem dX10_write_60 : decode cX10_write 60 = .ok (.dup, 1) := by decide +kernel
theorem dX10_write_61 : decode cX10_write 61 = .ok (.getfield 69, 3) := by decide +kernel
theorem dX10_write_64 : decode cX10_write 64 = .ok (.iconst 1, 1) := by decide +kernel
theorem dX10_write_65 : decode cX10_write 65 = .ok (.iadd, 1) := by decide +kernel
theorem dX10_write_66 : decode cX10_write 66 = .ok (.putfield 69, 3) := by decide +kernel
theorem dX10_write_69 : decode cX10_write 69 = .ok (.iinc 4 (-1), 3) := by decide +kernel
theorem dX10_write_72 : decode cX10_write 72 = .ok (.goto (-39), 3) := by decide +kernel
theorem dX10_write_75 : decode cX10_write 75 = .ok (.aload_n 0, 1) := by decide +kernel
theorem dX10_write_76 : decode cX10_write 76 = .ok (.getfield 69, 3) := by decide +kernel
theorem dX10_write_79 : decode cX10_write 79 = .ok (.ireturn, 1) := by decide +kernel
theorem dX10_wipe_0 : decode cX10_wipe 0 = .ok (.aload_n 0, 1) := by decide +kernel
theorem dX10_wipe_1 : decode cX10_wipe 1 = .ok (.getfield 69, 3) := by decide +kernel
theorem dX10_wipe_4 : decode cX10_wipe 4 = .ok (.istore_n 1, 1) := by decide +kernel
theorem dX10_wipe_5 : decode cX10_wipe 5 = .ok (.aload_n 0, 1) := by decide +kernel
theorem dX10_wipe_6 : decode cX10_wipe 6 = .ok (.iconst 0, 1) := by decide +kernel
theorem dX10_wipe_7 : decode cX10_wipe 7 = .ok (.putfield 69, 3) := by decide +kernel
theorem dX10_wipe_10 : decode cX10_wipe 10 = .ok (.iload_n 1, 1) := by decide +kernel
theorem dX10_wipe_11 : decode cX10_wipe 11 = .ok (.ireturn, 1) := by decide +kernel
theorem dX10_byteAt_0 : decode cX10_byteAt 0 = .ok (.iload_n 1, 1) := by decide +kernel
theorem dX10_byteAt_1 : decode cX10_byteAt 1 = .ok (.aload_n 0, 1) := by decide +kernel
theorem dX10_byteAt_2 : decode cX10_byteAt 2 = .ok (.getfield 69, 3) := by decide +kernel
theorem dX10_byteAt_5 : decode cX10_byteAt 5 = .ok (.if_icmp .ge 12, 3) := by decide +kernel
theorem dX10_byteAt_8 : decode cX10_byteAt 8 = .ok (.aload_n 0, 1) := by decide +kernel
theorem dX10_byteAt_9 : decode cX10_byteAt 9 = .ok (.getfield 7, 3) := by decide +kernel
theorem dX10_byteAt_12 : decode cX10_byteAt 12 = .ok (.iload_n 1, 1) := by decide +kernel
theorem dX10_byteAt_13 : decode cX10_byteAt 13 = .ok (.iaload, 1) := by decide +kernel
theorem dX10_byteAt_14 : decode cX10_byteAt 14 = .ok (.goto 4, 3) := by decide +kernel
theorem dX10_byteAt_17 : decode cX10_byteAt 17 = .ok (.iconst 0, 1) := by decide +kernel
theorem dX10_byteAt_18 : decode cX10_byteAt 18 = .ok (.ireturn, 1) := by decide +kernel
theorem dX10_figures_0 : decode cX10_figures 0 = .ok (.iconst 0, 1) := by decide +kernel
theorem dX10_figures_1 : decode cX10_figures 1 = .ok (.istore_n 2, 1) := by decide +kernel
theorem dX10_figures_2 : decode cX10_figures 2 = .ok (.iload_n 2, 1) := by decide +kernel
theorem dX10_figures_3 : decode cX10_figures 3 = .ok (.iload_n 1, 1) := by decide +kernel
theorem dX10_figures_4 : decode cX10_figures 4 = .ok (.if_icmp .ge 191, 3) := by decide +kernel
theorem dX10_figures_7 : decode cX10_figures 7 = .ok (.aload_n 0, 1) := by decide +kernel
theorem dX10_figures_8 : decode cX10_figures 8 = .ok (.aload_n 0, 1) := by decide +kernel
theorem dX10_figures_9 : decode cX10_figures 9 = .ok (.getfield 74, 3) := by decide +kernel
theorem dX10_figures_12 : decode cX10_figures 12 = .ok (.invokevirtual 77, 3) := by decide +kernel
theorem dX10_figures_15 : decode cX10_figures 15 = .ok (.bipush 45, 2) := by decide +kernel
theorem dX10_figures_17 : decode cX10_figures 17 = .ok (.if_icmp .ne 7, 3) := by decide +kernel
theorem dX10_figures_20 : decode cX10_figures 20 = .ok (.iconst 1, 1) := by decide +kernel
theorem dX10_figures_21 : decode cX10_figures 21 = .ok (.goto 4, 3) := by decide +kernel
theorem dX10_figures_24 : decode cX10_figures 24 = .ok (.iconst 0, 1) := by decide +kernel
theorem dX10_figures_25 : decode cX10_figures 25 = .ok (.istore_n 3, 1) := by decide +kernel
theorem dX10_figures_26 : decode cX10_figures 26 = .ok (.aload_n 0, 1) := by decide +kernel
theorem dX10_figures_27 : decode cX10_figures 27 = .ok (.dup, 1) := by decide +kernel
theorem dX10_figures_28 : decode cX10_figures 28 = .ok (.getfield 74, 3) := by decide +kernel
theorem dX10_figures_31 : decode cX10_figures 31 = .ok (.iload_n 3, 1) := by decide +kernel
theorem dX10_figures_32 : decode cX10_figures 32 = .ok (.ifCond .eq 7, 3) := by decide +kernel
theorem dX10_figures_35 : decode cX10_figures 35 = .ok (.iconst 1, 1) := by decide +kernel
theorem dX10_figures_36 : decode cX10_figures 36 = .ok (.goto 4, 3) := by decide +kernel
theorem dX10_figures_39 : decode cX10_figures 39 = .ok (.iconst 0, 1) := by decide +kernel
theorem dX10_figures_40 : decode cX10_figures 40 = .ok (.iadd, 1) := by decide +kernel
theorem dX10_figures_41 : decode cX10_figures 41 = .ok (.putfield 74, 3) := by decide +kernel
theorem dX10_figures_44 : decode cX10_figures 44 = .ok (.iconst 0, 1) := by decide +kernel
theorem dX10_figures_45 : decode cX10_figures 45 = .ok (.istore 4, 2) := by decide +kernel
theorem dX10_figures_47 : decode cX10_figures 47 = .ok (.iconst 0, 1) := by decide +kernel
theorem dX10_figures_48 : decode cX10_figures 48 = .ok (.istore 5, 2) := by decide +kernel
theorem dX10_figures_50 : decode cX10_figures 50 = .ok (.aload_n 0, 1) := by decide +kernel
theorem dX10_figures_51 : decode cX10_figures 51 = .ok (.aload_n 0, 1) := by decide +kernel
theorem dX10_figures_52 : decode cX10_figures 52 = .ok (.getfield 74, 3) := by decide +kernel
theorem dX10_figures_55 : decode cX10_figures 55 = .ok (.invokevirtual 77, 3) := by decide +kernel
theorem dX10_figures_58 : decode cX10_figures 58 = .ok (.i2l, 1) := by decide +kernel
theorem dX10_figures_59 : decode cX10_figures 59 = .ok (.ldc2_w 81, 3) := by decide +kernel
theorem dX10_figures_62 : decode cX10_figures 62 = .ok (.ldc2_w 83, 3) := by decide +kernel
theorem dX10_figures_65 : decode cX10_figures 65 = .ok (.invokestatic 65, 3) := by decide +kernel
theorem dX10_figures_68 : decode cX10_figures 68 = .ok (.ifCond .eq 44, 3) := by decide +kernel
theorem dX10_figures_71 : decode cX10_figures 71 = .ok (.iload 4, 2) := by decide +kernel
theorem dX10_figures_73 : decode cX10_figures 73 = .ok (.iconst 5, 1) := by decide +kernel
theorem dX10_figures_74 : decode cX10_figures 74 = .ok (.if_icmp .ge 38, 3) := by decide +kernel
theorem dX10_figures_77 : decode cX10_figures 77 = .ok (.bipush 10, 2) := by decide +kernel
theorem dX10_figures_79 : decode cX10_figures 79 = .ok (.iload 5, 2) := by decide +kernel
theorem dX10_figures_81 : decode cX10_figures 81 = .ok (.imul, 1) := by decide +kernel
theorem dX10_figures_82 : decode cX10_figures 82 = .ok (.aload_n 0, 1) := by decide +kernel
theorem dX10_figures_83 : decode cX10_figures 83 = .ok (.aload_n 0, 1) := by decide +kernel
theorem dX10_figures_84 : decode cX10_figures 84 = .ok (.getfield 74, 3) := by decide +kernel
theorem dX10_figures_87 : decode cX10_figures 87 = .ok (.invokevirtual 77, 3) := by decide +kernel
theorem dX10_figures_90 : decode cX10_figures 90 = .ok (.iadd, 1) := by decide +kernel
theorem dX10_figures_91 : decode cX10_figures 91 = .ok (.bipush 48, 2) := by decide +kernel
theorem dX10_figures_93 : decode cX10_figures 93 = .ok (.isub, 1) := by decide +kernel
theorem dX10_figures_94 : decode cX10_figures 94 = .ok (.istore 5, 2) := by decide +kernel
theorem dX10_figures_96 : decode cX10_figures 96 = .ok (.iinc 4 1, 3) := by decide +kernel
theorem dX10_figures_99 : decode cX10_figures 99 = .ok (.aload_n 0, 1) := by decide +kernel
theorem dX10_figures_100 : decode cX10_figures 100 = .ok (.dup, 1) := by decide +kernel
theorem dX10_figures_101 : decode cX10_figures 101 = .ok (.getfield 74, 3) := by decide +kernel
theorem dX10_figures_104 : decode cX10_figures 104 = .ok (.iconst 1, 1) := by decide +kernel
theorem dX10_figures_105 : decode cX10_figures 105 = .ok (.iadd, 1) := by decide +kernel
theorem dX10_figures_106 : decode cX10_figures 106 = .ok (.putfield 74, 3) := by decide +kernel
theorem dX10_figures_109 : decode cX10_figures 109 = .ok (.goto (-59), 3) := by decide +kernel
theorem dX10_figures_112 : decode cX10_figures 112 = .ok (.iload 4, 2) := by decide +kernel
theorem dX10_figures_114 : decode cX10_figures 114 = .ok (.i2l, 1) := by decide +kernel
theorem dX10_figures_115 : decode cX10_figures 115 = .ok (.lconst 1, 1) := by decide +kernel
theorem dX10_figures_116 : decode cX10_figures 116 = .ok (.ldc2_w 85, 3) := by decide +kernel
theorem dX10_figures_119 : decode cX10_figures 119 = .ok (.invokestatic 65, 3) := by decide +kernel
theorem dX10_figures_122 : decode cX10_figures 122 = .ok (.ifCond .eq 37, 3) := by decide +kernel
theorem dX10_figures_125 : decode cX10_figures 125 = .ok (.iload_n 3, 1) := by decide +kernel
theorem dX10_figures_126 : decode cX10_figures 126 = .ok (.ifCond .eq 8, 3) := by decide +kernel
theorem dX10_figures_129 : decode cX10_figures 129 = .ok (.iload 5, 2) := by decide +kernel
theorem dX10_figures_131 : decode cX10_figures 131 = .ok (.ifCond .eq 28, 3) := by decide +kernel
theorem dX10_figures_134 : decode cX10_figures 134 = .ok (.aload_n 0, 1) := by decide +kernel
theorem dX10_figures_135 : decode cX10_figures 135 = .ok (.aload_n 0, 1) := by decide +kernel
theorem dX10_figures_136 : decode cX10_figures 136 = .ok (.getfield 74, 3) := by decide +kernel
theorem dX10_figures_139 : decode cX10_figures 139 = .ok (.invokevirtual 77, 3) := by decide +kernel
theorem dX10_figures_142 : decode cX10_figures 142 = .ok (.iload_n 2, 1) := by decide +kernel
theorem dX10_figures_143 : decode cX10_figures 143 = .ok (.iload_n 1, 1) := by decide +kernel
theorem dX10_figures_144 : decode cX10_figures 144 = .ok (.iconst 1, 1) := by decide +kernel
theorem dX10_figures_145 : decode cX10_figures 145 = .ok (.isub, 1) := by decide +kernel
theorem dX10_figures_146 : decode cX10_figures 146 = .ok (.if_icmp .ge 8, 3) := by decide +kernel
theorem dX10_figures_149 : decode cX10_figures 149 = .ok (.bipush 44, 2) := by decide +kernel
theorem dX10_figures_151 : decode cX10_figures 151 = .ok (.goto 5, 3) := by decide +kernel
theorem dX10_figures_154 : decode cX10_figures 154 = .ok (.bipush 59, 2) := by decide +kernel
theorem dX10_figures_156 : decode cX10_figures 156 = .ok (.if_icmp .eq 5, 3) := by decide +kernel
theorem dX10_figures_159 : decode cX10_figures 159 = .ok (.iconst 0, 1) := by decide +kernel
theorem dX10_figures_160 : decode cX10_figures 160 = .ok (.ireturn, 1) := by decide +kernel
theorem dX10_figures_161 : decode cX10_figures 161 = .ok (.aload_n 0, 1) := by decide +kernel
theorem dX10_figures_162 : decode cX10_figures 162 = .ok (.getfield 46, 3) := by decide +kernel
theorem dX10_figures_165 : decode cX10_figures 165 = .ok (.iload_n 2, 1) := by decide +kernel
theorem dX10_figures_166 : decode cX10_figures 166 = .ok (.iload_n 3, 1) := by decide +kernel
theorem dX10_figures_167 : decode cX10_figures 167 = .ok (.ifCond .eq 9, 3) := by decide +kernel
theorem dX10_figures_170 : decode cX10_figures 170 = .ok (.iload 5, 2) := by decide +kernel
theorem dX10_figures_172 : decode cX10_figures 172 = .ok (.ineg, 1) := by decide +kernel
theorem dX10_figures_173 : decode cX10_figures 173 = .ok (.goto 5, 3) := by decide +kernel
theorem dX10_figures_176 : decode cX10_figures 176 = .ok (.iload 5, 2) := by decide +kernel
theorem dX10_figures_178 : decode cX10_figures 178 = .ok (.iastore, 1) := by decide +kernel
theorem dX10_figures_179 : decode cX10_figures 179 = .ok (.aload_n 0, 1) := by decide +kernel
theorem dX10_figures_180 : decode cX10_figures 180 = .ok (.dup, 1) := by decide +kernel
theorem dX10_figures_181 : decode cX10_figures 181 = .ok (.getfield 74, 3) := by decide +kernel
theorem dX10_figures_184 : decode cX10_figures 184 = .ok (.iconst 1, 1) := by decide +kernel
theorem dX10_figures_185 : decode cX10_figures 185 = .ok (.iadd, 1) := by decide +kernel
theorem dX10_figures_186 : decode cX10_figures 186 = .ok (.putfield 74, 3) := by decide +kernel
theorem dX10_figures_189 : decode cX10_figures 189 = .ok (.iinc 2 1, 3) := by decide +kernel
theorem dX10_figures_192 : decode cX10_figures 192 = .ok (.goto (-190), 3) := by decide +kernel
theorem dX10_figures_195 : decode cX10_figures 195 = .ok (.iconst 1, 1) := by decide +kernel
theorem dX10_figures_196 : decode cX10_figures 196 = .ok (.ireturn, 1) := by decide +kernel
theorem dX10_partItem_0 : decode cX10_partItem 0 = .ok (.aload_n 0, 1) := by decide +kernel
theorem dX10_partItem_1 : decode cX10_partItem 1 = .ok (.iconst 3, 1) := by decide +kernel
theorem dX10_partItem_2 : decode cX10_partItem 2 = .ok (.invokevirtual 87, 3) := by decide +kernel
theorem dX10_partItem_5 : decode cX10_partItem 5 = .ok (.ifCond .eq 13, 3) := by decide +kernel
theorem dX10_partItem_8 : decode cX10_partItem 8 = .ok (.aload_n 0, 1) := by decide +kernel
theorem dX10_partItem_9 : decode cX10_partItem 9 = .ok (.getfield 13, 3) := by decide +kernel
theorem dX10_partItem_12 : decode cX10_partItem 12 = .ok (.iconst 1, 1) := by decide +kernel
theorem dX10_partItem_13 : decode cX10_partItem 13 = .ok (.iaload, 1) := by decide +kernel
theorem dX10_partItem_14 : decode cX10_partItem 14 = .ok (.iconst 3, 1) := by decide +kernel
theorem dX10_partItem_15 : decode cX10_partItem 15 = .ok (.if_icmp .ne 5, 3) := by decide +kernel
theorem dX10_partItem_18 : decode cX10_partItem 18 = .ok (.iconst 0, 1) := by decide +kernel
theorem dX10_partItem_19 : decode cX10_partItem 19 = .ok (.ireturn, 1) := by decide +kernel
theorem dX10_partItem_20 : decode cX10_partItem 20 = .ok (.iconst 0, 1) := by decide +kernel
theorem dX10_partItem_21 : decode cX10_partItem 21 = .ok (.istore_n 1, 1) := by decide +kernel
theorem dX10_partItem_22 : decode cX10_partItem 22 = .ok (.iload_n 1, 1) := by decide +kernel
theorem dX10_partItem_23 : decode cX10_partItem 23 = .ok (.iconst 3, 1) := by decide +kernel
theorem dX10_partItem_24 : decode cX10_partItem 24 = .ok (.if_icmp .ge 52, 3) := by decide +kernel
theorem dX10_partItem_27 : decode cX10_partItem 27 = .ok (.aload_n 0, 1) := by decide +kernel
theorem dX10_partItem_28 : decode cX10_partItem 28 = .ok (.getfield 46, 3) := by decide +kernel
theorem dX10_partItem_31 : decode cX10_partItem 31 = .ok (.iload_n 1, 1) := by decide +kernel
theorem dX10_partItem_32 : decode cX10_partItem 32 = .ok (.iaload, 1) := by decide +kernel
theorem dX10_partItem_33 : decode cX10_partItem 33 = .ok (.i2l, 1) := by decide +kernel
theorem dX10_partItem_34 : decode cX10_partItem 34 = .ok (.lconst 1, 1) := by decide +kernel
theorem dX10_partItem_35 : decode cX10_partItem 35 = .ok (.ldc2_w 91, 3) := by decide +kernel
theorem dX10_partItem_38 : decode cX10_partItem 38 = .ok (.invokestatic 65, 3) := by decide +kernel
theorem dX10_partItem_41 : decode cX10_partItem 41 = .ok (.ifCond .ne 5, 3) := by decide +kernel
theorem dX10_partItem_44 : decode cX10_partItem 44 = .ok (.iconst 0, 1) := by decide +kernel
theorem dX10_partItem_45 : decode cX10_partItem 45 = .ok (.ireturn, 1) := by decide +kernel
theorem dX10_partItem_46 : decode cX10_partItem 46 = .ok (.aload_n 0, 1) := by decide +kernel
theorem dX10_partItem_47 : decode cX10_partItem 47 = .ok (.getfield 16, 3) := by decide +kernel
theorem dX10_partItem_50 : decode cX10_partItem 50 = .ok (.bipush 9, 2) := by decide +kernel
theorem dX10_partItem_52 : decode cX10_partItem 52 = .ok (.iconst 3, 1) := by decide +kernel
theorem dX10_partItem_53 : decode cX10_partItem 53 = .ok (.aload_n 0, 1) := by decide +kernel
theorem dX10_partItem_54 : decode cX10_partItem 54 = .ok (.getfield 13, 3) := by decide +kernel
theorem dX10_partItem_57 : decode cX10_partItem 57 = .ok (.iconst 1, 1) := by decide +kernel
theorem dX10_partItem_58 : decode cX10_partItem 58 = .ok (.iaload, 1) := by decide +kernel
theorem dX10_partItem_59 : decode cX10_partItem 59 = .ok (.imul, 1) := by decide +kernel
theorem dX10_partItem_60 : decode cX10_partItem 60 = .ok (.iadd, 1) := by decide +kernel
theorem dX10_partItem_61 : decode cX10_partItem 61 = .ok (.iload_n 1, 1) := by decide +kernel
theorem dX10_partItem_62 : decode cX10_partItem 62 = .ok (.iadd, 1) := by decide +kernel
theorem dX10_partItem_63 : decode cX10_partItem 63 = .ok (.aload_n 0, 1) := by decide +kernel
theorem dX10_partItem_64 : decode cX10_partItem 64 = .ok (.getfield 46, 3) := by decide +kernel
theorem dX10_partItem_67 : decode cX10_partItem 67 = .ok (.iload_n 1, 1) := by decide +kernel
theorem dX10_partItem_68 : decode cX10_partItem 68 = .ok (.iaload, 1) := by decide +kernel
theorem dX10_partItem_69 : decode cX10_partItem 69 = .ok (.iastore, 1) := by decide +kernel
theorem dX10_partItem_70 : decode cX10_partItem 70 = .ok (.iinc 1 1, 3) := by decide +kernel
theorem dX10_partItem_73 : decode cX10_partItem 73 = .ok (.goto (-51), 3) := by decide +kernel
theorem dX10_partItem_76 : decode cX10_partItem 76 = .ok (.aload_n 0, 1) := by decide +kernel
theorem dX10_partItem_77 : decode cX10_partItem 77 = .ok (.getfield 13, 3) := by decide +kernel
theorem dX10_partItem_80 : decode cX10_partItem 80 = .ok (.iconst 1, 1) := by decide +kernel
theorem dX10_partItem_81 : decode cX10_partItem 81 = .ok (.dup2, 1) := by decide +kernel
theorem dX10_partItem_82 : decode cX10_partItem 82 = .ok (.iaload, 1) := by decide +kernel
theorem dX10_partItem_83 : decode cX10_partItem 83 = .ok (.iconst 1, 1) := by decide +kernel
theorem dX10_partItem_84 : decode cX10_partItem 84 = .ok (.iadd, 1) := by decide +kernel
theorem dX10_partItem_85 : decode cX10_partItem 85 = .ok (.iastore, 1) := by decide +kernel
theorem dX10_partItem_86 : decode cX10_partItem 86 = .ok (.iconst 1, 1) := by decide +kernel
theorem dX10_partItem_87 : decode cX10_partItem 87 = .ok (.ireturn, 1) := by decide +kernel
theorem dX10_jointItem_0 : decode cX10_jointItem 0 = .ok (.aload_n 0, 1) := by decide +kernel
theorem dX10_jointItem_1 : decode cX10_jointItem 1 = .ok (.iconst 1, 1) := by decide +kernel
theorem dX10_jointItem_2 : decode cX10_jointItem 2 = .ok (.invokevirtual 87, 3) := by decide +kernel
theorem dX10_jointItem_5 : decode cX10_jointItem 5 = .ok (.ifCond .eq 30, 3) := by decide +kernel
theorem dX10_jointItem_8 : decode cX10_jointItem 8 = .ok (.aload_n 0, 1) := by decide +kernel
theorem dX10_jointItem_9 : decode cX10_jointItem 9 = .ok (.getfield 19, 3) := by decide +kernel
theorem dX10_jointItem_12 : decode cX10_jointItem 12 = .ok (.iconst 1, 1) := by decide +kernel
theorem dX10_jointItem_13 : decode cX10_jointItem 13 = .ok (.iaload, 1) := by decide +kernel
theorem dX10_jointItem_14 : decode cX10_jointItem 14 = .ok (.iconst 2, 1) := by decide +kernel
theorem dX10_jointItem_15 : decode cX10_jointItem 15 = .ok (.if_icmp .eq 20, 3) := by decide +kernel
theorem dX10_jointItem_18 : decode cX10_jointItem 18 = .ok (.aload_n 0, 1) := by decide +kernel
theorem dX10_jointItem_19 : decode cX10_jointItem 19 = .ok (.getfield 46, 3) := by decide +kernel
theorem dX10_jointItem_22 : decode cX10_jointItem 22 = .ok (.iconst 0, 1) := by decide +kernel
theorem dX10_jointItem_23 : decode cX10_jointItem 23 = .ok (.iaload, 1) := by decide +kernel
theorem dX10_jointItem_24 : decode cX10_jointItem 24 = .ok (.i2l, 1) := by decide +kernel
theorem dX10_jointItem_25 : decode cX10_jointItem 25 = .ok (.lconst 1, 1) := by decide +kernel
theorem dX10_jointItem_26 : decode cX10_jointItem 26 = .ok (.ldc2_w 93, 3) := by decide +kernel
theorem dX10_jointItem_29 : decode cX10_jointItem 29 = .ok (.invokestatic 65, 3) := by decide +kernel
theorem dX10_jointItem_32 : decode cX10_jointItem 32 = .ok (.ifCond .ne 5, 3) := by decide +kernel
theorem dX10_jointItem_35 : decode cX10_jointItem 35 = .ok (.iconst 0, 1) := by decide +kernel
theorem dX10_jointItem_36 : decode cX10_jointItem 36 = .ok (.ireturn, 1) := by decide +kernel
theorem dX10_jointItem_37 : decode cX10_jointItem 37 = .ok (.aload_n 0, 1) := by decide +kernel
theorem dX10_jointItem_38 : decode cX10_jointItem 38 = .ok (.getfield 46, 3) := by decide +kernel
theorem dX10_jointItem_41 : decode cX10_jointItem 41 = .ok (.iconst 0, 1) := by decide +kernel
theorem dX10_jointItem_42 : decode cX10_jointItem 42 = .ok (.iaload, 1) := by decide +kernel
theorem dX10_jointItem_43 : decode cX10_jointItem 43 = .ok (.istore_n 2, 1) := by decide +kernel
theorem dX10_jointItem_44 : decode cX10_jointItem 44 = .ok (.iload_n 2, 1) := by decide +kernel
theorem dX10_jointItem_45 : decode cX10_jointItem 45 = .ok (.bipush 90, 2) := by decide +kernel
theorem dX10_jointItem_47 : decode cX10_jointItem 47 = .ok (.if_icmp .gt 7, 3) := by decide +kernel
theorem dX10_jointItem_50 : decode cX10_jointItem 50 = .ok (.iconst 1, 1) := by decide +kernel
theorem dX10_jointItem_51 : decode cX10_jointItem 51 = .ok (.goto 4, 3) := by decide +kernel
theorem dX10_jointItem_54 : decode cX10_jointItem 54 = .ok (.iconst 0, 1) := by decide +kernel
theorem dX10_jointItem_55 : decode cX10_jointItem 55 = .ok (.istore_n 3, 1) := by decide +kernel
theorem dX10_jointItem_56 : decode cX10_jointItem 56 = .ok (.iload_n 1, 1) := by decide +kernel
theorem dX10_jointItem_57 : decode cX10_jointItem 57 = .ok (.ifCond .eq 87, 3) := by decide +kernel
theorem dX10_jointItem_60 : decode cX10_jointItem 60 = .ok (.iload_n 2, 1) := by decide +kernel
theorem dX10_jointItem_61 : decode cX10_jointItem 61 = .ok (.bipush 30, 2) := by decide +kernel
theorem dX10_jointItem_63 : decode cX10_jointItem 63 = .ok (.if_icmp .eq 45, 3) := by decide +kernel
theorem dX10_jointItem_66 : decode cX10_jointItem 66 = .ok (.iload_n 2, 1) := by decide +kernel
theorem dX10_jointItem_67 : decode cX10_jointItem 67 = .ok (.bipush 36, 2) := by decide +kernel
theorem dX10_jointItem_69 : decode cX10_jointItem 69 = .ok (.if_icmp .eq 39, 3) := by decide +kernel
theorem dX10_jointItem_72 : decode cX10_jointItem 72 = .ok (.iload_n 2, 1) := by decide +kernel
theorem dX10_jointItem_73 : decode cX10_jointItem 73 = .ok (.bipush 40, 2) := by decide +kernel
theorem dX10_jointItem_75 : decode cX10_jointItem 75 = .ok (.if_icmp .eq 33, 3) := by decide +kernel
theorem dX10_jointItem_78 : decode cX10_jointItem 78 = .ok (.iload_n 2, 1) := by decide +kernel
theorem dX10_jointItem_79 : decode cX10_jointItem 79 = .ok (.bipush 45, 2) := by decide +kernel
theorem dX10_jointItem_81 : decode cX10_jointItem 81 = .ok (.if_icmp .eq 27, 3) := by decide +kernel
theorem dX10_jointItem_84 : decode cX10_jointItem 84 = .ok (.iload_n 2, 1) := by decide +kernel
theorem dX10_jointItem_85 : decode cX10_jointItem 85 = .ok (.bipush 60, 2) := by decide +kernel
theorem dX10_jointItem_87 : decode cX10_jointItem 87 = .ok (.if_icmp .eq 21, 3) := by decide +kernel
theorem dX10_jointItem_90 : decode cX10_jointItem 90 = .ok (.iload_n 2, 1) := by decide +kernel
theorem dX10_jointItem_91 : decode cX10_jointItem 91 = .ok (.bipush 72, 2) := by decide +kernel
theorem dX10_jointItem_93 : decode cX10_jointItem 93 = .ok (.if_icmp .eq 15, 3) := by decide +kernel
theorem dX10_jointItem_96 : decode cX10_jointItem 96 = .ok (.iload_n 2, 1) := by decide +kernel
theorem dX10_jointItem_97 : decode cX10_jointItem 97 = .ok (.bipush 90, 2) := by decide +kernel
theorem dX10_jointItem_99 : decode cX10_jointItem 99 = .ok (.if_icmp .eq 9, 3) := by decide +kernel
theorem dX10_jointItem_102 : decode cX10_jointItem 102 = .ok (.iload_n 2, 1) := by decide +kernel
theorem dX10_jointItem_103 : decode cX10_jointItem 103 = .ok (.bipush 120, 2) := by decide +kernel
theorem dX10_jointItem_105 : decode cX10_jointItem 105 = .ok (.if_icmp .ne 7, 3) := by decide +kernel
theorem dX10_jointItem_108 : decode cX10_jointItem 108 = .ok (.iconst 1, 1) := by decide +kernel
theorem dX10_jointItem_109 : decode cX10_jointItem 109 = .ok (.goto 4, 3) := by decide +kernel
theorem dX10_jointItem_112 : decode cX10_jointItem 112 = .ok (.iconst 0, 1) := by decide +kernel
theorem dX10_jointItem_113 : decode cX10_jointItem 113 = .ok (.istore 4, 2) := by decide +kernel
theorem dX10_jointItem_115 : decode cX10_jointItem 115 = .ok (.iload 4, 2) := by decide +kernel
theorem dX10_jointItem_117 : decode cX10_jointItem 117 = .ok (.ifCond .eq 25, 3) := by decide +kernel
theorem dX10_jointItem_120 : decode cX10_jointItem 120 = .ok (.aload_n 0, 1) := by decide +kernel
theorem dX10_jointItem_121 : decode cX10_jointItem 121 = .ok (.getfield 19, 3) := by decide +kernel
theorem dX10_jointItem_124 : decode cX10_jointItem 124 = .ok (.iconst 1, 1) := by decide +kernel
theorem dX10_jointItem_125 : decode cX10_jointItem 125 = .ok (.iaload, 1) := by decide +kernel
theorem dX10_jointItem_126 : decode cX10_jointItem 126 = .ok (.ifCond .eq 12, 3) := by decide +kernel
theorem dX10_jointItem_129 : decode cX10_jointItem 129 = .ok (.aload_n 0, 1) := by decide +kernel
theorem dX10_jointItem_130 : decode cX10_jointItem 130 = .ok (.getfield 25, 3) := by decide +kernel
theorem dX10_jointItem_133 : decode cX10_jointItem 133 = .ok (.iconst 2, 1) := by decide +kernel
theorem dX10_jointItem_134 : decode cX10_jointItem 134 = .ok (.iaload, 1) := by decide +kernel
theorem dX10_jointItem_135 : decode cX10_jointItem 135 = .ok (.ifCond .ne 7, 3) := by decide +kernel
theorem dX10_jointItem_138 : decode cX10_jointItem 138 = .ok (.iconst 1, 1) := by decide +kernel
theorem dX10_jointItem_139 : decode cX10_jointItem 139 = .ok (.goto 4, 3) := by decide +kernel
theorem dX10_jointItem_142 : decode cX10_jointItem 142 = .ok (.iconst 0, 1) := by decide +kernel
theorem dX10_jointItem_143 : decode cX10_jointItem 143 = .ok (.istore_n 3, 1) := by decide +kernel
theorem dX10_jointItem_144 : decode cX10_jointItem 144 = .ok (.aload_n 0, 1) := by decide +kernel
theorem dX10_jointItem_145 : decode cX10_jointItem 145 = .ok (.getfield 22, 3) := by decide +kernel
theorem dX10_jointItem_148 : decode cX10_jointItem 148 = .ok (.iconst 2, 1) := by decide +kernel
theorem dX10_jointItem_149 : decode cX10_jointItem 149 = .ok (.aload_n 0, 1) := by decide +kernel
theorem dX10_jointItem_150 : decode cX10_jointItem 150 = .ok (.getfield 19, 3) := by decide +kernel
theorem dX10_jointItem_153 : decode cX10_jointItem 153 = .ok (.iconst 1, 1) := by decide +kernel
theorem dX10_jointItem_154 : decode cX10_jointItem 154 = .ok (.iaload, 1) := by decide +kernel
theorem dX10_jointItem_155 : decode cX10_jointItem 155 = .ok (.iadd, 1) := by decide +kernel
theorem dX10_jointItem_156 : decode cX10_jointItem 156 = .ok (.iload_n 2, 1) := by decide +kernel
theorem dX10_jointItem_157 : decode cX10_jointItem 157 = .ok (.iastore, 1) := by decide +kernel
theorem dX10_jointItem_158 : decode cX10_jointItem 158 = .ok (.aload_n 0, 1) := by decide +kernel
theorem dX10_jointItem_159 : decode cX10_jointItem 159 = .ok (.getfield 25, 3) := by decide +kernel
theorem dX10_jointItem_162 : decode cX10_jointItem 162 = .ok (.iconst 2, 1) := by decide +kernel
theorem dX10_jointItem_163 : decode cX10_jointItem 163 = .ok (.aload_n 0, 1) := by decide +kernel
theorem dX10_jointItem_164 : decode cX10_jointItem 164 = .ok (.getfield 19, 3) := by decide +kernel
theorem dX10_jointItem_167 : decode cX10_jointItem 167 = .ok (.iconst 1, 1) := by decide +kernel
theorem dX10_jointItem_168 : decode cX10_jointItem 168 = .ok (.iaload, 1) := by decide +kernel
theorem dX10_jointItem_169 : decode cX10_jointItem 169 = .ok (.iadd, 1) := by decide +kernel
theorem dX10_jointItem_170 : decode cX10_jointItem 170 = .ok (.iload_n 1, 1) := by decide +kernel
theorem dX10_jointItem_171 : decode cX10_jointItem 171 = .ok (.ifCond .eq 7, 3) := by decide +kernel
theorem dX10_jointItem_174 : decode cX10_jointItem 174 = .ok (.iconst 1, 1) := by decide +kernel
theorem dX10_jointItem_175 : decode cX10_jointItem 175 = .ok (.goto 4, 3) := by decide +kernel
theorem dX10_jointItem_178 : decode cX10_jointItem 178 = .ok (.iconst 0, 1) := by decide +kernel
theorem dX10_jointItem_179 : decode cX10_jointItem 179 = .ok (.iastore, 1) := by decide +kernel
theorem dX10_jointItem_180 : decode cX10_jointItem 180 = .ok (.aload_n 0, 1) := by decide +kernel
theorem dX10_jointItem_181 : decode cX10_jointItem 181 = .ok (.getfield 19, 3) := by decide +kernel
theorem dX10_jointItem_184 : decode cX10_jointItem 184 = .ok (.iconst 1, 1) := by decide +kernel
theorem dX10_jointItem_185 : decode cX10_jointItem 185 = .ok (.dup2, 1) := by decide +kernel
theorem dX10_jointItem_186 : decode cX10_jointItem 186 = .ok (.iaload, 1) := by decide +kernel
theorem dX10_jointItem_187 : decode cX10_jointItem 187 = .ok (.iconst 1, 1) := by decide +kernel
theorem dX10_jointItem_188 : decode cX10_jointItem 188 = .ok (.iadd, 1) := by decide +kernel
theorem dX10_jointItem_189 : decode cX10_jointItem 189 = .ok (.iastore, 1) := by decide +kernel
theorem dX10_jointItem_190 : decode cX10_jointItem 190 = .ok (.iload_n 3, 1) := by decide +kernel
theorem dX10_jointItem_191 : decode cX10_jointItem 191 = .ok (.ireturn, 1) := by decide +kernel
theorem dX10_item_0 : decode cX10_item 0 = .ok (.aload_n 0, 1) := by decide +kernel
theorem dX10_item_1 : decode cX10_item 1 = .ok (.aload_n 0, 1) := by decide +kernel
theorem dX10_item_2 : decode cX10_item 2 = .ok (.getfield 74, 3) := by decide +kernel
theorem dX10_item_5 : decode cX10_item 5 = .ok (.invokevirtual 77, 3) := by decide +kernel
theorem dX10_item_8 : decode cX10_item 8 = .ok (.istore_n 1, 1) := by decide +kernel
theorem dX10_item_9 : decode cX10_item 9 = .ok (.aload_n 0, 1) := by decide +kernel
theorem dX10_item_10 : decode cX10_item 10 = .ok (.dup, 1) := by decide +kernel
theorem dX10_item_11 : decode cX10_item 11 = .ok (.getfield 74, 3) := by decide +kernel
theorem dX10_item_14 : decode cX10_item 14 = .ok (.iconst 1, 1) := by decide +kernel
theorem dX10_item_15 : decode cX10_item 15 = .ok (.iadd, 1) := by decide +kernel
theorem dX10_item_16 : decode cX10_item 16 = .ok (.putfield 74, 3) := by decide +kernel
theorem dX10_item_19 : decode cX10_item 19 = .ok (.iload_n 1, 1) := by decide +kernel
theorem dX10_item_20 : decode cX10_item 20 = .ok (.lookupswitch 134 #[(101, 93), (106, 57), (108, 69), (112, 52), (119, 63)], 52) := by decide +kernel
theorem dX10_item_72 : decode cX10_item 72 = .ok (.aload_n 0, 1) := by decide +kernel
theorem dX10_item_73 : decode cX10_item 73 = .ok (.invokevirtual 95, 3) := by decide +kernel
theorem dX10_item_76 : decode cX10_item 76 = .ok (.ireturn, 1) := by decide +kernel
theorem dX10_item_77 : decode cX10_item 77 = .ok (.aload_n 0, 1) := by decide +kernel
theorem dX10_item_78 : decode cX10_item 78 = .ok (.iconst 0, 1) := by decide +kernel
theorem dX10_item_79 : decode cX10_item 79 = .ok (.invokevirtual 99, 3) := by decide +kernel
theorem dX10_item_82 : decode cX10_item 82 = .ok (.ireturn, 1) := by decide +kernel
theorem dX10_item_83 : decode cX10_item 83 = .ok (.aload_n 0, 1) := by decide +kernel
theorem dX10_item_84 : decode cX10_item 84 = .ok (.iconst 1, 1) := by decide +kernel
theorem dX10_item_85 : decode cX10_item 85 = .ok (.invokevirtual 99, 3) := by decide +kernel
theorem dX10_item_88 : decode cX10_item 88 = .ok (.ireturn, 1) := by decide +kernel
theorem dX10_item_89 : decode cX10_item 89 = .ok (.aload_n 0, 1) := by decide +kernel
theorem dX10_item_90 : decode cX10_item 90 = .ok (.iconst 1, 1) := by decide +kernel
theorem dX10_item_91 : decode cX10_item 91 = .ok (.invokevirtual 87, 3) := by decide +kernel
theorem dX10_item_94 : decode cX10_item 94 = .ok (.ifCond .ne 5, 3) := by decide +kernel
theorem dX10_item_97 : decode cX10_item 97 = .ok (.iconst 0, 1) := by decide +kernel
theorem dX10_item_98 : decode cX10_item 98 = .ok (.ireturn, 1) := by decide +kernel
theorem dX10_item_99 : decode cX10_item 99 = .ok (.aload_n 0, 1) := by decide +kernel
theorem dX10_item_100 : decode cX10_item 100 = .ok (.getfield 28, 3) := by decide +kernel
theorem dX10_item_103 : decode cX10_item 103 = .ok (.iconst 1, 1) := by decide +kernel
theorem dX10_item_104 : decode cX10_item 104 = .ok (.aload_n 0, 1) := by decide +kernel
theorem dX10_item_105 : decode cX10_item 105 = .ok (.getfield 46, 3) := by decide +kernel
theorem dX10_item_108 : decode cX10_item 108 = .ok (.iconst 0, 1) := by decide +kernel
theorem dX10_item_109 : decode cX10_item 109 = .ok (.iaload, 1) := by decide +kernel
theorem dX10_item_110 : decode cX10_item 110 = .ok (.iastore, 1) := by decide +kernel
theorem dX10_item_111 : decode cX10_item 111 = .ok (.iconst 1, 1) := by decide +kernel
theorem dX10_item_112 : decode cX10_item 112 = .ok (.ireturn, 1) := by decide +kernel
theorem dX10_item_113 : decode cX10_item 113 = .ok (.aload_n 0, 1) := by decide +kernel
theorem dX10_item_114 : decode cX10_item 114 = .ok (.iconst 1, 1) := by decide +kernel
theorem dX10_item_115 : decode cX10_item 115 = .ok (.invokevirtual 87, 3) := by decide +kernel
theorem dX10_item_118 : decode cX10_item 118 = .ok (.ifCond .eq 20, 3) := by decide +kernel
theorem dX10_item_121 : decode cX10_item 121 = .ok (.aload_n 0, 1) := by decide +kernel
theorem dX10_item_122 : decode cX10_item 122 = .ok (.getfield 46, 3) := by decide +kernel
theorem dX10_item_125 : decode cX10_item 125 = .ok (.iconst 0, 1) := by decide +kernel
theorem dX10_item_126 : decode cX10_item 126 = .ok (.iaload, 1) := by decide +kernel
theorem dX10_item_127 : decode cX10_item 127 = .ok (.i2l, 1) := by decide +kernel
theorem dX10_item_128 : decode cX10_item 128 = .ok (.lconst 0, 1) := by decide +kernel
theorem dX10_item_129 : decode cX10_item 129 = .ok (.ldc2_w 103, 3) := by decide +kernel
theorem dX10_item_132 : decode cX10_item 132 = .ok (.invokestatic 65, 3) := by decide +kernel
theorem dX10_item_135 : decode cX10_item 135 = .ok (.ifCond .ne 5, 3) := by decide +kernel
theorem dX10_item_138 : decode cX10_item 138 = .ok (.iconst 0, 1) := by decide +kernel
theorem dX10_item_139 : decode cX10_item 139 = .ok (.ireturn, 1) := by decide +kernel
theorem dX10_item_140 : decode cX10_item 140 = .ok (.aload_n 0, 1) := by decide +kernel
theorem dX10_item_141 : decode cX10_item 141 = .ok (.getfield 31, 3) := by decide +kernel
theorem dX10_item_144 : decode cX10_item 144 = .ok (.iconst 1, 1) := by decide +kernel
theorem dX10_item_145 : decode cX10_item 145 = .ok (.aload_n 0, 1) := by decide +kernel
theorem dX10_item_146 : decode cX10_item 146 = .ok (.getfield 46, 3) := by decide +kernel
theorem dX10_item_149 : decode cX10_item 149 = .ok (.iconst 0, 1) := by decide +kernel
theorem dX10_item_150 : decode cX10_item 150 = .ok (.iaload, 1) := by decide +kernel
theorem dX10_item_151 : decode cX10_item 151 = .ok (.iastore, 1) := by decide +kernel
theorem dX10_item_152 : decode cX10_item 152 = .ok (.iconst 1, 1) := by decide +kernel
theorem dX10_item_153 : decode cX10_item 153 = .ok (.ireturn, 1) := by decide +kernel
theorem dX10_item_154 : decode cX10_item 154 = .ok (.iconst 0, 1) := by decide +kernel
theorem dX10_item_155 : decode cX10_item 155 = .ok (.ireturn, 1) := by decide +kernel
theorem dX10_readAll_0 : decode cX10_readAll 0 = .ok (.aload_n 0, 1) := by decide +kernel
theorem dX10_readAll_1 : decode cX10_readAll 1 = .ok (.getfield 13, 3) := by decide +kernel
theorem dX10_readAll_4 : decode cX10_readAll 4 = .ok (.iconst 1, 1) := by decide +kernel
theorem dX10_readAll_5 : decode cX10_readAll 5 = .ok (.iconst 0, 1) := by decide +kernel
theorem dX10_readAll_6 : decode cX10_readAll 6 = .ok (.iastore, 1) := by decide +kernel
theorem dX10_readAll_7 : decode cX10_readAll 7 = .ok (.aload_n 0, 1) := by decide +kernel
theorem dX10_readAll_8 : decode cX10_readAll 8 = .ok (.getfield 19, 3) := by decide +kernel
theorem dX10_readAll_11 : decode cX10_readAll 11 = .ok (.iconst 1, 1) := by decide +kernel
theorem dX10_readAll_12 : decode cX10_readAll 12 = .ok (.iconst 0, 1) := by decide +kernel
theorem dX10_readAll_13 : decode cX10_readAll 13 = .ok (.iastore, 1) := by decide +kernel
theorem dX10_readAll_14 : decode cX10_readAll 14 = .ok (.aload_n 0, 1) := by decide +kernel
theorem dX10_readAll_15 : decode cX10_readAll 15 = .ok (.getfield 28, 3) := by decide +kernel
theorem dX10_readAll_18 : decode cX10_readAll 18 = .ok (.iconst 1, 1) := by decide +kernel
theorem dX10_readAll_19 : decode cX10_readAll 19 = .ok (.iconst 0, 1) := by decide +kernel
theorem dX10_readAll_20 : decode cX10_readAll 20 = .ok (.iastore, 1) := by decide +kernel
theorem dX10_readAll_21 : decode cX10_readAll 21 = .ok (.aload_n 0, 1) := by decide +kernel
theorem dX10_readAll_22 : decode cX10_readAll 22 = .ok (.getfield 31, 3) := by decide +kernel
theorem dX10_readAll_25 : decode cX10_readAll 25 = .ok (.iconst 1, 1) := by decide +kernel
theorem dX10_readAll_26 : decode cX10_readAll 26 = .ok (.bipush 10, 2) := by decide +kernel
theorem dX10_readAll_28 : decode cX10_readAll 28 = .ok (.iastore, 1) := by decide +kernel
theorem dX10_readAll_29 : decode cX10_readAll 29 = .ok (.aload_n 0, 1) := by decide +kernel
theorem dX10_readAll_30 : decode cX10_readAll 30 = .ok (.iconst 0, 1) := by decide +kernel
theorem dX10_readAll_31 : decode cX10_readAll 31 = .ok (.putfield 74, 3) := by decide +kernel
theorem dX10_readAll_34 : decode cX10_readAll 34 = .ok (.aload_n 0, 1) := by decide +kernel
theorem dX10_readAll_35 : decode cX10_readAll 35 = .ok (.getfield 74, 3) := by decide +kernel
theorem dX10_readAll_38 : decode cX10_readAll 38 = .ok (.aload_n 0, 1) := by decide +kernel
theorem dX10_readAll_39 : decode cX10_readAll 39 = .ok (.getfield 69, 3) := by decide +kernel
theorem dX10_readAll_42 : decode cX10_readAll 42 = .ok (.if_icmp .ge 20, 3) := by decide +kernel
theorem dX10_readAll_45 : decode cX10_readAll 45 = .ok (.aload_n 0, 1) := by decide +kernel
theorem dX10_readAll_46 : decode cX10_readAll 46 = .ok (.getfield 74, 3) := by decide +kernel
theorem dX10_readAll_49 : decode cX10_readAll 49 = .ok (.istore_n 1, 1) := by decide +kernel
theorem dX10_readAll_50 : decode cX10_readAll 50 = .ok (.aload_n 0, 1) := by decide +kernel
theorem dX10_readAll_51 : decode cX10_readAll 51 = .ok (.invokevirtual 105, 3) := by decide +kernel
theorem dX10_readAll_54 : decode cX10_readAll 54 = .ok (.ifCond .ne 5, 3) := by decide +kernel
theorem dX10_readAll_57 : decode cX10_readAll 57 = .ok (.iload_n 1, 1) := by decide +kernel
theorem dX10_readAll_58 : decode cX10_readAll 58 = .ok (.ireturn, 1) := by decide +kernel
theorem dX10_readAll_59 : decode cX10_readAll 59 = .ok (.goto (-25), 3) := by decide +kernel
theorem dX10_readAll_62 : decode cX10_readAll 62 = .ok (.bipush (-4), 2) := by decide +kernel
theorem dX10_readAll_64 : decode cX10_readAll 64 = .ok (.ireturn, 1) := by decide +kernel
theorem dX10_fault_0 : decode cX10_fault 0 = .ok (.aload_n 0, 1) := by decide +kernel
theorem dX10_fault_1 : decode cX10_fault 1 = .ok (.invokevirtual 108, 3) := by decide +kernel
theorem dX10_fault_4 : decode cX10_fault 4 = .ok (.ireturn, 1) := by decide +kernel
theorem dX10_lay_0 : decode cX10_lay 0 = .ok (.aload_n 0, 1) := by decide +kernel
theorem dX10_lay_1 : decode cX10_lay 1 = .ok (.invokevirtual 108, 3) := by decide +kernel
theorem dX10_lay_4 : decode cX10_lay 4 = .ok (.bipush (-4), 2) := by decide +kernel
theorem dX10_lay_6 : decode cX10_lay 6 = .ok (.if_icmp .ne 30, 3) := by decide +kernel
theorem dX10_lay_9 : decode cX10_lay 9 = .ok (.aload_n 0, 1) := by decide +kernel
theorem dX10_lay_10 : decode cX10_lay 10 = .ok (.getfield 13, 3) := by decide +kernel
theorem dX10_lay_13 : decode cX10_lay 13 = .ok (.iconst 1, 1) := by decide +kernel
theorem dX10_lay_14 : decode cX10_lay 14 = .ok (.iaload, 1) := by decide +kernel
theorem dX10_lay_15 : decode cX10_lay 15 = .ok (.iconst 2, 1) := by decide +kernel
theorem dX10_lay_16 : decode cX10_lay 16 = .ok (.if_icmp .lt 20, 3) := by decide +kernel
theorem dX10_lay_19 : decode cX10_lay 19 = .ok (.aload_n 0, 1) := by decide +kernel
theorem dX10_lay_20 : decode cX10_lay 20 = .ok (.getfield 19, 3) := by decide +kernel
theorem dX10_lay_23 : decode cX10_lay 23 = .ok (.iconst 1, 1) := by decide +kernel
theorem dX10_lay_24 : decode cX10_lay 24 = .ok (.iaload, 1) := by decide +kernel
theorem dX10_lay_25 : decode cX10_lay 25 = .ok (.aload_n 0, 1) := by decide +kernel
theorem dX10_lay_26 : decode cX10_lay 26 = .ok (.getfield 13, 3) := by decide +kernel
theorem dX10_lay_29 : decode cX10_lay 29 = .ok (.iconst 1, 1) := by decide +kernel
theorem dX10_lay_30 : decode cX10_lay 30 = .ok (.iaload, 1) := by decide +kernel
theorem dX10_lay_31 : decode cX10_lay 31 = .ok (.iconst 1, 1) := by decide +kernel
theorem dX10_lay_32 : decode cX10_lay 32 = .ok (.isub, 1) := by decide +kernel
theorem dX10_lay_33 : decode cX10_lay 33 = .ok (.if_icmp .eq 6, 3) := by decide +kernel
theorem dX10_lay_36 : decode cX10_lay 36 = .ok (.bipush (-2), 2) := by decide +kernel
theorem dX10_lay_38 : decode cX10_lay 38 = .ok (.ireturn, 1) := by decide +kernel
theorem dX10_lay_39 : decode cX10_lay 39 = .ok (.aload_n 0, 1) := by decide +kernel
theorem dX10_lay_40 : decode cX10_lay 40 = .ok (.getfield 13, 3) := by decide +kernel
theorem dX10_lay_43 : decode cX10_lay 43 = .ok (.iconst 0, 1) := by decide +kernel
theorem dX10_lay_44 : decode cX10_lay 44 = .ok (.aload_n 0, 1) := by decide +kernel
theorem dX10_lay_45 : decode cX10_lay 45 = .ok (.getfield 13, 3) := by decide +kernel
theorem dX10_lay_48 : decode cX10_lay 48 = .ok (.iconst 1, 1) := by decide +kernel
theorem dX10_lay_49 : decode cX10_lay 49 = .ok (.iaload, 1) := by decide +kernel
theorem dX10_lay_50 : decode cX10_lay 50 = .ok (.iastore, 1) := by decide +kernel
theorem dX10_lay_51 : decode cX10_lay 51 = .ok (.aload_n 0, 1) := by decide +kernel
theorem dX10_lay_52 : decode cX10_lay 52 = .ok (.getfield 19, 3) := by decide +kernel
theorem dX10_lay_55 : decode cX10_lay 55 = .ok (.iconst 0, 1) := by decide +kernel
theorem dX10_lay_56 : decode cX10_lay 56 = .ok (.aload_n 0, 1) := by decide +kernel
theorem dX10_lay_57 : decode cX10_lay 57 = .ok (.getfield 19, 3) := by decide +kernel
theorem dX10_lay_60 : decode cX10_lay 60 = .ok (.iconst 1, 1) := by decide +kernel
theorem dX10_lay_61 : decode cX10_lay 61 = .ok (.iaload, 1) := by decide +kernel
theorem dX10_lay_62 : decode cX10_lay 62 = .ok (.iastore, 1) := by decide +kernel
theorem dX10_lay_63 : decode cX10_lay 63 = .ok (.iconst 0, 1) := by decide +kernel
theorem dX10_lay_64 : decode cX10_lay 64 = .ok (.istore_n 1, 1) := by decide +kernel
theorem dX10_lay_65 : decode cX10_lay 65 = .ok (.iload_n 1, 1) := by decide +kernel
theorem dX10_lay_66 : decode cX10_lay 66 = .ok (.bipush 9, 2) := by decide +kernel
theorem dX10_lay_68 : decode cX10_lay 68 = .ok (.if_icmp .ge 24, 3) := by decide +kernel
theorem dX10_lay_71 : decode cX10_lay 71 = .ok (.aload_n 0, 1) := by decide +kernel
theorem dX10_lay_72 : decode cX10_lay 72 = .ok (.getfield 16, 3) := by decide +kernel
theorem dX10_lay_75 : decode cX10_lay 75 = .ok (.iload_n 1, 1) := by decide +kernel
theorem dX10_lay_76 : decode cX10_lay 76 = .ok (.aload_n 0, 1) := by decide +kernel
theorem dX10_lay_77 : decode cX10_lay 77 = .ok (.getfield 16, 3) := by decide +kernel
theorem dX10_lay_80 : decode cX10_lay 80 = .ok (.bipush 9, 2) := by decide +kernel
theorem dX10_lay_82 : decode cX10_lay 82 = .ok (.iload_n 1, 1) := by decide +kernel
theorem dX10_lay_83 : decode cX10_lay 83 = .ok (.iadd, 1) := by decide +kernel
theorem dX10_lay_84 : decode cX10_lay 84 = .ok (.iaload, 1) := by decide +kernel
theorem dX10_lay_85 : decode cX10_lay 85 = .ok (.iastore, 1) := by decide +kernel
theorem dX10_lay_86 : decode cX10_lay 86 = .ok (.iinc 1 1, 3) := by decide +kernel
theorem dX10_lay_89 : decode cX10_lay 89 = .ok (.goto (-24), 3) := by decide +kernel
theorem dX10_lay_92 : decode cX10_lay 92 = .ok (.iconst 0, 1) := by decide +kernel
theorem dX10_lay_93 : decode cX10_lay 93 = .ok (.istore_n 1, 1) := by decide +kernel
theorem dX10_lay_94 : decode cX10_lay 94 = .ok (.iload_n 1, 1) := by decide +kernel
theorem dX10_lay_95 : decode cX10_lay 95 = .ok (.iconst 2, 1) := by decide +kernel
theorem dX10_lay_96 : decode cX10_lay 96 = .ok (.if_icmp .ge 37, 3) := by decide +kernel
theorem dX10_lay_99 : decode cX10_lay 99 = .ok (.aload_n 0, 1) := by decide +kernel
theorem dX10_lay_100 : decode cX10_lay 100 = .ok (.getfield 22, 3) := by decide +kernel
theorem dX10_lay_103 : decode cX10_lay 103 = .ok (.iload_n 1, 1) := by decide +kernel
theorem dX10_lay_104 : decode cX10_lay 104 = .ok (.aload_n 0, 1) := by decide +kernel
theorem dX10_lay_105 : decode cX10_lay 105 = .ok (.getfield 22, 3) := by decide +kernel
theorem dX10_lay_108 : decode cX10_lay 108 = .ok (.iconst 2, 1) := by decide +kernel
theorem dX10_lay_109 : decode cX10_lay 109 = .ok (.iload_n 1, 1) := by decide +kernel
theorem dX10_lay_110 : decode cX10_lay 110 = .ok (.iadd, 1) := by decide +kernel
theorem dX10_lay_111 : decode cX10_lay 111 = .ok (.iaload, 1) := by decide +kernel
theorem dX10_lay_112 : decode cX10_lay 112 = .ok (.iastore, 1) := by decide +kernel
theorem dX10_lay_113 : decode cX10_lay 113 = .ok (.aload_n 0, 1) := by decide +kernel
theorem dX10_lay_114 : decode cX10_lay 114 = .ok (.getfield 25, 3) := by decide +kernel
theorem dX10_lay_117 : decode cX10_lay 117 = .ok (.iload_n 1, 1) := by decide +kernel
theorem dX10_lay_118 : decode cX10_lay 118 = .ok (.aload_n 0, 1) := by decide +kernel
theorem dX10_lay_119 : decode cX10_lay 119 = .ok (.getfield 25, 3) := by decide +kernel
theorem dX10_lay_122 : decode cX10_lay 122 = .ok (.iconst 2, 1) := by decide +kernel
theorem dX10_lay_123 : decode cX10_lay 123 = .ok (.iload_n 1, 1) := by decide +kernel
theorem dX10_lay_124 : decode cX10_lay 124 = .ok (.iadd, 1) := by decide +kernel
theorem dX10_lay_125 : decode cX10_lay 125 = .ok (.iaload, 1) := by decide +kernel
theorem dX10_lay_126 : decode cX10_lay 126 = .ok (.iastore, 1) := by decide +kernel
theorem dX10_lay_127 : decode cX10_lay 127 = .ok (.iinc 1 1, 3) := by decide +kernel
theorem dX10_lay_130 : decode cX10_lay 130 = .ok (.goto (-36), 3) := by decide +kernel
theorem dX10_lay_133 : decode cX10_lay 133 = .ok (.aload_n 0, 1) := by decide +kernel
theorem dX10_lay_134 : decode cX10_lay 134 = .ok (.getfield 28, 3) := by decide +kernel
theorem dX10_lay_137 : decode cX10_lay 137 = .ok (.iconst 0, 1) := by decide +kernel
theorem dX10_lay_138 : decode cX10_lay 138 = .ok (.aload_n 0, 1) := by decide +kernel
theorem dX10_lay_139 : decode cX10_lay 139 = .ok (.getfield 28, 3) := by decide +kernel
theorem dX10_lay_142 : decode cX10_lay 142 = .ok (.iconst 1, 1) := by decide +kernel
theorem dX10_lay_143 : decode cX10_lay 143 = .ok (.iaload, 1) := by decide +kernel
theorem dX10_lay_144 : decode cX10_lay 144 = .ok (.iastore, 1) := by decide +kernel
theorem dX10_lay_145 : decode cX10_lay 145 = .ok (.aload_n 0, 1) := by decide +kernel
theorem dX10_lay_146 : decode cX10_lay 146 = .ok (.getfield 31, 3) := by decide +kernel
theorem dX10_lay_149 : decode cX10_lay 149 = .ok (.iconst 0, 1) := by decide +kernel
theorem dX10_lay_150 : decode cX10_lay 150 = .ok (.aload_n 0, 1) := by decide +kernel
theorem dX10_lay_151 : decode cX10_lay 151 = .ok (.getfield 31, 3) := by decide +kernel
theorem dX10_lay_154 : decode cX10_lay 154 = .ok (.iconst 1, 1) := by decide +kernel
theorem dX10_lay_155 : decode cX10_lay 155 = .ok (.iaload, 1) := by decide +kernel
theorem dX10_lay_156 : decode cX10_lay 156 = .ok (.iastore, 1) := by decide +kernel
theorem dX10_lay_157 : decode cX10_lay 157 = .ok (.iconst 0, 1) := by decide +kernel
theorem dX10_lay_158 : decode cX10_lay 158 = .ok (.istore_n 1, 1) := by decide +kernel
theorem dX10_lay_159 : decode cX10_lay 159 = .ok (.iload_n 1, 1) := by decide +kernel
theorem dX10_lay_160 : decode cX10_lay 160 = .ok (.iconst 4, 1) := by decide +kernel
theorem dX10_lay_161 : decode cX10_lay 161 = .ok (.if_icmp .ge 16, 3) := by decide +kernel
theorem dX10_lay_164 : decode cX10_lay 164 = .ok (.aload_n 0, 1) := by decide +kernel
theorem dX10_lay_165 : decode cX10_lay 165 = .ok (.getfield 34, 3) := by decide +kernel
theorem dX10_lay_168 : decode cX10_lay 168 = .ok (.iload_n 1, 1) := by decide +kernel
theorem dX10_lay_169 : decode cX10_lay 169 = .ok (.iconst 0, 1) := by decide +kernel
theorem dX10_lay_170 : decode cX10_lay 170 = .ok (.iastore, 1) := by decide +kernel
theorem dX10_lay_171 : decode cX10_lay 171 = .ok (.iinc 1 1, 3) := by decide +kernel
theorem dX10_lay_174 : decode cX10_lay 174 = .ok (.goto (-15), 3) := by decide +kernel
theorem dX10_lay_177 : decode cX10_lay 177 = .ok (.aload_n 0, 1) := by decide +kernel
theorem dX10_lay_178 : decode cX10_lay 178 = .ok (.getfield 40, 3) := by decide +kernel
theorem dX10_lay_181 : decode cX10_lay 181 = .ok (.iconst 0, 1) := by decide +kernel
theorem dX10_lay_182 : decode cX10_lay 182 = .ok (.iconst 0, 1) := by decide +kernel
theorem dX10_lay_183 : decode cX10_lay 183 = .ok (.iastore, 1) := by decide +kernel
theorem dX10_lay_184 : decode cX10_lay 184 = .ok (.aload_n 0, 1) := by decide +kernel
theorem dX10_lay_185 : decode cX10_lay 185 = .ok (.iconst 0, 1) := by decide +kernel
theorem dX10_lay_186 : decode cX10_lay 186 = .ok (.putfield 112, 3) := by decide +kernel
theorem dX10_lay_189 : decode cX10_lay 189 = .ok (.aload_n 0, 1) := by decide +kernel
theorem dX10_lay_190 : decode cX10_lay 190 = .ok (.bipush (-4), 2) := by decide +kernel
theorem dX10_lay_192 : decode cX10_lay 192 = .ok (.putfield 49, 3) := by decide +kernel
theorem dX10_lay_195 : decode cX10_lay 195 = .ok (.iconst 0, 1) := by decide +kernel
theorem dX10_lay_196 : decode cX10_lay 196 = .ok (.istore_n 1, 1) := by decide +kernel
theorem dX10_lay_197 : decode cX10_lay 197 = .ok (.iload_n 1, 1) := by decide +kernel
theorem dX10_lay_198 : decode cX10_lay 198 = .ok (.iconst 4, 1) := by decide +kernel
theorem dX10_lay_199 : decode cX10_lay 199 = .ok (.if_icmp .ge 16, 3) := by decide +kernel
theorem dX10_lay_202 : decode cX10_lay 202 = .ok (.aload_n 0, 1) := by decide +kernel
theorem dX10_lay_203 : decode cX10_lay 203 = .ok (.getfield 60, 3) := by decide +kernel
theorem dX10_lay_206 : decode cX10_lay 206 = .ok (.iload_n 1, 1) := by decide +kernel
theorem dX10_lay_207 : decode cX10_lay 207 = .ok (.iconst 0, 1) := by decide +kernel
theorem dX10_lay_208 : decode cX10_lay 208 = .ok (.iastore, 1) := by decide +kernel
theorem dX10_lay_209 : decode cX10_lay 209 = .ok (.iinc 1 1, 3) := by decide +kernel
theorem dX10_lay_212 : decode cX10_lay 212 = .ok (.goto (-15), 3) := by decide +kernel
theorem dX10_lay_215 : decode cX10_lay 215 = .ok (.aload_n 0, 1) := by decide +kernel
theorem dX10_lay_216 : decode cX10_lay 216 = .ok (.getfield 13, 3) := by decide +kernel
theorem dX10_lay_219 : decode cX10_lay 219 = .ok (.iconst 0, 1) := by decide +kernel
theorem dX10_lay_220 : decode cX10_lay 220 = .ok (.iaload, 1) := by decide +kernel
theorem dX10_lay_221 : decode cX10_lay 221 = .ok (.ireturn, 1) := by decide +kernel
theorem dX10_isPart_0 : decode cX10_isPart 0 = .ok (.iload_n 1, 1) := by decide +kernel
theorem dX10_isPart_1 : decode cX10_isPart 1 = .ok (.i2l, 1) := by decide +kernel
theorem dX10_isPart_2 : decode cX10_isPart 2 = .ok (.lconst 0, 1) := by decide +kernel
theorem dX10_isPart_3 : decode cX10_isPart 3 = .ok (.aload_n 0, 1) := by decide +kernel
theorem dX10_isPart_4 : decode cX10_isPart 4 = .ok (.getfield 13, 3) := by decide +kernel
theorem dX10_isPart_7 : decode cX10_isPart 7 = .ok (.iconst 0, 1) := by decide +kernel
theorem dX10_isPart_8 : decode cX10_isPart 8 = .ok (.iaload, 1) := by decide +kernel
theorem dX10_isPart_9 : decode cX10_isPart 9 = .ok (.iconst 1, 1) := by decide +kernel
theorem dX10_isPart_10 : decode cX10_isPart 10 = .ok (.isub, 1) := by decide +kernel
theorem dX10_isPart_11 : decode cX10_isPart 11 = .ok (.i2l, 1) := by decide +kernel
theorem dX10_isPart_12 : decode cX10_isPart 12 = .ok (.invokestatic 65, 3) := by decide +kernel
theorem dX10_isPart_15 : decode cX10_isPart 15 = .ok (.ireturn, 1) := by decide +kernel
theorem dX10_isJoint_0 : decode cX10_isJoint 0 = .ok (.iload_n 1, 1) := by decide +kernel
theorem dX10_isJoint_1 : decode cX10_isJoint 1 = .ok (.i2l, 1) := by decide +kernel
theorem dX10_isJoint_2 : decode cX10_isJoint 2 = .ok (.lconst 0, 1) := by decide +kernel
theorem dX10_isJoint_3 : decode cX10_isJoint 3 = .ok (.aload_n 0, 1) := by decide +kernel
theorem dX10_isJoint_4 : decode cX10_isJoint 4 = .ok (.getfield 19, 3) := by decide +kernel
theorem dX10_isJoint_7 : decode cX10_isJoint 7 = .ok (.iconst 0, 1) := by decide +kernel
theorem dX10_isJoint_8 : decode cX10_isJoint 8 = .ok (.iaload, 1) := by decide +kernel
theorem dX10_isJoint_9 : decode cX10_isJoint 9 = .ok (.iconst 1, 1) := by decide +kernel
theorem dX10_isJoint_10 : decode cX10_isJoint 10 = .ok (.isub, 1) := by decide +kernel
theorem dX10_isJoint_11 : decode cX10_isJoint 11 = .ok (.i2l, 1) := by decide +kernel
theorem dX10_isJoint_12 : decode cX10_isJoint 12 = .ok (.invokestatic 65, 3) := by decide +kernel
theorem dX10_isJoint_15 : decode cX10_isJoint 15 = .ok (.ireturn, 1) := by decide +kernel
theorem dX10_load_0 : decode cX10_load 0 = .ok (.aload_n 0, 1) := by decide +kernel
theorem dX10_load_1 : decode cX10_load 1 = .ok (.iload_n 1, 1) := by decide +kernel
theorem dX10_load_2 : decode cX10_load 2 = .ok (.invokevirtual 115, 3) := by decide +kernel
theorem dX10_load_5 : decode cX10_load 5 = .ok (.ifCond .eq 28, 3) := by decide +kernel
theorem dX10_load_8 : decode cX10_load 8 = .ok (.iload_n 2, 1) := by decide +kernel
theorem dX10_load_9 : decode cX10_load 9 = .ok (.i2l, 1) := by decide +kernel
theorem dX10_load_10 : decode cX10_load 10 = .ok (.lconst 0, 1) := by decide +kernel
theorem dX10_load_11 : decode cX10_load 11 = .ok (.ldc2_w 118, 3) := by decide +kernel
theorem dX10_load_14 : decode cX10_load 14 = .ok (.invokestatic 65, 3) := by decide +kernel
theorem dX10_load_17 : decode cX10_load 17 = .ok (.ifCond .eq 16, 3) := by decide +kernel
theorem dX10_load_20 : decode cX10_load 20 = .ok (.aload_n 0, 1) := by decide +kernel
theorem dX10_load_21 : decode cX10_load 21 = .ok (.getfield 16, 3) := by decide +kernel
theorem dX10_load_24 : decode cX10_load 24 = .ok (.iconst 3, 1) := by decide +kernel
theorem dX10_load_25 : decode cX10_load 25 = .ok (.iload_n 1, 1) := by decide +kernel
theorem dX10_load_26 : decode cX10_load 26 = .ok (.imul, 1) := by decide +kernel
theorem dX10_load_27 : decode cX10_load 27 = .ok (.iload_n 2, 1) := by decide +kernel
theorem dX10_load_28 : decode cX10_load 28 = .ok (.iadd, 1) := by decide +kernel
theorem dX10_load_29 : decode cX10_load 29 = .ok (.iaload, 1) := by decide +kernel
theorem dX10_load_30 : decode cX10_load 30 = .ok (.goto 4, 3) := by decide +kernel
theorem dX10_load_33 : decode cX10_load 33 = .ok (.iconst (-1), 1) := by decide +kernel
theorem dX10_load_34 : decode cX10_load 34 = .ok (.ireturn, 1) := by decide +kernel
theorem dX10_joint_0 : decode cX10_joint 0 = .ok (.aload_n 0, 1) := by decide +kernel
theorem dX10_joint_1 : decode cX10_joint 1 = .ok (.iload_n 1, 1) := by decide +kernel
theorem dX10_joint_2 : decode cX10_joint 2 = .ok (.invokevirtual 120, 3) := by decide +kernel
theorem dX10_joint_5 : decode cX10_joint 5 = .ok (.ifCond .eq 35, 3) := by decide +kernel
theorem dX10_joint_8 : decode cX10_joint 8 = .ok (.iload_n 2, 1) := by decide +kernel
theorem dX10_joint_9 : decode cX10_joint 9 = .ok (.i2l, 1) := by decide +kernel
theorem dX10_joint_10 : decode cX10_joint 10 = .ok (.lconst 0, 1) := by decide +kernel
theorem dX10_joint_11 : decode cX10_joint 11 = .ok (.lconst 1, 1) := by decide +kernel
theorem dX10_joint_12 : decode cX10_joint 12 = .ok (.invokestatic 65, 3) := by decide +kernel
theorem dX10_joint_15 : decode cX10_joint 15 = .ok (.ifCond .eq 25, 3) := by decide +kernel
theorem dX10_joint_18 : decode cX10_joint 18 = .ok (.iload_n 2, 1) := by decide +kernel
theorem dX10_joint_19 : decode cX10_joint 19 = .ok (.ifCond .ne 12, 3) := by decide +kernel
theorem dX10_joint_22 : decode cX10_joint 22 = .ok (.aload_n 0, 1) := by decide +kernel
theorem dX10_joint_23 : decode cX10_joint 23 = .ok (.getfield 22, 3) := by decide +kernel
theorem dX10_joint_26 : decode cX10_joint 26 = .ok (.iload_n 1, 1) := by decide +kernel
theorem dX10_joint_27 : decode cX10_joint 27 = .ok (.iaload, 1) := by decide +kernel
theorem dX10_joint_28 : decode cX10_joint 28 = .ok (.goto 13, 3) := by decide +kernel
theorem dX10_joint_31 : decode cX10_joint 31 = .ok (.aload_n 0, 1) := by decide +kernel
theorem dX10_joint_32 : decode cX10_joint 32 = .ok (.getfield 25, 3) := by decide +kernel
theorem dX10_joint_35 : decode cX10_joint 35 = .ok (.iload_n 1, 1) := by decide +kernel
theorem dX10_joint_36 : decode cX10_joint 36 = .ok (.iaload, 1) := by decide +kernel
theorem dX10_joint_37 : decode cX10_joint 37 = .ok (.goto 4, 3) := by decide +kernel
theorem dX10_joint_40 : decode cX10_joint 40 = .ok (.iconst (-1), 1) := by decide +kernel
theorem dX10_joint_41 : decode cX10_joint 41 = .ok (.ireturn, 1) := by decide +kernel
theorem dX10_begun_0 : decode cX10_begun 0 = .ok (.iload_n 1, 1) := by decide +kernel
theorem dX10_begun_1 : decode cX10_begun 1 = .ok (.ifCond .ne 12, 3) := by decide +kernel
theorem dX10_begun_4 : decode cX10_begun 4 = .ok (.aload_n 0, 1) := by decide +kernel
theorem dX10_begun_5 : decode cX10_begun 5 = .ok (.getfield 28, 3) := by decide +kernel
theorem dX10_begun_8 : decode cX10_begun 8 = .ok (.iconst 0, 1) := by decide +kernel
theorem dX10_begun_9 : decode cX10_begun 9 = .ok (.iaload, 1) := by decide +kernel
theorem dX10_begun_10 : decode cX10_begun 10 = .ok (.goto 20, 3) := by decide +kernel
theorem dX10_begun_13 : decode cX10_begun 13 = .ok (.iload_n 1, 1) := by decide +kernel
theorem dX10_begun_14 : decode cX10_begun 14 = .ok (.iconst 1, 1) := by decide +kernel
theorem dX10_begun_15 : decode cX10_begun 15 = .ok (.if_icmp .ne 12, 3) := by decide +kernel
theorem dX10_begun_18 : decode cX10_begun 18 = .ok (.aload_n 0, 1) := by decide +kernel
theorem dX10_begun_19 : decode cX10_begun 19 = .ok (.getfield 31, 3) := by decide +kernel
theorem dX10_begun_22 : decode cX10_begun 22 = .ok (.iconst 0, 1) := by decide +kernel
theorem dX10_begun_23 : decode cX10_begun 23 = .ok (.iaload, 1) := by decide +kernel
theorem dX10_begun_24 : decode cX10_begun 24 = .ok (.goto 6, 3) := by decide +kernel
theorem dX10_begun_27 : decode cX10_begun 27 = .ok (.sipush (-10000), 3) := by decide +kernel
theorem dX10_begun_30 : decode cX10_begun 30 = .ok (.ireturn, 1) := by decide +kernel
theorem dX10_stepMany_0 : decode cX10_stepMany 0 = .ok (.aload_n 0, 1) := by decide +kernel
theorem dX10_stepMany_1 : decode cX10_stepMany 1 = .ok (.iload_n 1, 1) := by decide +kernel
theorem dX10_stepMany_2 : decode cX10_stepMany 2 = .ok (.invokevirtual 120, 3) := by decide +kernel
theorem dX10_stepMany_5 : decode cX10_stepMany 5 = .ok (.ifCond .ne 7, 3) := by decide +kernel
theorem dX10_stepMany_8 : decode cX10_stepMany 8 = .ok (.iconst 1, 1) := by decide +kernel
theorem dX10_stepMany_9 : decode cX10_stepMany 9 = .ok (.goto 27, 3) := by decide +kernel
theorem dX10_stepMany_12 : decode cX10_stepMany 12 = .ok (.aload_n 0, 1) := by decide +kernel
theorem dX10_stepMany_13 : decode cX10_stepMany 13 = .ok (.getfield 25, 3) := by decide +kernel
theorem dX10_stepMany_16 : decode cX10_stepMany 16 = .ok (.iload_n 1, 1) := by decide +kernel
theorem dX10_stepMany_17 : decode cX10_stepMany 17 = .ok (.iaload, 1) := by decide +kernel
theorem dX10_stepMany_18 : decode cX10_stepMany 18 = .ok (.iconst 1, 1) := by decide +kernel
theorem dX10_stepMany_19 : decode cX10_stepMany 19 = .ok (.if_icmp .ne 16, 3) := by decide +kernel
theorem dX10_stepMany_22 : decode cX10_stepMany 22 = .ok (.sipush 360, 3) := by decide +kernel
theorem dX10_stepMany_25 : decode cX10_stepMany 25 = .ok (.aload_n 0, 1) := by decide +kernel
theorem dX10_stepMany_26 : decode cX10_stepMany 26 = .ok (.getfield 22, 3) := by decide +kernel
theorem dX10_stepMany_29 : decode cX10_stepMany 29 = .ok (.iload_n 1, 1) := by decide +kernel
theorem dX10_stepMany_30 : decode cX10_stepMany 30 = .ok (.iaload, 1) := by decide +kernel
theorem dX10_stepMany_31 : decode cX10_stepMany 31 = .ok (.idiv, 1) := by decide +kernel
theorem dX10_stepMany_32 : decode cX10_stepMany 32 = .ok (.goto 4, 3) := by decide +kernel
theorem dX10_stepMany_35 : decode cX10_stepMany 35 = .ok (.iconst 5, 1) := by decide +kernel
theorem dX10_stepMany_36 : decode cX10_stepMany 36 = .ok (.ireturn, 1) := by decide +kernel
theorem dX10_threes_0 : decode cX10_threes 0 = .ok (.iload_n 0, 1) := by decide +kernel
theorem dX10_threes_1 : decode cX10_threes 1 = .ok (.ifCond .ne 7, 3) := by decide +kernel
theorem dX10_threes_4 : decode cX10_threes 4 = .ok (.iconst 1, 1) := by decide +kernel
theorem dX10_threes_5 : decode cX10_threes 5 = .ok (.goto 14, 3) := by decide +kernel
theorem dX10_threes_8 : decode cX10_threes 8 = .ok (.iload_n 0, 1) := by decide +kernel
theorem dX10_threes_9 : decode cX10_threes 9 = .ok (.iconst 1, 1) := by decide +kernel
theorem dX10_threes_10 : decode cX10_threes 10 = .ok (.if_icmp .ne 7, 3) := by decide +kernel
theorem dX10_threes_13 : decode cX10_threes 13 = .ok (.iconst 3, 1) := by decide +kernel
theorem dX10_threes_14 : decode cX10_threes 14 = .ok (.goto 5, 3) := by decide +kernel
theorem dX10_threes_17 : decode cX10_threes 17 = .ok (.bipush 9, 2) := by decide +kernel
theorem dX10_threes_19 : decode cX10_threes 19 = .ok (.ireturn, 1) := by decide +kernel
theorem dX10_shapeMany_0 : decode cX10_shapeMany 0 = .ok (.aload_n 0, 1) := by decide +kernel
theorem dX10_shapeMany_1 : decode cX10_shapeMany 1 = .ok (.getfield 13, 3) := by decide +kernel
theorem dX10_shapeMany_4 : decode cX10_shapeMany 4 = .ok (.iconst 0, 1) := by decide +kernel
theorem dX10_shapeMany_5 : decode cX10_shapeMany 5 = .ok (.iaload, 1) := by decide +kernel
theorem dX10_shapeMany_6 : decode cX10_shapeMany 6 = .ok (.iconst 2, 1) := by decide +kernel
theorem dX10_shapeMany_7 : decode cX10_shapeMany 7 = .ok (.if_icmp .ne 8, 3) := by decide +kernel
theorem dX10_shapeMany_10 : decode cX10_shapeMany 10 = .ok (.bipush 9, 2) := by decide +kernel
theorem dX10_shapeMany_12 : decode cX10_shapeMany 12 = .ok (.goto 5, 3) := by decide +kernel
theorem dX10_shapeMany_15 : decode cX10_shapeMany 15 = .ok (.bipush 27, 2) := by decide +kernel
theorem dX10_shapeMany_17 : decode cX10_shapeMany 17 = .ok (.aload_n 0, 1) := by decide +kernel
theorem dX10_shapeMany_18 : decode cX10_shapeMany 18 = .ok (.iconst 0, 1) := by decide +kernel
theorem dX10_shapeMany_19 : decode cX10_shapeMany 19 = .ok (.invokevirtual 123, 3) := by decide +kernel
theorem dX10_shapeMany_22 : decode cX10_shapeMany 22 = .ok (.imul, 1) := by decide +kernel
theorem dX10_shapeMany_23 : decode cX10_shapeMany 23 = .ok (.aload_n 0, 1) := by decide +kernel
theorem dX10_shapeMany_24 : decode cX10_shapeMany 24 = .ok (.iconst 1, 1) := by decide +kernel
theorem dX10_shapeMany_25 : decode cX10_shapeMany 25 = .ok (.invokevirtual 123, 3) := by decide +kernel
theorem dX10_shapeMany_28 : decode cX10_shapeMany 28 = .ok (.imul, 1) := by decide +kernel
theorem dX10_shapeMany_29 : decode cX10_shapeMany 29 = .ok (.ireturn, 1) := by decide +kernel
theorem dX10_poseOf_0 : decode cX10_poseOf 0 = .ok (.iload_n 1, 1) := by decide +kernel
theorem dX10_poseOf_1 : decode cX10_poseOf 1 = .ok (.aload_n 0, 1) := by decide +kernel
theorem dX10_poseOf_2 : decode cX10_poseOf 2 = .ok (.iconst 0, 1) := by decide +kernel
theorem dX10_poseOf_3 : decode cX10_poseOf 3 = .ok (.invokevirtual 123, 3) := by decide +kernel
theorem dX10_poseOf_6 : decode cX10_poseOf 6 = .ok (.aload_n 0, 1) := by decide +kernel
theorem dX10_poseOf_7 : decode cX10_poseOf 7 = .ok (.iconst 1, 1) := by decide +kernel
theorem dX10_poseOf_8 : decode cX10_poseOf 8 = .ok (.invokevirtual 123, 3) := by decide +kernel
theorem dX10_poseOf_11 : decode cX10_poseOf 11 = .ok (.imul, 1) := by decide +kernel
theorem dX10_poseOf_12 : decode cX10_poseOf 12 = .ok (.idiv, 1) := by decide +kernel
theorem dX10_poseOf_13 : decode cX10_poseOf 13 = .ok (.iload_n 2, 1) := by decide +kernel
theorem dX10_poseOf_14 : decode cX10_poseOf 14 = .ok (.invokestatic 126, 3) := by decide +kernel
theorem dX10_poseOf_17 : decode cX10_poseOf 17 = .ok (.idiv, 1) := by decide +kernel
theorem dX10_poseOf_18 : decode cX10_poseOf 18 = .ok (.iconst 3, 1) := by decide +kernel
theorem dX10_poseOf_19 : decode cX10_poseOf 19 = .ok (.irem, 1) := by decide +kernel
theorem dX10_poseOf_20 : decode cX10_poseOf 20 = .ok (.ireturn, 1) := by decide +kernel
theorem dX10_stepAt_0 : decode cX10_stepAt 0 = .ok (.iload_n 2, 1) := by decide +kernel
theorem dX10_stepAt_1 : decode cX10_stepAt 1 = .ok (.ifCond .ne 19, 3) := by decide +kernel
theorem dX10_stepAt_4 : decode cX10_stepAt 4 = .ok (.iload_n 1, 1) := by decide +kernel
theorem dX10_stepAt_5 : decode cX10_stepAt 5 = .ok (.aload_n 0, 1) := by decide +kernel
theorem dX10_stepAt_6 : decode cX10_stepAt 6 = .ok (.iconst 1, 1) := by decide +kernel
theorem dX10_stepAt_7 : decode cX10_stepAt 7 = .ok (.invokevirtual 123, 3) := by decide +kernel
theorem dX10_stepAt_10 : decode cX10_stepAt 10 = .ok (.idiv, 1) := by decide +kernel
theorem dX10_stepAt_11 : decode cX10_stepAt 11 = .ok (.aload_n 0, 1) := by decide +kernel
theorem dX10_stepAt_12 : decode cX10_stepAt 12 = .ok (.iconst 0, 1) := by decide +kernel
theorem dX10_stepAt_13 : decode cX10_stepAt 13 = .ok (.invokevirtual 123, 3) := by decide +kernel
theorem dX10_stepAt_16 : decode cX10_stepAt 16 = .ok (.irem, 1) := by decide +kernel
theorem dX10_stepAt_17 : decode cX10_stepAt 17 = .ok (.goto 10, 3) := by decide +kernel
theorem dX10_stepAt_20 : decode cX10_stepAt 20 = .ok (.iload_n 1, 1) := by decide +kernel
theorem dX10_stepAt_21 : decode cX10_stepAt 21 = .ok (.aload_n 0, 1) := by decide +kernel
theorem dX10_stepAt_22 : decode cX10_stepAt 22 = .ok (.iconst 1, 1) := by decide +kernel
theorem dX10_stepAt_23 : decode cX10_stepAt 23 = .ok (.invokevirtual 123, 3) := by decide +kernel
theorem dX10_stepAt_26 : decode cX10_stepAt 26 = .ok (.irem, 1) := by decide +kernel
theorem dX10_stepAt_27 : decode cX10_stepAt 27 = .ok (.ireturn, 1) := by decide +kernel
theorem dX10_straightAt_0 : decode cX10_straightAt 0 = .ok (.aload_n 0, 1) := by decide +kernel
theorem dX10_straightAt_1 : decode cX10_straightAt 1 = .ok (.iload_n 1, 1) := by decide +kernel
theorem dX10_straightAt_2 : decode cX10_straightAt 2 = .ok (.invokevirtual 120, 3) := by decide +kernel
theorem dX10_straightAt_5 : decode cX10_straightAt 5 = .ok (.ifCond .eq 16, 3) := by decide +kernel
theorem dX10_straightAt_8 : decode cX10_straightAt 8 = .ok (.aload_n 0, 1) := by decide +kernel
theorem dX10_straightAt_9 : decode cX10_straightAt 9 = .ok (.getfield 25, 3) := by decide +kernel
theorem dX10_straightAt_12 : decode cX10_straightAt 12 = .ok (.iload_n 1, 1) := by decide +kernel
theorem dX10_straightAt_13 : decode cX10_straightAt 13 = .ok (.iaload, 1) := by decide +kernel
theorem dX10_straightAt_14 : decode cX10_straightAt 14 = .ok (.ifCond .ne 7, 3) := by decide +kernel
theorem dX10_straightAt_17 : decode cX10_straightAt 17 = .ok (.iconst 2, 1) := by decide +kernel
theorem dX10_straightAt_18 : decode cX10_straightAt 18 = .ok (.goto 4, 3) := by decide +kernel
theorem dX10_straightAt_21 : decode cX10_straightAt 21 = .ok (.iconst 0, 1) := by decide +kernel
theorem dX10_straightAt_22 : decode cX10_straightAt 22 = .ok (.ireturn, 1) := by decide +kernel
theorem dX10_rest_0 : decode cX10_rest 0 = .ok (.aload_n 0, 1) := by decide +kernel
theorem dX10_rest_1 : decode cX10_rest 1 = .ok (.getfield 13, 3) := by decide +kernel
theorem dX10_rest_4 : decode cX10_rest 4 = .ok (.iconst 0, 1) := by decide +kernel
theorem dX10_rest_5 : decode cX10_rest 5 = .ok (.iaload, 1) := by decide +kernel
theorem dX10_rest_6 : decode cX10_rest 6 = .ok (.iconst 2, 1) := by decide +kernel
theorem dX10_rest_7 : decode cX10_rest 7 = .ok (.if_icmp .ne 7, 3) := by decide +kernel
theorem dX10_rest_10 : decode cX10_rest 10 = .ok (.iconst 4, 1) := by decide +kernel
theorem dX10_rest_11 : decode cX10_rest 11 = .ok (.goto 5, 3) := by decide +kernel
theorem dX10_rest_14 : decode cX10_rest 14 = .ok (.bipush 13, 2) := by decide +kernel
theorem dX10_rest_16 : decode cX10_rest 16 = .ok (.istore_n 1, 1) := by decide +kernel
theorem dX10_rest_17 : decode cX10_rest 17 = .ok (.iload_n 1, 1) := by decide +kernel
theorem dX10_rest_18 : decode cX10_rest 18 = .ok (.aload_n 0, 1) := by decide +kernel
theorem dX10_rest_19 : decode cX10_rest 19 = .ok (.iconst 0, 1) := by decide +kernel
theorem dX10_rest_20 : decode cX10_rest 20 = .ok (.invokevirtual 123, 3) := by decide +kernel
theorem dX10_rest_23 : decode cX10_rest 23 = .ok (.imul, 1) := by decide +kernel
theorem dX10_rest_24 : decode cX10_rest 24 = .ok (.aload_n 0, 1) := by decide +kernel
theorem dX10_rest_25 : decode cX10_rest 25 = .ok (.iconst 0, 1) := by decide +kernel
theorem dX10_rest_26 : decode cX10_rest 26 = .ok (.invokevirtual 129, 3) := by decide +kernel
theorem dX10_rest_29 : decode cX10_rest 29 = .ok (.iadd, 1) := by decide +kernel
theorem dX10_rest_30 : decode cX10_rest 30 = .ok (.aload_n 0, 1) := by decide +kernel
theorem dX10_rest_31 : decode cX10_rest 31 = .ok (.iconst 1, 1) := by decide +kernel
theorem dX10_rest_32 : decode cX10_rest 32 = .ok (.invokevirtual 123, 3) := by decide +kernel
theorem dX10_rest_35 : decode cX10_rest 35 = .ok (.imul, 1) := by decide +kernel
theorem dX10_rest_36 : decode cX10_rest 36 = .ok (.aload_n 0, 1) := by decide +kernel
theorem dX10_rest_37 : decode cX10_rest 37 = .ok (.iconst 1, 1) := by decide +kernel
theorem dX10_rest_38 : decode cX10_rest 38 = .ok (.invokevirtual 129, 3) := by decide +kernel
theorem dX10_rest_41 : decode cX10_rest 41 = .ok (.iadd, 1) := by decide +kernel
theorem dX10_rest_42 : decode cX10_rest 42 = .ok (.ireturn, 1) := by decide +kernel
theorem dX10_isStraight_0 : decode cX10_isStraight 0 = .ok (.aload_n 0, 1) := by decide +kernel
theorem dX10_isStraight_1 : decode cX10_isStraight 1 = .ok (.iload_n 1, 1) := by decide +kernel
theorem dX10_isStraight_2 : decode cX10_isStraight 2 = .ok (.iconst 0, 1) := by decide +kernel
theorem dX10_isStraight_3 : decode cX10_isStraight 3 = .ok (.invokevirtual 132, 3) := by decide +kernel
theorem dX10_isStraight_6 : decode cX10_isStraight 6 = .ok (.aload_n 0, 1) := by decide +kernel
theorem dX10_isStraight_7 : decode cX10_isStraight 7 = .ok (.iconst 0, 1) := by decide +kernel
theorem dX10_isStraight_8 : decode cX10_isStraight 8 = .ok (.invokevirtual 129, 3) := by decide +kernel
theorem dX10_isStraight_11 : decode cX10_isStraight 11 = .ok (.if_icmp .ne 21, 3) := by decide +kernel
theorem dX10_isStraight_14 : decode cX10_isStraight 14 = .ok (.aload_n 0, 1) := by decide +kernel
theorem dX10_isStraight_15 : decode cX10_isStraight 15 = .ok (.iload_n 1, 1) := by decide +kernel
theorem dX10_isStraight_16 : decode cX10_isStraight 16 = .ok (.iconst 1, 1) := by decide +kernel
theorem dX10_isStraight_17 : decode cX10_isStraight 17 = .ok (.invokevirtual 132, 3) := by decide +kernel
theorem dX10_isStraight_20 : decode cX10_isStraight 20 = .ok (.aload_n 0, 1) := by decide +kernel
theorem dX10_isStraight_21 : decode cX10_isStraight 21 = .ok (.iconst 1, 1) := by decide +kernel
theorem dX10_isStraight_22 : decode cX10_isStraight 22 = .ok (.invokevirtual 129, 3) := by decide +kernel
theorem dX10_isStraight_25 : decode cX10_isStraight 25 = .ok (.if_icmp .ne 7, 3) := by decide +kernel
theorem dX10_isStraight_28 : decode cX10_isStraight 28 = .ok (.iconst 1, 1) := by decide +kernel
theorem dX10_isStraight_29 : decode cX10_isStraight 29 = .ok (.goto 4, 3) := by decide +kernel
theorem dX10_isStraight_32 : decode cX10_isStraight 32 = .ok (.iconst 0, 1) := by decide +kernel
theorem dX10_isStraight_33 : decode cX10_isStraight 33 = .ok (.ireturn, 1) := by decide +kernel
theorem dX10_bent_0 : decode cX10_bent 0 = .ok (.aload_n 0, 1) := by decide +kernel
theorem dX10_bent_1 : decode cX10_bent 1 = .ok (.iload_n 2, 1) := by decide +kernel
theorem dX10_bent_2 : decode cX10_bent 2 = .ok (.invokevirtual 123, 3) := by decide +kernel
theorem dX10_bent_5 : decode cX10_bent 5 = .ok (.istore 4, 2) := by decide +kernel
theorem dX10_bent_7 : decode cX10_bent 7 = .ok (.aload_n 0, 1) := by decide +kernel
theorem dX10_bent_8 : decode cX10_bent 8 = .ok (.iload_n 1, 1) := by decide +kernel
theorem dX10_bent_9 : decode cX10_bent 9 = .ok (.iload_n 2, 1) := by decide +kernel
theorem dX10_bent_10 : decode cX10_bent 10 = .ok (.invokevirtual 132, 3) := by decide +kernel
theorem dX10_bent_13 : decode cX10_bent 13 = .ok (.istore 5, 2) := by decide +kernel
theorem dX10_bent_15 : decode cX10_bent 15 = .ok (.iload 5, 2) := by decide +kernel
theorem dX10_bent_17 : decode cX10_bent 17 = .ok (.iload_n 3, 1) := by decide +kernel
theorem dX10_bent_18 : decode cX10_bent 18 = .ok (.iadd, 1) := by decide +kernel
theorem dX10_bent_19 : decode cX10_bent 19 = .ok (.istore 6, 2) := by decide +kernel
theorem dX10_bent_21 : decode cX10_bent 21 = .ok (.aload_n 0, 1) := by decide +kernel
theorem dX10_bent_22 : decode cX10_bent 22 = .ok (.getfield 25, 3) := by decide +kernel
theorem dX10_bent_25 : decode cX10_bent 25 = .ok (.iload_n 2, 1) := by decide +kernel
theorem dX10_bent_26 : decode cX10_bent 26 = .ok (.iaload, 1) := by decide +kernel
theorem dX10_bent_27 : decode cX10_bent 27 = .ok (.iconst 1, 1) := by decide +kernel
theorem dX10_bent_28 : decode cX10_bent 28 = .ok (.if_icmp .ne 13, 3) := by decide +kernel
theorem dX10_bent_31 : decode cX10_bent 31 = .ok (.iload 6, 2) := by decide +kernel
theorem dX10_bent_33 : decode cX10_bent 33 = .ok (.iload 4, 2) := by decide +kernel
theorem dX10_bent_35 : decode cX10_bent 35 = .ok (.iadd, 1) := by decide +kernel
theorem dX10_bent_36 : decode cX10_bent 36 = .ok (.iload 4, 2) := by decide +kernel
theorem dX10_bent_38 : decode cX10_bent 38 = .ok (.irem, 1) := by decide +kernel
theorem dX10_bent_39 : decode cX10_bent 39 = .ok (.istore 6, 2) := by decide +kernel
theorem dX10_bent_41 : decode cX10_bent 41 = .ok (.iload 6, 2) := by decide +kernel
theorem dX10_bent_43 : decode cX10_bent 43 = .ok (.i2l, 1) := by decide +kernel
theorem dX10_bent_44 : decode cX10_bent 44 = .ok (.lconst 0, 1) := by decide +kernel
theorem dX10_bent_45 : decode cX10_bent 45 = .ok (.iload 4, 2) := by decide +kernel
theorem dX10_bent_47 : decode cX10_bent 47 = .ok (.iconst 1, 1) := by decide +kernel
theorem dX10_bent_48 : decode cX10_bent 48 = .ok (.isub, 1) := by decide +kernel
theorem dX10_bent_49 : decode cX10_bent 49 = .ok (.i2l, 1) := by decide +kernel
theorem dX10_bent_50 : decode cX10_bent 50 = .ok (.invokestatic 65, 3) := by decide +kernel
theorem dX10_bent_53 : decode cX10_bent 53 = .ok (.ifCond .ne 6, 3) := by decide +kernel
theorem dX10_bent_56 : decode cX10_bent 56 = .ok (.bipush (-4), 2) := by decide +kernel
theorem dX10_bent_58 : decode cX10_bent 58 = .ok (.ireturn, 1) := by decide +kernel
theorem dX10_bent_59 : decode cX10_bent 59 = .ok (.iload_n 1, 1) := by decide +kernel
theorem dX10_bent_60 : decode cX10_bent 60 = .ok (.iload 6, 2) := by decide +kernel
theorem dX10_bent_62 : decode cX10_bent 62 = .ok (.iload 5, 2) := by decide +kernel
theorem dX10_bent_64 : decode cX10_bent 64 = .ok (.isub, 1) := by decide +kernel
theorem dX10_bent_65 : decode cX10_bent 65 = .ok (.iload_n 2, 1) := by decide +kernel
theorem dX10_bent_66 : decode cX10_bent 66 = .ok (.ifCond .ne 11, 3) := by decide +kernel
theorem dX10_bent_69 : decode cX10_bent 69 = .ok (.aload_n 0, 1) := by decide +kernel
theorem dX10_bent_70 : decode cX10_bent 70 = .ok (.iconst 1, 1) := by decide +kernel
theorem dX10_bent_71 : decode cX10_bent 71 = .ok (.invokevirtual 123, 3) := by decide +kernel
theorem dX10_bent_74 : decode cX10_bent 74 = .ok (.goto 4, 3) := by decide +kernel
theorem dX10_bent_77 : decode cX10_bent 77 = .ok (.iconst 1, 1) := by decide +kernel
theorem dX10_bent_78 : decode cX10_bent 78 = .ok (.imul, 1) := by decide +kernel
theorem dX10_bent_79 : decode cX10_bent 79 = .ok (.iadd, 1) := by decide +kernel
theorem dX10_bent_80 : decode cX10_bent 80 = .ok (.ireturn, 1) := by decide +kernel
theorem dX10_posed_0 : decode cX10_posed 0 = .ok (.iload_n 1, 1) := by decide +kernel
theorem dX10_posed_1 : decode cX10_posed 1 = .ok (.iload_n 3, 1) := by decide +kernel
theorem dX10_posed_2 : decode cX10_posed 2 = .ok (.aload_n 0, 1) := by decide +kernel
theorem dX10_posed_3 : decode cX10_posed 3 = .ok (.iload_n 1, 1) := by decide +kernel
theorem dX10_posed_4 : decode cX10_posed 4 = .ok (.iload_n 2, 1) := by decide +kernel
theorem dX10_posed_5 : decode cX10_posed 5 = .ok (.invokevirtual 136, 3) := by decide +kernel
theorem dX10_posed_8 : decode cX10_posed 8 = .ok (.isub, 1) := by decide +kernel
theorem dX10_posed_9 : decode cX10_posed 9 = .ok (.iload_n 2, 1) := by decide +kernel
theorem dX10_posed_10 : decode cX10_posed 10 = .ok (.invokestatic 126, 3) := by decide +kernel
theorem dX10_posed_13 : decode cX10_posed 13 = .ok (.imul, 1) := by decide +kernel
theorem dX10_posed_14 : decode cX10_posed 14 = .ok (.aload_n 0, 1) := by decide +kernel
theorem dX10_posed_15 : decode cX10_posed 15 = .ok (.iconst 0, 1) := by decide +kernel
theorem dX10_posed_16 : decode cX10_posed 16 = .ok (.invokevirtual 123, 3) := by decide +kernel
theorem dX10_posed_19 : decode cX10_posed 19 = .ok (.imul, 1) := by decide +kernel
theorem dX10_posed_20 : decode cX10_posed 20 = .ok (.aload_n 0, 1) := by decide +kernel
theorem dX10_posed_21 : decode cX10_posed 21 = .ok (.iconst 1, 1) := by decide +kernel
theorem dX10_posed_22 : decode cX10_posed 22 = .ok (.invokevirtual 123, 3) := by decide +kernel
theorem dX10_posed_25 : decode cX10_posed 25 = .ok (.imul, 1) := by decide +kernel
theorem dX10_posed_26 : decode cX10_posed 26 = .ok (.iadd, 1) := by decide +kernel
theorem dX10_posed_27 : decode cX10_posed 27 = .ok (.ireturn, 1) := by decide +kernel
theorem dX10_moved_0 : decode cX10_moved 0 = .ok (.iload_n 2, 1) := by decide +kernel
theorem dX10_moved_1 : decode cX10_moved 1 = .ok (.ifCond .ne 5, 3) := by decide +kernel
theorem dX10_moved_4 : decode cX10_moved 4 = .ok (.iload_n 1, 1) := by decide +kernel
theorem dX10_moved_5 : decode cX10_moved 5 = .ok (.ireturn, 1) := by decide +kernel
theorem dX10_moved_6 : decode cX10_moved 6 = .ok (.iload_n 2, 1) := by decide +kernel
theorem dX10_moved_7 : decode cX10_moved 7 = .ok (.iconst 5, 1) := by decide +kernel
theorem dX10_moved_8 : decode cX10_moved 8 = .ok (.if_icmp .ge 41, 3) := by decide +kernel
theorem dX10_moved_11 : decode cX10_moved 11 = .ok (.iload_n 2, 1) := by decide +kernel
theorem dX10_moved_12 : decode cX10_moved 12 = .ok (.iconst 1, 1) := by decide +kernel
theorem dX10_moved_13 : decode cX10_moved 13 = .ok (.isub, 1) := by decide +kernel
theorem dX10_moved_14 : decode cX10_moved 14 = .ok (.iconst 2, 1) := by decide +kernel
theorem dX10_moved_15 : decode cX10_moved 15 = .ok (.idiv, 1) := by decide +kernel
theorem dX10_moved_16 : decode cX10_moved 16 = .ok (.istore_n 3, 1) := by decide +kernel
theorem dX10_moved_17 : decode cX10_moved 17 = .ok (.aload_n 0, 1) := by decide +kernel
theorem dX10_moved_18 : decode cX10_moved 18 = .ok (.iload_n 3, 1) := by decide +kernel
theorem dX10_moved_19 : decode cX10_moved 19 = .ok (.invokevirtual 120, 3) := by decide +kernel
theorem dX10_moved_22 : decode cX10_moved 22 = .ok (.ifCond .eq 24, 3) := by decide +kernel
theorem dX10_moved_25 : decode cX10_moved 25 = .ok (.aload_n 0, 1) := by decide +kernel
theorem dX10_moved_26 : decode cX10_moved 26 = .ok (.iload_n 1, 1) := by decide +kernel
theorem dX10_moved_27 : decode cX10_moved 27 = .ok (.iload_n 3, 1) := by decide +kernel
theorem dX10_moved_28 : decode cX10_moved 28 = .ok (.iload_n 2, 1) := by decide +kernel
theorem dX10_moved_29 : decode cX10_moved 29 = .ok (.iconst 2, 1) := by decide +kernel
theorem dX10_moved_30 : decode cX10_moved 30 = .ok (.irem, 1) := by decide +kernel
theorem dX10_moved_31 : decode cX10_moved 31 = .ok (.iconst 1, 1) := by decide +kernel
theorem dX10_moved_32 : decode cX10_moved 32 = .ok (.if_icmp .ne 7, 3) := by decide +kernel
theorem dX10_moved_35 : decode cX10_moved 35 = .ok (.iconst 1, 1) := by decide +kernel
theorem dX10_moved_36 : decode cX10_moved 36 = .ok (.goto 4, 3) := by decide +kernel
theorem dX10_moved_39 : decode cX10_moved 39 = .ok (.iconst (-1), 1) := by decide +kernel
theorem dX10_moved_40 : decode cX10_moved 40 = .ok (.invokevirtual 139, 3) := by decide +kernel
theorem dX10_moved_43 : decode cX10_moved 43 = .ok (.goto 5, 3) := by decide +kernel
theorem dX10_moved_46 : decode cX10_moved 46 = .ok (.bipush (-4), 2) := by decide +kernel
theorem dX10_moved_48 : decode cX10_moved 48 = .ok (.ireturn, 1) := by decide +kernel
theorem dX10_moved_49 : decode cX10_moved 49 = .ok (.iload_n 2, 1) := by decide +kernel
theorem dX10_moved_50 : decode cX10_moved 50 = .ok (.bipush 10, 2) := by decide +kernel
theorem dX10_moved_52 : decode cX10_moved 52 = .ok (.isub, 1) := by decide +kernel
theorem dX10_moved_53 : decode cX10_moved 53 = .ok (.iconst 3, 1) := by decide +kernel
theorem dX10_moved_54 : decode cX10_moved 54 = .ok (.idiv, 1) := by decide +kernel
theorem dX10_moved_55 : decode cX10_moved 55 = .ok (.istore_n 3, 1) := by decide +kernel
theorem dX10_moved_56 : decode cX10_moved 56 = .ok (.iload_n 2, 1) := by decide +kernel
theorem dX10_moved_57 : decode cX10_moved 57 = .ok (.bipush 10, 2) := by decide +kernel
theorem dX10_moved_59 : decode cX10_moved 59 = .ok (.if_icmp .lt 26, 3) := by decide +kernel
theorem dX10_moved_62 : decode cX10_moved 62 = .ok (.aload_n 0, 1) := by decide +kernel
theorem dX10_moved_63 : decode cX10_moved 63 = .ok (.iload_n 3, 1) := by decide +kernel
theorem dX10_moved_64 : decode cX10_moved 64 = .ok (.invokevirtual 115, 3) := by decide +kernel
theorem dX10_moved_67 : decode cX10_moved 67 = .ok (.ifCond .eq 18, 3) := by decide +kernel
theorem dX10_moved_70 : decode cX10_moved 70 = .ok (.aload_n 0, 1) := by decide +kernel
theorem dX10_moved_71 : decode cX10_moved 71 = .ok (.iload_n 1, 1) := by decide +kernel
theorem dX10_moved_72 : decode cX10_moved 72 = .ok (.iload_n 3, 1) := by decide +kernel
theorem dX10_moved_73 : decode cX10_moved 73 = .ok (.invokevirtual 136, 3) := by decide +kernel
theorem dX10_moved_76 : decode cX10_moved 76 = .ok (.iload_n 2, 1) := by decide +kernel
theorem dX10_moved_77 : decode cX10_moved 77 = .ok (.bipush 10, 2) := by decide +kernel
theorem dX10_moved_79 : decode cX10_moved 79 = .ok (.isub, 1) := by decide +kernel
theorem dX10_moved_80 : decode cX10_moved 80 = .ok (.iconst 3, 1) := by decide +kernel
theorem dX10_moved_81 : decode cX10_moved 81 = .ok (.irem, 1) := by decide +kernel
theorem dX10_moved_82 : decode cX10_moved 82 = .ok (.if_icmp .ne 6, 3) := by decide +kernel
theorem dX10_moved_85 : decode cX10_moved 85 = .ok (.bipush (-4), 2) := by decide +kernel
theorem dX10_moved_87 : decode cX10_moved 87 = .ok (.ireturn, 1) := by decide +kernel
theorem dX10_moved_88 : decode cX10_moved 88 = .ok (.aload_n 0, 1) := by decide +kernel
theorem dX10_moved_89 : decode cX10_moved 89 = .ok (.iload_n 1, 1) := by decide +kernel
theorem dX10_moved_90 : decode cX10_moved 90 = .ok (.iload_n 3, 1) := by decide +kernel
theorem dX10_moved_91 : decode cX10_moved 91 = .ok (.iload_n 2, 1) := by decide +kernel
theorem dX10_moved_92 : decode cX10_moved 92 = .ok (.bipush 10, 2) := by decide +kernel
theorem dX10_moved_94 : decode cX10_moved 94 = .ok (.isub, 1) := by decide +kernel
theorem dX10_moved_95 : decode cX10_moved 95 = .ok (.iconst 3, 1) := by decide +kernel
theorem dX10_moved_96 : decode cX10_moved 96 = .ok (.irem, 1) := by decide +kernel
theorem dX10_moved_97 : decode cX10_moved 97 = .ok (.invokevirtual 143, 3) := by decide +kernel
theorem dX10_moved_100 : decode cX10_moved 100 = .ok (.ireturn, 1) := by decide +kernel
theorem dX10_loadsFrom_0 : decode cX10_loadsFrom 0 = .ok (.iconst 0, 1) := by decide +kernel
theorem dX10_loadsFrom_1 : decode cX10_loadsFrom 1 = .ok (.istore_n 3, 1) := by decide +kernel
theorem dX10_loadsFrom_2 : decode cX10_loadsFrom 2 = .ok (.iload_n 2, 1) := by decide +kernel
theorem dX10_loadsFrom_3 : decode cX10_loadsFrom 3 = .ok (.istore 4, 2) := by decide +kernel
theorem dX10_loadsFrom_5 : decode cX10_loadsFrom 5 = .ok (.iload 4, 2) := by decide +kernel
theorem dX10_loadsFrom_7 : decode cX10_loadsFrom 7 = .ok (.aload_n 0, 1) := by decide +kernel
theorem dX10_loadsFrom_8 : decode cX10_loadsFrom 8 = .ok (.getfield 13, 3) := by decide +kernel
theorem dX10_loadsFrom_11 : decode cX10_loadsFrom 11 = .ok (.iconst 0, 1) := by decide +kernel
theorem dX10_loadsFrom_12 : decode cX10_loadsFrom 12 = .ok (.iaload, 1) := by decide +kernel
theorem dX10_loadsFrom_13 : decode cX10_loadsFrom 13 = .ok (.if_icmp .ge 29, 3) := by decide +kernel
theorem dX10_loadsFrom_16 : decode cX10_loadsFrom 16 = .ok (.iload_n 3, 1) := by decide +kernel
theorem dX10_loadsFrom_17 : decode cX10_loadsFrom 17 = .ok (.aload_n 0, 1) := by decide +kernel
theorem dX10_loadsFrom_18 : decode cX10_loadsFrom 18 = .ok (.getfield 16, 3) := by decide +kernel
theorem dX10_loadsFrom_21 : decode cX10_loadsFrom 21 = .ok (.iconst 3, 1) := by decide +kernel
theorem dX10_loadsFrom_22 : decode cX10_loadsFrom 22 = .ok (.iload 4, 2) := by decide +kernel
theorem dX10_loadsFrom_24 : decode cX10_loadsFrom 24 = .ok (.imul, 1) := by decide +kernel
theorem dX10_loadsFrom_25 : decode cX10_loadsFrom 25 = .ok (.aload_n 0, 1) := by decide +kernel
theorem dX10_loadsFrom_26 : decode cX10_loadsFrom 26 = .ok (.iload_n 1, 1) := by decide +kernel
theorem dX10_loadsFrom_27 : decode cX10_loadsFrom 27 = .ok (.iload 4, 2) := by decide +kernel
theorem dX10_loadsFrom_29 : decode cX10_loadsFrom 29 = .ok (.invokevirtual 136, 3) := by decide +kernel
theorem dX10_loadsFrom_32 : decode cX10_loadsFrom 32 = .ok (.iadd, 1) := by decide +kernel
theorem dX10_loadsFrom_33 : decode cX10_loadsFrom 33 = .ok (.iaload, 1) := by decide +kernel
theorem dX10_loadsFrom_34 : decode cX10_loadsFrom 34 = .ok (.iadd, 1) := by decide +kernel
theorem dX10_loadsFrom_35 : decode cX10_loadsFrom 35 = .ok (.istore_n 3, 1) := by decide +kernel
theorem dX10_loadsFrom_36 : decode cX10_loadsFrom 36 = .ok (.iinc 4 1, 3) := by decide +kernel
theorem dX10_loadsFrom_39 : decode cX10_loadsFrom 39 = .ok (.goto (-34), 3) := by decide +kernel
theorem dX10_loadsFrom_42 : decode cX10_loadsFrom 42 = .ok (.iload_n 3, 1) := by decide +kernel
theorem dX10_loadsFrom_43 : decode cX10_loadsFrom 43 = .ok (.ireturn, 1) := by decide +kernel
theorem dX10_turnedBy_0 : decode cX10_turnedBy 0 = .ok (.aload_n 0, 1) := by decide +kernel
theorem dX10_turnedBy_1 : decode cX10_turnedBy 1 = .ok (.iload_n 1, 1) := by decide +kernel
theorem dX10_turnedBy_2 : decode cX10_turnedBy 2 = .ok (.iconst 0, 1) := by decide +kernel
theorem dX10_turnedBy_3 : decode cX10_turnedBy 3 = .ok (.invokevirtual 146, 3) := by decide +kernel
theorem dX10_turnedBy_6 : decode cX10_turnedBy 6 = .ok (.istore_n 3, 1) := by decide +kernel
theorem dX10_turnedBy_7 : decode cX10_turnedBy 7 = .ok (.aload_n 0, 1) := by decide +kernel
theorem dX10_turnedBy_8 : decode cX10_turnedBy 8 = .ok (.getfield 149, 3) := by decide +kernel
theorem dX10_turnedBy_11 : decode cX10_turnedBy 11 = .ok (.iload_n 3, 1) := by decide +kernel
theorem dX10_turnedBy_12 : decode cX10_turnedBy 12 = .ok (.idiv, 1) := by decide +kernel
theorem dX10_turnedBy_13 : decode cX10_turnedBy 13 = .ok (.istore 4, 2) := by decide +kernel
theorem dX10_turnedBy_15 : decode cX10_turnedBy 15 = .ok (.iload_n 2, 1) := by decide +kernel
theorem dX10_turnedBy_16 : decode cX10_turnedBy 16 = .ok (.i2l, 1) := by decide +kernel
theorem dX10_turnedBy_17 : decode cX10_turnedBy 17 = .ok (.lconst 1, 1) := by decide +kernel
theorem dX10_turnedBy_18 : decode cX10_turnedBy 18 = .ok (.ldc2_w 85, 3) := by decide +kernel
theorem dX10_turnedBy_21 : decode cX10_turnedBy 21 = .ok (.invokestatic 65, 3) := by decide +kernel
theorem dX10_turnedBy_24 : decode cX10_turnedBy 24 = .ok (.ifCond .eq 56, 3) := by decide +kernel
theorem dX10_turnedBy_27 : decode cX10_turnedBy 27 = .ok (.iload_n 2, 1) := by decide +kernel
theorem dX10_turnedBy_28 : decode cX10_turnedBy 28 = .ok (.iconst 1, 1) := by decide +kernel
theorem dX10_turnedBy_29 : decode cX10_turnedBy 29 = .ok (.isub, 1) := by decide +kernel
theorem dX10_turnedBy_30 : decode cX10_turnedBy 30 = .ok (.iconst 2, 1) := by decide +kernel
theorem dX10_turnedBy_31 : decode cX10_turnedBy 31 = .ok (.idiv, 1) := by decide +kernel
theorem dX10_turnedBy_32 : decode cX10_turnedBy 32 = .ok (.istore 5, 2) := by decide +kernel
theorem dX10_turnedBy_34 : decode cX10_turnedBy 34 = .ok (.iload_n 2, 1) := by decide +kernel
theorem dX10_turnedBy_35 : decode cX10_turnedBy 35 = .ok (.iconst 2, 1) := by decide +kernel
theorem dX10_turnedBy_36 : decode cX10_turnedBy 36 = .ok (.irem, 1) := by decide +kernel
theorem dX10_turnedBy_37 : decode cX10_turnedBy 37 = .ok (.iconst 1, 1) := by decide +kernel
theorem dX10_turnedBy_38 : decode cX10_turnedBy 38 = .ok (.if_icmp .ne 13, 3) := by decide +kernel
theorem dX10_turnedBy_41 : decode cX10_turnedBy 41 = .ok (.aload_n 0, 1) := by decide +kernel
theorem dX10_turnedBy_42 : decode cX10_turnedBy 42 = .ok (.getfield 22, 3) := by decide +kernel
theorem dX10_turnedBy_45 : decode cX10_turnedBy 45 = .ok (.iload 5, 2) := by decide +kernel
theorem dX10_turnedBy_47 : decode cX10_turnedBy 47 = .ok (.iaload, 1) := by decide +kernel
theorem dX10_turnedBy_48 : decode cX10_turnedBy 48 = .ok (.goto 11, 3) := by decide +kernel
theorem dX10_turnedBy_51 : decode cX10_turnedBy 51 = .ok (.aload_n 0, 1) := by decide +kernel
theorem dX10_turnedBy_52 : decode cX10_turnedBy 52 = .ok (.getfield 22, 3) := by decide +kernel
theorem dX10_turnedBy_55 : decode cX10_turnedBy 55 = .ok (.iload 5, 2) := by decide +kernel
theorem dX10_turnedBy_57 : decode cX10_turnedBy 57 = .ok (.iaload, 1) := by decide +kernel
theorem dX10_turnedBy_58 : decode cX10_turnedBy 58 = .ok (.ineg, 1) := by decide +kernel
theorem dX10_turnedBy_59 : decode cX10_turnedBy 59 = .ok (.istore 6, 2) := by decide +kernel
theorem dX10_turnedBy_61 : decode cX10_turnedBy 61 = .ok (.iload 4, 2) := by decide +kernel
theorem dX10_turnedBy_63 : decode cX10_turnedBy 63 = .ok (.iload 6, 2) := by decide +kernel
theorem dX10_turnedBy_65 : decode cX10_turnedBy 65 = .ok (.aload_n 0, 1) := by decide +kernel
theorem dX10_turnedBy_66 : decode cX10_turnedBy 66 = .ok (.iload_n 1, 1) := by decide +kernel
theorem dX10_turnedBy_67 : decode cX10_turnedBy 67 = .ok (.iload 5, 2) := by decide +kernel
theorem dX10_turnedBy_69 : decode cX10_turnedBy 69 = .ok (.iconst 1, 1) := by decide +kernel
theorem dX10_turnedBy_70 : decode cX10_turnedBy 70 = .ok (.iadd, 1) := by decide +kernel
theorem dX10_turnedBy_71 : decode cX10_turnedBy 71 = .ok (.invokevirtual 146, 3) := by decide +kernel
theorem dX10_turnedBy_74 : decode cX10_turnedBy 74 = .ok (.imul, 1) := by decide +kernel
theorem dX10_turnedBy_75 : decode cX10_turnedBy 75 = .ok (.iload_n 3, 1) := by decide +kernel
theorem dX10_turnedBy_76 : decode cX10_turnedBy 76 = .ok (.idiv, 1) := by decide +kernel
theorem dX10_turnedBy_77 : decode cX10_turnedBy 77 = .ok (.isub, 1) := by decide +kernel
theorem dX10_turnedBy_78 : decode cX10_turnedBy 78 = .ok (.istore 4, 2) := by decide +kernel
theorem dX10_turnedBy_80 : decode cX10_turnedBy 80 = .ok (.iload 4, 2) := by decide +kernel
theorem dX10_turnedBy_82 : decode cX10_turnedBy 82 = .ok (.ireturn, 1) := by decide +kernel
theorem dX10_round_0 : decode cX10_round 0 = .ok (.iload_n 0, 1) := by decide +kernel
theorem dX10_round_1 : decode cX10_round 1 = .ok (.sipush 360, 3) := by decide +kernel
theorem dX10_round_4 : decode cX10_round 4 = .ok (.irem, 1) := by decide +kernel
theorem dX10_round_5 : decode cX10_round 5 = .ok (.istore_n 1, 1) := by decide +kernel
theorem dX10_round_6 : decode cX10_round 6 = .ok (.iload_n 1, 1) := by decide +kernel
theorem dX10_round_7 : decode cX10_round 7 = .ok (.ifCond .ge 11, 3) := by decide +kernel
theorem dX10_round_10 : decode cX10_round 10 = .ok (.iload_n 1, 1) := by decide +kernel
theorem dX10_round_11 : decode cX10_round 11 = .ok (.sipush 360, 3) := by decide +kernel
theorem dX10_round_14 : decode cX10_round 14 = .ok (.iadd, 1) := by decide +kernel
theorem dX10_round_15 : decode cX10_round 15 = .ok (.goto 4, 3) := by decide +kernel
theorem dX10_round_18 : decode cX10_round 18 = .ok (.iload_n 1, 1) := by decide +kernel
theorem dX10_round_19 : decode cX10_round 19 = .ok (.ireturn, 1) := by decide +kernel
theorem dX10_isRight_0 : decode cX10_isRight 0 = .ok (.iload_n 1, 1) := by decide +kernel
theorem dX10_isRight_1 : decode cX10_isRight 1 = .ok (.aload_n 0, 1) := by decide +kernel
theorem dX10_isRight_2 : decode cX10_isRight 2 = .ok (.getfield 31, 3) := by decide +kernel
theorem dX10_isRight_5 : decode cX10_isRight 5 = .ok (.iconst 0, 1) := by decide +kernel
theorem dX10_isRight_6 : decode cX10_isRight 6 = .ok (.iaload, 1) := by decide +kernel
theorem dX10_isRight_7 : decode cX10_isRight 7 = .ok (.if_icmp .le 17, 3) := by decide +kernel
theorem dX10_isRight_10 : decode cX10_isRight 10 = .ok (.sipush 360, 3) := by decide +kernel
theorem dX10_isRight_13 : decode cX10_isRight 13 = .ok (.iload_n 1, 1) := by decide +kernel
theorem dX10_isRight_14 : decode cX10_isRight 14 = .ok (.isub, 1) := by decide +kernel
theorem dX10_isRight_15 : decode cX10_isRight 15 = .ok (.aload_n 0, 1) := by decide +kernel
theorem dX10_isRight_16 : decode cX10_isRight 16 = .ok (.getfield 31, 3) := by decide +kernel
theorem dX10_isRight_19 : decode cX10_isRight 19 = .ok (.iconst 0, 1) := by decide +kernel
theorem dX10_isRight_20 : decode cX10_isRight 20 = .ok (.iaload, 1) := by decide +kernel
theorem dX10_isRight_21 : decode cX10_isRight 21 = .ok (.if_icmp .gt 7, 3) := by decide +kernel
theorem dX10_isRight_24 : decode cX10_isRight 24 = .ok (.iconst 1, 1) := by decide +kernel
theorem dX10_isRight_25 : decode cX10_isRight 25 = .ok (.goto 4, 3) := by decide +kernel
theorem dX10_isRight_28 : decode cX10_isRight 28 = .ok (.iconst 0, 1) := by decide +kernel
theorem dX10_isRight_29 : decode cX10_isRight 29 = .ok (.ireturn, 1) := by decide +kernel
theorem dX10_isTurn_0 : decode cX10_isTurn 0 = .ok (.iload_n 0, 1) := by decide +kernel
theorem dX10_isTurn_1 : decode cX10_isTurn 1 = .ok (.i2l, 1) := by decide +kernel
theorem dX10_isTurn_2 : decode cX10_isTurn 2 = .ok (.lconst 0, 1) := by decide +kernel
theorem dX10_isTurn_3 : decode cX10_isTurn 3 = .ok (.ldc2_w 152, 3) := by decide +kernel
theorem dX10_isTurn_6 : decode cX10_isTurn 6 = .ok (.invokestatic 65, 3) := by decide +kernel
theorem dX10_isTurn_9 : decode cX10_isTurn 9 = .ok (.ireturn, 1) := by decide +kernel
theorem dX10_isWay_0 : decode cX10_isWay 0 = .ok (.iload_n 0, 1) := by decide +kernel
theorem dX10_isWay_1 : decode cX10_isWay 1 = .ok (.i2l, 1) := by decide +kernel
theorem dX10_isWay_2 : decode cX10_isWay 2 = .ok (.lconst 0, 1) := by decide +kernel
theorem dX10_isWay_3 : decode cX10_isWay 3 = .ok (.ldc2_w 154, 3) := by decide +kernel
theorem dX10_isWay_6 : decode cX10_isWay 6 = .ok (.invokestatic 65, 3) := by decide +kernel
theorem dX10_isWay_9 : decode cX10_isWay 9 = .ok (.ireturn, 1) := by decide +kernel
theorem dX10_move_0 : decode cX10_move 0 = .ok (.iload_n 1, 1) := by decide +kernel
theorem dX10_move_1 : decode cX10_move 1 = .ok (.invokestatic 156, 3) := by decide +kernel
theorem dX10_move_4 : decode cX10_move 4 = .ok (.ifCond .eq 15, 3) := by decide +kernel
theorem dX10_move_7 : decode cX10_move 7 = .ok (.iload_n 2, 1) := by decide +kernel
theorem dX10_move_8 : decode cX10_move 8 = .ok (.i2l, 1) := by decide +kernel
theorem dX10_move_9 : decode cX10_move 9 = .ok (.lconst 0, 1) := by decide +kernel
theorem dX10_move_10 : decode cX10_move 10 = .ok (.ldc2_w 159, 3) := by decide +kernel
theorem dX10_move_13 : decode cX10_move 13 = .ok (.invokestatic 65, 3) := by decide +kernel
theorem dX10_move_16 : decode cX10_move 16 = .ok (.ifCond .ne 5, 3) := by decide +kernel
theorem dX10_move_19 : decode cX10_move 19 = .ok (.iconst (-1), 1) := by decide +kernel
theorem dX10_move_20 : decode cX10_move 20 = .ok (.ireturn, 1) := by decide +kernel
theorem dX10_move_21 : decode cX10_move 21 = .ok (.aload_n 0, 1) := by decide +kernel
theorem dX10_move_22 : decode cX10_move 22 = .ok (.getfield 34, 3) := by decide +kernel
theorem dX10_move_25 : decode cX10_move 25 = .ok (.iload_n 1, 1) := by decide +kernel
theorem dX10_move_26 : decode cX10_move 26 = .ok (.iaload, 1) := by decide +kernel
theorem dX10_move_27 : decode cX10_move 27 = .ok (.bipush 60, 2) := by decide +kernel
theorem dX10_move_29 : decode cX10_move 29 = .ok (.if_icmp .ne 6, 3) := by decide +kernel
theorem dX10_move_32 : decode cX10_move 32 = .ok (.bipush (-3), 2) := by decide +kernel
theorem dX10_move_34 : decode cX10_move 34 = .ok (.ireturn, 1) := by decide +kernel
theorem dX10_move_35 : decode cX10_move 35 = .ok (.aload_n 0, 1) := by decide +kernel
theorem dX10_move_36 : decode cX10_move 36 = .ok (.getfield 37, 3) := by decide +kernel
theorem dX10_move_39 : decode cX10_move 39 = .ok (.bipush 60, 2) := by decide +kernel
theorem dX10_move_41 : decode cX10_move 41 = .ok (.iload_n 1, 1) := by decide +kernel
theorem dX10_move_42 : decode cX10_move 42 = .ok (.imul, 1) := by decide +kernel
theorem dX10_move_43 : decode cX10_move 43 = .ok (.aload_n 0, 1) := by decide +kernel
theorem dX10_move_44 : decode cX10_move 44 = .ok (.getfield 34, 3) := by decide +kernel
theorem dX10_move_47 : decode cX10_move 47 = .ok (.iload_n 1, 1) := by decide +kernel
theorem dX10_move_48 : decode cX10_move 48 = .ok (.iaload, 1) := by decide +kernel
theorem dX10_move_49 : decode cX10_move 49 = .ok (.iadd, 1) := by decide +kernel
theorem dX10_move_50 : decode cX10_move 50 = .ok (.iload_n 2, 1) := by decide +kernel
theorem dX10_move_51 : decode cX10_move 51 = .ok (.iastore, 1) := by decide +kernel
theorem dX10_move_52 : decode cX10_move 52 = .ok (.aload_n 0, 1) := by decide +kernel
theorem dX10_move_53 : decode cX10_move 53 = .ok (.getfield 34, 3) := by decide +kernel
theorem dX10_move_56 : decode cX10_move 56 = .ok (.iload_n 1, 1) := by decide +kernel
theorem dX10_move_57 : decode cX10_move 57 = .ok (.dup2, 1) := by decide +kernel
theorem dX10_move_58 : decode cX10_move 58 = .ok (.iaload, 1) := by decide +kernel
theorem dX10_move_59 : decode cX10_move 59 = .ok (.iconst 1, 1) := by decide +kernel
theorem dX10_move_60 : decode cX10_move 60 = .ok (.iadd, 1) := by decide +kernel
theorem dX10_move_61 : decode cX10_move 61 = .ok (.iastore, 1) := by decide +kernel
theorem dX10_move_62 : decode cX10_move 62 = .ok (.aload_n 0, 1) := by decide +kernel
theorem dX10_move_63 : decode cX10_move 63 = .ok (.getfield 34, 3) := by decide +kernel
theorem dX10_move_66 : decode cX10_move 66 = .ok (.iload_n 1, 1) := by decide +kernel
theorem dX10_move_67 : decode cX10_move 67 = .ok (.iaload, 1) := by decide +kernel
theorem dX10_move_68 : decode cX10_move 68 = .ok (.ireturn, 1) := by decide +kernel
theorem dX10_noWay_0 : decode cX10_noWay 0 = .ok (.iload_n 1, 1) := by decide +kernel
theorem dX10_noWay_1 : decode cX10_noWay 1 = .ok (.invokestatic 156, 3) := by decide +kernel
theorem dX10_noWay_4 : decode cX10_noWay 4 = .ok (.ifCond .ne 5, 3) := by decide +kernel
theorem dX10_noWay_7 : decode cX10_noWay 7 = .ok (.iconst (-1), 1) := by decide +kernel
theorem dX10_noWay_8 : decode cX10_noWay 8 = .ok (.ireturn, 1) := by decide +kernel
theorem dX10_noWay_9 : decode cX10_noWay 9 = .ok (.aload_n 0, 1) := by decide +kernel
theorem dX10_noWay_10 : decode cX10_noWay 10 = .ok (.getfield 34, 3) := by decide +kernel
theorem dX10_noWay_13 : decode cX10_noWay 13 = .ok (.iload_n 1, 1) := by decide +kernel
theorem dX10_noWay_14 : decode cX10_noWay 14 = .ok (.iaload, 1) := by decide +kernel
theorem dX10_noWay_15 : decode cX10_noWay 15 = .ok (.istore_n 2, 1) := by decide +kernel
theorem dX10_noWay_16 : decode cX10_noWay 16 = .ok (.aload_n 0, 1) := by decide +kernel
theorem dX10_noWay_17 : decode cX10_noWay 17 = .ok (.getfield 34, 3) := by decide +kernel
theorem dX10_noWay_20 : decode cX10_noWay 20 = .ok (.iload_n 1, 1) := by decide +kernel
theorem dX10_noWay_21 : decode cX10_noWay 21 = .ok (.iconst 0, 1) := by decide +kernel
theorem dX10_noWay_22 : decode cX10_noWay 22 = .ok (.iastore, 1) := by decide +kernel
theorem dX10_noWay_23 : decode cX10_noWay 23 = .ok (.iload_n 2, 1) := by decide +kernel
theorem dX10_noWay_24 : decode cX10_noWay 24 = .ok (.ireturn, 1) := by decide +kernel
theorem dX10_go_0 : decode cX10_go 0 = .ok (.aload_n 0, 1) := by decide +kernel
theorem dX10_go_1 : decode cX10_go 1 = .ok (.aload_n 0, 1) := by decide +kernel
theorem dX10_go_2 : decode cX10_go 2 = .ok (.invokevirtual 161, 3) := by decide +kernel
theorem dX10_go_5 : decode cX10_go 5 = .ok (.putfield 164, 3) := by decide +kernel
theorem dX10_go_8 : decode cX10_go 8 = .ok (.aload_n 0, 1) := by decide +kernel
theorem dX10_go_9 : decode cX10_go 9 = .ok (.iload_n 2, 1) := by decide +kernel
theorem dX10_go_10 : decode cX10_go 10 = .ok (.putfield 167, 3) := by decide +kernel
theorem dX10_go_13 : decode cX10_go 13 = .ok (.aload_n 0, 1) := by decide +kernel
theorem dX10_go_14 : decode cX10_go 14 = .ok (.iconst 0, 1) := by decide +kernel
theorem dX10_go_15 : decode cX10_go 15 = .ok (.putfield 170, 3) := by decide +kernel
theorem dX10_go_18 : decode cX10_go 18 = .ok (.iconst 1, 1) := by decide +kernel
theorem dX10_go_19 : decode cX10_go 19 = .ok (.istore 4, 2) := by decide +kernel
theorem dX10_go_21 : decode cX10_go 21 = .ok (.iload 4, 2) := by decide +kernel
theorem dX10_go_23 : decode cX10_go 23 = .ok (.ifCond .eq 108, 3) := by decide +kernel
theorem dX10_go_26 : decode cX10_go 26 = .ok (.aload_n 0, 1) := by decide +kernel
theorem dX10_go_27 : decode cX10_go 27 = .ok (.getfield 170, 3) := by decide +kernel
theorem dX10_go_30 : decode cX10_go 30 = .ok (.aload_n 0, 1) := by decide +kernel
theorem dX10_go_31 : decode cX10_go 31 = .ok (.getfield 34, 3) := by decide +kernel
theorem dX10_go_34 : decode cX10_go 34 = .ok (.iload_n 1, 1) := by decide +kernel
theorem dX10_go_35 : decode cX10_go 35 = .ok (.iaload, 1) := by decide +kernel
theorem dX10_go_36 : decode cX10_go 36 = .ok (.if_icmp .ge 95, 3) := by decide +kernel
theorem dX10_go_39 : decode cX10_go 39 = .ok (.aload_n 0, 1) := by decide +kernel
theorem dX10_go_40 : decode cX10_go 40 = .ok (.getfield 170, 3) := by decide +kernel
theorem dX10_go_43 : decode cX10_go 43 = .ok (.iload_n 3, 1) := by decide +kernel
theorem dX10_go_44 : decode cX10_go 44 = .ok (.if_icmp .ge 87, 3) := by decide +kernel
theorem dX10_go_47 : decode cX10_go 47 = .ok (.aload_n 0, 1) := by decide +kernel
theorem dX10_go_48 : decode cX10_go 48 = .ok (.getfield 37, 3) := by decide +kernel
theorem dX10_go_51 : decode cX10_go 51 = .ok (.bipush 60, 2) := by decide +kernel
theorem dX10_go_53 : decode cX10_go 53 = .ok (.iload_n 1, 1) := by decide +kernel
theorem dX10_go_54 : decode cX10_go 54 = .ok (.imul, 1) := by decide +kernel
theorem dX10_go_55 : decode cX10_go 55 = .ok (.aload_n 0, 1) := by decide +kernel
theorem dX10_go_56 : decode cX10_go 56 = .ok (.getfield 170, 3) := by decide +kernel
theorem dX10_go_59 : decode cX10_go 59 = .ok (.iadd, 1) := by decide +kernel
theorem dX10_go_60 : decode cX10_go 60 = .ok (.iaload, 1) := by decide +kernel
theorem dX10_go_61 : decode cX10_go 61 = .ok (.istore 5, 2) := by decide +kernel
theorem dX10_go_63 : decode cX10_go 63 = .ok (.aload_n 0, 1) := by decide +kernel
theorem dX10_go_64 : decode cX10_go 64 = .ok (.aload_n 0, 1) := by decide +kernel
theorem dX10_go_65 : decode cX10_go 65 = .ok (.getfield 164, 3) := by decide +kernel
theorem dX10_go_68 : decode cX10_go 68 = .ok (.iload 5, 2) := by decide +kernel
theorem dX10_go_70 : decode cX10_go 70 = .ok (.invokevirtual 173, 3) := by decide +kernel
theorem dX10_go_73 : decode cX10_go 73 = .ok (.istore 6, 2) := by decide +kernel
theorem dX10_go_75 : decode cX10_go 75 = .ok (.iload 6, 2) := by decide +kernel
theorem dX10_go_77 : decode cX10_go 77 = .ok (.ifCond .lt 7, 3) := by decide +kernel
theorem dX10_go_80 : decode cX10_go 80 = .ok (.iconst 1, 1) := by decide +kernel
theorem dX10_go_81 : decode cX10_go 81 = .ok (.goto 4, 3) := by decide +kernel
theorem dX10_go_84 : decode cX10_go 84 = .ok (.iconst 0, 1) := by decide +kernel
theorem dX10_go_85 : decode cX10_go 85 = .ok (.istore 4, 2) := by decide +kernel
theorem dX10_go_87 : decode cX10_go 87 = .ok (.iload 4, 2) := by decide +kernel
theorem dX10_go_89 : decode cX10_go 89 = .ok (.ifCond .eq 39, 3) := by decide +kernel
theorem dX10_go_92 : decode cX10_go 92 = .ok (.aload_n 0, 1) := by decide +kernel
theorem dX10_go_93 : decode cX10_go 93 = .ok (.iload 6, 2) := by decide +kernel
theorem dX10_go_95 : decode cX10_go 95 = .ok (.putfield 164, 3) := by decide +kernel
theorem dX10_go_98 : decode cX10_go 98 = .ok (.aload_n 0, 1) := by decide +kernel
theorem dX10_go_99 : decode cX10_go 99 = .ok (.aload_n 0, 1) := by decide +kernel
theorem dX10_go_100 : decode cX10_go 100 = .ok (.getfield 167, 3) := by decide +kernel
theorem dX10_go_103 : decode cX10_go 103 = .ok (.aload_n 0, 1) := by decide +kernel
theorem dX10_go_104 : decode cX10_go 104 = .ok (.iload 6, 2) := by decide +kernel
theorem dX10_go_106 : decode cX10_go 106 = .ok (.iload 5, 2) := by decide +kernel
theorem dX10_go_108 : decode cX10_go 108 = .ok (.invokevirtual 176, 3) := by decide +kernel
theorem dX10_go_111 : decode cX10_go 111 = .ok (.iadd, 1) := by decide +kernel
theorem dX10_go_112 : decode cX10_go 112 = .ok (.invokestatic 179, 3) := by decide +kernel
theorem dX10_go_115 : decode cX10_go 115 = .ok (.putfield 167, 3) := by decide +kernel
theorem dX10_go_118 : decode cX10_go 118 = .ok (.aload_n 0, 1) := by decide +kernel
theorem dX10_go_119 : decode cX10_go 119 = .ok (.dup, 1) := by decide +kernel
theorem dX10_go_120 : decode cX10_go 120 = .ok (.getfield 170, 3) := by decide +kernel
theorem dX10_go_123 : decode cX10_go 123 = .ok (.iconst 1, 1) := by decide +kernel
theorem dX10_go_124 : decode cX10_go 124 = .ok (.iadd, 1) := by decide +kernel
theorem dX10_go_125 : decode cX10_go 125 = .ok (.putfield 170, 3) := by decide +kernel
theorem dX10_go_128 : decode cX10_go 128 = .ok (.goto (-107), 3) := by decide +kernel
theorem dX10_go_131 : decode cX10_go 131 = .ok (.return_, 1) := by decide +kernel
theorem dX10_turnOf_0 : decode cX10_turnOf 0 = .ok (.aload_n 0, 1) := by decide +kernel
theorem dX10_turnOf_1 : decode cX10_turnOf 1 = .ok (.getfield 167, 3) := by decide +kernel
theorem dX10_turnOf_4 : decode cX10_turnOf 4 = .ok (.istore_n 2, 1) := by decide +kernel
theorem dX10_turnOf_5 : decode cX10_turnOf 5 = .ok (.iconst 0, 1) := by decide +kernel
theorem dX10_turnOf_6 : decode cX10_turnOf 6 = .ok (.istore_n 3, 1) := by decide +kernel
theorem dX10_turnOf_7 : decode cX10_turnOf 7 = .ok (.iload_n 3, 1) := by decide +kernel
theorem dX10_turnOf_8 : decode cX10_turnOf 8 = .ok (.iload_n 1, 1) := by decide +kernel
theorem dX10_turnOf_9 : decode cX10_turnOf 9 = .ok (.if_icmp .ge 34, 3) := by decide +kernel
theorem dX10_turnOf_12 : decode cX10_turnOf 12 = .ok (.iload_n 2, 1) := by decide +kernel
theorem dX10_turnOf_13 : decode cX10_turnOf 13 = .ok (.aload_n 0, 1) := by decide +kernel
theorem dX10_turnOf_14 : decode cX10_turnOf 14 = .ok (.getfield 22, 3) := by decide +kernel
theorem dX10_turnOf_17 : decode cX10_turnOf 17 = .ok (.iload_n 3, 1) := by decide +kernel
theorem dX10_turnOf_18 : decode cX10_turnOf 18 = .ok (.iaload, 1) := by decide +kernel
theorem dX10_turnOf_19 : decode cX10_turnOf 19 = .ok (.aload_n 0, 1) := by decide +kernel
theorem dX10_turnOf_20 : decode cX10_turnOf 20 = .ok (.aload_n 0, 1) := by decide +kernel
theorem dX10_turnOf_21 : decode cX10_turnOf 21 = .ok (.getfield 164, 3) := by decide +kernel
theorem dX10_turnOf_24 : decode cX10_turnOf 24 = .ok (.iload_n 3, 1) := by decide +kernel
theorem dX10_turnOf_25 : decode cX10_turnOf 25 = .ok (.invokevirtual 132, 3) := by decide +kernel
theorem dX10_turnOf_28 : decode cX10_turnOf 28 = .ok (.aload_n 0, 1) := by decide +kernel
theorem dX10_turnOf_29 : decode cX10_turnOf 29 = .ok (.iload_n 3, 1) := by decide +kernel
theorem dX10_turnOf_30 : decode cX10_turnOf 30 = .ok (.invokevirtual 129, 3) := by decide +kernel
theorem dX10_turnOf_33 : decode cX10_turnOf 33 = .ok (.isub, 1) := by decide +kernel
theorem dX10_turnOf_34 : decode cX10_turnOf 34 = .ok (.imul, 1) := by decide +kernel
theorem dX10_turnOf_35 : decode cX10_turnOf 35 = .ok (.iadd, 1) := by decide +kernel
theorem dX10_turnOf_36 : decode cX10_turnOf 36 = .ok (.istore_n 2, 1) := by decide +kernel
theorem dX10_turnOf_37 : decode cX10_turnOf 37 = .ok (.iinc 3 1, 3) := by decide +kernel
theorem dX10_turnOf_40 : decode cX10_turnOf 40 = .ok (.goto (-33), 3) := by decide +kernel
theorem dX10_turnOf_43 : decode cX10_turnOf 43 = .ok (.iload_n 2, 1) := by decide +kernel
theorem dX10_turnOf_44 : decode cX10_turnOf 44 = .ok (.invokestatic 179, 3) := by decide +kernel
theorem dX10_turnOf_47 : decode cX10_turnOf 47 = .ok (.ireturn, 1) := by decide +kernel
theorem dX10_turn_0 : decode cX10_turn 0 = .ok (.iload_n 1, 1) := by decide +kernel
theorem dX10_turn_1 : decode cX10_turn 1 = .ok (.invokestatic 156, 3) := by decide +kernel
theorem dX10_turn_4 : decode cX10_turn 4 = .ok (.ifCond .eq 31, 3) := by decide +kernel
theorem dX10_turn_7 : decode cX10_turn 7 = .ok (.iload_n 2, 1) := by decide +kernel
theorem dX10_turn_8 : decode cX10_turn 8 = .ok (.invokestatic 182, 3) := by decide +kernel
theorem dX10_turn_11 : decode cX10_turn 11 = .ok (.ifCond .eq 24, 3) := by decide +kernel
theorem dX10_turn_14 : decode cX10_turn 14 = .ok (.iload_n 3, 1) := by decide +kernel
theorem dX10_turn_15 : decode cX10_turn 15 = .ok (.i2l, 1) := by decide +kernel
theorem dX10_turn_16 : decode cX10_turn 16 = .ok (.lconst 0, 1) := by decide +kernel
theorem dX10_turn_17 : decode cX10_turn 17 = .ok (.ldc2_w 185, 3) := by decide +kernel
theorem dX10_turn_20 : decode cX10_turn 20 = .ok (.invokestatic 65, 3) := by decide +kernel
theorem dX10_turn_23 : decode cX10_turn 23 = .ok (.ifCond .eq 12, 3) := by decide +kernel
theorem dX10_turn_26 : decode cX10_turn 26 = .ok (.aload_n 0, 1) := by decide +kernel
theorem dX10_turn_27 : decode cX10_turn 27 = .ok (.iload 4, 2) := by decide +kernel
theorem dX10_turn_29 : decode cX10_turn 29 = .ok (.invokevirtual 115, 3) := by decide +kernel
theorem dX10_turn_32 : decode cX10_turn 32 = .ok (.ifCond .ne 5, 3) := by decide +kernel
theorem dX10_turn_35 : decode cX10_turn 35 = .ok (.iconst (-1), 1) := by decide +kernel
theorem dX10_turn_36 : decode cX10_turn 36 = .ok (.ireturn, 1) := by decide +kernel
theorem dX10_turn_37 : decode cX10_turn 37 = .ok (.aload_n 0, 1) := by decide +kernel
theorem dX10_turn_38 : decode cX10_turn 38 = .ok (.aload_n 0, 1) := by decide +kernel
theorem dX10_turn_39 : decode cX10_turn 39 = .ok (.getfield 28, 3) := by decide +kernel
theorem dX10_turn_42 : decode cX10_turn 42 = .ok (.iconst 0, 1) := by decide +kernel
theorem dX10_turn_43 : decode cX10_turn 43 = .ok (.iaload, 1) := by decide +kernel
theorem dX10_turn_44 : decode cX10_turn 44 = .ok (.putfield 149, 3) := by decide +kernel
theorem dX10_turn_47 : decode cX10_turn 47 = .ok (.aload_n 0, 1) := by decide +kernel
theorem dX10_turn_48 : decode cX10_turn 48 = .ok (.iload_n 1, 1) := by decide +kernel
theorem dX10_turn_49 : decode cX10_turn 49 = .ok (.iload_n 2, 1) := by decide +kernel
theorem dX10_turn_50 : decode cX10_turn 50 = .ok (.iload_n 3, 1) := by decide +kernel
theorem dX10_turn_51 : decode cX10_turn 51 = .ok (.invokevirtual 187, 3) := by decide +kernel
theorem dX10_turn_54 : decode cX10_turn 54 = .ok (.aload_n 0, 1) := by decide +kernel
theorem dX10_turn_55 : decode cX10_turn 55 = .ok (.getfield 170, 3) := by decide +kernel
theorem dX10_turn_58 : decode cX10_turn 58 = .ok (.iload_n 3, 1) := by decide +kernel
theorem dX10_turn_59 : decode cX10_turn 59 = .ok (.if_icmp .ne 12, 3) := by decide +kernel
theorem dX10_turn_62 : decode cX10_turn 62 = .ok (.aload_n 0, 1) := by decide +kernel
theorem dX10_turn_63 : decode cX10_turn 63 = .ok (.iload 4, 2) := by decide +kernel
theorem dX10_turn_65 : decode cX10_turn 65 = .ok (.invokevirtual 191, 3) := by decide +kernel
theorem dX10_turn_68 : decode cX10_turn 68 = .ok (.goto 5, 3) := by decide +kernel
theorem dX10_turn_71 : decode cX10_turn 71 = .ok (.bipush (-4), 2) := by decide +kernel
theorem dX10_turn_73 : decode cX10_turn 73 = .ok (.ireturn, 1) := by decide +kernel
theorem dX10_closes_0 : decode cX10_closes 0 = .ok (.aload_n 0, 1) := by decide +kernel
theorem dX10_closes_1 : decode cX10_closes 1 = .ok (.getfield 170, 3) := by decide +kernel
theorem dX10_closes_4 : decode cX10_closes 4 = .ok (.aload_n 0, 1) := by decide +kernel
theorem dX10_closes_5 : decode cX10_closes 5 = .ok (.getfield 34, 3) := by decide +kernel
theorem dX10_closes_8 : decode cX10_closes 8 = .ok (.iload_n 1, 1) := by decide +kernel
theorem dX10_closes_9 : decode cX10_closes 9 = .ok (.iaload, 1) := by decide +kernel
theorem dX10_closes_10 : decode cX10_closes 10 = .ok (.if_icmp .ne 18, 3) := by decide +kernel
theorem dX10_closes_13 : decode cX10_closes 13 = .ok (.aload_n 0, 1) := by decide +kernel
theorem dX10_closes_14 : decode cX10_closes 14 = .ok (.getfield 164, 3) := by decide +kernel
theorem dX10_closes_17 : decode cX10_closes 17 = .ok (.aload_n 0, 1) := by decide +kernel
theorem dX10_closes_18 : decode cX10_closes 18 = .ok (.invokevirtual 161, 3) := by decide +kernel
theorem dX10_closes_21 : decode cX10_closes 21 = .ok (.if_icmp .ne 7, 3) := by decide +kernel
theorem dX10_closes_24 : decode cX10_closes 24 = .ok (.iconst 1, 1) := by decide +kernel
theorem dX10_closes_25 : decode cX10_closes 25 = .ok (.goto 4, 3) := by decide +kernel
theorem dX10_closes_28 : decode cX10_closes 28 = .ok (.iconst 0, 1) := by decide +kernel
theorem dX10_closes_29 : decode cX10_closes 29 = .ok (.ireturn, 1) := by decide +kernel
theorem dX10_run_0 : decode cX10_run 0 = .ok (.iload_n 1, 1) := by decide +kernel
theorem dX10_run_1 : decode cX10_run 1 = .ok (.invokestatic 156, 3) := by decide +kernel
theorem dX10_run_4 : decode cX10_run 4 = .ok (.ifCond .eq 15, 3) := by decide +kernel
theorem dX10_run_7 : decode cX10_run 7 = .ok (.iload_n 2, 1) := by decide +kernel
theorem dX10_run_8 : decode cX10_run 8 = .ok (.i2l, 1) := by decide +kernel
theorem dX10_run_9 : decode cX10_run 9 = .ok (.lconst 0, 1) := by decide +kernel
theorem dX10_run_10 : decode cX10_run 10 = .ok (.ldc2_w 154, 3) := by decide +kernel
theorem dX10_run_13 : decode cX10_run 13 = .ok (.invokestatic 65, 3) := by decide +kernel
theorem dX10_run_16 : decode cX10_run 16 = .ok (.ifCond .ne 5, 3) := by decide +kernel
theorem dX10_run_19 : decode cX10_run 19 = .ok (.iconst (-1), 1) := by decide +kernel
theorem dX10_run_20 : decode cX10_run 20 = .ok (.ireturn, 1) := by decide +kernel
theorem dX10_run_21 : decode cX10_run 21 = .ok (.aload_n 0, 1) := by decide +kernel
theorem dX10_run_22 : decode cX10_run 22 = .ok (.aload_n 0, 1) := by decide +kernel
theorem dX10_run_23 : decode cX10_run 23 = .ok (.getfield 28, 3) := by decide +kernel
theorem dX10_run_26 : decode cX10_run 26 = .ok (.iconst 0, 1) := by decide +kernel
theorem dX10_run_27 : decode cX10_run 27 = .ok (.iaload, 1) := by decide +kernel
theorem dX10_run_28 : decode cX10_run 28 = .ok (.putfield 149, 3) := by decide +kernel
theorem dX10_run_31 : decode cX10_run 31 = .ok (.aload_n 0, 1) := by decide +kernel
theorem dX10_run_32 : decode cX10_run 32 = .ok (.iload_n 1, 1) := by decide +kernel
theorem dX10_run_33 : decode cX10_run 33 = .ok (.iconst 0, 1) := by decide +kernel
theorem dX10_run_34 : decode cX10_run 34 = .ok (.bipush 60, 2) := by decide +kernel
theorem dX10_run_36 : decode cX10_run 36 = .ok (.invokevirtual 187, 3) := by decide +kernel
theorem dX10_run_39 : decode cX10_run 39 = .ok (.iload_n 2, 1) := by decide +kernel
theorem dX10_run_40 : decode cX10_run 40 = .ok (.tableswitch 66 0 2 #[28, 33, 52], 28) := by decide +kernel
theorem dX10_run_68 : decode cX10_run 68 = .ok (.aload_n 0, 1) := by decide +kernel
theorem dX10_run_69 : decode cX10_run 69 = .ok (.getfield 170, 3) := by decide +kernel
theorem dX10_run_72 : decode cX10_run 72 = .ok (.ireturn, 1) := by decide +kernel
theorem dX10_run_73 : decode cX10_run 73 = .ok (.aload_n 0, 1) := by decide +kernel
theorem dX10_run_74 : decode cX10_run 74 = .ok (.getfield 170, 3) := by decide +kernel
theorem dX10_run_77 : decode cX10_run 77 = .ok (.aload_n 0, 1) := by decide +kernel
theorem dX10_run_78 : decode cX10_run 78 = .ok (.getfield 34, 3) := by decide +kernel
theorem dX10_run_81 : decode cX10_run 81 = .ok (.iload_n 1, 1) := by decide +kernel
theorem dX10_run_82 : decode cX10_run 82 = .ok (.iaload, 1) := by decide +kernel
theorem dX10_run_83 : decode cX10_run 83 = .ok (.if_icmp .ne 7, 3) := by decide +kernel
theorem dX10_run_86 : decode cX10_run 86 = .ok (.iconst 1, 1) := by decide +kernel
theorem dX10_run_87 : decode cX10_run 87 = .ok (.goto 4, 3) := by decide +kernel
theorem dX10_run_90 : decode cX10_run 90 = .ok (.iconst 0, 1) := by decide +kernel
theorem dX10_run_91 : decode cX10_run 91 = .ok (.ireturn, 1) := by decide +kernel
theorem dX10_run_92 : decode cX10_run 92 = .ok (.aload_n 0, 1) := by decide +kernel
theorem dX10_run_93 : decode cX10_run 93 = .ok (.iload_n 1, 1) := by decide +kernel
theorem dX10_run_94 : decode cX10_run 94 = .ok (.invokevirtual 194, 3) := by decide +kernel
theorem dX10_run_97 : decode cX10_run 97 = .ok (.ifCond .eq 7, 3) := by decide +kernel
theorem dX10_run_100 : decode cX10_run 100 = .ok (.iconst 1, 1) := by decide +kernel
theorem dX10_run_101 : decode cX10_run 101 = .ok (.goto 4, 3) := by decide +kernel
theorem dX10_run_104 : decode cX10_run 104 = .ok (.iconst 0, 1) := by decide +kernel
theorem dX10_run_105 : decode cX10_run 105 = .ok (.ireturn, 1) := by decide +kernel
theorem dX10_run_106 : decode cX10_run 106 = .ok (.aload_n 0, 1) := by decide +kernel
theorem dX10_run_107 : decode cX10_run 107 = .ok (.aload_n 0, 1) := by decide +kernel
theorem dX10_run_108 : decode cX10_run 108 = .ok (.getfield 164, 3) := by decide +kernel
theorem dX10_run_111 : decode cX10_run 111 = .ok (.invokevirtual 197, 3) := by decide +kernel
theorem dX10_run_114 : decode cX10_run 114 = .ok (.ifCond .eq 7, 3) := by decide +kernel
theorem dX10_run_117 : decode cX10_run 117 = .ok (.iconst 1, 1) := by decide +kernel
theorem dX10_run_118 : decode cX10_run 118 = .ok (.goto 4, 3) := by decide +kernel
theorem dX10_run_121 : decode cX10_run 121 = .ok (.iconst 0, 1) := by decide +kernel
theorem dX10_run_122 : decode cX10_run 122 = .ok (.ireturn, 1) := by decide +kernel
theorem dX10_spun_0 : decode cX10_spun 0 = .ok (.iload_n 1, 1) := by decide +kernel
theorem dX10_spun_1 : decode cX10_spun 1 = .ok (.invokestatic 156, 3) := by decide +kernel
theorem dX10_spun_4 : decode cX10_spun 4 = .ok (.ifCond .ne 5, 3) := by decide +kernel
theorem dX10_spun_7 : decode cX10_spun 7 = .ok (.iconst (-1), 1) := by decide +kernel
theorem dX10_spun_8 : decode cX10_spun 8 = .ok (.ireturn, 1) := by decide +kernel
theorem dX10_spun_9 : decode cX10_spun 9 = .ok (.aload_n 0, 1) := by decide +kernel
theorem dX10_spun_10 : decode cX10_spun 10 = .ok (.aload_n 0, 1) := by decide +kernel
theorem dX10_spun_11 : decode cX10_spun 11 = .ok (.getfield 28, 3) := by decide +kernel
theorem dX10_spun_14 : decode cX10_spun 14 = .ok (.iconst 0, 1) := by decide +kernel
theorem dX10_spun_15 : decode cX10_spun 15 = .ok (.iaload, 1) := by decide +kernel
theorem dX10_spun_16 : decode cX10_spun 16 = .ok (.putfield 149, 3) := by decide +kernel
theorem dX10_spun_19 : decode cX10_spun 19 = .ok (.aload_n 0, 1) := by decide +kernel
theorem dX10_spun_20 : decode cX10_spun 20 = .ok (.iload_n 1, 1) := by decide +kernel
theorem dX10_spun_21 : decode cX10_spun 21 = .ok (.iconst 0, 1) := by decide +kernel
theorem dX10_spun_22 : decode cX10_spun 22 = .ok (.bipush 60, 2) := by decide +kernel
theorem dX10_spun_24 : decode cX10_spun 24 = .ok (.invokevirtual 187, 3) := by decide +kernel
theorem dX10_spun_27 : decode cX10_spun 27 = .ok (.aload_n 0, 1) := by decide +kernel
theorem dX10_spun_28 : decode cX10_spun 28 = .ok (.getfield 167, 3) := by decide +kernel
theorem dX10_spun_31 : decode cX10_spun 31 = .ok (.ireturn, 1) := by decide +kernel
theorem dX10_times_0 : decode cX10_times 0 = .ok (.iload_n 1, 1) := by decide +kernel
theorem dX10_times_1 : decode cX10_times 1 = .ok (.invokestatic 156, 3) := by decide +kernel
theorem dX10_times_4 : decode cX10_times 4 = .ok (.ifCond .eq 15, 3) := by decide +kernel
theorem dX10_times_7 : decode cX10_times 7 = .ok (.iload_n 2, 1) := by decide +kernel
theorem dX10_times_8 : decode cX10_times 8 = .ok (.i2l, 1) := by decide +kernel
theorem dX10_times_9 : decode cX10_times 9 = .ok (.lconst 1, 1) := by decide +kernel
theorem dX10_times_10 : decode cX10_times 10 = .ok (.ldc2_w 200, 3) := by decide +kernel
theorem dX10_times_13 : decode cX10_times 13 = .ok (.invokestatic 65, 3) := by decide +kernel
theorem dX10_times_16 : decode cX10_times 16 = .ok (.ifCond .ne 5, 3) := by decide +kernel
theorem dX10_times_19 : decode cX10_times 19 = .ok (.iconst (-1), 1) := by decide +kernel
theorem dX10_times_20 : decode cX10_times 20 = .ok (.ireturn, 1) := by decide +kernel
theorem dX10_times_21 : decode cX10_times 21 = .ok (.aload_n 0, 1) := by decide +kernel
theorem dX10_times_22 : decode cX10_times 22 = .ok (.aload_n 0, 1) := by decide +kernel
theorem dX10_times_23 : decode cX10_times 23 = .ok (.getfield 28, 3) := by decide +kernel
theorem dX10_times_26 : decode cX10_times 26 = .ok (.iconst 0, 1) := by decide +kernel
theorem dX10_times_27 : decode cX10_times 27 = .ok (.iaload, 1) := by decide +kernel
theorem dX10_times_28 : decode cX10_times 28 = .ok (.putfield 149, 3) := by decide +kernel
theorem dX10_times_31 : decode cX10_times 31 = .ok (.aload_n 0, 1) := by decide +kernel
theorem dX10_times_32 : decode cX10_times 32 = .ok (.iload_n 1, 1) := by decide +kernel
theorem dX10_times_33 : decode cX10_times 33 = .ok (.iconst 0, 1) := by decide +kernel
theorem dX10_times_34 : decode cX10_times 34 = .ok (.bipush 60, 2) := by decide +kernel
theorem dX10_times_36 : decode cX10_times 36 = .ok (.invokevirtual 187, 3) := by decide +kernel
theorem dX10_times_39 : decode cX10_times 39 = .ok (.aload_n 0, 1) := by decide +kernel
theorem dX10_times_40 : decode cX10_times 40 = .ok (.iload_n 1, 1) := by decide +kernel
theorem dX10_times_41 : decode cX10_times 41 = .ok (.invokevirtual 194, 3) := by decide +kernel
theorem dX10_times_44 : decode cX10_times 44 = .ok (.ifCond .eq 16, 3) := by decide +kernel
theorem dX10_times_47 : decode cX10_times 47 = .ok (.aload_n 0, 1) := by decide +kernel
theorem dX10_times_48 : decode cX10_times 48 = .ok (.getfield 167, 3) := by decide +kernel
theorem dX10_times_51 : decode cX10_times 51 = .ok (.iload_n 2, 1) := by decide +kernel
theorem dX10_times_52 : decode cX10_times 52 = .ok (.imul, 1) := by decide +kernel
theorem dX10_times_53 : decode cX10_times 53 = .ok (.sipush 360, 3) := by decide +kernel
theorem dX10_times_56 : decode cX10_times 56 = .ok (.irem, 1) := by decide +kernel
theorem dX10_times_57 : decode cX10_times 57 = .ok (.goto 5, 3) := by decide +kernel
theorem dX10_times_60 : decode cX10_times 60 = .ok (.bipush (-2), 2) := by decide +kernel
theorem dX10_times_62 : decode cX10_times 62 = .ok (.ireturn, 1) := by decide +kernel
theorem dX10_has_0 : decode cX10_has 0 = .ok (.iload_n 0, 1) := by decide +kernel
theorem dX10_has_1 : decode cX10_has 1 = .ok (.iload_n 1, 1) := by decide +kernel
theorem dX10_has_2 : decode cX10_has 2 = .ok (.ishr, 1) := by decide +kernel
theorem dX10_has_3 : decode cX10_has 3 = .ok (.iconst 1, 1) := by decide +kernel
theorem dX10_has_4 : decode cX10_has 4 = .ok (.iand, 1) := by decide +kernel
theorem dX10_has_5 : decode cX10_has 5 = .ok (.iconst 1, 1) := by decide +kernel
theorem dX10_has_6 : decode cX10_has 6 = .ok (.if_icmp .ne 7, 3) := by decide +kernel
theorem dX10_has_9 : decode cX10_has 9 = .ok (.iconst 1, 1) := by decide +kernel
theorem dX10_has_10 : decode cX10_has 10 = .ok (.goto 4, 3) := by decide +kernel
theorem dX10_has_13 : decode cX10_has 13 = .ok (.iconst 0, 1) := by decide +kernel
theorem dX10_has_14 : decode cX10_has 14 = .ok (.ireturn, 1) := by decide +kernel
theorem dX10_isBarred_0 : decode cX10_isBarred 0 = .ok (.iload_n 0, 1) := by decide +kernel
theorem dX10_isBarred_1 : decode cX10_isBarred 1 = .ok (.i2l, 1) := by decide +kernel
theorem dX10_isBarred_2 : decode cX10_isBarred 2 = .ok (.lconst 1, 1) := by decide +kernel
theorem dX10_isBarred_3 : decode cX10_isBarred 3 = .ok (.ldc2_w 85, 3) := by decide +kernel
theorem dX10_isBarred_6 : decode cX10_isBarred 6 = .ok (.invokestatic 65, 3) := by decide +kernel
theorem dX10_isBarred_9 : decode cX10_isBarred 9 = .ok (.ifCond .eq 19, 3) := by decide +kernel
theorem dX10_isBarred_12 : decode cX10_isBarred 12 = .ok (.iload_n 1, 1) := by decide +kernel
theorem dX10_isBarred_13 : decode cX10_isBarred 13 = .ok (.iload_n 0, 1) := by decide +kernel
theorem dX10_isBarred_14 : decode cX10_isBarred 14 = .ok (.iconst 1, 1) := by decide +kernel
theorem dX10_isBarred_15 : decode cX10_isBarred 15 = .ok (.isub, 1) := by decide +kernel
theorem dX10_isBarred_16 : decode cX10_isBarred 16 = .ok (.iconst 2, 1) := by decide +kernel
theorem dX10_isBarred_17 : decode cX10_isBarred 17 = .ok (.idiv, 1) := by decide +kernel
theorem dX10_isBarred_18 : decode cX10_isBarred 18 = .ok (.invokestatic 202, 3) := by decide +kernel
theorem dX10_isBarred_21 : decode cX10_isBarred 21 = .ok (.ifCond .ne 7, 3) := by decide +kernel
theorem dX10_isBarred_24 : decode cX10_isBarred 24 = .ok (.iconst 1, 1) := by decide +kernel
theorem dX10_isBarred_25 : decode cX10_isBarred 25 = .ok (.goto 4, 3) := by decide +kernel
theorem dX10_isBarred_28 : decode cX10_isBarred 28 = .ok (.iconst 0, 1) := by decide +kernel
theorem dX10_isBarred_29 : decode cX10_isBarred 29 = .ok (.ireturn, 1) := by decide +kernel
theorem dX10_meet_0 : decode cX10_meet 0 = .ok (.sipush 360, 3) := by decide +kernel
theorem dX10_meet_3 : decode cX10_meet 3 = .ok (.iload_n 1, 1) := by decide +kernel
theorem dX10_meet_4 : decode cX10_meet 4 = .ok (.imul, 1) := by decide +kernel
theorem dX10_meet_5 : decode cX10_meet 5 = .ok (.iload_n 2, 1) := by decide +kernel
theorem dX10_meet_6 : decode cX10_meet 6 = .ok (.invokestatic 179, 3) := by decide +kernel
theorem dX10_meet_9 : decode cX10_meet 9 = .ok (.iadd, 1) := by decide +kernel
theorem dX10_meet_10 : decode cX10_meet 10 = .ok (.istore 4, 2) := by decide +kernel
theorem dX10_meet_12 : decode cX10_meet 12 = .ok (.aload_n 0, 1) := by decide +kernel
theorem dX10_meet_13 : decode cX10_meet 13 = .ok (.getfield 54, 3) := by decide +kernel
theorem dX10_meet_16 : decode cX10_meet 16 = .ok (.iload 4, 2) := by decide +kernel
theorem dX10_meet_18 : decode cX10_meet 18 = .ok (.iaload, 1) := by decide +kernel
theorem dX10_meet_19 : decode cX10_meet 19 = .ok (.ifCond .ge 32, 3) := by decide +kernel
theorem dX10_meet_22 : decode cX10_meet 22 = .ok (.aload_n 0, 1) := by decide +kernel
theorem dX10_meet_23 : decode cX10_meet 23 = .ok (.getfield 54, 3) := by decide +kernel
theorem dX10_meet_26 : decode cX10_meet 26 = .ok (.iload 4, 2) := by decide +kernel
theorem dX10_meet_28 : decode cX10_meet 28 = .ok (.iload_n 3, 1) := by decide +kernel
theorem dX10_meet_29 : decode cX10_meet 29 = .ok (.iastore, 1) := by decide +kernel
theorem dX10_meet_30 : decode cX10_meet 30 = .ok (.aload_n 0, 1) := by decide +kernel
theorem dX10_meet_31 : decode cX10_meet 31 = .ok (.getfield 57, 3) := by decide +kernel
theorem dX10_meet_34 : decode cX10_meet 34 = .ok (.aload_n 0, 1) := by decide +kernel
theorem dX10_meet_35 : decode cX10_meet 35 = .ok (.getfield 206, 3) := by decide +kernel
theorem dX10_meet_38 : decode cX10_meet 38 = .ok (.iload 4, 2) := by decide +kernel
theorem dX10_meet_40 : decode cX10_meet 40 = .ok (.iastore, 1) := by decide +kernel
theorem dX10_meet_41 : decode cX10_meet 41 = .ok (.aload_n 0, 1) := by decide +kernel
theorem dX10_meet_42 : decode cX10_meet 42 = .ok (.dup, 1) := by decide +kernel
theorem dX10_meet_43 : decode cX10_meet 43 = .ok (.getfield 206, 3) := by decide +kernel
theorem dX10_meet_46 : decode cX10_meet 46 = .ok (.iconst 1, 1) := by decide +kernel
theorem dX10_meet_47 : decode cX10_meet 47 = .ok (.iadd, 1) := by decide +kernel
theorem dX10_meet_48 : decode cX10_meet 48 = .ok (.putfield 206, 3) := by decide +kernel
theorem dX10_meet_51 : decode cX10_meet 51 = .ok (.return_, 1) := by decide +kernel
theorem dX10_meetAhead_0 : decode cX10_meetAhead 0 = .ok (.aload_n 0, 1) := by decide +kernel
theorem dX10_meetAhead_1 : decode cX10_meetAhead 1 = .ok (.iload_n 1, 1) := by decide +kernel
theorem dX10_meetAhead_2 : decode cX10_meetAhead 2 = .ok (.iload_n 2, 1) := by decide +kernel
theorem dX10_meetAhead_3 : decode cX10_meetAhead 3 = .ok (.aload_n 0, 1) := by decide +kernel
theorem dX10_meetAhead_4 : decode cX10_meetAhead 4 = .ok (.iload_n 1, 1) := by decide +kernel
theorem dX10_meetAhead_5 : decode cX10_meetAhead 5 = .ok (.iconst 0, 1) := by decide +kernel
theorem dX10_meetAhead_6 : decode cX10_meetAhead 6 = .ok (.invokevirtual 176, 3) := by decide +kernel
theorem dX10_meetAhead_9 : decode cX10_meetAhead 9 = .ok (.isub, 1) := by decide +kernel
theorem dX10_meetAhead_10 : decode cX10_meetAhead 10 = .ok (.iload 4, 2) := by decide +kernel
theorem dX10_meetAhead_12 : decode cX10_meetAhead 12 = .ok (.invokevirtual 209, 3) := by decide +kernel
theorem dX10_meetAhead_15 : decode cX10_meetAhead 15 = .ok (.iconst 1, 1) := by decide +kernel
theorem dX10_meetAhead_16 : decode cX10_meetAhead 16 = .ok (.istore 5, 2) := by decide +kernel
theorem dX10_meetAhead_18 : decode cX10_meetAhead 18 = .ok (.iload 5, 2) := by decide +kernel
theorem dX10_meetAhead_20 : decode cX10_meetAhead 20 = .ok (.iconst 5, 1) := by decide +kernel
theorem dX10_meetAhead_21 : decode cX10_meetAhead 21 = .ok (.if_icmp .ge 84, 3) := by decide +kernel
theorem dX10_meetAhead_24 : decode cX10_meetAhead 24 = .ok (.iload 5, 2) := by decide +kernel
theorem dX10_meetAhead_26 : decode cX10_meetAhead 26 = .ok (.iconst 1, 1) := by decide +kernel
theorem dX10_meetAhead_27 : decode cX10_meetAhead 27 = .ok (.isub, 1) := by decide +kernel
theorem dX10_meetAhead_28 : decode cX10_meetAhead 28 = .ok (.iconst 2, 1) := by decide +kernel
theorem dX10_meetAhead_29 : decode cX10_meetAhead 29 = .ok (.idiv, 1) := by decide +kernel
theorem dX10_meetAhead_30 : decode cX10_meetAhead 30 = .ok (.istore 6, 2) := by decide +kernel
theorem dX10_meetAhead_32 : decode cX10_meetAhead 32 = .ok (.aload_n 0, 1) := by decide +kernel
theorem dX10_meetAhead_33 : decode cX10_meetAhead 33 = .ok (.iload 6, 2) := by decide +kernel
theorem dX10_meetAhead_35 : decode cX10_meetAhead 35 = .ok (.invokevirtual 120, 3) := by decide +kernel
theorem dX10_meetAhead_38 : decode cX10_meetAhead 38 = .ok (.ifCond .eq 35, 3) := by decide +kernel
theorem dX10_meetAhead_41 : decode cX10_meetAhead 41 = .ok (.iload_n 3, 1) := by decide +kernel
theorem dX10_meetAhead_42 : decode cX10_meetAhead 42 = .ok (.iload 6, 2) := by decide +kernel
theorem dX10_meetAhead_44 : decode cX10_meetAhead 44 = .ok (.invokestatic 202, 3) := by decide +kernel
theorem dX10_meetAhead_47 : decode cX10_meetAhead 47 = .ok (.ifCond .eq 26, 3) := by decide +kernel
theorem dX10_meetAhead_50 : decode cX10_meetAhead 50 = .ok (.aload_n 0, 1) := by decide +kernel
theorem dX10_meetAhead_51 : decode cX10_meetAhead 51 = .ok (.iload_n 1, 1) := by decide +kernel
theorem dX10_meetAhead_52 : decode cX10_meetAhead 52 = .ok (.iload 6, 2) := by decide +kernel
theorem dX10_meetAhead_54 : decode cX10_meetAhead 54 = .ok (.iload 5, 2) := by decide +kernel
theorem dX10_meetAhead_56 : decode cX10_meetAhead 56 = .ok (.iconst 2, 1) := by decide +kernel
theorem dX10_meetAhead_57 : decode cX10_meetAhead 57 = .ok (.irem, 1) := by decide +kernel
theorem dX10_meetAhead_58 : decode cX10_meetAhead 58 = .ok (.iconst 1, 1) := by decide +kernel
theorem dX10_meetAhead_59 : decode cX10_meetAhead 59 = .ok (.if_icmp .ne 7, 3) := by decide +kernel
theorem dX10_meetAhead_62 : decode cX10_meetAhead 62 = .ok (.iconst (-1), 1) := by decide +kernel
theorem dX10_meetAhead_63 : decode cX10_meetAhead 63 = .ok (.goto 4, 3) := by decide +kernel
theorem dX10_meetAhead_66 : decode cX10_meetAhead 66 = .ok (.iconst 1, 1) := by decide +kernel
theorem dX10_meetAhead_67 : decode cX10_meetAhead 67 = .ok (.invokevirtual 139, 3) := by decide +kernel
theorem dX10_meetAhead_70 : decode cX10_meetAhead 70 = .ok (.goto 5, 3) := by decide +kernel
theorem dX10_meetAhead_73 : decode cX10_meetAhead 73 = .ok (.bipush (-4), 2) := by decide +kernel
theorem dX10_meetAhead_75 : decode cX10_meetAhead 75 = .ok (.istore 7, 2) := by decide +kernel
theorem dX10_meetAhead_77 : decode cX10_meetAhead 77 = .ok (.iload 7, 2) := by decide +kernel
theorem dX10_meetAhead_79 : decode cX10_meetAhead 79 = .ok (.ifCond .lt 20, 3) := by decide +kernel
theorem dX10_meetAhead_82 : decode cX10_meetAhead 82 = .ok (.aload_n 0, 1) := by decide +kernel
theorem dX10_meetAhead_83 : decode cX10_meetAhead 83 = .ok (.iload 7, 2) := by decide +kernel
theorem dX10_meetAhead_85 : decode cX10_meetAhead 85 = .ok (.iload_n 2, 1) := by decide +kernel
theorem dX10_meetAhead_86 : decode cX10_meetAhead 86 = .ok (.aload_n 0, 1) := by decide +kernel
theorem dX10_meetAhead_87 : decode cX10_meetAhead 87 = .ok (.iload_n 1, 1) := by decide +kernel
theorem dX10_meetAhead_88 : decode cX10_meetAhead 88 = .ok (.iload 5, 2) := by decide +kernel
theorem dX10_meetAhead_90 : decode cX10_meetAhead 90 = .ok (.invokevirtual 176, 3) := by decide +kernel
theorem dX10_meetAhead_93 : decode cX10_meetAhead 93 = .ok (.isub, 1) := by decide +kernel
theorem dX10_meetAhead_94 : decode cX10_meetAhead 94 = .ok (.iload 4, 2) := by decide +kernel
theorem dX10_meetAhead_96 : decode cX10_meetAhead 96 = .ok (.invokevirtual 209, 3) := by decide +kernel
