theorem dX0_init_0 : decode cX0_init 0 = .ok (.aload_n 0, 1) := by decide +kernel
theorem dX0_init_1 : decode cX0_init 1 = .ok (.invokespecial 3, 3) := by decide +kernel
theorem dX0_init_4 : decode cX0_init 4 = .ok (.aload_n 0, 1) := by decide +kernel
theorem dX0_init_5 : decode cX0_init 5 = .ok (.bipush 9, 2) := by decide +kernel
theorem dX0_init_7 : decode cX0_init 7 = .ok (.newarray .int, 2) := by decide +kernel
theorem dX0_init_9 : decode cX0_init 9 = .ok (.putfield 9, 3) := by decide +kernel
theorem dX0_init_12 : decode cX0_init 12 = .ok (.aload_n 0, 1) := by decide +kernel
theorem dX0_init_13 : decode cX0_init 13 = .ok (.iconst 2, 1) := by decide +kernel
theorem dX0_init_14 : decode cX0_init 14 = .ok (.newarray .int, 2) := by decide +kernel
theorem dX0_init_16 : decode cX0_init 16 = .ok (.putfield 15, 3) := by decide +kernel
theorem dX0_init_19 : decode cX0_init 19 = .ok (.aload_n 0, 1) := by decide +kernel
theorem dX0_init_20 : decode cX0_init 20 = .ok (.bipush (-4), 2) := by decide +kernel
theorem dX0_init_22 : decode cX0_init 22 = .ok (.putfield 18, 3) := by decide +kernel
theorem dX0_init_25 : decode cX0_init 25 = .ok (.aload_n 0, 1) := by decide +kernel
theorem dX0_init_26 : decode cX0_init 26 = .ok (.bipush 10, 2) := by decide +kernel
theorem dX0_init_28 : decode cX0_init 28 = .ok (.putfield 22, 3) := by decide +kernel
theorem dX0_init_31 : decode cX0_init 31 = .ok (.return_, 1) := by decide +kernel
theorem dX0_empty_0 : decode cX0_empty 0 = .ok (.aload_n 0, 1) := by decide +kernel
theorem dX0_empty_1 : decode cX0_empty 1 = .ok (.iconst 0, 1) := by decide +kernel
theorem dX0_empty_2 : decode cX0_empty 2 = .ok (.putfield 25, 3) := by decide +kernel
theorem dX0_empty_5 : decode cX0_empty 5 = .ok (.aload_n 0, 1) := by decide +kernel
theorem dX0_empty_6 : decode cX0_empty 6 = .ok (.iconst 0, 1) := by decide +kernel
theorem dX0_empty_7 : decode cX0_empty 7 = .ok (.putfield 28, 3) := by decide +kernel
theorem dX0_empty_10 : decode cX0_empty 10 = .ok (.aload_n 0, 1) := by decide +kernel
theorem dX0_empty_11 : decode cX0_empty 11 = .ok (.bipush (-4), 2) := by decide +kernel
theorem dX0_empty_13 : decode cX0_empty 13 = .ok (.putfield 18, 3) := by decide +kernel
theorem dX0_empty_16 : decode cX0_empty 16 = .ok (.aload_n 0, 1) := by decide +kernel
theorem dX0_empty_17 : decode cX0_empty 17 = .ok (.iconst 0, 1) := by decide +kernel
theorem dX0_empty_18 : decode cX0_empty 18 = .ok (.putfield 31, 3) := by decide +kernel
theorem dX0_empty_21 : decode cX0_empty 21 = .ok (.aload_n 0, 1) := by decide +kernel
theorem dX0_empty_22 : decode cX0_empty 22 = .ok (.iconst 0, 1) := by decide +kernel
theorem dX0_empty_23 : decode cX0_empty 23 = .ok (.putfield 34, 3) := by decide +kernel
theorem dX0_empty_26 : decode cX0_empty 26 = .ok (.aload_n 0, 1) := by decide +kernel
theorem dX0_empty_27 : decode cX0_empty 27 = .ok (.bipush 10, 2) := by decide +kernel
theorem dX0_empty_29 : decode cX0_empty 29 = .ok (.putfield 22, 3) := by decide +kernel
theorem dX0_empty_32 : decode cX0_empty 32 = .ok (.return_, 1) := by decide +kernel
theorem dX0_takesPart_0 : decode cX0_takesPart 0 = .ok (.aload_n 0, 1) := by decide +kernel
theorem dX0_takesPart_1 : decode cX0_takesPart 1 = .ok (.getfield 25, 3) := by decide +kernel
theorem dX0_takesPart_4 : decode cX0_takesPart 4 = .ok (.iconst 3, 1) := by decide +kernel
theorem dX0_takesPart_5 : decode cX0_takesPart 5 = .ok (.imul, 1) := by decide +kernel
theorem dX0_takesPart_6 : decode cX0_takesPart 6 = .ok (.istore 4, 2) := by decide +kernel
theorem dX0_takesPart_8 : decode cX0_takesPart 8 = .ok (.iload 4, 2) := by decide +kernel
theorem dX0_takesPart_10 : decode cX0_takesPart 10 = .ok (.ifCond .lt 45, 3) := by decide +kernel
theorem dX0_takesPart_13 : decode cX0_takesPart 13 = .ok (.iload 4, 2) := by decide +kernel
theorem dX0_takesPart_15 : decode cX0_takesPart 15 = .ok (.aload_n 0, 1) := by decide +kernel
theorem dX0_takesPart_16 : decode cX0_takesPart 16 = .ok (.getfield 9, 3) := by decide +kernel
theorem dX0_takesPart_19 : decode cX0_takesPart 19 = .ok (.arraylength, 1) := by decide +kernel
theorem dX0_takesPart_20 : decode cX0_takesPart 20 = .ok (.iconst 3, 1) := by decide +kernel
theorem dX0_takesPart_21 : decode cX0_takesPart 21 = .ok (.isub, 1) := by decide +kernel
theorem dX0_takesPart_22 : decode cX0_takesPart 22 = .ok (.if_icmp .gt 33, 3) := by decide +kernel
theorem dX0_takesPart_25 : decode cX0_takesPart 25 = .ok (.iload_n 1, 1) := by decide +kernel
theorem dX0_takesPart_26 : decode cX0_takesPart 26 = .ok (.iconst 1, 1) := by decide +kernel
theorem dX0_takesPart_27 : decode cX0_takesPart 27 = .ok (.bipush 99, 2) := by decide +kernel
theorem dX0_takesPart_29 : decode cX0_takesPart 29 = .ok (.invokestatic 37, 3) := by decide +kernel
theorem dX0_takesPart_32 : decode cX0_takesPart 32 = .ok (.ifCond .eq 23, 3) := by decide +kernel
theorem dX0_takesPart_35 : decode cX0_takesPart 35 = .ok (.iload_n 2, 1) := by decide +kernel
theorem dX0_takesPart_36 : decode cX0_takesPart 36 = .ok (.iconst 1, 1) := by decide +kernel
theorem dX0_takesPart_37 : decode cX0_takesPart 37 = .ok (.bipush 99, 2) := by decide +kernel
theorem dX0_takesPart_39 : decode cX0_takesPart 39 = .ok (.invokestatic 37, 3) := by decide +kernel
theorem dX0_takesPart_42 : decode cX0_takesPart 42 = .ok (.ifCond .eq 13, 3) := by decide +kernel
theorem dX0_takesPart_45 : decode cX0_takesPart 45 = .ok (.iload_n 3, 1) := by decide +kernel
theorem dX0_takesPart_46 : decode cX0_takesPart 46 = .ok (.iconst 1, 1) := by decide +kernel
theorem dX0_takesPart_47 : decode cX0_takesPart 47 = .ok (.bipush 99, 2) := by decide +kernel
theorem dX0_takesPart_49 : decode cX0_takesPart 49 = .ok (.invokestatic 37, 3) := by decide +kernel
theorem dX0_takesPart_52 : decode cX0_takesPart 52 = .ok (.ifCond .ne 5, 3) := by decide +kernel
theorem dX0_takesPart_55 : decode cX0_takesPart 55 = .ok (.iconst 0, 1) := by decide +kernel
theorem dX0_takesPart_56 : decode cX0_takesPart 56 = .ok (.ireturn, 1) := by decide +kernel
theorem dX0_takesPart_57 : decode cX0_takesPart 57 = .ok (.aload_n 0, 1) := by decide +kernel
theorem dX0_takesPart_58 : decode cX0_takesPart 58 = .ok (.getfield 9, 3) := by decide +kernel
theorem dX0_takesPart_61 : decode cX0_takesPart 61 = .ok (.iload 4, 2) := by decide +kernel
theorem dX0_takesPart_63 : decode cX0_takesPart 63 = .ok (.iload_n 1, 1) := by decide +kernel
theorem dX0_takesPart_64 : decode cX0_takesPart 64 = .ok (.iastore, 1) := by decide +kernel
theorem dX0_takesPart_65 : decode cX0_takesPart 65 = .ok (.aload_n 0, 1) := by decide +kernel
theorem dX0_takesPart_66 : decode cX0_takesPart 66 = .ok (.getfield 9, 3) := by decide +kernel
theorem dX0_takesPart_69 : decode cX0_takesPart 69 = .ok (.iload 4, 2) := by decide +kernel
theorem dX0_takesPart_71 : decode cX0_takesPart 71 = .ok (.iconst 1, 1) := by decide +kernel
theorem dX0_takesPart_72 : decode cX0_takesPart 72 = .ok (.iadd, 1) := by decide +kernel
theorem dX0_takesPart_73 : decode cX0_takesPart 73 = .ok (.iload_n 2, 1) := by decide +kernel
theorem dX0_takesPart_74 : decode cX0_takesPart 74 = .ok (.iastore, 1) := by decide +kernel
theorem dX0_takesPart_75 : decode cX0_takesPart 75 = .ok (.aload_n 0, 1) := by decide +kernel
theorem dX0_takesPart_76 : decode cX0_takesPart 76 = .ok (.getfield 9, 3) := by decide +kernel
theorem dX0_takesPart_79 : decode cX0_takesPart 79 = .ok (.iload 4, 2) := by decide +kernel
theorem dX0_takesPart_81 : decode cX0_takesPart 81 = .ok (.iconst 2, 1) := by decide +kernel
theorem dX0_takesPart_82 : decode cX0_takesPart 82 = .ok (.iadd, 1) := by decide +kernel
theorem dX0_takesPart_83 : decode cX0_takesPart 83 = .ok (.iload_n 3, 1) := by decide +kernel
theorem dX0_takesPart_84 : decode cX0_takesPart 84 = .ok (.iastore, 1) := by decide +kernel
theorem dX0_takesPart_85 : decode cX0_takesPart 85 = .ok (.aload_n 0, 1) := by decide +kernel
theorem dX0_takesPart_86 : decode cX0_takesPart 86 = .ok (.dup, 1) := by decide +kernel
theorem dX0_takesPart_87 : decode cX0_takesPart 87 = .ok (.getfield 25, 3) := by decide +kernel
theorem dX0_takesPart_90 : decode cX0_takesPart 90 = .ok (.iconst 1, 1) := by decide +kernel
theorem dX0_takesPart_91 : decode cX0_takesPart 91 = .ok (.iadd, 1) := by decide +kernel
theorem dX0_takesPart_92 : decode cX0_takesPart 92 = .ok (.putfield 25, 3) := by decide +kernel
theorem dX0_takesPart_95 : decode cX0_takesPart 95 = .ok (.iconst 1, 1) := by decide +kernel
theorem dX0_takesPart_96 : decode cX0_takesPart 96 = .ok (.ireturn, 1) := by decide +kernel
theorem dX0_takesBend_0 : decode cX0_takesBend 0 = .ok (.iload_n 1, 1) := by decide +kernel
theorem dX0_takesBend_1 : decode cX0_takesBend 1 = .ok (.iconst 1, 1) := by decide +kernel
theorem dX0_takesBend_2 : decode cX0_takesBend 2 = .ok (.bipush 90, 2) := by decide +kernel
theorem dX0_takesBend_4 : decode cX0_takesBend 4 = .ok (.invokestatic 37, 3) := by decide +kernel
theorem dX0_takesBend_7 : decode cX0_takesBend 7 = .ok (.ifCond .eq 15, 3) := by decide +kernel
theorem dX0_takesBend_10 : decode cX0_takesBend 10 = .ok (.aload_n 0, 1) := by decide +kernel
theorem dX0_takesBend_11 : decode cX0_takesBend 11 = .ok (.iload_n 1, 1) := by decide +kernel
theorem dX0_takesBend_12 : decode cX0_takesBend 12 = .ok (.invokevirtual 41, 3) := by decide +kernel
theorem dX0_takesBend_15 : decode cX0_takesBend 15 = .ok (.ifCond .eq 7, 3) := by decide +kernel
theorem dX0_takesBend_18 : decode cX0_takesBend 18 = .ok (.iconst 1, 1) := by decide +kernel
theorem dX0_takesBend_19 : decode cX0_takesBend 19 = .ok (.goto 4, 3) := by decide +kernel
theorem dX0_takesBend_22 : decode cX0_takesBend 22 = .ok (.iconst 0, 1) := by decide +kernel
theorem dX0_takesBend_23 : decode cX0_takesBend 23 = .ok (.ireturn, 1) := by decide +kernel
theorem dX0_takesWag_0 : decode cX0_takesWag 0 = .ok (.iconst 0, 1) := by decide +kernel
theorem dX0_takesWag_1 : decode cX0_takesWag 1 = .ok (.istore_n 2, 1) := by decide +kernel
theorem dX0_takesWag_2 : decode cX0_takesWag 2 = .ok (.iconst 0, 1) := by decide +kernel
theorem dX0_takesWag_3 : decode cX0_takesWag 3 = .ok (.istore_n 3, 1) := by decide +kernel
theorem dX0_takesWag_4 : decode cX0_takesWag 4 = .ok (.iload_n 3, 1) := by decide +kernel
theorem dX0_takesWag_5 : decode cX0_takesWag 5 = .ok (.getstatic 45, 3) := by decide +kernel
theorem dX0_takesWag_8 : decode cX0_takesWag 8 = .ok (.arraylength, 1) := by decide +kernel
theorem dX0_takesWag_9 : decode cX0_takesWag 9 = .ok (.if_icmp .ge 28, 3) := by decide +kernel
theorem dX0_takesWag_12 : decode cX0_takesWag 12 = .ok (.iload_n 2, 1) := by decide +kernel
theorem dX0_takesWag_13 : decode cX0_takesWag 13 = .ok (.ifCond .ne 12, 3) := by decide +kernel
theorem dX0_takesWag_16 : decode cX0_takesWag 16 = .ok (.getstatic 45, 3) := by decide +kernel
theorem dX0_takesWag_19 : decode cX0_takesWag 19 = .ok (.iload_n 3, 1) := by decide +kernel
theorem dX0_takesWag_20 : decode cX0_takesWag 20 = .ok (.iaload, 1) := by decide +kernel
theorem dX0_takesWag_21 : decode cX0_takesWag 21 = .ok (.iload_n 1, 1) := by decide +kernel
theorem dX0_takesWag_22 : decode cX0_takesWag 22 = .ok (.if_icmp .ne 7, 3) := by decide +kernel
theorem dX0_takesWag_25 : decode cX0_takesWag 25 = .ok (.iconst 1, 1) := by decide +kernel
theorem dX0_takesWag_26 : decode cX0_takesWag 26 = .ok (.goto 4, 3) := by decide +kernel
theorem dX0_takesWag_29 : decode cX0_takesWag 29 = .ok (.iconst 0, 1) := by decide +kernel
theorem dX0_takesWag_30 : decode cX0_takesWag 30 = .ok (.istore_n 2, 1) := by decide +kernel
theorem dX0_takesWag_31 : decode cX0_takesWag 31 = .ok (.iinc 3 1, 3) := by decide +kernel
theorem dX0_takesWag_34 : decode cX0_takesWag 34 = .ok (.goto (-30), 3) := by decide +kernel
theorem dX0_takesWag_37 : decode cX0_takesWag 37 = .ok (.iload_n 2, 1) := by decide +kernel
theorem dX0_takesWag_38 : decode cX0_takesWag 38 = .ok (.ifCond .eq 20, 3) := by decide +kernel
theorem dX0_takesWag_41 : decode cX0_takesWag 41 = .ok (.aload_n 0, 1) := by decide +kernel
theorem dX0_takesWag_42 : decode cX0_takesWag 42 = .ok (.getfield 18, 3) := by decide +kernel
theorem dX0_takesWag_45 : decode cX0_takesWag 45 = .ok (.bipush (-4), 2) := by decide +kernel
theorem dX0_takesWag_47 : decode cX0_takesWag 47 = .ok (.if_icmp .ne 11, 3) := by decide +kernel
theorem dX0_takesWag_50 : decode cX0_takesWag 50 = .ok (.aload_n 0, 1) := by decide +kernel
theorem dX0_takesWag_51 : decode cX0_takesWag 51 = .ok (.iload_n 1, 1) := by decide +kernel
theorem dX0_takesWag_52 : decode cX0_takesWag 52 = .ok (.invokevirtual 41, 3) := by decide +kernel
theorem dX0_takesWag_55 : decode cX0_takesWag 55 = .ok (.ifCond .ne 5, 3) := by decide +kernel
theorem dX0_takesWag_58 : decode cX0_takesWag 58 = .ok (.iconst 0, 1) := by decide +kernel
theorem dX0_takesWag_59 : decode cX0_takesWag 59 = .ok (.ireturn, 1) := by decide +kernel
theorem dX0_takesWag_60 : decode cX0_takesWag 60 = .ok (.aload_n 0, 1) := by decide +kernel
theorem dX0_takesWag_61 : decode cX0_takesWag 61 = .ok (.aload_n 0, 1) := by decide +kernel
theorem dX0_takesWag_62 : decode cX0_takesWag 62 = .ok (.getfield 28, 3) := by decide +kernel
theorem dX0_takesWag_65 : decode cX0_takesWag 65 = .ok (.iconst 1, 1) := by decide +kernel
theorem dX0_takesWag_66 : decode cX0_takesWag 66 = .ok (.isub, 1) := by decide +kernel
theorem dX0_takesWag_67 : decode cX0_takesWag 67 = .ok (.putfield 18, 3) := by decide +kernel
theorem dX0_takesWag_70 : decode cX0_takesWag 70 = .ok (.aload_n 0, 1) := by decide +kernel
theorem dX0_takesWag_71 : decode cX0_takesWag 71 = .ok (.sipush 360, 3) := by decide +kernel
theorem dX0_takesWag_74 : decode cX0_takesWag 74 = .ok (.iload_n 1, 1) := by decide +kernel
theorem dX0_takesWag_75 : decode cX0_takesWag 75 = .ok (.invokestatic 48, 3) := by decide +kernel
theorem dX0_takesWag_78 : decode cX0_takesWag 78 = .ok (.putfield 31, 3) := by decide +kernel
theorem dX0_takesWag_81 : decode cX0_takesWag 81 = .ok (.iconst 1, 1) := by decide +kernel
theorem dX0_takesWag_82 : decode cX0_takesWag 82 = .ok (.ireturn, 1) := by decide +kernel
theorem dX0_takesJoint_0 : decode cX0_takesJoint 0 = .ok (.aload_n 0, 1) := by decide +kernel
theorem dX0_takesJoint_1 : decode cX0_takesJoint 1 = .ok (.getfield 28, 3) := by decide +kernel
theorem dX0_takesJoint_4 : decode cX0_takesJoint 4 = .ok (.ifCond .lt 15, 3) := by decide +kernel
theorem dX0_takesJoint_7 : decode cX0_takesJoint 7 = .ok (.aload_n 0, 1) := by decide +kernel
theorem dX0_takesJoint_8 : decode cX0_takesJoint 8 = .ok (.getfield 28, 3) := by decide +kernel
theorem dX0_takesJoint_11 : decode cX0_takesJoint 11 = .ok (.aload_n 0, 1) := by decide +kernel
theorem dX0_takesJoint_12 : decode cX0_takesJoint 12 = .ok (.getfield 15, 3) := by decide +kernel
theorem dX0_takesJoint_15 : decode cX0_takesJoint 15 = .ok (.arraylength, 1) := by decide +kernel
theorem dX0_takesJoint_16 : decode cX0_takesJoint 16 = .ok (.if_icmp .lt 5, 3) := by decide +kernel
theorem dX0_takesJoint_19 : decode cX0_takesJoint 19 = .ok (.iconst 0, 1) := by decide +kernel
theorem dX0_takesJoint_20 : decode cX0_takesJoint 20 = .ok (.ireturn, 1) := by decide +kernel
theorem dX0_takesJoint_21 : decode cX0_takesJoint 21 = .ok (.aload_n 0, 1) := by decide +kernel
theorem dX0_takesJoint_22 : decode cX0_takesJoint 22 = .ok (.getfield 15, 3) := by decide +kernel
theorem dX0_takesJoint_25 : decode cX0_takesJoint 25 = .ok (.aload_n 0, 1) := by decide +kernel
theorem dX0_takesJoint_26 : decode cX0_takesJoint 26 = .ok (.getfield 28, 3) := by decide +kernel
theorem dX0_takesJoint_29 : decode cX0_takesJoint 29 = .ok (.iload_n 1, 1) := by decide +kernel
theorem dX0_takesJoint_30 : decode cX0_takesJoint 30 = .ok (.iastore, 1) := by decide +kernel
theorem dX0_takesJoint_31 : decode cX0_takesJoint 31 = .ok (.aload_n 0, 1) := by decide +kernel
theorem dX0_takesJoint_32 : decode cX0_takesJoint 32 = .ok (.dup, 1) := by decide +kernel
theorem dX0_takesJoint_33 : decode cX0_takesJoint 33 = .ok (.getfield 28, 3) := by decide +kernel
theorem dX0_takesJoint_36 : decode cX0_takesJoint 36 = .ok (.iconst 1, 1) := by decide +kernel
theorem dX0_takesJoint_37 : decode cX0_takesJoint 37 = .ok (.iadd, 1) := by decide +kernel
theorem dX0_takesJoint_38 : decode cX0_takesJoint 38 = .ok (.putfield 28, 3) := by decide +kernel
theorem dX0_takesJoint_41 : decode cX0_takesJoint 41 = .ok (.iconst 1, 1) := by decide +kernel
theorem dX0_takesJoint_42 : decode cX0_takesJoint 42 = .ok (.ireturn, 1) := by decide +kernel
theorem dX0_takesPush_0 : decode cX0_takesPush 0 = .ok (.aload_n 0, 1) := by decide +kernel
theorem dX0_takesPush_1 : decode cX0_takesPush 1 = .ok (.iload_n 1, 1) := by decide +kernel
theorem dX0_takesPush_2 : decode cX0_takesPush 2 = .ok (.putfield 34, 3) := by decide +kernel
theorem dX0_takesPush_5 : decode cX0_takesPush 5 = .ok (.iconst 1, 1) := by decide +kernel
theorem dX0_takesPush_6 : decode cX0_takesPush 6 = .ok (.ireturn, 1) := by decide +kernel
theorem dX0_takesRight_0 : decode cX0_takesRight 0 = .ok (.iload_n 1, 1) := by decide +kernel
theorem dX0_takesRight_1 : decode cX0_takesRight 1 = .ok (.iconst 0, 1) := by decide +kernel
theorem dX0_takesRight_2 : decode cX0_takesRight 2 = .ok (.bipush 90, 2) := by decide +kernel
theorem dX0_takesRight_4 : decode cX0_takesRight 4 = .ok (.invokestatic 37, 3) := by decide +kernel
theorem dX0_takesRight_7 : decode cX0_takesRight 7 = .ok (.ifCond .ne 5, 3) := by decide +kernel
theorem dX0_takesRight_10 : decode cX0_takesRight 10 = .ok (.iconst 0, 1) := by decide +kernel
theorem dX0_takesRight_11 : decode cX0_takesRight 11 = .ok (.ireturn, 1) := by decide +kernel
theorem dX0_takesRight_12 : decode cX0_takesRight 12 = .ok (.aload_n 0, 1) := by decide +kernel
theorem dX0_takesRight_13 : decode cX0_takesRight 13 = .ok (.iload_n 1, 1) := by decide +kernel
theorem dX0_takesRight_14 : decode cX0_takesRight 14 = .ok (.putfield 22, 3) := by decide +kernel
theorem dX0_takesRight_17 : decode cX0_takesRight 17 = .ok (.iconst 1, 1) := by decide +kernel
theorem dX0_takesRight_18 : decode cX0_takesRight 18 = .ok (.ireturn, 1) := by decide +kernel
theorem dX0_isWhole_0 : decode cX0_isWhole 0 = .ok (.aload_n 0, 1) := by decide +kernel
theorem dX0_isWhole_1 : decode cX0_isWhole 1 = .ok (.getfield 25, 3) := by decide +kernel
theorem dX0_isWhole_4 : decode cX0_isWhole 4 = .ok (.iconst 2, 1) := by decide +kernel
theorem dX0_isWhole_5 : decode cX0_isWhole 5 = .ok (.if_icmp .lt 20, 3) := by decide +kernel
theorem dX0_isWhole_8 : decode cX0_isWhole 8 = .ok (.aload_n 0, 1) := by decide +kernel
theorem dX0_isWhole_9 : decode cX0_isWhole 9 = .ok (.getfield 28, 3) := by decide +kernel
theorem dX0_isWhole_12 : decode cX0_isWhole 12 = .ok (.aload_n 0, 1) := by decide +kernel
theorem dX0_isWhole_13 : decode cX0_isWhole 13 = .ok (.getfield 25, 3) := by decide +kernel
theorem dX0_isWhole_16 : decode cX0_isWhole 16 = .ok (.iconst 1, 1) := by decide +kernel
theorem dX0_isWhole_17 : decode cX0_isWhole 17 = .ok (.isub, 1) := by decide +kernel
theorem dX0_isWhole_18 : decode cX0_isWhole 18 = .ok (.if_icmp .ne 7, 3) := by decide +kernel
theorem dX0_isWhole_21 : decode cX0_isWhole 21 = .ok (.iconst 1, 1) := by decide +kernel
theorem dX0_isWhole_22 : decode cX0_isWhole 22 = .ok (.goto 4, 3) := by decide +kernel
theorem dX0_isWhole_25 : decode cX0_isWhole 25 = .ok (.iconst 0, 1) := by decide +kernel
theorem dX0_isWhole_26 : decode cX0_isWhole 26 = .ok (.ireturn, 1) := by decide +kernel
theorem dX0_loadOf_0 : decode cX0_loadOf 0 = .ok (.iload_n 1, 1) := by decide +kernel
theorem dX0_loadOf_1 : decode cX0_loadOf 1 = .ok (.iconst 3, 1) := by decide +kernel
theorem dX0_loadOf_2 : decode cX0_loadOf 2 = .ok (.imul, 1) := by decide +kernel
theorem dX0_loadOf_3 : decode cX0_loadOf 3 = .ok (.iload_n 2, 1) := by decide +kernel
theorem dX0_loadOf_4 : decode cX0_loadOf 4 = .ok (.iadd, 1) := by decide +kernel
theorem dX0_loadOf_5 : decode cX0_loadOf 5 = .ok (.istore_n 3, 1) := by decide +kernel
theorem dX0_loadOf_6 : decode cX0_loadOf 6 = .ok (.iload_n 2, 1) := by decide +kernel
theorem dX0_loadOf_7 : decode cX0_loadOf 7 = .ok (.ifCond .lt 30, 3) := by decide +kernel
theorem dX0_loadOf_10 : decode cX0_loadOf 10 = .ok (.iload_n 2, 1) := by decide +kernel
theorem dX0_loadOf_11 : decode cX0_loadOf 11 = .ok (.iconst 3, 1) := by decide +kernel
theorem dX0_loadOf_12 : decode cX0_loadOf 12 = .ok (.if_icmp .ge 25, 3) := by decide +kernel
theorem dX0_loadOf_15 : decode cX0_loadOf 15 = .ok (.iload_n 3, 1) := by decide +kernel
theorem dX0_loadOf_16 : decode cX0_loadOf 16 = .ok (.ifCond .lt 21, 3) := by decide +kernel
theorem dX0_loadOf_19 : decode cX0_loadOf 19 = .ok (.iload_n 3, 1) := by decide +kernel
theorem dX0_loadOf_20 : decode cX0_loadOf 20 = .ok (.aload_n 0, 1) := by decide +kernel
theorem dX0_loadOf_21 : decode cX0_loadOf 21 = .ok (.getfield 9, 3) := by decide +kernel
theorem dX0_loadOf_24 : decode cX0_loadOf 24 = .ok (.arraylength, 1) := by decide +kernel
theorem dX0_loadOf_25 : decode cX0_loadOf 25 = .ok (.if_icmp .ge 12, 3) := by decide +kernel
theorem dX0_loadOf_28 : decode cX0_loadOf 28 = .ok (.aload_n 0, 1) := by decide +kernel
theorem dX0_loadOf_29 : decode cX0_loadOf 29 = .ok (.getfield 9, 3) := by decide +kernel
theorem dX0_loadOf_32 : decode cX0_loadOf 32 = .ok (.iload_n 3, 1) := by decide +kernel
theorem dX0_loadOf_33 : decode cX0_loadOf 33 = .ok (.iaload, 1) := by decide +kernel
theorem dX0_loadOf_34 : decode cX0_loadOf 34 = .ok (.goto 4, 3) := by decide +kernel
theorem dX0_loadOf_37 : decode cX0_loadOf 37 = .ok (.iconst 0, 1) := by decide +kernel
theorem dX0_loadOf_38 : decode cX0_loadOf 38 = .ok (.ireturn, 1) := by decide +kernel
theorem dX0_loadAtRest_0 : decode cX0_loadAtRest 0 = .ok (.iconst 0, 1) := by decide +kernel
theorem dX0_loadAtRest_1 : decode cX0_loadAtRest 1 = .ok (.istore_n 1, 1) := by decide +kernel
theorem dX0_loadAtRest_2 : decode cX0_loadAtRest 2 = .ok (.iconst 0, 1) := by decide +kernel
theorem dX0_loadAtRest_3 : decode cX0_loadAtRest 3 = .ok (.istore_n 2, 1) := by decide +kernel
theorem dX0_loadAtRest_4 : decode cX0_loadAtRest 4 = .ok (.iload_n 2, 1) := by decide +kernel
theorem dX0_loadAtRest_5 : decode cX0_loadAtRest 5 = .ok (.aload_n 0, 1) := by decide +kernel
theorem dX0_loadAtRest_6 : decode cX0_loadAtRest 6 = .ok (.getfield 25, 3) := by decide +kernel
theorem dX0_loadAtRest_9 : decode cX0_loadAtRest 9 = .ok (.if_icmp .ge 18, 3) := by decide +kernel
theorem dX0_loadAtRest_12 : decode cX0_loadAtRest 12 = .ok (.iload_n 1, 1) := by decide +kernel
theorem dX0_loadAtRest_13 : decode cX0_loadAtRest 13 = .ok (.aload_n 0, 1) := by decide +kernel
theorem dX0_loadAtRest_14 : decode cX0_loadAtRest 14 = .ok (.iload_n 2, 1) := by decide +kernel
theorem dX0_loadAtRest_15 : decode cX0_loadAtRest 15 = .ok (.iconst 1, 1) := by decide +kernel
theorem dX0_loadAtRest_16 : decode cX0_loadAtRest 16 = .ok (.invokevirtual 52, 3) := by decide +kernel
theorem dX0_loadAtRest_19 : decode cX0_loadAtRest 19 = .ok (.iadd, 1) := by decide +kernel
theorem dX0_loadAtRest_20 : decode cX0_loadAtRest 20 = .ok (.istore_n 1, 1) := by decide +kernel
theorem dX0_loadAtRest_21 : decode cX0_loadAtRest 21 = .ok (.iinc 2 1, 3) := by decide +kernel
theorem dX0_loadAtRest_24 : decode cX0_loadAtRest 24 = .ok (.goto (-20), 3) := by decide +kernel
theorem dX0_loadAtRest_27 : decode cX0_loadAtRest 27 = .ok (.iload_n 1, 1) := by decide +kernel
theorem dX0_loadAtRest_28 : decode cX0_loadAtRest 28 = .ok (.ireturn, 1) := by decide +kernel
theorem dX0_stepOf_0 : decode cX0_stepOf 0 = .ok (.iload_n 1, 1) := by decide +kernel
theorem dX0_stepOf_1 : decode cX0_stepOf 1 = .ok (.ifCond .lt 21, 3) := by decide +kernel
theorem dX0_stepOf_4 : decode cX0_stepOf 4 = .ok (.iload_n 1, 1) := by decide +kernel
theorem dX0_stepOf_5 : decode cX0_stepOf 5 = .ok (.aload_n 0, 1) := by decide +kernel
theorem dX0_stepOf_6 : decode cX0_stepOf 6 = .ok (.getfield 15, 3) := by decide +kernel
theorem dX0_stepOf_9 : decode cX0_stepOf 9 = .ok (.arraylength, 1) := by decide +kernel
theorem dX0_stepOf_10 : decode cX0_stepOf 10 = .ok (.if_icmp .ge 12, 3) := by decide +kernel
theorem dX0_stepOf_13 : decode cX0_stepOf 13 = .ok (.aload_n 0, 1) := by decide +kernel
theorem dX0_stepOf_14 : decode cX0_stepOf 14 = .ok (.getfield 15, 3) := by decide +kernel
theorem dX0_stepOf_17 : decode cX0_stepOf 17 = .ok (.iload_n 1, 1) := by decide +kernel
theorem dX0_stepOf_18 : decode cX0_stepOf 18 = .ok (.iaload, 1) := by decide +kernel
theorem dX0_stepOf_19 : decode cX0_stepOf 19 = .ok (.goto 4, 3) := by decide +kernel
theorem dX0_stepOf_22 : decode cX0_stepOf 22 = .ok (.iconst 0, 1) := by decide +kernel
theorem dX0_stepOf_23 : decode cX0_stepOf 23 = .ok (.ireturn, 1) := by decide +kernel
theorem dX0_isWagging_0 : decode cX0_isWagging 0 = .ok (.iload_n 1, 1) := by decide +kernel
theorem dX0_isWagging_1 : decode cX0_isWagging 1 = .ok (.aload_n 0, 1) := by decide +kernel
theorem dX0_isWagging_2 : decode cX0_isWagging 2 = .ok (.getfield 18, 3) := by decide +kernel
theorem dX0_isWagging_5 : decode cX0_isWagging 5 = .ok (.if_icmp .ne 7, 3) := by decide +kernel
theorem dX0_isWagging_8 : decode cX0_isWagging 8 = .ok (.iconst 1, 1) := by decide +kernel
theorem dX0_isWagging_9 : decode cX0_isWagging 9 = .ok (.goto 4, 3) := by decide +kernel
theorem dX0_isWagging_12 : decode cX0_isWagging 12 = .ok (.iconst 0, 1) := by decide +kernel
theorem dX0_isWagging_13 : decode cX0_isWagging 13 = .ok (.ireturn, 1) := by decide +kernel
theorem dX0_stepsOf_0 : decode cX0_stepsOf 0 = .ok (.aload_n 0, 1) := by decide +kernel
theorem dX0_stepsOf_1 : decode cX0_stepsOf 1 = .ok (.iload_n 1, 1) := by decide +kernel
theorem dX0_stepsOf_2 : decode cX0_stepsOf 2 = .ok (.invokevirtual 55, 3) := by decide +kernel
theorem dX0_stepsOf_5 : decode cX0_stepsOf 5 = .ok (.ifCond .eq 10, 3) := by decide +kernel
theorem dX0_stepsOf_8 : decode cX0_stepsOf 8 = .ok (.aload_n 0, 1) := by decide +kernel
theorem dX0_stepsOf_9 : decode cX0_stepsOf 9 = .ok (.getfield 31, 3) := by decide +kernel
theorem dX0_stepsOf_12 : decode cX0_stepsOf 12 = .ok (.goto 4, 3) := by decide +kernel
theorem dX0_stepsOf_15 : decode cX0_stepsOf 15 = .ok (.iconst 5, 1) := by decide +kernel
theorem dX0_stepsOf_16 : decode cX0_stepsOf 16 = .ok (.ireturn, 1) := by decide +kernel
theorem dX0_lowestOf_0 : decode cX0_lowestOf 0 = .ok (.aload_n 0, 1) := by decide +kernel
theorem dX0_lowestOf_1 : decode cX0_lowestOf 1 = .ok (.iload_n 1, 1) := by decide +kernel
theorem dX0_lowestOf_2 : decode cX0_lowestOf 2 = .ok (.invokevirtual 55, 3) := by decide +kernel
theorem dX0_lowestOf_5 : decode cX0_lowestOf 5 = .ok (.ifCond .eq 7, 3) := by decide +kernel
theorem dX0_lowestOf_8 : decode cX0_lowestOf 8 = .ok (.iconst 0, 1) := by decide +kernel
theorem dX0_lowestOf_9 : decode cX0_lowestOf 9 = .ok (.goto 5, 3) := by decide +kernel
theorem dX0_lowestOf_12 : decode cX0_lowestOf 12 = .ok (.bipush (-2), 2) := by decide +kernel
theorem dX0_lowestOf_14 : decode cX0_lowestOf 14 = .ok (.ireturn, 1) := by decide +kernel
theorem dX0_isAs_0 : decode cX0_isAs 0 = .ok (.aload_n 0, 1) := by decide +kernel
theorem dX0_isAs_1 : decode cX0_isAs 1 = .ok (.getfield 25, 3) := by decide +kernel
theorem dX0_isAs_4 : decode cX0_isAs 4 = .ok (.aload_n 1, 1) := by decide +kernel
theorem dX0_isAs_5 : decode cX0_isAs 5 = .ok (.getfield 25, 3) := by decide +kernel
theorem dX0_isAs_8 : decode cX0_isAs 8 = .ok (.if_icmp .ne 51, 3) := by decide +kernel
theorem dX0_isAs_11 : decode cX0_isAs 11 = .ok (.aload_n 0, 1) := by decide +kernel
theorem dX0_isAs_12 : decode cX0_isAs 12 = .ok (.getfield 28, 3) := by decide +kernel
theorem dX0_isAs_15 : decode cX0_isAs 15 = .ok (.aload_n 1, 1) := by decide +kernel
theorem dX0_isAs_16 : decode cX0_isAs 16 = .ok (.getfield 28, 3) := by decide +kernel
theorem dX0_isAs_19 : decode cX0_isAs 19 = .ok (.if_icmp .ne 40, 3) := by decide +kernel
theorem dX0_isAs_22 : decode cX0_isAs 22 = .ok (.aload_n 0, 1) := by decide +kernel
theorem dX0_isAs_23 : decode cX0_isAs 23 = .ok (.getfield 18, 3) := by decide +kernel
theorem dX0_isAs_26 : decode cX0_isAs 26 = .ok (.aload_n 1, 1) := by decide +kernel
theorem dX0_isAs_27 : decode cX0_isAs 27 = .ok (.getfield 18, 3) := by decide +kernel
theorem dX0_isAs_30 : decode cX0_isAs 30 = .ok (.if_icmp .ne 29, 3) := by decide +kernel
theorem dX0_isAs_33 : decode cX0_isAs 33 = .ok (.aload_n 0, 1) := by decide +kernel
theorem dX0_isAs_34 : decode cX0_isAs 34 = .ok (.getfield 34, 3) := by decide +kernel
theorem dX0_isAs_37 : decode cX0_isAs 37 = .ok (.aload_n 1, 1) := by decide +kernel
theorem dX0_isAs_38 : decode cX0_isAs 38 = .ok (.getfield 34, 3) := by decide +kernel
theorem dX0_isAs_41 : decode cX0_isAs 41 = .ok (.if_icmp .ne 18, 3) := by decide +kernel
theorem dX0_isAs_44 : decode cX0_isAs 44 = .ok (.aload_n 0, 1) := by decide +kernel
theorem dX0_isAs_45 : decode cX0_isAs 45 = .ok (.getfield 22, 3) := by decide +kernel
theorem dX0_isAs_48 : decode cX0_isAs 48 = .ok (.aload_n 1, 1) := by decide +kernel
theorem dX0_isAs_49 : decode cX0_isAs 49 = .ok (.getfield 22, 3) := by decide +kernel
theorem dX0_isAs_52 : decode cX0_isAs 52 = .ok (.if_icmp .ne 7, 3) := by decide +kernel
theorem dX0_isAs_55 : decode cX0_isAs 55 = .ok (.iconst 1, 1) := by decide +kernel
theorem dX0_isAs_56 : decode cX0_isAs 56 = .ok (.goto 4, 3) := by decide +kernel
theorem dX0_isAs_59 : decode cX0_isAs 59 = .ok (.iconst 0, 1) := by decide +kernel
theorem dX0_isAs_60 : decode cX0_isAs 60 = .ok (.istore_n 2, 1) := by decide +kernel
theorem dX0_isAs_61 : decode cX0_isAs 61 = .ok (.iconst 0, 1) := by decide +kernel
theorem dX0_isAs_62 : decode cX0_isAs 62 = .ok (.istore_n 3, 1) := by decide +kernel
theorem dX0_isAs_63 : decode cX0_isAs 63 = .ok (.iload_n 3, 1) := by decide +kernel
theorem dX0_isAs_64 : decode cX0_isAs 64 = .ok (.aload_n 0, 1) := by decide +kernel
theorem dX0_isAs_65 : decode cX0_isAs 65 = .ok (.getfield 9, 3) := by decide +kernel
theorem dX0_isAs_68 : decode cX0_isAs 68 = .ok (.arraylength, 1) := by decide +kernel
theorem dX0_isAs_69 : decode cX0_isAs 69 = .ok (.if_icmp .ge 53, 3) := by decide +kernel
theorem dX0_isAs_72 : decode cX0_isAs 72 = .ok (.iload_n 3, 1) := by decide +kernel
theorem dX0_isAs_73 : decode cX0_isAs 73 = .ok (.aload_n 0, 1) := by decide +kernel
theorem dX0_isAs_74 : decode cX0_isAs 74 = .ok (.getfield 25, 3) := by decide +kernel
theorem dX0_isAs_77 : decode cX0_isAs 77 = .ok (.iconst 3, 1) := by decide +kernel
theorem dX0_isAs_78 : decode cX0_isAs 78 = .ok (.imul, 1) := by decide +kernel
theorem dX0_isAs_79 : decode cX0_isAs 79 = .ok (.if_icmp .ge 43, 3) := by decide +kernel
theorem dX0_isAs_82 : decode cX0_isAs 82 = .ok (.iload_n 2, 1) := by decide +kernel
theorem dX0_isAs_83 : decode cX0_isAs 83 = .ok (.ifCond .eq 31, 3) := by decide +kernel
theorem dX0_isAs_86 : decode cX0_isAs 86 = .ok (.iload_n 3, 1) := by decide +kernel
theorem dX0_isAs_87 : decode cX0_isAs 87 = .ok (.aload_n 1, 1) := by decide +kernel
theorem dX0_isAs_88 : decode cX0_isAs 88 = .ok (.getfield 9, 3) := by decide +kernel
theorem dX0_isAs_91 : decode cX0_isAs 91 = .ok (.arraylength, 1) := by decide +kernel
theorem dX0_isAs_92 : decode cX0_isAs 92 = .ok (.if_icmp .ge 22, 3) := by decide +kernel
theorem dX0_isAs_95 : decode cX0_isAs 95 = .ok (.aload_n 0, 1) := by decide +kernel
theorem dX0_isAs_96 : decode cX0_isAs 96 = .ok (.getfield 9, 3) := by decide +kernel
theorem dX0_isAs_99 : decode cX0_isAs 99 = .ok (.iload_n 3, 1) := by decide +kernel
theorem dX0_isAs_100 : decode cX0_isAs 100 = .ok (.iaload, 1) := by decide +kernel
theorem dX0_isAs_101 : decode cX0_isAs 101 = .ok (.aload_n 1, 1) := by decide +kernel
theorem dX0_isAs_102 : decode cX0_isAs 102 = .ok (.getfield 9, 3) := by decide +kernel
theorem dX0_isAs_105 : decode cX0_isAs 105 = .ok (.iload_n 3, 1) := by decide +kernel
theorem dX0_isAs_106 : decode cX0_isAs 106 = .ok (.iaload, 1) := by decide +kernel
theorem dX0_isAs_107 : decode cX0_isAs 107 = .ok (.if_icmp .ne 7, 3) := by decide +kernel
theorem dX0_isAs_110 : decode cX0_isAs 110 = .ok (.iconst 1, 1) := by decide +kernel
theorem dX0_isAs_111 : decode cX0_isAs 111 = .ok (.goto 4, 3) := by decide +kernel
theorem dX0_isAs_114 : decode cX0_isAs 114 = .ok (.iconst 0, 1) := by decide +kernel
theorem dX0_isAs_115 : decode cX0_isAs 115 = .ok (.istore_n 2, 1) := by decide +kernel
theorem dX0_isAs_116 : decode cX0_isAs 116 = .ok (.iinc 3 1, 3) := by decide +kernel
theorem dX0_isAs_119 : decode cX0_isAs 119 = .ok (.goto (-56), 3) := by decide +kernel
theorem dX0_isAs_122 : decode cX0_isAs 122 = .ok (.iconst 0, 1) := by decide +kernel
theorem dX0_isAs_123 : decode cX0_isAs 123 = .ok (.istore_n 3, 1) := by decide +kernel
theorem dX0_isAs_124 : decode cX0_isAs 124 = .ok (.iload_n 3, 1) := by decide +kernel
theorem dX0_isAs_125 : decode cX0_isAs 125 = .ok (.aload_n 0, 1) := by decide +kernel
theorem dX0_isAs_126 : decode cX0_isAs 126 = .ok (.getfield 28, 3) := by decide +kernel
theorem dX0_isAs_129 : decode cX0_isAs 129 = .ok (.if_icmp .ge 32, 3) := by decide +kernel
theorem dX0_isAs_132 : decode cX0_isAs 132 = .ok (.iload_n 2, 1) := by decide +kernel
theorem dX0_isAs_133 : decode cX0_isAs 133 = .ok (.ifCond .eq 20, 3) := by decide +kernel
theorem dX0_isAs_136 : decode cX0_isAs 136 = .ok (.aload_n 0, 1) := by decide +kernel
theorem dX0_isAs_137 : decode cX0_isAs 137 = .ok (.iload_n 3, 1) := by decide +kernel
theorem dX0_isAs_138 : decode cX0_isAs 138 = .ok (.invokevirtual 58, 3) := by decide +kernel
theorem dX0_isAs_141 : decode cX0_isAs 141 = .ok (.aload_n 1, 1) := by decide +kernel
theorem dX0_isAs_142 : decode cX0_isAs 142 = .ok (.iload_n 3, 1) := by decide +kernel
theorem dX0_isAs_143 : decode cX0_isAs 143 = .ok (.invokevirtual 58, 3) := by decide +kernel
theorem dX0_isAs_146 : decode cX0_isAs 146 = .ok (.if_icmp .ne 7, 3) := by decide +kernel
theorem dX0_isAs_149 : decode cX0_isAs 149 = .ok (.iconst 1, 1) := by decide +kernel
theorem dX0_isAs_150 : decode cX0_isAs 150 = .ok (.goto 4, 3) := by decide +kernel
theorem dX0_isAs_153 : decode cX0_isAs 153 = .ok (.iconst 0, 1) := by decide +kernel
theorem dX0_isAs_154 : decode cX0_isAs 154 = .ok (.istore_n 2, 1) := by decide +kernel
theorem dX0_isAs_155 : decode cX0_isAs 155 = .ok (.iinc 3 1, 3) := by decide +kernel
theorem dX0_isAs_158 : decode cX0_isAs 158 = .ok (.goto (-34), 3) := by decide +kernel
theorem dX0_isAs_161 : decode cX0_isAs 161 = .ok (.iload_n 2, 1) := by decide +kernel
theorem dX0_isAs_162 : decode cX0_isAs 162 = .ok (.ireturn, 1) := by decide +kernel
theorem dX0_copyBody_0 : decode cX0_copyBody 0 = .ok (.iconst 0, 1) := by decide +kernel
theorem dX0_copyBody_1 : decode cX0_copyBody 1 = .ok (.istore_n 2, 1) := by decide +kernel
theorem dX0_copyBody_2 : decode cX0_copyBody 2 = .ok (.iload_n 2, 1) := by decide +kernel
theorem dX0_copyBody_3 : decode cX0_copyBody 3 = .ok (.aload_n 0, 1) := by decide +kernel
theorem dX0_copyBody_4 : decode cX0_copyBody 4 = .ok (.getfield 9, 3) := by decide +kernel
theorem dX0_copyBody_7 : decode cX0_copyBody 7 = .ok (.arraylength, 1) := by decide +kernel
theorem dX0_copyBody_8 : decode cX0_copyBody 8 = .ok (.if_icmp .ge 30, 3) := by decide +kernel
theorem dX0_copyBody_11 : decode cX0_copyBody 11 = .ok (.iload_n 2, 1) := by decide +kernel
theorem dX0_copyBody_12 : decode cX0_copyBody 12 = .ok (.aload_n 1, 1) := by decide +kernel
theorem dX0_copyBody_13 : decode cX0_copyBody 13 = .ok (.getfield 9, 3) := by decide +kernel
theorem dX0_copyBody_16 : decode cX0_copyBody 16 = .ok (.arraylength, 1) := by decide +kernel
theorem dX0_copyBody_17 : decode cX0_copyBody 17 = .ok (.if_icmp .ge 21, 3) := by decide +kernel
theorem dX0_copyBody_20 : decode cX0_copyBody 20 = .ok (.aload_n 0, 1) := by decide +kernel
theorem dX0_copyBody_21 : decode cX0_copyBody 21 = .ok (.getfield 9, 3) := by decide +kernel
theorem dX0_copyBody_24 : decode cX0_copyBody 24 = .ok (.iload_n 2, 1) := by decide +kernel
theorem dX0_copyBody_25 : decode cX0_copyBody 25 = .ok (.aload_n 1, 1) := by decide +kernel
theorem dX0_copyBody_26 : decode cX0_copyBody 26 = .ok (.getfield 9, 3) := by decide +kernel
theorem dX0_copyBody_29 : decode cX0_copyBody 29 = .ok (.iload_n 2, 1) := by decide +kernel
theorem dX0_copyBody_30 : decode cX0_copyBody 30 = .ok (.iaload, 1) := by decide +kernel
theorem dX0_copyBody_31 : decode cX0_copyBody 31 = .ok (.iastore, 1) := by decide +kernel
theorem dX0_copyBody_32 : decode cX0_copyBody 32 = .ok (.iinc 2 1, 3) := by decide +kernel
theorem dX0_copyBody_35 : decode cX0_copyBody 35 = .ok (.goto (-33), 3) := by decide +kernel
theorem dX0_copyBody_38 : decode cX0_copyBody 38 = .ok (.iconst 0, 1) := by decide +kernel
theorem dX0_copyBody_39 : decode cX0_copyBody 39 = .ok (.istore_n 2, 1) := by decide +kernel
theorem dX0_copyBody_40 : decode cX0_copyBody 40 = .ok (.iload_n 2, 1) := by decide +kernel
theorem dX0_copyBody_41 : decode cX0_copyBody 41 = .ok (.aload_n 0, 1) := by decide +kernel
theorem dX0_copyBody_42 : decode cX0_copyBody 42 = .ok (.getfield 15, 3) := by decide +kernel
theorem dX0_copyBody_45 : decode cX0_copyBody 45 = .ok (.arraylength, 1) := by decide +kernel
theorem dX0_copyBody_46 : decode cX0_copyBody 46 = .ok (.if_icmp .ge 30, 3) := by decide +kernel
theorem dX0_copyBody_49 : decode cX0_copyBody 49 = .ok (.iload_n 2, 1) := by decide +kernel
theorem dX0_copyBody_50 : decode cX0_copyBody 50 = .ok (.aload_n 1, 1) := by decide +kernel
theorem dX0_copyBody_51 : decode cX0_copyBody 51 = .ok (.getfield 15, 3) := by decide +kernel
theorem dX0_copyBody_54 : decode cX0_copyBody 54 = .ok (.arraylength, 1) := by decide +kernel
theorem dX0_copyBody_55 : decode cX0_copyBody 55 = .ok (.if_icmp .ge 21, 3) := by decide +kernel
theorem dX0_copyBody_58 : decode cX0_copyBody 58 = .ok (.aload_n 0, 1) := by decide +kernel
theorem dX0_copyBody_59 : decode cX0_copyBody 59 = .ok (.getfield 15, 3) := by decide +kernel
theorem dX0_copyBody_62 : decode cX0_copyBody 62 = .ok (.iload_n 2, 1) := by decide +kernel
theorem dX0_copyBody_63 : decode cX0_copyBody 63 = .ok (.aload_n 1, 1) := by decide +kernel
theorem dX0_copyBody_64 : decode cX0_copyBody 64 = .ok (.getfield 15, 3) := by decide +kernel
theorem dX0_copyBody_67 : decode cX0_copyBody 67 = .ok (.iload_n 2, 1) := by decide +kernel
theorem dX0_copyBody_68 : decode cX0_copyBody 68 = .ok (.iaload, 1) := by decide +kernel
theorem dX0_copyBody_69 : decode cX0_copyBody 69 = .ok (.iastore, 1) := by decide +kernel
theorem dX0_copyBody_70 : decode cX0_copyBody 70 = .ok (.iinc 2 1, 3) := by decide +kernel
theorem dX0_copyBody_73 : decode cX0_copyBody 73 = .ok (.goto (-33), 3) := by decide +kernel
theorem dX0_copyBody_76 : decode cX0_copyBody 76 = .ok (.aload_n 0, 1) := by decide +kernel
theorem dX0_copyBody_77 : decode cX0_copyBody 77 = .ok (.aload_n 1, 1) := by decide +kernel
theorem dX0_copyBody_78 : decode cX0_copyBody 78 = .ok (.getfield 25, 3) := by decide +kernel
theorem dX0_copyBody_81 : decode cX0_copyBody 81 = .ok (.putfield 25, 3) := by decide +kernel
theorem dX0_copyBody_84 : decode cX0_copyBody 84 = .ok (.aload_n 0, 1) := by decide +kernel
theorem dX0_copyBody_85 : decode cX0_copyBody 85 = .ok (.aload_n 1, 1) := by decide +kernel
theorem dX0_copyBody_86 : decode cX0_copyBody 86 = .ok (.getfield 28, 3) := by decide +kernel
theorem dX0_copyBody_89 : decode cX0_copyBody 89 = .ok (.putfield 28, 3) := by decide +kernel
theorem dX0_copyBody_92 : decode cX0_copyBody 92 = .ok (.aload_n 0, 1) := by decide +kernel
theorem dX0_copyBody_93 : decode cX0_copyBody 93 = .ok (.aload_n 1, 1) := by decide +kernel
theorem dX0_copyBody_94 : decode cX0_copyBody 94 = .ok (.getfield 18, 3) := by decide +kernel
theorem dX0_copyBody_97 : decode cX0_copyBody 97 = .ok (.putfield 18, 3) := by decide +kernel
theorem dX0_copyBody_100 : decode cX0_copyBody 100 = .ok (.aload_n 0, 1) := by decide +kernel
theorem dX0_copyBody_101 : decode cX0_copyBody 101 = .ok (.aload_n 1, 1) := by decide +kernel
theorem dX0_copyBody_102 : decode cX0_copyBody 102 = .ok (.getfield 31, 3) := by decide +kernel
theorem dX0_copyBody_105 : decode cX0_copyBody 105 = .ok (.putfield 31, 3) := by decide +kernel
theorem dX0_copyBody_108 : decode cX0_copyBody 108 = .ok (.aload_n 0, 1) := by decide +kernel
theorem dX0_copyBody_109 : decode cX0_copyBody 109 = .ok (.aload_n 1, 1) := by decide +kernel
theorem dX0_copyBody_110 : decode cX0_copyBody 110 = .ok (.getfield 34, 3) := by decide +kernel
theorem dX0_copyBody_113 : decode cX0_copyBody 113 = .ok (.putfield 34, 3) := by decide +kernel
theorem dX0_copyBody_116 : decode cX0_copyBody 116 = .ok (.aload_n 0, 1) := by decide +kernel
theorem dX0_copyBody_117 : decode cX0_copyBody 117 = .ok (.aload_n 1, 1) := by decide +kernel
theorem dX0_copyBody_118 : decode cX0_copyBody 118 = .ok (.getfield 22, 3) := by decide +kernel
theorem dX0_copyBody_121 : decode cX0_copyBody 121 = .ok (.putfield 22, 3) := by decide +kernel
theorem dX0_copyBody_124 : decode cX0_copyBody 124 = .ok (.return_, 1) := by decide +kernel
theorem dX1_init_0 : decode cX1_init 0 = .ok (.aload_n 0, 1) := by decide +kernel
theorem dX1_init_1 : decode cX1_init 1 = .ok (.invokespecial 3, 3) := by decide +kernel
theorem dX1_init_4 : decode cX1_init 4 = .ok (.aload_n 0, 1) := by decide +kernel
theorem dX1_init_5 : decode cX1_init 5 = .ok (.aload_n 1, 1) := by decide +kernel
theorem dX1_init_6 : decode cX1_init 6 = .ok (.putfield 9, 3) := by decide +kernel
theorem dX1_init_9 : decode cX1_init 9 = .ok (.aload_n 0, 1) := by decide +kernel
theorem dX1_init_10 : decode cX1_init 10 = .ok (.new 15, 3) := by decide +kernel
theorem dX1_init_13 : decode cX1_init 13 = .ok (.dup, 1) := by decide +kernel
theorem dX1_init_14 : decode cX1_init 14 = .ok (.aload_n 1, 1) := by decide +kernel
theorem dX1_init_15 : decode cX1_init 15 = .ok (.invokespecial 17, 3) := by decide +kernel
theorem dX1_init_18 : decode cX1_init 18 = .ok (.putfield 20, 3) := by decide +kernel
theorem dX1_init_21 : decode cX1_init 21 = .ok (.return_, 1) := by decide +kernel
theorem dX1_turnsBy_0 : decode cX1_turnsBy 0 = .ok (.sipush 360, 3) := by decide +kernel
theorem dX1_turnsBy_3 : decode cX1_turnsBy 3 = .ok (.istore_n 2, 1) := by decide +kernel
theorem dX1_turnsBy_4 : decode cX1_turnsBy 4 = .ok (.iconst 0, 1) := by decide +kernel
theorem dX1_turnsBy_5 : decode cX1_turnsBy 5 = .ok (.istore_n 3, 1) := by decide +kernel
theorem dX1_turnsBy_6 : decode cX1_turnsBy 6 = .ok (.iload_n 3, 1) := by decide +kernel
theorem dX1_turnsBy_7 : decode cX1_turnsBy 7 = .ok (.aload_n 0, 1) := by decide +kernel
theorem dX1_turnsBy_8 : decode cX1_turnsBy 8 = .ok (.getfield 9, 3) := by decide +kernel
theorem dX1_turnsBy_11 : decode cX1_turnsBy 11 = .ok (.getfield 24, 3) := by decide +kernel
theorem dX1_turnsBy_14 : decode cX1_turnsBy 14 = .ok (.if_icmp .ge 25, 3) := by decide +kernel
theorem dX1_turnsBy_17 : decode cX1_turnsBy 17 = .ok (.iload_n 1, 1) := by decide +kernel
theorem dX1_turnsBy_18 : decode cX1_turnsBy 18 = .ok (.iload_n 3, 1) := by decide +kernel
theorem dX1_turnsBy_19 : decode cX1_turnsBy 19 = .ok (.ishr, 1) := by decide +kernel
theorem dX1_turnsBy_20 : decode cX1_turnsBy 20 = .ok (.iconst 1, 1) := by decide +kernel
theorem dX1_turnsBy_21 : decode cX1_turnsBy 21 = .ok (.iand, 1) := by decide +kernel
theorem dX1_turnsBy_22 : decode cX1_turnsBy 22 = .ok (.iconst 1, 1) := by decide +kernel
theorem dX1_turnsBy_23 : decode cX1_turnsBy 23 = .ok (.if_icmp .ne 10, 3) := by decide +kernel
theorem dX1_turnsBy_26 : decode cX1_turnsBy 26 = .ok (.aload_n 0, 1) := by decide +kernel
theorem dX1_turnsBy_27 : decode cX1_turnsBy 27 = .ok (.iload_n 2, 1) := by decide +kernel
theorem dX1_turnsBy_28 : decode cX1_turnsBy 28 = .ok (.iload_n 3, 1) := by decide +kernel
theorem dX1_turnsBy_29 : decode cX1_turnsBy 29 = .ok (.invokevirtual 30, 3) := by decide +kernel
theorem dX1_turnsBy_32 : decode cX1_turnsBy 32 = .ok (.istore_n 2, 1) := by decide +kernel
theorem dX1_turnsBy_33 : decode cX1_turnsBy 33 = .ok (.iinc 3 1, 3) := by decide +kernel
theorem dX1_turnsBy_36 : decode cX1_turnsBy 36 = .ok (.goto (-30), 3) := by decide +kernel
theorem dX1_turnsBy_39 : decode cX1_turnsBy 39 = .ok (.sipush 360, 3) := by decide +kernel
theorem dX1_turnsBy_42 : decode cX1_turnsBy 42 = .ok (.iload_n 2, 1) := by decide +kernel
theorem dX1_turnsBy_43 : decode cX1_turnsBy 43 = .ok (.invokestatic 34, 3) := by decide +kernel
theorem dX1_turnsBy_46 : decode cX1_turnsBy 46 = .ok (.ireturn, 1) := by decide +kernel
theorem dX1_measureWith_0 : decode cX1_measureWith 0 = .ok (.aload_n 0, 1) := by decide +kernel
theorem dX1_measureWith_1 : decode cX1_measureWith 1 = .ok (.getfield 20, 3) := by decide +kernel
theorem dX1_measureWith_4 : decode cX1_measureWith 4 = .ok (.invokevirtual 37, 3) := by decide +kernel
theorem dX1_measureWith_7 : decode cX1_measureWith 7 = .ok (.aload_n 0, 1) := by decide +kernel
theorem dX1_measureWith_8 : decode cX1_measureWith 8 = .ok (.getfield 20, 3) := by decide +kernel
theorem dX1_measureWith_11 : decode cX1_measureWith 11 = .ok (.iconst 1, 1) := by decide +kernel
theorem dX1_measureWith_12 : decode cX1_measureWith 12 = .ok (.iconst 2, 1) := by decide +kernel
theorem dX1_measureWith_13 : decode cX1_measureWith 13 = .ok (.iload_n 2, 1) := by decide +kernel
theorem dX1_measureWith_14 : decode cX1_measureWith 14 = .ok (.imul, 1) := by decide +kernel
theorem dX1_measureWith_15 : decode cX1_measureWith 15 = .ok (.iadd, 1) := by decide +kernel
theorem dX1_measureWith_16 : decode cX1_measureWith 16 = .ok (.invokevirtual 40, 3) := by decide +kernel
theorem dX1_measureWith_19 : decode cX1_measureWith 19 = .ok (.pop, 1) := by decide +kernel
theorem dX1_measureWith_20 : decode cX1_measureWith 20 = .ok (.aload_n 0, 1) := by decide +kernel
theorem dX1_measureWith_21 : decode cX1_measureWith 21 = .ok (.getfield 20, 3) := by decide +kernel
theorem dX1_measureWith_24 : decode cX1_measureWith 24 = .ok (.invokevirtual 44, 3) := by decide +kernel
theorem dX1_measureWith_27 : decode cX1_measureWith 27 = .ok (.istore_n 3, 1) := by decide +kernel
theorem dX1_measureWith_28 : decode cX1_measureWith 28 = .ok (.aload_n 0, 1) := by decide +kernel
theorem dX1_measureWith_29 : decode cX1_measureWith 29 = .ok (.getfield 9, 3) := by decide +kernel
theorem dX1_measureWith_32 : decode cX1_measureWith 32 = .ok (.iload_n 2, 1) := by decide +kernel
theorem dX1_measureWith_33 : decode cX1_measureWith 33 = .ok (.invokevirtual 48, 3) := by decide +kernel
theorem dX1_measureWith_36 : decode cX1_measureWith 36 = .ok (.ifCond .eq 20, 3) := by decide +kernel
theorem dX1_measureWith_39 : decode cX1_measureWith 39 = .ok (.iload_n 1, 1) := by decide +kernel
theorem dX1_measureWith_40 : decode cX1_measureWith 40 = .ok (.aload_n 0, 1) := by decide +kernel
theorem dX1_measureWith_41 : decode cX1_measureWith 41 = .ok (.getfield 9, 3) := by decide +kernel
theorem dX1_measureWith_44 : decode cX1_measureWith 44 = .ok (.iload_n 2, 1) := by decide +kernel
theorem dX1_measureWith_45 : decode cX1_measureWith 45 = .ok (.invokevirtual 51, 3) := by decide +kernel
theorem dX1_measureWith_48 : decode cX1_measureWith 48 = .ok (.iload_n 3, 1) := by decide +kernel
theorem dX1_measureWith_49 : decode cX1_measureWith 49 = .ok (.imul, 1) := by decide +kernel
theorem dX1_measureWith_50 : decode cX1_measureWith 50 = .ok (.invokestatic 55, 3) := by decide +kernel
theorem dX1_measureWith_53 : decode cX1_measureWith 53 = .ok (.goto 4, 3) := by decide +kernel
theorem dX1_measureWith_56 : decode cX1_measureWith 56 = .ok (.iload_n 1, 1) := by decide +kernel
theorem dX1_measureWith_57 : decode cX1_measureWith 57 = .ok (.istore 4, 2) := by decide +kernel
theorem dX1_measureWith_59 : decode cX1_measureWith 59 = .ok (.iconst 0, 1) := by decide +kernel
theorem dX1_measureWith_60 : decode cX1_measureWith 60 = .ok (.istore 5, 2) := by decide +kernel
theorem dX1_measureWith_62 : decode cX1_measureWith 62 = .ok (.iload 5, 2) := by decide +kernel
theorem dX1_measureWith_64 : decode cX1_measureWith 64 = .ok (.iconst 3, 1) := by decide +kernel
theorem dX1_measureWith_65 : decode cX1_measureWith 65 = .ok (.if_icmp .ge 85, 3) := by decide +kernel
theorem dX1_measureWith_68 : decode cX1_measureWith 68 = .ok (.iconst 0, 1) := by decide +kernel
theorem dX1_measureWith_69 : decode cX1_measureWith 69 = .ok (.istore 6, 2) := by decide +kernel
theorem dX1_measureWith_71 : decode cX1_measureWith 71 = .ok (.iload 6, 2) := by decide +kernel
theorem dX1_measureWith_73 : decode cX1_measureWith 73 = .ok (.iconst 3, 1) := by decide +kernel
theorem dX1_measureWith_74 : decode cX1_measureWith 74 = .ok (.if_icmp .ge 70, 3) := by decide +kernel
theorem dX1_measureWith_77 : decode cX1_measureWith 77 = .ok (.iconst 0, 1) := by decide +kernel
theorem dX1_measureWith_78 : decode cX1_measureWith 78 = .ok (.istore 7, 2) := by decide +kernel
theorem dX1_measureWith_80 : decode cX1_measureWith 80 = .ok (.iload 7, 2) := by decide +kernel
theorem dX1_measureWith_82 : decode cX1_measureWith 82 = .ok (.iconst 3, 1) := by decide +kernel
theorem dX1_measureWith_83 : decode cX1_measureWith 83 = .ok (.if_icmp .ge 55, 3) := by decide +kernel
theorem dX1_measureWith_86 : decode cX1_measureWith 86 = .ok (.aload_n 0, 1) := by decide +kernel
theorem dX1_measureWith_87 : decode cX1_measureWith 87 = .ok (.getfield 20, 3) := by decide +kernel
theorem dX1_measureWith_90 : decode cX1_measureWith 90 = .ok (.iconst 0, 1) := by decide +kernel
theorem dX1_measureWith_91 : decode cX1_measureWith 91 = .ok (.iload 5, 2) := by decide +kernel
theorem dX1_measureWith_93 : decode cX1_measureWith 93 = .ok (.invokevirtual 58, 3) := by decide +kernel
theorem dX1_measureWith_96 : decode cX1_measureWith 96 = .ok (.aload_n 0, 1) := by decide +kernel
theorem dX1_measureWith_97 : decode cX1_measureWith 97 = .ok (.getfield 20, 3) := by decide +kernel
theorem dX1_measureWith_100 : decode cX1_measureWith 100 = .ok (.iconst 1, 1) := by decide +kernel
theorem dX1_measureWith_101 : decode cX1_measureWith 101 = .ok (.iload 6, 2) := by decide +kernel
theorem dX1_measureWith_103 : decode cX1_measureWith 103 = .ok (.invokevirtual 58, 3) := by decide +kernel
theorem dX1_measureWith_106 : decode cX1_measureWith 106 = .ok (.aload_n 0, 1) := by decide +kernel
theorem dX1_measureWith_107 : decode cX1_measureWith 107 = .ok (.getfield 20, 3) := by decide +kernel
theorem dX1_measureWith_110 : decode cX1_measureWith 110 = .ok (.iconst 2, 1) := by decide +kernel
theorem dX1_measureWith_111 : decode cX1_measureWith 111 = .ok (.iload 7, 2) := by decide +kernel
theorem dX1_measureWith_113 : decode cX1_measureWith 113 = .ok (.invokevirtual 58, 3) := by decide +kernel
theorem dX1_measureWith_116 : decode cX1_measureWith 116 = .ok (.iload 4, 2) := by decide +kernel
theorem dX1_measureWith_118 : decode cX1_measureWith 118 = .ok (.aload_n 0, 1) := by decide +kernel
theorem dX1_measureWith_119 : decode cX1_measureWith 119 = .ok (.getfield 20, 3) := by decide +kernel
theorem dX1_measureWith_122 : decode cX1_measureWith 122 = .ok (.invokevirtual 44, 3) := by decide +kernel
theorem dX1_measureWith_125 : decode cX1_measureWith 125 = .ok (.iload_n 3, 1) := by decide +kernel
theorem dX1_measureWith_126 : decode cX1_measureWith 126 = .ok (.isub, 1) := by decide +kernel
theorem dX1_measureWith_127 : decode cX1_measureWith 127 = .ok (.invokestatic 55, 3) := by decide +kernel
theorem dX1_measureWith_130 : decode cX1_measureWith 130 = .ok (.istore 4, 2) := by decide +kernel
theorem dX1_measureWith_132 : decode cX1_measureWith 132 = .ok (.iinc 7 1, 3) := by decide +kernel
theorem dX1_measureWith_135 : decode cX1_measureWith 135 = .ok (.goto (-55), 3) := by decide +kernel
theorem dX1_measureWith_138 : decode cX1_measureWith 138 = .ok (.iinc 6 1, 3) := by decide +kernel
theorem dX1_measureWith_141 : decode cX1_measureWith 141 = .ok (.goto (-70), 3) := by decide +kernel
theorem dX1_measureWith_144 : decode cX1_measureWith 144 = .ok (.iinc 5 1, 3) := by decide +kernel
theorem dX1_measureWith_147 : decode cX1_measureWith 147 = .ok (.goto (-85), 3) := by decide +kernel
theorem dX1_measureWith_150 : decode cX1_measureWith 150 = .ok (.iload 4, 2) := by decide +kernel
theorem dX1_measureWith_152 : decode cX1_measureWith 152 = .ok (.ireturn, 1) := by decide +kernel
theorem dX1_common_0 : decode cX1_common 0 = .ok (.iload_n 0, 1) := by decide +kernel
theorem dX1_common_1 : decode cX1_common 1 = .ok (.invokestatic 62, 3) := by decide +kernel
theorem dX1_common_4 : decode cX1_common 4 = .ok (.istore_n 2, 1) := by decide +kernel
theorem dX1_common_5 : decode cX1_common 5 = .ok (.iload_n 1, 1) := by decide +kernel
theorem dX1_common_6 : decode cX1_common 6 = .ok (.invokestatic 62, 3) := by decide +kernel
theorem dX1_common_9 : decode cX1_common 9 = .ok (.istore_n 3, 1) := by decide +kernel
theorem dX1_common_10 : decode cX1_common 10 = .ok (.iconst 0, 1) := by decide +kernel
theorem dX1_common_11 : decode cX1_common 11 = .ok (.istore 4, 2) := by decide +kernel
theorem dX1_common_13 : decode cX1_common 13 = .ok (.iload 4, 2) := by decide +kernel
theorem dX1_common_15 : decode cX1_common 15 = .ok (.sipush 360, 3) := by decide +kernel
theorem dX1_common_18 : decode cX1_common 18 = .ok (.if_icmp .ge 23, 3) := by decide +kernel
theorem dX1_common_21 : decode cX1_common 21 = .ok (.iload_n 3, 1) := by decide +kernel
theorem dX1_common_22 : decode cX1_common 22 = .ok (.ifCond .eq 19, 3) := by decide +kernel
theorem dX1_common_25 : decode cX1_common 25 = .ok (.iload_n 2, 1) := by decide +kernel
theorem dX1_common_26 : decode cX1_common 26 = .ok (.iload_n 3, 1) := by decide +kernel
theorem dX1_common_27 : decode cX1_common 27 = .ok (.irem, 1) := by decide +kernel
theorem dX1_common_28 : decode cX1_common 28 = .ok (.istore 5, 2) := by decide +kernel
theorem dX1_common_30 : decode cX1_common 30 = .ok (.iload_n 3, 1) := by decide +kernel
theorem dX1_common_31 : decode cX1_common 31 = .ok (.istore_n 2, 1) := by decide +kernel
theorem dX1_common_32 : decode cX1_common 32 = .ok (.iload 5, 2) := by decide +kernel
theorem dX1_common_34 : decode cX1_common 34 = .ok (.istore_n 3, 1) := by decide +kernel
theorem dX1_common_35 : decode cX1_common 35 = .ok (.iinc 4 1, 3) := by decide +kernel
theorem dX1_common_38 : decode cX1_common 38 = .ok (.goto (-25), 3) := by decide +kernel
theorem dX1_common_41 : decode cX1_common 41 = .ok (.iload_n 2, 1) := by decide +kernel
theorem dX1_common_42 : decode cX1_common 42 = .ok (.ireturn, 1) := by decide +kernel
theorem dX2_init_0 : decode cX2_init 0 = .ok (.aload_n 0, 1) := by decide +kernel
theorem dX2_init_1 : decode cX2_init 1 = .ok (.invokespecial 3, 3) := by decide +kernel
theorem dX2_init_4 : decode cX2_init 4 = .ok (.aload_n 0, 1) := by decide +kernel
theorem dX2_init_5 : decode cX2_init 5 = .ok (.iconst 3, 1) := by decide +kernel
theorem dX2_init_6 : decode cX2_init 6 = .ok (.newarray .int, 2) := by decide +kernel
theorem dX2_init_8 : decode cX2_init 8 = .ok (.putfield 9, 3) := by decide +kernel
theorem dX2_init_11 : decode cX2_init 11 = .ok (.aload_n 0, 1) := by decide +kernel
theorem dX2_init_12 : decode cX2_init 12 = .ok (.aload_n 1, 1) := by decide +kernel
theorem dX2_init_13 : decode cX2_init 13 = .ok (.putfield 15, 3) := by decide +kernel
theorem dX2_init_16 : decode cX2_init 16 = .ok (.aload_n 0, 1) := by decide +kernel
theorem dX2_init_17 : decode cX2_init 17 = .ok (.aload_n 2, 1) := by decide +kernel
theorem dX2_init_18 : decode cX2_init 18 = .ok (.putfield 19, 3) := by decide +kernel
theorem dX2_init_21 : decode cX2_init 21 = .ok (.return_, 1) := by decide +kernel
theorem dX2_firstFault_0 : decode cX2_firstFault 0 = .ok (.aload_n 0, 1) := by decide +kernel
theorem dX2_firstFault_1 : decode cX2_firstFault 1 = .ok (.getfield 19, 3) := by decide +kernel
theorem dX2_firstFault_4 : decode cX2_firstFault 4 = .ok (.invokevirtual 23, 3) := by decide +kernel
theorem dX2_firstFault_7 : decode cX2_firstFault 7 = .ok (.aload_n 0, 1) := by decide +kernel
theorem dX2_firstFault_8 : decode cX2_firstFault 8 = .ok (.iconst 0, 1) := by decide +kernel
theorem dX2_firstFault_9 : decode cX2_firstFault 9 = .ok (.putfield 28, 3) := by decide +kernel
theorem dX2_firstFault_12 : decode cX2_firstFault 12 = .ok (.iconst 0, 1) := by decide +kernel
theorem dX2_firstFault_13 : decode cX2_firstFault 13 = .ok (.istore_n 1, 1) := by decide +kernel
theorem dX2_firstFault_14 : decode cX2_firstFault 14 = .ok (.iload_n 1, 1) := by decide +kernel
theorem dX2_firstFault_15 : decode cX2_firstFault 15 = .ok (.bipush 120, 2) := by decide +kernel
theorem dX2_firstFault_17 : decode cX2_firstFault 17 = .ok (.if_icmp .ge 37, 3) := by decide +kernel
theorem dX2_firstFault_20 : decode cX2_firstFault 20 = .ok (.aload_n 0, 1) := by decide +kernel
theorem dX2_firstFault_21 : decode cX2_firstFault 21 = .ok (.getfield 28, 3) := by decide +kernel
theorem dX2_firstFault_24 : decode cX2_firstFault 24 = .ok (.aload_n 0, 1) := by decide +kernel
theorem dX2_firstFault_25 : decode cX2_firstFault 25 = .ok (.getfield 15, 3) := by decide +kernel
theorem dX2_firstFault_28 : decode cX2_firstFault 28 = .ok (.getfield 32, 3) := by decide +kernel
theorem dX2_firstFault_31 : decode cX2_firstFault 31 = .ok (.if_icmp .ge 23, 3) := by decide +kernel
theorem dX2_firstFault_34 : decode cX2_firstFault 34 = .ok (.aload_n 0, 1) := by decide +kernel
theorem dX2_firstFault_35 : decode cX2_firstFault 35 = .ok (.getfield 28, 3) := by decide +kernel
theorem dX2_firstFault_38 : decode cX2_firstFault 38 = .ok (.istore_n 2, 1) := by decide +kernel
theorem dX2_firstFault_39 : decode cX2_firstFault 39 = .ok (.aload_n 0, 1) := by decide +kernel
theorem dX2_firstFault_40 : decode cX2_firstFault 40 = .ok (.invokevirtual 37, 3) := by decide +kernel
theorem dX2_firstFault_43 : decode cX2_firstFault 43 = .ok (.ifCond .ne 5, 3) := by decide +kernel
theorem dX2_firstFault_46 : decode cX2_firstFault 46 = .ok (.iload_n 2, 1) := by decide +kernel
theorem dX2_firstFault_47 : decode cX2_firstFault 47 = .ok (.ireturn, 1) := by decide +kernel
theorem dX2_firstFault_48 : decode cX2_firstFault 48 = .ok (.iinc 1 1, 3) := by decide +kernel
theorem dX2_firstFault_51 : decode cX2_firstFault 51 = .ok (.goto (-37), 3) := by decide +kernel
theorem dX2_firstFault_54 : decode cX2_firstFault 54 = .ok (.bipush (-4), 2) := by decide +kernel
theorem dX2_firstFault_56 : decode cX2_firstFault 56 = .ok (.ireturn, 1) := by decide +kernel
theorem dX2_readsItem_0 : decode cX2_readsItem 0 = .ok (.aload_n 0, 1) := by decide +kernel
theorem dX2_readsItem_1 : decode cX2_readsItem 1 = .ok (.getfield 15, 3) := by decide +kernel
theorem dX2_readsItem_4 : decode cX2_readsItem 4 = .ok (.aload_n 0, 1) := by decide +kernel
theorem dX2_readsItem_5 : decode cX2_readsItem 5 = .ok (.getfield 28, 3) := by decide +kernel
theorem dX2_readsItem_8 : decode cX2_readsItem 8 = .ok (.invokevirtual 41, 3) := by decide +kernel
theorem dX2_readsItem_11 : decode cX2_readsItem 11 = .ok (.istore_n 1, 1) := by decide +kernel
theorem dX2_readsItem_12 : decode cX2_readsItem 12 = .ok (.aload_n 0, 1) := by decide +kernel
theorem dX2_readsItem_13 : decode cX2_readsItem 13 = .ok (.dup, 1) := by decide +kernel
theorem dX2_readsItem_14 : decode cX2_readsItem 14 = .ok (.getfield 28, 3) := by decide +kernel
theorem dX2_readsItem_17 : decode cX2_readsItem 17 = .ok (.iconst 1, 1) := by decide +kernel
theorem dX2_readsItem_18 : decode cX2_readsItem 18 = .ok (.iadd, 1) := by decide +kernel
theorem dX2_readsItem_19 : decode cX2_readsItem 19 = .ok (.putfield 28, 3) := by decide +kernel
theorem dX2_readsItem_22 : decode cX2_readsItem 22 = .ok (.iconst 0, 1) := by decide +kernel
theorem dX2_readsItem_23 : decode cX2_readsItem 23 = .ok (.istore_n 2, 1) := by decide +kernel
theorem dX2_readsItem_24 : decode cX2_readsItem 24 = .ok (.iload_n 2, 1) := by decide +kernel
theorem dX2_readsItem_25 : decode cX2_readsItem 25 = .ok (.aload_n 0, 1) := by decide +kernel
theorem dX2_readsItem_26 : decode cX2_readsItem 26 = .ok (.getfield 9, 3) := by decide +kernel
theorem dX2_readsItem_29 : decode cX2_readsItem 29 = .ok (.arraylength, 1) := by decide +kernel
theorem dX2_readsItem_30 : decode cX2_readsItem 30 = .ok (.if_icmp .ge 64, 3) := by decide +kernel
theorem dX2_readsItem_33 : decode cX2_readsItem 33 = .ok (.aload_n 0, 1) := by decide +kernel
theorem dX2_readsItem_34 : decode cX2_readsItem 34 = .ok (.iload_n 2, 1) := by decide +kernel
theorem dX2_readsItem_35 : decode cX2_readsItem 35 = .ok (.invokevirtual 45, 3) := by decide +kernel
theorem dX2_readsItem_38 : decode cX2_readsItem 38 = .ok (.ifCond .ne 5, 3) := by decide +kernel
theorem dX2_readsItem_41 : decode cX2_readsItem 41 = .ok (.iconst 0, 1) := by decide +kernel
theorem dX2_readsItem_42 : decode cX2_readsItem 42 = .ok (.ireturn, 1) := by decide +kernel
theorem dX2_readsItem_43 : decode cX2_readsItem 43 = .ok (.aload_n 0, 1) := by decide +kernel
theorem dX2_readsItem_44 : decode cX2_readsItem 44 = .ok (.getfield 15, 3) := by decide +kernel
theorem dX2_readsItem_47 : decode cX2_readsItem 47 = .ok (.aload_n 0, 1) := by decide +kernel
theorem dX2_readsItem_48 : decode cX2_readsItem 48 = .ok (.getfield 28, 3) := by decide +kernel
theorem dX2_readsItem_51 : decode cX2_readsItem 51 = .ok (.invokevirtual 41, 3) := by decide +kernel
theorem dX2_readsItem_54 : decode cX2_readsItem 54 = .ok (.istore_n 3, 1) := by decide +kernel
theorem dX2_readsItem_55 : decode cX2_readsItem 55 = .ok (.aload_n 0, 1) := by decide +kernel
theorem dX2_readsItem_56 : decode cX2_readsItem 56 = .ok (.dup, 1) := by decide +kernel
theorem dX2_readsItem_57 : decode cX2_readsItem 57 = .ok (.getfield 28, 3) := by decide +kernel
theorem dX2_readsItem_60 : decode cX2_readsItem 60 = .ok (.iconst 1, 1) := by decide +kernel
theorem dX2_readsItem_61 : decode cX2_readsItem 61 = .ok (.iadd, 1) := by decide +kernel
theorem dX2_readsItem_62 : decode cX2_readsItem 62 = .ok (.putfield 28, 3) := by decide +kernel
theorem dX2_readsItem_65 : decode cX2_readsItem 65 = .ok (.iload_n 3, 1) := by decide +kernel
theorem dX2_readsItem_66 : decode cX2_readsItem 66 = .ok (.bipush 59, 2) := by decide +kernel
theorem dX2_readsItem_68 : decode cX2_readsItem 68 = .ok (.if_icmp .ne 12, 3) := by decide +kernel
theorem dX2_readsItem_71 : decode cX2_readsItem 71 = .ok (.aload_n 0, 1) := by decide +kernel
theorem dX2_readsItem_72 : decode cX2_readsItem 72 = .ok (.iload_n 1, 1) := by decide +kernel
theorem dX2_readsItem_73 : decode cX2_readsItem 73 = .ok (.iload_n 2, 1) := by decide +kernel
theorem dX2_readsItem_74 : decode cX2_readsItem 74 = .ok (.iconst 1, 1) := by decide +kernel
theorem dX2_readsItem_75 : decode cX2_readsItem 75 = .ok (.iadd, 1) := by decide +kernel
theorem dX2_readsItem_76 : decode cX2_readsItem 76 = .ok (.invokevirtual 49, 3) := by decide +kernel
theorem dX2_readsItem_79 : decode cX2_readsItem 79 = .ok (.ireturn, 1) := by decide +kernel
theorem dX2_readsItem_80 : decode cX2_readsItem 80 = .ok (.iload_n 3, 1) := by decide +kernel
theorem dX2_readsItem_81 : decode cX2_readsItem 81 = .ok (.bipush 44, 2) := by decide +kernel
theorem dX2_readsItem_83 : decode cX2_readsItem 83 = .ok (.if_icmp .eq 5, 3) := by decide +kernel
theorem dX2_readsItem_86 : decode cX2_readsItem 86 = .ok (.iconst 0, 1) := by decide +kernel
theorem dX2_readsItem_87 : decode cX2_readsItem 87 = .ok (.ireturn, 1) := by decide +kernel
theorem dX2_readsItem_88 : decode cX2_readsItem 88 = .ok (.iinc 2 1, 3) := by decide +kernel
theorem dX2_readsItem_91 : decode cX2_readsItem 91 = .ok (.goto (-67), 3) := by decide +kernel
theorem dX2_readsItem_94 : decode cX2_readsItem 94 = .ok (.iconst 0, 1) := by decide +kernel
theorem dX2_readsItem_95 : decode cX2_readsItem 95 = .ok (.ireturn, 1) := by decide +kernel
theorem dX2_readsNumber_0 : decode cX2_readsNumber 0 = .ok (.aload_n 0, 1) := by decide +kernel
theorem dX2_readsNumber_1 : decode cX2_readsNumber 1 = .ok (.getfield 15, 3) := by decide +kernel
theorem dX2_readsNumber_4 : decode cX2_readsNumber 4 = .ok (.aload_n 0, 1) := by decide +kernel
theorem dX2_readsNumber_5 : decode cX2_readsNumber 5 = .ok (.getfield 28, 3) := by decide +kernel
theorem dX2_readsNumber_8 : decode cX2_readsNumber 8 = .ok (.invokevirtual 41, 3) := by decide +kernel
theorem dX2_readsNumber_11 : decode cX2_readsNumber 11 = .ok (.bipush 45, 2) := by decide +kernel
theorem dX2_readsNumber_13 : decode cX2_readsNumber 13 = .ok (.if_icmp .ne 7, 3) := by decide +kernel
theorem dX2_readsNumber_16 : decode cX2_readsNumber 16 = .ok (.iconst 1, 1) := by decide +kernel
theorem dX2_readsNumber_17 : decode cX2_readsNumber 17 = .ok (.goto 4, 3) := by decide +kernel
theorem dX2_readsNumber_20 : decode cX2_readsNumber 20 = .ok (.iconst 0, 1) := by decide +kernel
theorem dX2_readsNumber_21 : decode cX2_readsNumber 21 = .ok (.istore_n 2, 1) := by decide +kernel
theorem dX2_readsNumber_22 : decode cX2_readsNumber 22 = .ok (.iload_n 2, 1) := by decide +kernel
theorem dX2_readsNumber_23 : decode cX2_readsNumber 23 = .ok (.ifCond .eq 13, 3) := by decide +kernel
theorem dX2_readsNumber_26 : decode cX2_readsNumber 26 = .ok (.aload_n 0, 1) := by decide +kernel
theorem dX2_readsNumber_27 : decode cX2_readsNumber 27 = .ok (.dup, 1) := by decide +kernel
theorem dX2_readsNumber_28 : decode cX2_readsNumber 28 = .ok (.getfield 28, 3) := by decide +kernel
theorem dX2_readsNumber_31 : decode cX2_readsNumber 31 = .ok (.iconst 1, 1) := by decide +kernel
theorem dX2_readsNumber_32 : decode cX2_readsNumber 32 = .ok (.iadd, 1) := by decide +kernel
theorem dX2_readsNumber_33 : decode cX2_readsNumber 33 = .ok (.putfield 28, 3) := by decide +kernel
theorem dX2_readsNumber_36 : decode cX2_readsNumber 36 = .ok (.iconst 0, 1) := by decide +kernel
theorem dX2_readsNumber_37 : decode cX2_readsNumber 37 = .ok (.istore_n 3, 1) := by decide +kernel
theorem dX2_readsNumber_38 : decode cX2_readsNumber 38 = .ok (.iconst 0, 1) := by decide +kernel
theorem dX2_readsNumber_39 : decode cX2_readsNumber 39 = .ok (.istore 4, 2) := by decide +kernel
theorem dX2_readsNumber_41 : decode cX2_readsNumber 41 = .ok (.iload_n 3, 1) := by decide +kernel
theorem dX2_readsNumber_42 : decode cX2_readsNumber 42 = .ok (.iconst 4, 1) := by decide +kernel
theorem dX2_readsNumber_43 : decode cX2_readsNumber 43 = .ok (.if_icmp .ge 62, 3) := by decide +kernel
theorem dX2_readsNumber_46 : decode cX2_readsNumber 46 = .ok (.aload_n 0, 1) := by decide +kernel
theorem dX2_readsNumber_47 : decode cX2_readsNumber 47 = .ok (.getfield 15, 3) := by decide +kernel
theorem dX2_readsNumber_50 : decode cX2_readsNumber 50 = .ok (.aload_n 0, 1) := by decide +kernel
theorem dX2_readsNumber_51 : decode cX2_readsNumber 51 = .ok (.getfield 28, 3) := by decide +kernel
theorem dX2_readsNumber_54 : decode cX2_readsNumber 54 = .ok (.invokevirtual 41, 3) := by decide +kernel
theorem dX2_readsNumber_57 : decode cX2_readsNumber 57 = .ok (.bipush 48, 2) := by decide +kernel
theorem dX2_readsNumber_59 : decode cX2_readsNumber 59 = .ok (.bipush 57, 2) := by decide +kernel
theorem dX2_readsNumber_61 : decode cX2_readsNumber 61 = .ok (.invokestatic 53, 3) := by decide +kernel
theorem dX2_readsNumber_64 : decode cX2_readsNumber 64 = .ok (.ifCond .eq 41, 3) := by decide +kernel
theorem dX2_readsNumber_67 : decode cX2_readsNumber 67 = .ok (.bipush 10, 2) := by decide +kernel
theorem dX2_readsNumber_69 : decode cX2_readsNumber 69 = .ok (.iload 4, 2) := by decide +kernel
theorem dX2_readsNumber_71 : decode cX2_readsNumber 71 = .ok (.imul, 1) := by decide +kernel
theorem dX2_readsNumber_72 : decode cX2_readsNumber 72 = .ok (.aload_n 0, 1) := by decide +kernel
theorem dX2_readsNumber_73 : decode cX2_readsNumber 73 = .ok (.getfield 15, 3) := by decide +kernel
theorem dX2_readsNumber_76 : decode cX2_readsNumber 76 = .ok (.aload_n 0, 1) := by decide +kernel
theorem dX2_readsNumber_77 : decode cX2_readsNumber 77 = .ok (.getfield 28, 3) := by decide +kernel
theorem dX2_readsNumber_80 : decode cX2_readsNumber 80 = .ok (.invokevirtual 41, 3) := by decide +kernel
theorem dX2_readsNumber_83 : decode cX2_readsNumber 83 = .ok (.iadd, 1) := by decide +kernel
theorem dX2_readsNumber_84 : decode cX2_readsNumber 84 = .ok (.bipush 48, 2) := by decide +kernel
theorem dX2_readsNumber_86 : decode cX2_readsNumber 86 = .ok (.isub, 1) := by decide +kernel
theorem dX2_readsNumber_87 : decode cX2_readsNumber 87 = .ok (.istore 4, 2) := by decide +kernel
theorem dX2_readsNumber_89 : decode cX2_readsNumber 89 = .ok (.iinc 3 1, 3) := by decide +kernel
theorem dX2_readsNumber_92 : decode cX2_readsNumber 92 = .ok (.aload_n 0, 1) := by decide +kernel
theorem dX2_readsNumber_93 : decode cX2_readsNumber 93 = .ok (.dup, 1) := by decide +kernel
theorem dX2_readsNumber_94 : decode cX2_readsNumber 94 = .ok (.getfield 28, 3) := by decide +kernel
theorem dX2_readsNumber_97 : decode cX2_readsNumber 97 = .ok (.iconst 1, 1) := by decide +kernel
theorem dX2_readsNumber_98 : decode cX2_readsNumber 98 = .ok (.iadd, 1) := by decide +kernel
theorem dX2_readsNumber_99 : decode cX2_readsNumber 99 = .ok (.putfield 28, 3) := by decide +kernel
theorem dX2_readsNumber_102 : decode cX2_readsNumber 102 = .ok (.goto (-61), 3) := by decide +kernel
theorem dX2_readsNumber_105 : decode cX2_readsNumber 105 = .ok (.iload_n 3, 1) := by decide +kernel
theorem dX2_readsNumber_106 : decode cX2_readsNumber 106 = .ok (.ifCond .eq 25, 3) := by decide +kernel
theorem dX2_readsNumber_109 : decode cX2_readsNumber 109 = .ok (.iload_n 2, 1) := by decide +kernel
theorem dX2_readsNumber_110 : decode cX2_readsNumber 110 = .ok (.ifCond .eq 8, 3) := by decide +kernel
theorem dX2_readsNumber_113 : decode cX2_readsNumber 113 = .ok (.iload 4, 2) := by decide +kernel
theorem dX2_readsNumber_115 : decode cX2_readsNumber 115 = .ok (.ifCond .eq 16, 3) := by decide +kernel
theorem dX2_readsNumber_118 : decode cX2_readsNumber 118 = .ok (.iload_n 1, 1) := by decide +kernel
theorem dX2_readsNumber_119 : decode cX2_readsNumber 119 = .ok (.ifCond .lt 12, 3) := by decide +kernel
theorem dX2_readsNumber_122 : decode cX2_readsNumber 122 = .ok (.iload_n 1, 1) := by decide +kernel
theorem dX2_readsNumber_123 : decode cX2_readsNumber 123 = .ok (.aload_n 0, 1) := by decide +kernel
theorem dX2_readsNumber_124 : decode cX2_readsNumber 124 = .ok (.getfield 9, 3) := by decide +kernel
theorem dX2_readsNumber_127 : decode cX2_readsNumber 127 = .ok (.arraylength, 1) := by decide +kernel
theorem dX2_readsNumber_128 : decode cX2_readsNumber 128 = .ok (.if_icmp .lt 5, 3) := by decide +kernel
theorem dX2_readsNumber_131 : decode cX2_readsNumber 131 = .ok (.iconst 0, 1) := by decide +kernel
theorem dX2_readsNumber_132 : decode cX2_readsNumber 132 = .ok (.ireturn, 1) := by decide +kernel
theorem dX2_readsNumber_133 : decode cX2_readsNumber 133 = .ok (.aload_n 0, 1) := by decide +kernel
theorem dX2_readsNumber_134 : decode cX2_readsNumber 134 = .ok (.getfield 9, 3) := by decide +kernel
theorem dX2_readsNumber_137 : decode cX2_readsNumber 137 = .ok (.iload_n 1, 1) := by decide +kernel
theorem dX2_readsNumber_138 : decode cX2_readsNumber 138 = .ok (.iload_n 2, 1) := by decide +kernel
theorem dX2_readsNumber_139 : decode cX2_readsNumber 139 = .ok (.ifCond .eq 9, 3) := by decide +kernel
theorem dX2_readsNumber_142 : decode cX2_readsNumber 142 = .ok (.iload 4, 2) := by decide +kernel
theorem dX2_readsNumber_144 : decode cX2_readsNumber 144 = .ok (.ineg, 1) := by decide +kernel
theorem dX2_readsNumber_145 : decode cX2_readsNumber 145 = .ok (.goto 5, 3) := by decide +kernel
theorem dX2_readsNumber_148 : decode cX2_readsNumber 148 = .ok (.iload 4, 2) := by decide +kernel
theorem dX2_readsNumber_150 : decode cX2_readsNumber 150 = .ok (.iastore, 1) := by decide +kernel
theorem dX2_readsNumber_151 : decode cX2_readsNumber 151 = .ok (.iconst 1, 1) := by decide +kernel
theorem dX2_readsNumber_152 : decode cX2_readsNumber 152 = .ok (.ireturn, 1) := by decide +kernel
theorem dX2_takesItem_0 : decode cX2_takesItem 0 = .ok (.aload_n 0, 1) := by decide +kernel
theorem dX2_takesItem_1 : decode cX2_takesItem 1 = .ok (.getfield 9, 3) := by decide +kernel
theorem dX2_takesItem_4 : decode cX2_takesItem 4 = .ok (.arraylength, 1) := by decide +kernel
theorem dX2_takesItem_5 : decode cX2_takesItem 5 = .ok (.iconst 3, 1) := by decide +kernel
theorem dX2_takesItem_6 : decode cX2_takesItem 6 = .ok (.if_icmp .ge 5, 3) := by decide +kernel
theorem dX2_takesItem_9 : decode cX2_takesItem 9 = .ok (.iconst 0, 1) := by decide +kernel
theorem dX2_takesItem_10 : decode cX2_takesItem 10 = .ok (.ireturn, 1) := by decide +kernel
theorem dX2_takesItem_11 : decode cX2_takesItem 11 = .ok (.iload_n 1, 1) := by decide +kernel
theorem dX2_takesItem_12 : decode cX2_takesItem 12 = .ok (.bipush 112, 2) := by decide +kernel
theorem dX2_takesItem_14 : decode cX2_takesItem 14 = .ok (.if_icmp .ne 42, 3) := by decide +kernel
theorem dX2_takesItem_17 : decode cX2_takesItem 17 = .ok (.iload_n 2, 1) := by decide +kernel
theorem dX2_takesItem_18 : decode cX2_takesItem 18 = .ok (.iconst 3, 1) := by decide +kernel
theorem dX2_takesItem_19 : decode cX2_takesItem 19 = .ok (.if_icmp .ne 35, 3) := by decide +kernel
theorem dX2_takesItem_22 : decode cX2_takesItem 22 = .ok (.aload_n 0, 1) := by decide +kernel
theorem dX2_takesItem_23 : decode cX2_takesItem 23 = .ok (.getfield 19, 3) := by decide +kernel
theorem dX2_takesItem_26 : decode cX2_takesItem 26 = .ok (.aload_n 0, 1) := by decide +kernel
theorem dX2_takesItem_27 : decode cX2_takesItem 27 = .ok (.getfield 9, 3) := by decide +kernel
theorem dX2_takesItem_30 : decode cX2_takesItem 30 = .ok (.iconst 0, 1) := by decide +kernel
theorem dX2_takesItem_31 : decode cX2_takesItem 31 = .ok (.iaload, 1) := by decide +kernel
theorem dX2_takesItem_32 : decode cX2_takesItem 32 = .ok (.aload_n 0, 1) := by decide +kernel
theorem dX2_takesItem_33 : decode cX2_takesItem 33 = .ok (.getfield 9, 3) := by decide +kernel
theorem dX2_takesItem_36 : decode cX2_takesItem 36 = .ok (.iconst 1, 1) := by decide +kernel
theorem dX2_takesItem_37 : decode cX2_takesItem 37 = .ok (.iaload, 1) := by decide +kernel
theorem dX2_takesItem_38 : decode cX2_takesItem 38 = .ok (.aload_n 0, 1) := by decide +kernel
theorem dX2_takesItem_39 : decode cX2_takesItem 39 = .ok (.getfield 9, 3) := by decide +kernel
theorem dX2_takesItem_42 : decode cX2_takesItem 42 = .ok (.iconst 2, 1) := by decide +kernel
theorem dX2_takesItem_43 : decode cX2_takesItem 43 = .ok (.iaload, 1) := by decide +kernel
theorem dX2_takesItem_44 : decode cX2_takesItem 44 = .ok (.invokevirtual 57, 3) := by decide +kernel
theorem dX2_takesItem_47 : decode cX2_takesItem 47 = .ok (.ifCond .eq 7, 3) := by decide +kernel
theorem dX2_takesItem_50 : decode cX2_takesItem 50 = .ok (.iconst 1, 1) := by decide +kernel
theorem dX2_takesItem_51 : decode cX2_takesItem 51 = .ok (.goto 4, 3) := by decide +kernel
theorem dX2_takesItem_54 : decode cX2_takesItem 54 = .ok (.iconst 0, 1) := by decide +kernel
theorem dX2_takesItem_55 : decode cX2_takesItem 55 = .ok (.ireturn, 1) := by decide +kernel
theorem dX2_takesItem_56 : decode cX2_takesItem 56 = .ok (.iload_n 2, 1) := by decide +kernel
theorem dX2_takesItem_57 : decode cX2_takesItem 57 = .ok (.iconst 1, 1) := by decide +kernel
theorem dX2_takesItem_58 : decode cX2_takesItem 58 = .ok (.if_icmp .eq 5, 3) := by decide +kernel
theorem dX2_takesItem_61 : decode cX2_takesItem 61 = .ok (.iconst 0, 1) := by decide +kernel
theorem dX2_takesItem_62 : decode cX2_takesItem 62 = .ok (.ireturn, 1) := by decide +kernel
theorem dX2_takesItem_63 : decode cX2_takesItem 63 = .ok (.iload_n 1, 1) := by decide +kernel
theorem dX2_takesItem_64 : decode cX2_takesItem 64 = .ok (.lookupswitch 100 #[(101, 86), (106, 44), (108, 72), (119, 58)], 44) := by decide +kernel
theorem dX2_takesItem_108 : decode cX2_takesItem 108 = .ok (.aload_n 0, 1) := by decide +kernel
theorem dX2_takesItem_109 : decode cX2_takesItem 109 = .ok (.getfield 19, 3) := by decide +kernel
theorem dX2_takesItem_112 : decode cX2_takesItem 112 = .ok (.aload_n 0, 1) := by decide +kernel
theorem dX2_takesItem_113 : decode cX2_takesItem 113 = .ok (.getfield 9, 3) := by decide +kernel
theorem dX2_takesItem_116 : decode cX2_takesItem 116 = .ok (.iconst 0, 1) := by decide +kernel
theorem dX2_takesItem_117 : decode cX2_takesItem 117 = .ok (.iaload, 1) := by decide +kernel
theorem dX2_takesItem_118 : decode cX2_takesItem 118 = .ok (.invokevirtual 60, 3) := by decide +kernel
theorem dX2_takesItem_121 : decode cX2_takesItem 121 = .ok (.ireturn, 1) := by decide +kernel
theorem dX2_takesItem_122 : decode cX2_takesItem 122 = .ok (.aload_n 0, 1) := by decide +kernel
theorem dX2_takesItem_123 : decode cX2_takesItem 123 = .ok (.getfield 19, 3) := by decide +kernel
theorem dX2_takesItem_126 : decode cX2_takesItem 126 = .ok (.aload_n 0, 1) := by decide +kernel
theorem dX2_takesItem_127 : decode cX2_takesItem 127 = .ok (.getfield 9, 3) := by decide +kernel
theorem dX2_takesItem_130 : decode cX2_takesItem 130 = .ok (.iconst 0, 1) := by decide +kernel
theorem dX2_takesItem_131 : decode cX2_takesItem 131 = .ok (.iaload, 1) := by decide +kernel
theorem dX2_takesItem_132 : decode cX2_takesItem 132 = .ok (.invokevirtual 63, 3) := by decide +kernel
theorem dX2_takesItem_135 : decode cX2_takesItem 135 = .ok (.ireturn, 1) := by decide +kernel
theorem dX2_takesItem_136 : decode cX2_takesItem 136 = .ok (.aload_n 0, 1) := by decide +kernel
theorem dX2_takesItem_137 : decode cX2_takesItem 137 = .ok (.getfield 19, 3) := by decide +kernel
theorem dX2_takesItem_140 : decode cX2_takesItem 140 = .ok (.aload_n 0, 1) := by decide +kernel
theorem dX2_takesItem_141 : decode cX2_takesItem 141 = .ok (.getfield 9, 3) := by decide +kernel
theorem dX2_takesItem_144 : decode cX2_takesItem 144 = .ok (.iconst 0, 1) := by decide +kernel
theorem dX2_takesItem_145 : decode cX2_takesItem 145 = .ok (.iaload, 1) := by decide +kernel
theorem dX2_takesItem_146 : decode cX2_takesItem 146 = .ok (.invokevirtual 66, 3) := by decide +kernel
theorem dX2_takesItem_149 : decode cX2_takesItem 149 = .ok (.ireturn, 1) := by decide +kernel
theorem dX2_takesItem_150 : decode cX2_takesItem 150 = .ok (.aload_n 0, 1) := by decide +kernel
theorem dX2_takesItem_151 : decode cX2_takesItem 151 = .ok (.getfield 19, 3) := by decide +kernel
theorem dX2_takesItem_154 : decode cX2_takesItem 154 = .ok (.aload_n 0, 1) := by decide +kernel
theorem dX2_takesItem_155 : decode cX2_takesItem 155 = .ok (.getfield 9, 3) := by decide +kernel
theorem dX2_takesItem_158 : decode cX2_takesItem 158 = .ok (.iconst 0, 1) := by decide +kernel
theorem dX2_takesItem_159 : decode cX2_takesItem 159 = .ok (.iaload, 1) := by decide +kernel
theorem dX2_takesItem_160 : decode cX2_takesItem 160 = .ok (.invokevirtual 69, 3) := by decide +kernel
theorem dX2_takesItem_163 : decode cX2_takesItem 163 = .ok (.ireturn, 1) := by decide +kernel
theorem dX2_takesItem_164 : decode cX2_takesItem 164 = .ok (.iconst 0, 1) := by decide +kernel
theorem dX2_takesItem_165 : decode cX2_takesItem 165 = .ok (.ireturn, 1) := by decide +kernel
theorem dX3_init_0 : decode cX3_init 0 = .ok (.aload_n 0, 1) := by decide +kernel
theorem dX3_init_1 : decode cX3_init 1 = .ok (.invokespecial 5, 3) := by decide +kernel
theorem dX3_init_4 : decode cX3_init 4 = .ok (.aload_n 0, 1) := by decide +kernel
theorem dX3_init_5 : decode cX3_init 5 = .ok (.sipush 360, 3) := by decide +kernel
theorem dX3_init_8 : decode cX3_init 8 = .ok (.newarray .int, 2) := by decide +kernel
theorem dX3_init_10 : decode cX3_init 10 = .ok (.putfield 11, 3) := by decide +kernel
theorem dX3_init_13 : decode cX3_init 13 = .ok (.aload_n 0, 1) := by decide +kernel
theorem dX3_init_14 : decode cX3_init 14 = .ok (.sipush 360, 3) := by decide +kernel
theorem dX3_init_17 : decode cX3_init 17 = .ok (.newarray .int, 2) := by decide +kernel
theorem dX3_init_19 : decode cX3_init 19 = .ok (.putfield 15, 3) := by decide +kernel
theorem dX3_init_22 : decode cX3_init 22 = .ok (.aload_n 0, 1) := by decide +kernel
theorem dX3_init_23 : decode cX3_init 23 = .ok (.iconst 0, 1) := by decide +kernel
theorem dX3_init_24 : decode cX3_init 24 = .ok (.newarray .int, 2) := by decide +kernel
theorem dX3_init_26 : decode cX3_init 26 = .ok (.putfield 18, 3) := by decide +kernel
theorem dX3_init_29 : decode cX3_init 29 = .ok (.aload_n 0, 1) := by decide +kernel
theorem dX3_init_30 : decode cX3_init 30 = .ok (.aload_n 1, 1) := by decide +kernel
theorem dX3_init_31 : decode cX3_init 31 = .ok (.putfield 21, 3) := by decide +kernel
theorem dX3_init_34 : decode cX3_init 34 = .ok (.aload_n 0, 1) := by decide +kernel
theorem dX3_init_35 : decode cX3_init 35 = .ok (.new 25, 3) := by decide +kernel
theorem dX3_init_38 : decode cX3_init 38 = .ok (.dup, 1) := by decide +kernel
theorem dX3_init_39 : decode cX3_init 39 = .ok (.aload_n 1, 1) := by decide +kernel
theorem dX3_init_40 : decode cX3_init 40 = .ok (.iload_n 2, 1) := by decide +kernel
theorem dX3_init_41 : decode cX3_init 41 = .ok (.invokespecial 27, 3) := by decide +kernel
theorem dX3_init_44 : decode cX3_init 44 = .ok (.putfield 30, 3) := by decide +kernel
theorem dX3_init_47 : decode cX3_init 47 = .ok (.return_, 1) := by decide +kernel
theorem dX3_forget_0 : decode cX3_forget 0 = .ok (.aload_n 0, 1) := by decide +kernel
theorem dX3_forget_1 : decode cX3_forget 1 = .ok (.iconst 0, 1) := by decide +kernel
theorem dX3_forget_2 : decode cX3_forget 2 = .ok (.putfield 34, 3) := by decide +kernel
theorem dX3_forget_5 : decode cX3_forget 5 = .ok (.return_, 1) := by decide +kernel
theorem dX3_ticksFrom_0 : decode cX3_ticksFrom 0 = .ok (.aload_n 0, 1) := by decide +kernel
theorem dX3_ticksFrom_1 : decode cX3_ticksFrom 1 = .ok (.invokevirtual 38, 3) := by decide +kernel
theorem dX3_ticksFrom_4 : decode cX3_ticksFrom 4 = .ok (.iload_n 1, 1) := by decide +kernel
theorem dX3_ticksFrom_5 : decode cX3_ticksFrom 5 = .ok (.ifCond .lt 12, 3) := by decide +kernel
theorem dX3_ticksFrom_8 : decode cX3_ticksFrom 8 = .ok (.iload_n 1, 1) := by decide +kernel
theorem dX3_ticksFrom_9 : decode cX3_ticksFrom 9 = .ok (.aload_n 0, 1) := by decide +kernel
theorem dX3_ticksFrom_10 : decode cX3_ticksFrom 10 = .ok (.getfield 11, 3) := by decide +kernel
theorem dX3_ticksFrom_13 : decode cX3_ticksFrom 13 = .ok (.arraylength, 1) := by decide +kernel
theorem dX3_ticksFrom_14 : decode cX3_ticksFrom 14 = .ok (.if_icmp .lt 5, 3) := by decide +kernel
theorem dX3_ticksFrom_17 : decode cX3_ticksFrom 17 = .ok (.iconst (-1), 1) := by decide +kernel
theorem dX3_ticksFrom_18 : decode cX3_ticksFrom 18 = .ok (.ireturn, 1) := by decide +kernel
theorem dX3_ticksFrom_19 : decode cX3_ticksFrom 19 = .ok (.iconst 0, 1) := by decide +kernel
theorem dX3_ticksFrom_20 : decode cX3_ticksFrom 20 = .ok (.istore_n 2, 1) := by decide +kernel
theorem dX3_ticksFrom_21 : decode cX3_ticksFrom 21 = .ok (.iload_n 2, 1) := by decide +kernel
theorem dX3_ticksFrom_22 : decode cX3_ticksFrom 22 = .ok (.ldc 41, 2) := by decide +kernel
theorem dX3_ticksFrom_24 : decode cX3_ticksFrom 24 = .ok (.if_icmp .ge 30, 3) := by decide +kernel
theorem dX3_ticksFrom_27 : decode cX3_ticksFrom 27 = .ok (.aload_n 0, 1) := by decide +kernel
theorem dX3_ticksFrom_28 : decode cX3_ticksFrom 28 = .ok (.getfield 42, 3) := by decide +kernel
theorem dX3_ticksFrom_31 : decode cX3_ticksFrom 31 = .ok (.ifCond .eq 23, 3) := by decide +kernel
theorem dX3_ticksFrom_34 : decode cX3_ticksFrom 34 = .ok (.aload_n 0, 1) := by decide +kernel
theorem dX3_ticksFrom_35 : decode cX3_ticksFrom 35 = .ok (.getfield 11, 3) := by decide +kernel
theorem dX3_ticksFrom_38 : decode cX3_ticksFrom 38 = .ok (.iload_n 1, 1) := by decide +kernel
theorem dX3_ticksFrom_39 : decode cX3_ticksFrom 39 = .ok (.iaload, 1) := by decide +kernel
theorem dX3_ticksFrom_40 : decode cX3_ticksFrom 40 = .ok (.iconst (-1), 1) := by decide +kernel
theorem dX3_ticksFrom_41 : decode cX3_ticksFrom 41 = .ok (.if_icmp .ne 13, 3) := by decide +kernel
theorem dX3_ticksFrom_44 : decode cX3_ticksFrom 44 = .ok (.aload_n 0, 1) := by decide +kernel
theorem dX3_ticksFrom_45 : decode cX3_ticksFrom 45 = .ok (.invokevirtual 45, 3) := by decide +kernel
theorem dX3_ticksFrom_48 : decode cX3_ticksFrom 48 = .ok (.iinc 2 1, 3) := by decide +kernel
theorem dX3_ticksFrom_51 : decode cX3_ticksFrom 51 = .ok (.goto (-30), 3) := by decide +kernel
theorem dX3_ticksFrom_54 : decode cX3_ticksFrom 54 = .ok (.aload_n 0, 1) := by decide +kernel
theorem dX3_ticksFrom_55 : decode cX3_ticksFrom 55 = .ok (.getfield 11, 3) := by decide +kernel
theorem dX3_ticksFrom_58 : decode cX3_ticksFrom 58 = .ok (.iload_n 1, 1) := by decide +kernel
theorem dX3_ticksFrom_59 : decode cX3_ticksFrom 59 = .ok (.iaload, 1) := by decide +kernel
theorem dX3_ticksFrom_60 : decode cX3_ticksFrom 60 = .ok (.ireturn, 1) := by decide +kernel
theorem dX3_turnsWithin_0 : decode cX3_turnsWithin 0 = .ok (.aload_n 0, 1) := by decide +kernel
theorem dX3_turnsWithin_1 : decode cX3_turnsWithin 1 = .ok (.invokevirtual 38, 3) := by decide +kernel
theorem dX3_turnsWithin_4 : decode cX3_turnsWithin 4 = .ok (.iconst 0, 1) := by decide +kernel
theorem dX3_turnsWithin_5 : decode cX3_turnsWithin 5 = .ok (.istore_n 2, 1) := by decide +kernel
theorem dX3_turnsWithin_6 : decode cX3_turnsWithin 6 = .ok (.iload_n 2, 1) := by decide +kernel
theorem dX3_turnsWithin_7 : decode cX3_turnsWithin 7 = .ok (.ldc 41, 2) := by decide +kernel
theorem dX3_turnsWithin_9 : decode cX3_turnsWithin 9 = .ok (.if_icmp .ge 28, 3) := by decide +kernel
theorem dX3_turnsWithin_12 : decode cX3_turnsWithin 12 = .ok (.aload_n 0, 1) := by decide +kernel
theorem dX3_turnsWithin_13 : decode cX3_turnsWithin 13 = .ok (.getfield 42, 3) := by decide +kernel
theorem dX3_turnsWithin_16 : decode cX3_turnsWithin 16 = .ok (.ifCond .eq 21, 3) := by decide +kernel
theorem dX3_turnsWithin_19 : decode cX3_turnsWithin 19 = .ok (.aload_n 0, 1) := by decide +kernel
theorem dX3_turnsWithin_20 : decode cX3_turnsWithin 20 = .ok (.getfield 48, 3) := by decide +kernel
theorem dX3_turnsWithin_23 : decode cX3_turnsWithin 23 = .ok (.iload_n 1, 1) := by decide +kernel
theorem dX3_turnsWithin_24 : decode cX3_turnsWithin 24 = .ok (.if_icmp .ge 13, 3) := by decide +kernel
theorem dX3_turnsWithin_27 : decode cX3_turnsWithin 27 = .ok (.aload_n 0, 1) := by decide +kernel
theorem dX3_turnsWithin_28 : decode cX3_turnsWithin 28 = .ok (.invokevirtual 45, 3) := by decide +kernel
theorem dX3_turnsWithin_31 : decode cX3_turnsWithin 31 = .ok (.iinc 2 1, 3) := by decide +kernel
theorem dX3_turnsWithin_34 : decode cX3_turnsWithin 34 = .ok (.goto (-28), 3) := by decide +kernel
theorem dX3_turnsWithin_37 : decode cX3_turnsWithin 37 = .ok (.iconst 0, 1) := by decide +kernel
theorem dX3_turnsWithin_38 : decode cX3_turnsWithin 38 = .ok (.istore_n 2, 1) := by decide +kernel
theorem dX3_turnsWithin_39 : decode cX3_turnsWithin 39 = .ok (.iconst 0, 1) := by decide +kernel
theorem dX3_turnsWithin_40 : decode cX3_turnsWithin 40 = .ok (.istore_n 3, 1) := by decide +kernel
theorem dX3_turnsWithin_41 : decode cX3_turnsWithin 41 = .ok (.iload_n 3, 1) := by decide +kernel
theorem dX3_turnsWithin_42 : decode cX3_turnsWithin 42 = .ok (.aload_n 0, 1) := by decide +kernel
theorem dX3_turnsWithin_43 : decode cX3_turnsWithin 43 = .ok (.getfield 11, 3) := by decide +kernel
theorem dX3_turnsWithin_46 : decode cX3_turnsWithin 46 = .ok (.arraylength, 1) := by decide +kernel
theorem dX3_turnsWithin_47 : decode cX3_turnsWithin 47 = .ok (.if_icmp .ge 26, 3) := by decide +kernel
theorem dX3_turnsWithin_50 : decode cX3_turnsWithin 50 = .ok (.aload_n 0, 1) := by decide +kernel
theorem dX3_turnsWithin_51 : decode cX3_turnsWithin 51 = .ok (.getfield 11, 3) := by decide +kernel
theorem dX3_turnsWithin_54 : decode cX3_turnsWithin 54 = .ok (.iload_n 3, 1) := by decide +kernel
theorem dX3_turnsWithin_55 : decode cX3_turnsWithin 55 = .ok (.iaload, 1) := by decide +kernel
theorem dX3_turnsWithin_56 : decode cX3_turnsWithin 56 = .ok (.iconst 0, 1) := by decide +kernel
theorem dX3_turnsWithin_57 : decode cX3_turnsWithin 57 = .ok (.iload_n 1, 1) := by decide +kernel
theorem dX3_turnsWithin_58 : decode cX3_turnsWithin 58 = .ok (.invokestatic 52, 3) := by decide +kernel
theorem dX3_turnsWithin_61 : decode cX3_turnsWithin 61 = .ok (.ifCond .eq 6, 3) := by decide +kernel
theorem dX3_turnsWithin_64 : decode cX3_turnsWithin 64 = .ok (.iinc 2 1, 3) := by decide +kernel
theorem dX3_turnsWithin_67 : decode cX3_turnsWithin 67 = .ok (.iinc 3 1, 3) := by decide +kernel
theorem dX3_turnsWithin_70 : decode cX3_turnsWithin 70 = .ok (.goto (-29), 3) := by decide +kernel
theorem dX3_turnsWithin_73 : decode cX3_turnsWithin 73 = .ok (.iload_n 2, 1) := by decide +kernel
theorem dX3_turnsWithin_74 : decode cX3_turnsWithin 74 = .ok (.ireturn, 1) := by decide +kernel
theorem dX3_moveFrom_0 : decode cX3_moveFrom 0 = .ok (.bipush (-4), 2) := by decide +kernel
theorem dX3_moveFrom_2 : decode cX3_moveFrom 2 = .ok (.istore_n 3, 1) := by decide +kernel
theorem dX3_moveFrom_3 : decode cX3_moveFrom 3 = .ok (.iload_n 1, 1) := by decide +kernel
theorem dX3_moveFrom_4 : decode cX3_moveFrom 4 = .ok (.ifCond .lt 21, 3) := by decide +kernel
theorem dX3_moveFrom_7 : decode cX3_moveFrom 7 = .ok (.iload_n 1, 1) := by decide +kernel
theorem dX3_moveFrom_8 : decode cX3_moveFrom 8 = .ok (.aload_n 0, 1) := by decide +kernel
theorem dX3_moveFrom_9 : decode cX3_moveFrom 9 = .ok (.getfield 11, 3) := by decide +kernel
theorem dX3_moveFrom_12 : decode cX3_moveFrom 12 = .ok (.arraylength, 1) := by decide +kernel
theorem dX3_moveFrom_13 : decode cX3_moveFrom 13 = .ok (.if_icmp .ge 12, 3) := by decide +kernel
theorem dX3_moveFrom_16 : decode cX3_moveFrom 16 = .ok (.iload_n 1, 1) := by decide +kernel
theorem dX3_moveFrom_17 : decode cX3_moveFrom 17 = .ok (.aload_n 0, 1) := by decide +kernel
theorem dX3_moveFrom_18 : decode cX3_moveFrom 18 = .ok (.getfield 15, 3) := by decide +kernel
theorem dX3_moveFrom_21 : decode cX3_moveFrom 21 = .ok (.arraylength, 1) := by decide +kernel
theorem dX3_moveFrom_22 : decode cX3_moveFrom 22 = .ok (.if_icmp .lt 5, 3) := by decide +kernel
theorem dX3_moveFrom_25 : decode cX3_moveFrom 25 = .ok (.iload_n 3, 1) := by decide +kernel
theorem dX3_moveFrom_26 : decode cX3_moveFrom 26 = .ok (.ireturn, 1) := by decide +kernel
theorem dX3_moveFrom_27 : decode cX3_moveFrom 27 = .ok (.aload_n 0, 1) := by decide +kernel
theorem dX3_moveFrom_28 : decode cX3_moveFrom 28 = .ok (.getfield 15, 3) := by decide +kernel
theorem dX3_moveFrom_31 : decode cX3_moveFrom 31 = .ok (.iload_n 1, 1) := by decide +kernel
theorem dX3_moveFrom_32 : decode cX3_moveFrom 32 = .ok (.iaload, 1) := by decide +kernel
theorem dX3_moveFrom_33 : decode cX3_moveFrom 33 = .ok (.istore 4, 2) := by decide +kernel
theorem dX3_moveFrom_35 : decode cX3_moveFrom 35 = .ok (.aload_n 0, 1) := by decide +kernel
theorem dX3_moveFrom_36 : decode cX3_moveFrom 36 = .ok (.getfield 11, 3) := by decide +kernel
theorem dX3_moveFrom_39 : decode cX3_moveFrom 39 = .ok (.iload_n 1, 1) := by decide +kernel
theorem dX3_moveFrom_40 : decode cX3_moveFrom 40 = .ok (.iaload, 1) := by decide +kernel
theorem dX3_moveFrom_41 : decode cX3_moveFrom 41 = .ok (.istore 5, 2) := by decide +kernel
theorem dX3_moveFrom_43 : decode cX3_moveFrom 43 = .ok (.iload 5, 2) := by decide +kernel
theorem dX3_moveFrom_45 : decode cX3_moveFrom 45 = .ok (.iload_n 2, 1) := by decide +kernel
theorem dX3_moveFrom_46 : decode cX3_moveFrom 46 = .ok (.if_icmp .le 86, 3) := by decide +kernel
theorem dX3_moveFrom_49 : decode cX3_moveFrom 49 = .ok (.iload 4, 2) := by decide +kernel
theorem dX3_moveFrom_51 : decode cX3_moveFrom 51 = .ok (.ifCond .lt 81, 3) := by decide +kernel
theorem dX3_moveFrom_54 : decode cX3_moveFrom 54 = .ok (.iload 4, 2) := by decide +kernel
theorem dX3_moveFrom_56 : decode cX3_moveFrom 56 = .ok (.aload_n 0, 1) := by decide +kernel
theorem dX3_moveFrom_57 : decode cX3_moveFrom 57 = .ok (.getfield 18, 3) := by decide +kernel
theorem dX3_moveFrom_60 : decode cX3_moveFrom 60 = .ok (.arraylength, 1) := by decide +kernel
theorem dX3_moveFrom_61 : decode cX3_moveFrom 61 = .ok (.if_icmp .ge 71, 3) := by decide +kernel
theorem dX3_moveFrom_64 : decode cX3_moveFrom 64 = .ok (.aload_n 0, 1) := by decide +kernel
theorem dX3_moveFrom_65 : decode cX3_moveFrom 65 = .ok (.getfield 18, 3) := by decide +kernel
theorem dX3_moveFrom_68 : decode cX3_moveFrom 68 = .ok (.iload 4, 2) := by decide +kernel
theorem dX3_moveFrom_70 : decode cX3_moveFrom 70 = .ok (.iaload, 1) := by decide +kernel
theorem dX3_moveFrom_71 : decode cX3_moveFrom 71 = .ok (.bipush 20, 2) := by decide +kernel
theorem dX3_moveFrom_73 : decode cX3_moveFrom 73 = .ok (.ishr, 1) := by decide +kernel
theorem dX3_moveFrom_74 : decode cX3_moveFrom 74 = .ok (.istore 6, 2) := by decide +kernel
theorem dX3_moveFrom_76 : decode cX3_moveFrom 76 = .ok (.aload_n 0, 1) := by decide +kernel
theorem dX3_moveFrom_77 : decode cX3_moveFrom 77 = .ok (.getfield 30, 3) := by decide +kernel
theorem dX3_moveFrom_80 : decode cX3_moveFrom 80 = .ok (.iload 6, 2) := by decide +kernel
theorem dX3_moveFrom_82 : decode cX3_moveFrom 82 = .ok (.iload 4, 2) := by decide +kernel
theorem dX3_moveFrom_84 : decode cX3_moveFrom 84 = .ok (.sipush 360, 3) := by decide +kernel
theorem dX3_moveFrom_87 : decode cX3_moveFrom 87 = .ok (.idiv, 1) := by decide +kernel
theorem dX3_moveFrom_88 : decode cX3_moveFrom 88 = .ok (.invokevirtual 56, 3) := by decide +kernel
theorem dX3_moveFrom_91 : decode cX3_moveFrom 91 = .ok (.istore 7, 2) := by decide +kernel
theorem dX3_moveFrom_93 : decode cX3_moveFrom 93 = .ok (.iload 7, 2) := by decide +kernel
theorem dX3_moveFrom_95 : decode cX3_moveFrom 95 = .ok (.invokestatic 60, 3) := by decide +kernel
theorem dX3_moveFrom_98 : decode cX3_moveFrom 98 = .ok (.istore_n 3, 1) := by decide +kernel
theorem dX3_moveFrom_99 : decode cX3_moveFrom 99 = .ok (.iload 6, 2) := by decide +kernel
theorem dX3_moveFrom_101 : decode cX3_moveFrom 101 = .ok (.sipush 360, 3) := by decide +kernel
theorem dX3_moveFrom_104 : decode cX3_moveFrom 104 = .ok (.imul, 1) := by decide +kernel
theorem dX3_moveFrom_105 : decode cX3_moveFrom 105 = .ok (.iload 4, 2) := by decide +kernel
theorem dX3_moveFrom_107 : decode cX3_moveFrom 107 = .ok (.sipush 360, 3) := by decide +kernel
theorem dX3_moveFrom_110 : decode cX3_moveFrom 110 = .ok (.irem, 1) := by decide +kernel
theorem dX3_moveFrom_111 : decode cX3_moveFrom 111 = .ok (.iload 7, 2) := by decide +kernel
theorem dX3_moveFrom_113 : decode cX3_moveFrom 113 = .ok (.invokestatic 64, 3) := by decide +kernel
theorem dX3_moveFrom_116 : decode cX3_moveFrom 116 = .ok (.isub, 1) := by decide +kernel
theorem dX3_moveFrom_117 : decode cX3_moveFrom 117 = .ok (.sipush 360, 3) := by decide +kernel
theorem dX3_moveFrom_120 : decode cX3_moveFrom 120 = .ok (.invokestatic 67, 3) := by decide +kernel
theorem dX3_moveFrom_123 : decode cX3_moveFrom 123 = .ok (.iadd, 1) := by decide +kernel
theorem dX3_moveFrom_124 : decode cX3_moveFrom 124 = .ok (.istore 4, 2) := by decide +kernel
theorem dX3_moveFrom_126 : decode cX3_moveFrom 126 = .ok (.iinc 5 (-1), 3) := by decide +kernel
theorem dX3_moveFrom_129 : decode cX3_moveFrom 129 = .ok (.goto (-86), 3) := by decide +kernel
theorem dX3_moveFrom_132 : decode cX3_moveFrom 132 = .ok (.iload_n 3, 1) := by decide +kernel
theorem dX3_moveFrom_133 : decode cX3_moveFrom 133 = .ok (.ireturn, 1) := by decide +kernel
theorem dX3_prepare_0 : decode cX3_prepare 0 = .ok (.aload_n 0, 1) := by decide +kernel
theorem dX3_prepare_1 : decode cX3_prepare 1 = .ok (.getfield 34, 3) := by decide +kernel
theorem dX3_prepare_4 : decode cX3_prepare 4 = .ok (.ifCond .eq 4, 3) := by decide +kernel
theorem dX3_prepare_7 : decode cX3_prepare 7 = .ok (.return_, 1) := by decide +kernel
theorem dX3_prepare_8 : decode cX3_prepare 8 = .ok (.aload_n 0, 1) := by decide +kernel
theorem dX3_prepare_9 : decode cX3_prepare 9 = .ok (.iconst 1, 1) := by decide +kernel
theorem dX3_prepare_10 : decode cX3_prepare 10 = .ok (.putfield 34, 3) := by decide +kernel
theorem dX3_prepare_13 : decode cX3_prepare 13 = .ok (.aload_n 0, 1) := by decide +kernel
theorem dX3_prepare_14 : decode cX3_prepare 14 = .ok (.iconst 1, 1) := by decide +kernel
theorem dX3_prepare_15 : decode cX3_prepare 15 = .ok (.putfield 42, 3) := by decide +kernel
theorem dX3_prepare_18 : decode cX3_prepare 18 = .ok (.aload_n 0, 1) := by decide +kernel
theorem dX3_prepare_19 : decode cX3_prepare 19 = .ok (.getfield 30, 3) := by decide +kernel
theorem dX3_prepare_22 : decode cX3_prepare 22 = .ok (.invokevirtual 72, 3) := by decide +kernel
theorem dX3_prepare_25 : decode cX3_prepare 25 = .ok (.aload_n 0, 1) := by decide +kernel
theorem dX3_prepare_26 : decode cX3_prepare 26 = .ok (.aload_n 0, 1) := by decide +kernel
theorem dX3_prepare_27 : decode cX3_prepare 27 = .ok (.getfield 30, 3) := by decide +kernel
theorem dX3_prepare_30 : decode cX3_prepare 30 = .ok (.getfield 75, 3) := by decide +kernel
theorem dX3_prepare_33 : decode cX3_prepare 33 = .ok (.sipush 360, 3) := by decide +kernel
theorem dX3_prepare_36 : decode cX3_prepare 36 = .ok (.imul, 1) := by decide +kernel
theorem dX3_prepare_37 : decode cX3_prepare 37 = .ok (.invokevirtual 78, 3) := by decide +kernel
theorem dX3_prepare_40 : decode cX3_prepare 40 = .ok (.aload_n 0, 1) := by decide +kernel
theorem dX3_prepare_41 : decode cX3_prepare 41 = .ok (.getfield 18, 3) := by decide +kernel
theorem dX3_prepare_44 : decode cX3_prepare 44 = .ok (.iconst (-1), 1) := by decide +kernel
theorem dX3_prepare_45 : decode cX3_prepare 45 = .ok (.invokestatic 82, 3) := by decide +kernel
theorem dX3_prepare_48 : decode cX3_prepare 48 = .ok (.aload_n 0, 1) := by decide +kernel
theorem dX3_prepare_49 : decode cX3_prepare 49 = .ok (.getfield 11, 3) := by decide +kernel
theorem dX3_prepare_52 : decode cX3_prepare 52 = .ok (.iconst (-1), 1) := by decide +kernel
theorem dX3_prepare_53 : decode cX3_prepare 53 = .ok (.invokestatic 82, 3) := by decide +kernel
theorem dX3_prepare_56 : decode cX3_prepare 56 = .ok (.aload_n 0, 1) := by decide +kernel
theorem dX3_prepare_57 : decode cX3_prepare 57 = .ok (.iconst 0, 1) := by decide +kernel
theorem dX3_prepare_58 : decode cX3_prepare 58 = .ok (.putfield 48, 3) := by decide +kernel
theorem dX3_prepare_61 : decode cX3_prepare 61 = .ok (.aload_n 0, 1) := by decide +kernel
theorem dX3_prepare_62 : decode cX3_prepare 62 = .ok (.iconst 0, 1) := by decide +kernel
theorem dX3_prepare_63 : decode cX3_prepare 63 = .ok (.putfield 88, 3) := by decide +kernel
theorem dX3_prepare_66 : decode cX3_prepare 66 = .ok (.aload_n 0, 1) := by decide +kernel
theorem dX3_prepare_67 : decode cX3_prepare 67 = .ok (.getfield 30, 3) := by decide +kernel
theorem dX3_prepare_70 : decode cX3_prepare 70 = .ok (.invokevirtual 91, 3) := by decide +kernel
theorem dX3_prepare_73 : decode cX3_prepare 73 = .ok (.istore_n 1, 1) := by decide +kernel
theorem dX3_prepare_74 : decode cX3_prepare 74 = .ok (.aload_n 0, 1) := by decide +kernel
theorem dX3_prepare_75 : decode cX3_prepare 75 = .ok (.iload_n 1, 1) := by decide +kernel
theorem dX3_prepare_76 : decode cX3_prepare 76 = .ok (.sipush 360, 3) := by decide +kernel
theorem dX3_prepare_79 : decode cX3_prepare 79 = .ok (.imul, 1) := by decide +kernel
theorem dX3_prepare_80 : decode cX3_prepare 80 = .ok (.putfield 95, 3) := by decide +kernel
theorem dX3_prepare_83 : decode cX3_prepare 83 = .ok (.aload_n 0, 1) := by decide +kernel
theorem dX3_prepare_84 : decode cX3_prepare 84 = .ok (.aload_n 0, 1) := by decide +kernel
theorem dX3_prepare_85 : decode cX3_prepare 85 = .ok (.getfield 95, 3) := by decide +kernel
theorem dX3_prepare_88 : decode cX3_prepare 88 = .ok (.putfield 98, 3) := by decide +kernel
theorem dX3_prepare_91 : decode cX3_prepare 91 = .ok (.aload_n 0, 1) := by decide +kernel
theorem dX3_prepare_92 : decode cX3_prepare 92 = .ok (.aload_n 0, 1) := by decide +kernel
theorem dX3_prepare_93 : decode cX3_prepare 93 = .ok (.getfield 95, 3) := by decide +kernel
theorem dX3_prepare_96 : decode cX3_prepare 96 = .ok (.putfield 101, 3) := by decide +kernel
theorem dX3_prepare_99 : decode cX3_prepare 99 = .ok (.aload_n 0, 1) := by decide +kernel
theorem dX3_prepare_100 : decode cX3_prepare 100 = .ok (.getfield 95, 3) := by decide +kernel
theorem dX3_prepare_103 : decode cX3_prepare 103 = .ok (.ifCond .lt 31, 3) := by decide +kernel
theorem dX3_prepare_106 : decode cX3_prepare 106 = .ok (.aload_n 0, 1) := by decide +kernel
theorem dX3_prepare_107 : decode cX3_prepare 107 = .ok (.getfield 95, 3) := by decide +kernel
theorem dX3_prepare_110 : decode cX3_prepare 110 = .ok (.aload_n 0, 1) := by decide +kernel
theorem dX3_prepare_111 : decode cX3_prepare 111 = .ok (.getfield 18, 3) := by decide +kernel
theorem dX3_prepare_114 : decode cX3_prepare 114 = .ok (.arraylength, 1) := by decide +kernel
theorem dX3_prepare_115 : decode cX3_prepare 115 = .ok (.if_icmp .ge 19, 3) := by decide +kernel
theorem dX3_prepare_118 : decode cX3_prepare 118 = .ok (.aload_n 0, 1) := by decide +kernel
theorem dX3_prepare_119 : decode cX3_prepare 119 = .ok (.getfield 18, 3) := by decide +kernel
theorem dX3_prepare_122 : decode cX3_prepare 122 = .ok (.aload_n 0, 1) := by decide +kernel
theorem dX3_prepare_123 : decode cX3_prepare 123 = .ok (.getfield 95, 3) := by decide +kernel
theorem dX3_prepare_126 : decode cX3_prepare 126 = .ok (.iload_n 1, 1) := by decide +kernel
theorem dX3_prepare_127 : decode cX3_prepare 127 = .ok (.bipush 20, 2) := by decide +kernel
theorem dX3_prepare_129 : decode cX3_prepare 129 = .ok (.ishl, 1) := by decide +kernel
theorem dX3_prepare_130 : decode cX3_prepare 130 = .ok (.ldc 104, 2) := by decide +kernel
theorem dX3_prepare_132 : decode cX3_prepare 132 = .ok (.ior, 1) := by decide +kernel
theorem dX3_prepare_133 : decode cX3_prepare 133 = .ok (.iastore, 1) := by decide +kernel
theorem dX3_prepare_134 : decode cX3_prepare 134 = .ok (.aload_n 0, 1) := by decide +kernel
theorem dX3_prepare_135 : decode cX3_prepare 135 = .ok (.iconst 0, 1) := by decide +kernel
theorem dX3_prepare_136 : decode cX3_prepare 136 = .ok (.aload_n 0, 1) := by decide +kernel
theorem dX3_prepare_137 : decode cX3_prepare 137 = .ok (.getfield 95, 3) := by decide +kernel
theorem dX3_prepare_140 : decode cX3_prepare 140 = .ok (.iconst 0, 1) := by decide +kernel
theorem dX3_prepare_141 : decode cX3_prepare 141 = .ok (.invokevirtual 105, 3) := by decide +kernel
theorem dX3_prepare_144 : decode cX3_prepare 144 = .ok (.return_, 1) := by decide +kernel
theorem dX3_makeRoom_0 : decode cX3_makeRoom 0 = .ok (.iload_n 1, 1) := by decide +kernel
theorem dX3_makeRoom_1 : decode cX3_makeRoom 1 = .ok (.ldc 109, 2) := by decide +kernel
theorem dX3_makeRoom_3 : decode cX3_makeRoom 3 = .ok (.if_icmp .gt 8, 3) := by decide +kernel
theorem dX3_makeRoom_6 : decode cX3_makeRoom 6 = .ok (.ldc 109, 2) := by decide +kernel
theorem dX3_makeRoom_8 : decode cX3_makeRoom 8 = .ok (.goto 16, 3) := by decide +kernel
theorem dX3_makeRoom_11 : decode cX3_makeRoom 11 = .ok (.iload_n 1, 1) := by decide +kernel
theorem dX3_makeRoom_12 : decode cX3_makeRoom 12 = .ok (.ldc 110, 2) := by decide +kernel
theorem dX3_makeRoom_14 : decode cX3_makeRoom 14 = .ok (.if_icmp .gt 8, 3) := by decide +kernel
theorem dX3_makeRoom_17 : decode cX3_makeRoom 17 = .ok (.ldc 110, 2) := by decide +kernel
theorem dX3_makeRoom_19 : decode cX3_makeRoom 19 = .ok (.goto 5, 3) := by decide +kernel
theorem dX3_makeRoom_22 : decode cX3_makeRoom 22 = .ok (.ldc 41, 2) := by decide +kernel
theorem dX3_makeRoom_24 : decode cX3_makeRoom 24 = .ok (.istore_n 2, 1) := by decide +kernel
theorem dX3_makeRoom_25 : decode cX3_makeRoom 25 = .ok (.aload_n 0, 1) := by decide +kernel
theorem dX3_makeRoom_26 : decode cX3_makeRoom 26 = .ok (.getfield 18, 3) := by decide +kernel
theorem dX3_makeRoom_29 : decode cX3_makeRoom 29 = .ok (.arraylength, 1) := by decide +kernel
theorem dX3_makeRoom_30 : decode cX3_makeRoom 30 = .ok (.iload_n 2, 1) := by decide +kernel
theorem dX3_makeRoom_31 : decode cX3_makeRoom 31 = .ok (.if_icmp .ge 10, 3) := by decide +kernel
theorem dX3_makeRoom_34 : decode cX3_makeRoom 34 = .ok (.aload_n 0, 1) := by decide +kernel
theorem dX3_makeRoom_35 : decode cX3_makeRoom 35 = .ok (.iload_n 2, 1) := by decide +kernel
theorem dX3_makeRoom_36 : decode cX3_makeRoom 36 = .ok (.newarray .int, 2) := by decide +kernel
theorem dX3_makeRoom_38 : decode cX3_makeRoom 38 = .ok (.putfield 18, 3) := by decide +kernel
theorem dX3_makeRoom_41 : decode cX3_makeRoom 41 = .ok (.return_, 1) := by decide +kernel
theorem dX3_expandFirst_0 : decode cX3_expandFirst 0 = .ok (.aload_n 0, 1) := by decide +kernel
theorem dX3_expandFirst_1 : decode cX3_expandFirst 1 = .ok (.getfield 95, 3) := by decide +kernel
theorem dX3_expandFirst_4 : decode cX3_expandFirst 4 = .ok (.sipush 360, 3) := by decide +kernel
theorem dX3_expandFirst_7 : decode cX3_expandFirst 7 = .ok (.idiv, 1) := by decide +kernel
theorem dX3_expandFirst_8 : decode cX3_expandFirst 8 = .ok (.istore_n 1, 1) := by decide +kernel
theorem dX3_expandFirst_9 : decode cX3_expandFirst 9 = .ok (.aload_n 0, 1) := by decide +kernel
theorem dX3_expandFirst_10 : decode cX3_expandFirst 10 = .ok (.getfield 95, 3) := by decide +kernel
theorem dX3_expandFirst_13 : decode cX3_expandFirst 13 = .ok (.sipush 360, 3) := by decide +kernel
theorem dX3_expandFirst_16 : decode cX3_expandFirst 16 = .ok (.irem, 1) := by decide +kernel
theorem dX3_expandFirst_17 : decode cX3_expandFirst 17 = .ok (.istore_n 2, 1) := by decide +kernel
theorem dX3_expandFirst_18 : decode cX3_expandFirst 18 = .ok (.aload_n 0, 1) := by decide +kernel
theorem dX3_expandFirst_19 : decode cX3_expandFirst 19 = .ok (.getfield 30, 3) := by decide +kernel
theorem dX3_expandFirst_22 : decode cX3_expandFirst 22 = .ok (.iload_n 1, 1) := by decide +kernel
theorem dX3_expandFirst_23 : decode cX3_expandFirst 23 = .ok (.invokevirtual 111, 3) := by decide +kernel
theorem dX3_expandFirst_26 : decode cX3_expandFirst 26 = .ok (.istore_n 3, 1) := by decide +kernel
theorem dX3_expandFirst_27 : decode cX3_expandFirst 27 = .ok (.iconst 0, 1) := by decide +kernel
theorem dX3_expandFirst_28 : decode cX3_expandFirst 28 = .ok (.istore 4, 2) := by decide +kernel
theorem dX3_expandFirst_30 : decode cX3_expandFirst 30 = .ok (.iload 4, 2) := by decide +kernel
theorem dX3_expandFirst_32 : decode cX3_expandFirst 32 = .ok (.iload_n 3, 1) := by decide +kernel
theorem dX3_expandFirst_33 : decode cX3_expandFirst 33 = .ok (.if_icmp .ge 107, 3) := by decide +kernel
theorem dX3_expandFirst_36 : decode cX3_expandFirst 36 = .ok (.aload_n 0, 1) := by decide +kernel
theorem dX3_expandFirst_37 : decode cX3_expandFirst 37 = .ok (.getfield 30, 3) := by decide +kernel
theorem dX3_expandFirst_40 : decode cX3_expandFirst 40 = .ok (.iload_n 1, 1) := by decide +kernel
theorem dX3_expandFirst_41 : decode cX3_expandFirst 41 = .ok (.iload 4, 2) := by decide +kernel
theorem dX3_expandFirst_43 : decode cX3_expandFirst 43 = .ok (.invokevirtual 114, 3) := by decide +kernel
theorem dX3_expandFirst_46 : decode cX3_expandFirst 46 = .ok (.istore 5, 2) := by decide +kernel
theorem dX3_expandFirst_48 : decode cX3_expandFirst 48 = .ok (.iload_n 2, 1) := by decide +kernel
theorem dX3_expandFirst_49 : decode cX3_expandFirst 49 = .ok (.iload 5, 2) := by decide +kernel
theorem dX3_expandFirst_51 : decode cX3_expandFirst 51 = .ok (.invokestatic 64, 3) := by decide +kernel
theorem dX3_expandFirst_54 : decode cX3_expandFirst 54 = .ok (.iadd, 1) := by decide +kernel
theorem dX3_expandFirst_55 : decode cX3_expandFirst 55 = .ok (.istore 6, 2) := by decide +kernel
theorem dX3_expandFirst_57 : decode cX3_expandFirst 57 = .ok (.iload 5, 2) := by decide +kernel
theorem dX3_expandFirst_59 : decode cX3_expandFirst 59 = .ok (.invokestatic 117, 3) := by decide +kernel
theorem dX3_expandFirst_62 : decode cX3_expandFirst 62 = .ok (.sipush 360, 3) := by decide +kernel
theorem dX3_expandFirst_65 : decode cX3_expandFirst 65 = .ok (.imul, 1) := by decide +kernel
theorem dX3_expandFirst_66 : decode cX3_expandFirst 66 = .ok (.iload 6, 2) := by decide +kernel
theorem dX3_expandFirst_68 : decode cX3_expandFirst 68 = .ok (.sipush 360, 3) := by decide +kernel
theorem dX3_expandFirst_71 : decode cX3_expandFirst 71 = .ok (.if_icmp .ge 8, 3) := by decide +kernel
theorem dX3_expandFirst_74 : decode cX3_expandFirst 74 = .ok (.iload 6, 2) := by decide +kernel
theorem dX3_expandFirst_76 : decode cX3_expandFirst 76 = .ok (.goto 9, 3) := by decide +kernel
theorem dX3_expandFirst_79 : decode cX3_expandFirst 79 = .ok (.iload 6, 2) := by decide +kernel
theorem dX3_expandFirst_81 : decode cX3_expandFirst 81 = .ok (.sipush 360, 3) := by decide +kernel
theorem dX3_expandFirst_84 : decode cX3_expandFirst 84 = .ok (.isub, 1) := by decide +kernel
theorem dX3_expandFirst_85 : decode cX3_expandFirst 85 = .ok (.iadd, 1) := by decide +kernel
theorem dX3_expandFirst_86 : decode cX3_expandFirst 86 = .ok (.istore 7, 2) := by decide +kernel
theorem dX3_expandFirst_88 : decode cX3_expandFirst 88 = .ok (.iload 7, 2) := by decide +kernel
theorem dX3_expandFirst_90 : decode cX3_expandFirst 90 = .ok (.ifCond .lt 44, 3) := by decide +kernel
theorem dX3_expandFirst_93 : decode cX3_expandFirst 93 = .ok (.iload 7, 2) := by decide +kernel
theorem dX3_expandFirst_95 : decode cX3_expandFirst 95 = .ok (.aload_n 0, 1) := by decide +kernel
theorem dX3_expandFirst_96 : decode cX3_expandFirst 96 = .ok (.getfield 18, 3) := by decide +kernel
theorem dX3_expandFirst_99 : decode cX3_expandFirst 99 = .ok (.arraylength, 1) := by decide +kernel
theorem dX3_expandFirst_100 : decode cX3_expandFirst 100 = .ok (.if_icmp .ge 34, 3) := by decide +kernel
theorem dX3_expandFirst_103 : decode cX3_expandFirst 103 = .ok (.aload_n 0, 1) := by decide +kernel
theorem dX3_expandFirst_104 : decode cX3_expandFirst 104 = .ok (.getfield 18, 3) := by decide +kernel
theorem dX3_expandFirst_107 : decode cX3_expandFirst 107 = .ok (.iload 7, 2) := by decide +kernel
theorem dX3_expandFirst_109 : decode cX3_expandFirst 109 = .ok (.iaload, 1) := by decide +kernel
theorem dX3_expandFirst_110 : decode cX3_expandFirst 110 = .ok (.iconst (-1), 1) := by decide +kernel
theorem dX3_expandFirst_111 : decode cX3_expandFirst 111 = .ok (.if_icmp .ne 23, 3) := by decide +kernel
theorem dX3_expandFirst_114 : decode cX3_expandFirst 114 = .ok (.aload_n 0, 1) := by decide +kernel
theorem dX3_expandFirst_115 : decode cX3_expandFirst 115 = .ok (.getfield 18, 3) := by decide +kernel
theorem dX3_expandFirst_118 : decode cX3_expandFirst 118 = .ok (.iload 7, 2) := by decide +kernel
theorem dX3_expandFirst_120 : decode cX3_expandFirst 120 = .ok (.iload_n 1, 1) := by decide +kernel
theorem dX3_expandFirst_121 : decode cX3_expandFirst 121 = .ok (.bipush 20, 2) := by decide +kernel
theorem dX3_expandFirst_123 : decode cX3_expandFirst 123 = .ok (.ishl, 1) := by decide +kernel
theorem dX3_expandFirst_124 : decode cX3_expandFirst 124 = .ok (.ldc 104, 2) := by decide +kernel
theorem dX3_expandFirst_126 : decode cX3_expandFirst 126 = .ok (.ior, 1) := by decide +kernel
theorem dX3_expandFirst_127 : decode cX3_expandFirst 127 = .ok (.iastore, 1) := by decide +kernel
theorem dX3_expandFirst_128 : decode cX3_expandFirst 128 = .ok (.aload_n 0, 1) := by decide +kernel
theorem dX3_expandFirst_129 : decode cX3_expandFirst 129 = .ok (.iload 7, 2) := by decide +kernel
theorem dX3_expandFirst_131 : decode cX3_expandFirst 131 = .ok (.invokevirtual 120, 3) := by decide +kernel
theorem dX3_expandFirst_134 : decode cX3_expandFirst 134 = .ok (.iinc 4 1, 3) := by decide +kernel
theorem dX3_expandFirst_137 : decode cX3_expandFirst 137 = .ok (.goto (-107), 3) := by decide +kernel
theorem dX3_expandFirst_140 : decode cX3_expandFirst 140 = .ok (.aload_n 0, 1) := by decide +kernel
theorem dX3_expandFirst_141 : decode cX3_expandFirst 141 = .ok (.invokevirtual 123, 3) := by decide +kernel
theorem dX3_expandFirst_144 : decode cX3_expandFirst 144 = .ok (.return_, 1) := by decide +kernel
theorem dX3_enqueue_0 : decode cX3_enqueue 0 = .ok (.aload_n 0, 1) := by decide +kernel
theorem dX3_enqueue_1 : decode cX3_enqueue 1 = .ok (.getfield 98, 3) := by decide +kernel
theorem dX3_enqueue_4 : decode cX3_enqueue 4 = .ok (.ifCond .lt 38, 3) := by decide +kernel
theorem dX3_enqueue_7 : decode cX3_enqueue 7 = .ok (.aload_n 0, 1) := by decide +kernel
theorem dX3_enqueue_8 : decode cX3_enqueue 8 = .ok (.getfield 98, 3) := by decide +kernel
theorem dX3_enqueue_11 : decode cX3_enqueue 11 = .ok (.aload_n 0, 1) := by decide +kernel
theorem dX3_enqueue_12 : decode cX3_enqueue 12 = .ok (.getfield 18, 3) := by decide +kernel
theorem dX3_enqueue_15 : decode cX3_enqueue 15 = .ok (.arraylength, 1) := by decide +kernel
theorem dX3_enqueue_16 : decode cX3_enqueue 16 = .ok (.if_icmp .ge 26, 3) := by decide +kernel
theorem dX3_enqueue_19 : decode cX3_enqueue 19 = .ok (.aload_n 0, 1) := by decide +kernel
theorem dX3_enqueue_20 : decode cX3_enqueue 20 = .ok (.getfield 18, 3) := by decide +kernel
theorem dX3_enqueue_23 : decode cX3_enqueue 23 = .ok (.aload_n 0, 1) := by decide +kernel
theorem dX3_enqueue_24 : decode cX3_enqueue 24 = .ok (.getfield 98, 3) := by decide +kernel
theorem dX3_enqueue_27 : decode cX3_enqueue 27 = .ok (.aload_n 0, 1) := by decide +kernel
theorem dX3_enqueue_28 : decode cX3_enqueue 28 = .ok (.getfield 18, 3) := by decide +kernel
theorem dX3_enqueue_31 : decode cX3_enqueue 31 = .ok (.aload_n 0, 1) := by decide +kernel
theorem dX3_enqueue_32 : decode cX3_enqueue 32 = .ok (.getfield 98, 3) := by decide +kernel
theorem dX3_enqueue_35 : decode cX3_enqueue 35 = .ok (.iaload, 1) := by decide +kernel
theorem dX3_enqueue_36 : decode cX3_enqueue 36 = .ok (.ldc 126, 2) := by decide +kernel
theorem dX3_enqueue_38 : decode cX3_enqueue 38 = .ok (.iand, 1) := by decide +kernel
theorem dX3_enqueue_39 : decode cX3_enqueue 39 = .ok (.iload_n 1, 1) := by decide +kernel
theorem dX3_enqueue_40 : decode cX3_enqueue 40 = .ok (.ior, 1) := by decide +kernel
theorem dX3_enqueue_41 : decode cX3_enqueue 41 = .ok (.iastore, 1) := by decide +kernel
theorem dX3_enqueue_42 : decode cX3_enqueue 42 = .ok (.aload_n 0, 1) := by decide +kernel
theorem dX3_enqueue_43 : decode cX3_enqueue 43 = .ok (.iload_n 1, 1) := by decide +kernel
theorem dX3_enqueue_44 : decode cX3_enqueue 44 = .ok (.putfield 98, 3) := by decide +kernel
theorem dX3_enqueue_47 : decode cX3_enqueue 47 = .ok (.aload_n 0, 1) := by decide +kernel
theorem dX3_enqueue_48 : decode cX3_enqueue 48 = .ok (.getfield 30, 3) := by decide +kernel
theorem dX3_enqueue_51 : decode cX3_enqueue 51 = .ok (.iload_n 1, 1) := by decide +kernel
theorem dX3_enqueue_52 : decode cX3_enqueue 52 = .ok (.sipush 360, 3) := by decide +kernel
theorem dX3_enqueue_55 : decode cX3_enqueue 55 = .ok (.idiv, 1) := by decide +kernel
theorem dX3_enqueue_56 : decode cX3_enqueue 56 = .ok (.invokevirtual 127, 3) := by decide +kernel
theorem dX3_enqueue_59 : decode cX3_enqueue 59 = .ok (.ifCond .eq 19, 3) := by decide +kernel
theorem dX3_enqueue_62 : decode cX3_enqueue 62 = .ok (.aload_n 0, 1) := by decide +kernel
theorem dX3_enqueue_63 : decode cX3_enqueue 63 = .ok (.iload_n 1, 1) := by decide +kernel
theorem dX3_enqueue_64 : decode cX3_enqueue 64 = .ok (.sipush 360, 3) := by decide +kernel
theorem dX3_enqueue_67 : decode cX3_enqueue 67 = .ok (.irem, 1) := by decide +kernel
theorem dX3_enqueue_68 : decode cX3_enqueue 68 = .ok (.iload_n 1, 1) := by decide +kernel
theorem dX3_enqueue_69 : decode cX3_enqueue 69 = .ok (.aload_n 0, 1) := by decide +kernel
theorem dX3_enqueue_70 : decode cX3_enqueue 70 = .ok (.getfield 48, 3) := by decide +kernel
theorem dX3_enqueue_73 : decode cX3_enqueue 73 = .ok (.iconst 1, 1) := by decide +kernel
theorem dX3_enqueue_74 : decode cX3_enqueue 74 = .ok (.iadd, 1) := by decide +kernel
theorem dX3_enqueue_75 : decode cX3_enqueue 75 = .ok (.invokevirtual 105, 3) := by decide +kernel
theorem dX3_enqueue_78 : decode cX3_enqueue 78 = .ok (.return_, 1) := by decide +kernel
theorem dX3_answer_0 : decode cX3_answer 0 = .ok (.aload_n 0, 1) := by decide +kernel
theorem dX3_answer_1 : decode cX3_answer 1 = .ok (.getfield 21, 3) := by decide +kernel
theorem dX3_answer_4 : decode cX3_answer 4 = .ok (.getfield 131, 3) := by decide +kernel
theorem dX3_answer_7 : decode cX3_answer 7 = .ok (.ineg, 1) := by decide +kernel
theorem dX3_answer_8 : decode cX3_answer 8 = .ok (.istore 4, 2) := by decide +kernel
theorem dX3_answer_10 : decode cX3_answer 10 = .ok (.iload 4, 2) := by decide +kernel
theorem dX3_answer_12 : decode cX3_answer 12 = .ok (.aload_n 0, 1) := by decide +kernel
theorem dX3_answer_13 : decode cX3_answer 13 = .ok (.getfield 21, 3) := by decide +kernel
theorem dX3_answer_16 : decode cX3_answer 16 = .ok (.getfield 131, 3) := by decide +kernel
theorem dX3_answer_19 : decode cX3_answer 19 = .ok (.if_icmp .gt 78, 3) := by decide +kernel
theorem dX3_answer_22 : decode cX3_answer 22 = .ok (.iload 4, 2) := by decide +kernel
theorem dX3_answer_24 : decode cX3_answer 24 = .ok (.iload_n 1, 1) := by decide +kernel
theorem dX3_answer_25 : decode cX3_answer 25 = .ok (.isub, 1) := by decide +kernel
theorem dX3_answer_26 : decode cX3_answer 26 = .ok (.sipush 360, 3) := by decide +kernel
theorem dX3_answer_29 : decode cX3_answer 29 = .ok (.invokestatic 67, 3) := by decide +kernel
theorem dX3_answer_32 : decode cX3_answer 32 = .ok (.istore 5, 2) := by decide +kernel
theorem dX3_answer_34 : decode cX3_answer 34 = .ok (.iload 5, 2) := by decide +kernel
theorem dX3_answer_36 : decode cX3_answer 36 = .ok (.aload_n 0, 1) := by decide +kernel
theorem dX3_answer_37 : decode cX3_answer 37 = .ok (.getfield 11, 3) := by decide +kernel
theorem dX3_answer_40 : decode cX3_answer 40 = .ok (.arraylength, 1) := by decide +kernel
theorem dX3_answer_41 : decode cX3_answer 41 = .ok (.if_icmp .ge 50, 3) := by decide +kernel
theorem dX3_answer_44 : decode cX3_answer 44 = .ok (.iload 5, 2) := by decide +kernel
theorem dX3_answer_46 : decode cX3_answer 46 = .ok (.aload_n 0, 1) := by decide +kernel
theorem dX3_answer_47 : decode cX3_answer 47 = .ok (.getfield 15, 3) := by decide +kernel
theorem dX3_answer_50 : decode cX3_answer 50 = .ok (.arraylength, 1) := by decide +kernel
theorem dX3_answer_51 : decode cX3_answer 51 = .ok (.if_icmp .ge 40, 3) := by decide +kernel
theorem dX3_answer_54 : decode cX3_answer 54 = .ok (.aload_n 0, 1) := by decide +kernel
theorem dX3_answer_55 : decode cX3_answer 55 = .ok (.getfield 11, 3) := by decide +kernel
theorem dX3_answer_58 : decode cX3_answer 58 = .ok (.iload 5, 2) := by decide +kernel
theorem dX3_answer_60 : decode cX3_answer 60 = .ok (.iaload, 1) := by decide +kernel
theorem dX3_answer_61 : decode cX3_answer 61 = .ok (.iconst (-1), 1) := by decide +kernel
theorem dX3_answer_62 : decode cX3_answer 62 = .ok (.if_icmp .ne 29, 3) := by decide +kernel
theorem dX3_answer_65 : decode cX3_answer 65 = .ok (.aload_n 0, 1) := by decide +kernel
theorem dX3_answer_66 : decode cX3_answer 66 = .ok (.getfield 11, 3) := by decide +kernel
theorem dX3_answer_69 : decode cX3_answer 69 = .ok (.iload 5, 2) := by decide +kernel
theorem dX3_answer_71 : decode cX3_answer 71 = .ok (.iload_n 3, 1) := by decide +kernel
theorem dX3_answer_72 : decode cX3_answer 72 = .ok (.iastore, 1) := by decide +kernel
theorem dX3_answer_73 : decode cX3_answer 73 = .ok (.aload_n 0, 1) := by decide +kernel
theorem dX3_answer_74 : decode cX3_answer 74 = .ok (.getfield 15, 3) := by decide +kernel
theorem dX3_answer_77 : decode cX3_answer 77 = .ok (.iload 5, 2) := by decide +kernel
theorem dX3_answer_79 : decode cX3_answer 79 = .ok (.iload_n 2, 1) := by decide +kernel
theorem dX3_answer_80 : decode cX3_answer 80 = .ok (.iastore, 1) := by decide +kernel
theorem dX3_answer_81 : decode cX3_answer 81 = .ok (.aload_n 0, 1) := by decide +kernel
theorem dX3_answer_82 : decode cX3_answer 82 = .ok (.dup, 1) := by decide +kernel
theorem dX3_answer_83 : decode cX3_answer 83 = .ok (.getfield 88, 3) := by decide +kernel
theorem dX3_answer_86 : decode cX3_answer 86 = .ok (.iconst 1, 1) := by decide +kernel
theorem dX3_answer_87 : decode cX3_answer 87 = .ok (.iadd, 1) := by decide +kernel
theorem dX3_answer_88 : decode cX3_answer 88 = .ok (.putfield 88, 3) := by decide +kernel
theorem dX3_answer_91 : decode cX3_answer 91 = .ok (.iinc 4 1, 3) := by decide +kernel
theorem dX3_answer_94 : decode cX3_answer 94 = .ok (.goto (-84), 3) := by decide +kernel
theorem dX3_answer_97 : decode cX3_answer 97 = .ok (.return_, 1) := by decide +kernel
theorem dX3_goOn_0 : decode cX3_goOn 0 = .ok (.aload_n 0, 1) := by decide +kernel
theorem dX3_goOn_1 : decode cX3_goOn 1 = .ok (.getfield 95, 3) := by decide +kernel
theorem dX3_goOn_4 : decode cX3_goOn 4 = .ok (.aload_n 0, 1) := by decide +kernel
theorem dX3_goOn_5 : decode cX3_goOn 5 = .ok (.getfield 101, 3) := by decide +kernel
theorem dX3_goOn_8 : decode cX3_goOn 8 = .ok (.if_icmp .ne 21, 3) := by decide +kernel
theorem dX3_goOn_11 : decode cX3_goOn 11 = .ok (.aload_n 0, 1) := by decide +kernel
theorem dX3_goOn_12 : decode cX3_goOn 12 = .ok (.dup, 1) := by decide +kernel
theorem dX3_goOn_13 : decode cX3_goOn 13 = .ok (.getfield 48, 3) := by decide +kernel
theorem dX3_goOn_16 : decode cX3_goOn 16 = .ok (.iconst 1, 1) := by decide +kernel
theorem dX3_goOn_17 : decode cX3_goOn 17 = .ok (.iadd, 1) := by decide +kernel
theorem dX3_goOn_18 : decode cX3_goOn 18 = .ok (.putfield 48, 3) := by decide +kernel
theorem dX3_goOn_21 : decode cX3_goOn 21 = .ok (.aload_n 0, 1) := by decide +kernel
theorem dX3_goOn_22 : decode cX3_goOn 22 = .ok (.aload_n 0, 1) := by decide +kernel
theorem dX3_goOn_23 : decode cX3_goOn 23 = .ok (.getfield 98, 3) := by decide +kernel
theorem dX3_goOn_26 : decode cX3_goOn 26 = .ok (.putfield 101, 3) := by decide +kernel
theorem dX3_goOn_29 : decode cX3_goOn 29 = .ok (.aload_n 0, 1) := by decide +kernel
theorem dX3_goOn_30 : decode cX3_goOn 30 = .ok (.getfield 95, 3) := by decide +kernel
theorem dX3_goOn_33 : decode cX3_goOn 33 = .ok (.aload_n 0, 1) := by decide +kernel
theorem dX3_goOn_34 : decode cX3_goOn 34 = .ok (.getfield 98, 3) := by decide +kernel
theorem dX3_goOn_37 : decode cX3_goOn 37 = .ok (.if_icmp .eq 42, 3) := by decide +kernel
theorem dX3_goOn_40 : decode cX3_goOn 40 = .ok (.aload_n 0, 1) := by decide +kernel
theorem dX3_goOn_41 : decode cX3_goOn 41 = .ok (.getfield 48, 3) := by decide +kernel
theorem dX3_goOn_44 : decode cX3_goOn 44 = .ok (.sipush 200, 3) := by decide +kernel
theorem dX3_goOn_47 : decode cX3_goOn 47 = .ok (.if_icmp .ge 32, 3) := by decide +kernel
theorem dX3_goOn_50 : decode cX3_goOn 50 = .ok (.aload_n 0, 1) := by decide +kernel
theorem dX3_goOn_51 : decode cX3_goOn 51 = .ok (.getfield 88, 3) := by decide +kernel
theorem dX3_goOn_54 : decode cX3_goOn 54 = .ok (.sipush 360, 3) := by decide +kernel
theorem dX3_goOn_57 : decode cX3_goOn 57 = .ok (.if_icmp .ge 22, 3) := by decide +kernel
theorem dX3_goOn_60 : decode cX3_goOn 60 = .ok (.aload_n 0, 1) := by decide +kernel
theorem dX3_goOn_61 : decode cX3_goOn 61 = .ok (.getfield 95, 3) := by decide +kernel
theorem dX3_goOn_64 : decode cX3_goOn 64 = .ok (.ifCond .lt 15, 3) := by decide +kernel
theorem dX3_goOn_67 : decode cX3_goOn 67 = .ok (.aload_n 0, 1) := by decide +kernel
theorem dX3_goOn_68 : decode cX3_goOn 68 = .ok (.getfield 95, 3) := by decide +kernel
theorem dX3_goOn_71 : decode cX3_goOn 71 = .ok (.aload_n 0, 1) := by decide +kernel
theorem dX3_goOn_72 : decode cX3_goOn 72 = .ok (.getfield 18, 3) := by decide +kernel
theorem dX3_goOn_75 : decode cX3_goOn 75 = .ok (.arraylength, 1) := by decide +kernel
theorem dX3_goOn_76 : decode cX3_goOn 76 = .ok (.if_icmp .lt 11, 3) := by decide +kernel
theorem dX3_goOn_79 : decode cX3_goOn 79 = .ok (.aload_n 0, 1) := by decide +kernel
theorem dX3_goOn_80 : decode cX3_goOn 80 = .ok (.iconst 0, 1) := by decide +kernel
theorem dX3_goOn_81 : decode cX3_goOn 81 = .ok (.putfield 42, 3) := by decide +kernel
theorem dX3_goOn_84 : decode cX3_goOn 84 = .ok (.goto 19, 3) := by decide +kernel
theorem dX3_goOn_87 : decode cX3_goOn 87 = .ok (.aload_n 0, 1) := by decide +kernel
theorem dX3_goOn_88 : decode cX3_goOn 88 = .ok (.aload_n 0, 1) := by decide +kernel
theorem dX3_goOn_89 : decode cX3_goOn 89 = .ok (.getfield 18, 3) := by decide +kernel
theorem dX3_goOn_92 : decode cX3_goOn 92 = .ok (.aload_n 0, 1) := by decide +kernel
theorem dX3_goOn_93 : decode cX3_goOn 93 = .ok (.getfield 95, 3) := by decide +kernel
theorem dX3_goOn_96 : decode cX3_goOn 96 = .ok (.iaload, 1) := by decide +kernel
theorem dX3_goOn_97 : decode cX3_goOn 97 = .ok (.ldc 104, 2) := by decide +kernel
theorem dX3_goOn_99 : decode cX3_goOn 99 = .ok (.iand, 1) := by decide +kernel
theorem dX3_goOn_100 : decode cX3_goOn 100 = .ok (.putfield 95, 3) := by decide +kernel
theorem dX3_goOn_103 : decode cX3_goOn 103 = .ok (.return_, 1) := by decide +kernel
theorem dX4_init_0 : decode cX4_init 0 = .ok (.aload_n 0, 1) := by decide +kernel
theorem dX4_init_1 : decode cX4_init 1 = .ok (.invokespecial 3, 3) := by decide +kernel
theorem dX4_init_4 : decode cX4_init 4 = .ok (.aload_n 0, 1) := by decide +kernel
theorem dX4_init_5 : decode cX4_init 5 = .ok (.iconst 3, 1) := by decide +kernel
theorem dX4_init_6 : decode cX4_init 6 = .ok (.newarray .int, 2) := by decide +kernel
theorem dX4_init_8 : decode cX4_init 8 = .ok (.putfield 9, 3) := by decide +kernel
theorem dX4_init_11 : decode cX4_init 11 = .ok (.aload_n 0, 1) := by decide +kernel
theorem dX4_init_12 : decode cX4_init 12 = .ok (.iconst 2, 1) := by decide +kernel
theorem dX4_init_13 : decode cX4_init 13 = .ok (.newarray .int, 2) := by decide +kernel
theorem dX4_init_15 : decode cX4_init 15 = .ok (.putfield 15, 3) := by decide +kernel
theorem dX4_init_18 : decode cX4_init 18 = .ok (.aload_n 0, 1) := by decide +kernel
theorem dX4_init_19 : decode cX4_init 19 = .ok (.aload_n 1, 1) := by decide +kernel
theorem dX4_init_20 : decode cX4_init 20 = .ok (.putfield 18, 3) := by decide +kernel
theorem dX4_init_23 : decode cX4_init 23 = .ok (.return_, 1) := by decide +kernel
theorem dX4_rest_0 : decode cX4_rest 0 = .ok (.aload_n 0, 1) := by decide +kernel
theorem dX4_rest_1 : decode cX4_rest 1 = .ok (.getfield 9, 3) := by decide +kernel
theorem dX4_rest_4 : decode cX4_rest 4 = .ok (.iconst 1, 1) := by decide +kernel
theorem dX4_rest_5 : decode cX4_rest 5 = .ok (.invokestatic 22, 3) := by decide +kernel
theorem dX4_rest_8 : decode cX4_rest 8 = .ok (.aload_n 0, 1) := by decide +kernel
theorem dX4_rest_9 : decode cX4_rest 9 = .ok (.getfield 15, 3) := by decide +kernel
theorem dX4_rest_12 : decode cX4_rest 12 = .ok (.iconst 0, 1) := by decide +kernel
theorem dX4_rest_13 : decode cX4_rest 13 = .ok (.invokestatic 22, 3) := by decide +kernel
theorem dX4_rest_16 : decode cX4_rest 16 = .ok (.aload_n 0, 1) := by decide +kernel
theorem dX4_rest_17 : decode cX4_rest 17 = .ok (.iconst 0, 1) := by decide +kernel
theorem dX4_rest_18 : decode cX4_rest 18 = .ok (.putfield 28, 3) := by decide +kernel
theorem dX4_rest_21 : decode cX4_rest 21 = .ok (.return_, 1) := by decide +kernel
theorem dX4_poseOf_0 : decode cX4_poseOf 0 = .ok (.iload_n 1, 1) := by decide +kernel
theorem dX4_poseOf_1 : decode cX4_poseOf 1 = .ok (.ifCond .lt 21, 3) := by decide +kernel
theorem dX4_poseOf_4 : decode cX4_poseOf 4 = .ok (.iload_n 1, 1) := by decide +kernel
theorem dX4_poseOf_5 : decode cX4_poseOf 5 = .ok (.aload_n 0, 1) := by decide +kernel
theorem dX4_poseOf_6 : decode cX4_poseOf 6 = .ok (.getfield 9, 3) := by decide +kernel
theorem dX4_poseOf_9 : decode cX4_poseOf 9 = .ok (.arraylength, 1) := by decide +kernel
theorem dX4_poseOf_10 : decode cX4_poseOf 10 = .ok (.if_icmp .ge 12, 3) := by decide +kernel
theorem dX4_poseOf_13 : decode cX4_poseOf 13 = .ok (.aload_n 0, 1) := by decide +kernel
theorem dX4_poseOf_14 : decode cX4_poseOf 14 = .ok (.getfield 9, 3) := by decide +kernel
theorem dX4_poseOf_17 : decode cX4_poseOf 17 = .ok (.iload_n 1, 1) := by decide +kernel
theorem dX4_poseOf_18 : decode cX4_poseOf 18 = .ok (.iaload, 1) := by decide +kernel
theorem dX4_poseOf_19 : decode cX4_poseOf 19 = .ok (.goto 4, 3) := by decide +kernel
theorem dX4_poseOf_22 : decode cX4_poseOf 22 = .ok (.iconst 1, 1) := by decide +kernel
theorem dX4_poseOf_23 : decode cX4_poseOf 23 = .ok (.ireturn, 1) := by decide +kernel
theorem dX4_takePose_0 : decode cX4_takePose 0 = .ok (.iload_n 1, 1) := by decide +kernel
theorem dX4_takePose_1 : decode cX4_takePose 1 = .ok (.ifCond .lt 19, 3) := by decide +kernel
theorem dX4_takePose_4 : decode cX4_takePose 4 = .ok (.iload_n 1, 1) := by decide +kernel
theorem dX4_takePose_5 : decode cX4_takePose 5 = .ok (.aload_n 0, 1) := by decide +kernel
theorem dX4_takePose_6 : decode cX4_takePose 6 = .ok (.getfield 9, 3) := by decide +kernel
theorem dX4_takePose_9 : decode cX4_takePose 9 = .ok (.arraylength, 1) := by decide +kernel
theorem dX4_takePose_10 : decode cX4_takePose 10 = .ok (.if_icmp .ge 10, 3) := by decide +kernel
theorem dX4_takePose_13 : decode cX4_takePose 13 = .ok (.aload_n 0, 1) := by decide +kernel
theorem dX4_takePose_14 : decode cX4_takePose 14 = .ok (.getfield 9, 3) := by decide +kernel
theorem dX4_takePose_17 : decode cX4_takePose 17 = .ok (.iload_n 1, 1) := by decide +kernel
theorem dX4_takePose_18 : decode cX4_takePose 18 = .ok (.iload_n 2, 1) := by decide +kernel
theorem dX4_takePose_19 : decode cX4_takePose 19 = .ok (.iastore, 1) := by decide +kernel
theorem dX4_takePose_20 : decode cX4_takePose 20 = .ok (.return_, 1) := by decide +kernel
theorem dX4_stepsAt_0 : decode cX4_stepsAt 0 = .ok (.iload_n 1, 1) := by decide +kernel
theorem dX4_stepsAt_1 : decode cX4_stepsAt 1 = .ok (.ifCond .lt 21, 3) := by decide +kernel
theorem dX4_stepsAt_4 : decode cX4_stepsAt 4 = .ok (.iload_n 1, 1) := by decide +kernel
theorem dX4_stepsAt_5 : decode cX4_stepsAt 5 = .ok (.aload_n 0, 1) := by decide +kernel
theorem dX4_stepsAt_6 : decode cX4_stepsAt 6 = .ok (.getfield 15, 3) := by decide +kernel
theorem dX4_stepsAt_9 : decode cX4_stepsAt 9 = .ok (.arraylength, 1) := by decide +kernel
theorem dX4_stepsAt_10 : decode cX4_stepsAt 10 = .ok (.if_icmp .ge 12, 3) := by decide +kernel
theorem dX4_stepsAt_13 : decode cX4_stepsAt 13 = .ok (.aload_n 0, 1) := by decide +kernel
theorem dX4_stepsAt_14 : decode cX4_stepsAt 14 = .ok (.getfield 15, 3) := by decide +kernel
theorem dX4_stepsAt_17 : decode cX4_stepsAt 17 = .ok (.iload_n 1, 1) := by decide +kernel
theorem dX4_stepsAt_18 : decode cX4_stepsAt 18 = .ok (.iaload, 1) := by decide +kernel
theorem dX4_stepsAt_19 : decode cX4_stepsAt 19 = .ok (.goto 4, 3) := by decide +kernel
theorem dX4_stepsAt_22 : decode cX4_stepsAt 22 = .ok (.iconst 0, 1) := by decide +kernel
theorem dX4_stepsAt_23 : decode cX4_stepsAt 23 = .ok (.ireturn, 1) := by decide +kernel
theorem dX4_takeSteps_0 : decode cX4_takeSteps 0 = .ok (.iload_n 1, 1) := by decide +kernel
theorem dX4_takeSteps_1 : decode cX4_takeSteps 1 = .ok (.ifCond .lt 19, 3) := by decide +kernel
theorem dX4_takeSteps_4 : decode cX4_takeSteps 4 = .ok (.iload_n 1, 1) := by decide +kernel
theorem dX4_takeSteps_5 : decode cX4_takeSteps 5 = .ok (.aload_n 0, 1) := by decide +kernel
theorem dX4_takeSteps_6 : decode cX4_takeSteps 6 = .ok (.getfield 15, 3) := by decide +kernel
theorem dX4_takeSteps_9 : decode cX4_takeSteps 9 = .ok (.arraylength, 1) := by decide +kernel
theorem dX4_takeSteps_10 : decode cX4_takeSteps 10 = .ok (.if_icmp .ge 10, 3) := by decide +kernel
theorem dX4_takeSteps_13 : decode cX4_takeSteps 13 = .ok (.aload_n 0, 1) := by decide +kernel
theorem dX4_takeSteps_14 : decode cX4_takeSteps 14 = .ok (.getfield 15, 3) := by decide +kernel
theorem dX4_takeSteps_17 : decode cX4_takeSteps 17 = .ok (.iload_n 1, 1) := by decide +kernel
theorem dX4_takeSteps_18 : decode cX4_takeSteps 18 = .ok (.iload_n 2, 1) := by decide +kernel
theorem dX4_takeSteps_19 : decode cX4_takeSteps 19 = .ok (.iastore, 1) := by decide +kernel
theorem dX4_takeSteps_20 : decode cX4_takeSteps 20 = .ok (.return_, 1) := by decide +kernel
theorem dX4_isStraight_0 : decode cX4_isStraight 0 = .ok (.iconst 0, 1) := by decide +kernel
theorem dX4_isStraight_1 : decode cX4_isStraight 1 = .ok (.istore_n 1, 1) := by decide +kernel
theorem dX4_isStraight_2 : decode cX4_isStraight 2 = .ok (.iload_n 1, 1) := by decide +kernel
theorem dX4_isStraight_3 : decode cX4_isStraight 3 = .ok (.aload_n 0, 1) := by decide +kernel
theorem dX4_isStraight_4 : decode cX4_isStraight 4 = .ok (.getfield 15, 3) := by decide +kernel
theorem dX4_isStraight_7 : decode cX4_isStraight 7 = .ok (.arraylength, 1) := by decide +kernel
theorem dX4_isStraight_8 : decode cX4_isStraight 8 = .ok (.if_icmp .ge 31, 3) := by decide +kernel
theorem dX4_isStraight_11 : decode cX4_isStraight 11 = .ok (.iload_n 1, 1) := by decide +kernel
theorem dX4_isStraight_12 : decode cX4_isStraight 12 = .ok (.aload_n 0, 1) := by decide +kernel
theorem dX4_isStraight_13 : decode cX4_isStraight 13 = .ok (.getfield 18, 3) := by decide +kernel
theorem dX4_isStraight_16 : decode cX4_isStraight 16 = .ok (.getfield 32, 3) := by decide +kernel
theorem dX4_isStraight_19 : decode cX4_isStraight 19 = .ok (.if_icmp .ge 20, 3) := by decide +kernel
theorem dX4_isStraight_22 : decode cX4_isStraight 22 = .ok (.aload_n 0, 1) := by decide +kernel
theorem dX4_isStraight_23 : decode cX4_isStraight 23 = .ok (.getfield 15, 3) := by decide +kernel
theorem dX4_isStraight_26 : decode cX4_isStraight 26 = .ok (.iload_n 1, 1) := by decide +kernel
theorem dX4_isStraight_27 : decode cX4_isStraight 27 = .ok (.iaload, 1) := by decide +kernel
theorem dX4_isStraight_28 : decode cX4_isStraight 28 = .ok (.ifCond .eq 5, 3) := by decide +kernel
theorem dX4_isStraight_31 : decode cX4_isStraight 31 = .ok (.iconst 0, 1) := by decide +kernel
theorem dX4_isStraight_32 : decode cX4_isStraight 32 = .ok (.ireturn, 1) := by decide +kernel
theorem dX4_isStraight_33 : decode cX4_isStraight 33 = .ok (.iinc 1 1, 3) := by decide +kernel
theorem dX4_isStraight_36 : decode cX4_isStraight 36 = .ok (.goto (-34), 3) := by decide +kernel
theorem dX4_isStraight_39 : decode cX4_isStraight 39 = .ok (.iconst 1, 1) := by decide +kernel
theorem dX4_isStraight_40 : decode cX4_isStraight 40 = .ok (.ireturn, 1) := by decide +kernel
theorem dX4_isAtRest_0 : decode cX4_isAtRest 0 = .ok (.iconst 0, 1) := by decide +kernel
theorem dX4_isAtRest_1 : decode cX4_isAtRest 1 = .ok (.istore_n 1, 1) := by decide +kernel
theorem dX4_isAtRest_2 : decode cX4_isAtRest 2 = .ok (.iload_n 1, 1) := by decide +kernel
theorem dX4_isAtRest_3 : decode cX4_isAtRest 3 = .ok (.aload_n 0, 1) := by decide +kernel
theorem dX4_isAtRest_4 : decode cX4_isAtRest 4 = .ok (.getfield 9, 3) := by decide +kernel
theorem dX4_isAtRest_7 : decode cX4_isAtRest 7 = .ok (.arraylength, 1) := by decide +kernel
theorem dX4_isAtRest_8 : decode cX4_isAtRest 8 = .ok (.if_icmp .ge 32, 3) := by decide +kernel
theorem dX4_isAtRest_11 : decode cX4_isAtRest 11 = .ok (.iload_n 1, 1) := by decide +kernel
theorem dX4_isAtRest_12 : decode cX4_isAtRest 12 = .ok (.aload_n 0, 1) := by decide +kernel
theorem dX4_isAtRest_13 : decode cX4_isAtRest 13 = .ok (.getfield 18, 3) := by decide +kernel
theorem dX4_isAtRest_16 : decode cX4_isAtRest 16 = .ok (.getfield 37, 3) := by decide +kernel
theorem dX4_isAtRest_19 : decode cX4_isAtRest 19 = .ok (.if_icmp .ge 21, 3) := by decide +kernel
theorem dX4_isAtRest_22 : decode cX4_isAtRest 22 = .ok (.aload_n 0, 1) := by decide +kernel
theorem dX4_isAtRest_23 : decode cX4_isAtRest 23 = .ok (.getfield 9, 3) := by decide +kernel
theorem dX4_isAtRest_26 : decode cX4_isAtRest 26 = .ok (.iload_n 1, 1) := by decide +kernel
theorem dX4_isAtRest_27 : decode cX4_isAtRest 27 = .ok (.iaload, 1) := by decide +kernel
theorem dX4_isAtRest_28 : decode cX4_isAtRest 28 = .ok (.iconst 1, 1) := by decide +kernel
theorem dX4_isAtRest_29 : decode cX4_isAtRest 29 = .ok (.if_icmp .eq 5, 3) := by decide +kernel
theorem dX4_isAtRest_32 : decode cX4_isAtRest 32 = .ok (.iconst 0, 1) := by decide +kernel
theorem dX4_isAtRest_33 : decode cX4_isAtRest 33 = .ok (.ireturn, 1) := by decide +kernel
theorem dX4_isAtRest_34 : decode cX4_isAtRest 34 = .ok (.iinc 1 1, 3) := by decide +kernel
theorem dX4_isAtRest_37 : decode cX4_isAtRest 37 = .ok (.goto (-35), 3) := by decide +kernel
theorem dX4_isAtRest_40 : decode cX4_isAtRest 40 = .ok (.aload_n 0, 1) := by decide +kernel
theorem dX4_isAtRest_41 : decode cX4_isAtRest 41 = .ok (.invokevirtual 40, 3) := by decide +kernel
theorem dX4_isAtRest_44 : decode cX4_isAtRest 44 = .ok (.ireturn, 1) := by decide +kernel
theorem dX4_loadFrom_0 : decode cX4_loadFrom 0 = .ok (.iconst 0, 1) := by decide +kernel
theorem dX4_loadFrom_1 : decode cX4_loadFrom 1 = .ok (.istore_n 2, 1) := by decide +kernel
theorem dX4_loadFrom_2 : decode cX4_loadFrom 2 = .ok (.iload_n 1, 1) := by decide +kernel
theorem dX4_loadFrom_3 : decode cX4_loadFrom 3 = .ok (.iconst 0, 1) := by decide +kernel
theorem dX4_loadFrom_4 : decode cX4_loadFrom 4 = .ok (.invokestatic 44, 3) := by decide +kernel
theorem dX4_loadFrom_7 : decode cX4_loadFrom 7 = .ok (.istore_n 3, 1) := by decide +kernel
theorem dX4_loadFrom_8 : decode cX4_loadFrom 8 = .ok (.iload_n 3, 1) := by decide +kernel
theorem dX4_loadFrom_9 : decode cX4_loadFrom 9 = .ok (.aload_n 0, 1) := by decide +kernel
theorem dX4_loadFrom_10 : decode cX4_loadFrom 10 = .ok (.getfield 9, 3) := by decide +kernel
theorem dX4_loadFrom_13 : decode cX4_loadFrom 13 = .ok (.arraylength, 1) := by decide +kernel
theorem dX4_loadFrom_14 : decode cX4_loadFrom 14 = .ok (.if_icmp .ge 37, 3) := by decide +kernel
theorem dX4_loadFrom_17 : decode cX4_loadFrom 17 = .ok (.iload_n 3, 1) := by decide +kernel
theorem dX4_loadFrom_18 : decode cX4_loadFrom 18 = .ok (.aload_n 0, 1) := by decide +kernel
theorem dX4_loadFrom_19 : decode cX4_loadFrom 19 = .ok (.getfield 18, 3) := by decide +kernel
theorem dX4_loadFrom_22 : decode cX4_loadFrom 22 = .ok (.getfield 37, 3) := by decide +kernel
theorem dX4_loadFrom_25 : decode cX4_loadFrom 25 = .ok (.if_icmp .ge 26, 3) := by decide +kernel
theorem dX4_loadFrom_28 : decode cX4_loadFrom 28 = .ok (.iload_n 2, 1) := by decide +kernel
theorem dX4_loadFrom_29 : decode cX4_loadFrom 29 = .ok (.aload_n 0, 1) := by decide +kernel
theorem dX4_loadFrom_30 : decode cX4_loadFrom 30 = .ok (.getfield 18, 3) := by decide +kernel
theorem dX4_loadFrom_33 : decode cX4_loadFrom 33 = .ok (.iload_n 3, 1) := by decide +kernel
theorem dX4_loadFrom_34 : decode cX4_loadFrom 34 = .ok (.aload_n 0, 1) := by decide +kernel
theorem dX4_loadFrom_35 : decode cX4_loadFrom 35 = .ok (.getfield 9, 3) := by decide +kernel
theorem dX4_loadFrom_38 : decode cX4_loadFrom 38 = .ok (.iload_n 3, 1) := by decide +kernel
theorem dX4_loadFrom_39 : decode cX4_loadFrom 39 = .ok (.iaload, 1) := by decide +kernel
theorem dX4_loadFrom_40 : decode cX4_loadFrom 40 = .ok (.invokevirtual 50, 3) := by decide +kernel
theorem dX4_loadFrom_43 : decode cX4_loadFrom 43 = .ok (.iadd, 1) := by decide +kernel
theorem dX4_loadFrom_44 : decode cX4_loadFrom 44 = .ok (.istore_n 2, 1) := by decide +kernel
theorem dX4_loadFrom_45 : decode cX4_loadFrom 45 = .ok (.iinc 3 1, 3) := by decide +kernel
theorem dX4_loadFrom_48 : decode cX4_loadFrom 48 = .ok (.goto (-40), 3) := by decide +kernel
theorem dX4_loadFrom_51 : decode cX4_loadFrom 51 = .ok (.iload_n 2, 1) := by decide +kernel
theorem dX4_loadFrom_52 : decode cX4_loadFrom 52 = .ok (.ireturn, 1) := by decide +kernel
theorem dX4_bentTo_0 : decode cX4_bentTo 0 = .ok (.iconst 0, 1) := by decide +kernel
theorem dX4_bentTo_1 : decode cX4_bentTo 1 = .ok (.istore_n 2, 1) := by decide +kernel
theorem dX4_bentTo_2 : decode cX4_bentTo 2 = .ok (.iconst 0, 1) := by decide +kernel
theorem dX4_bentTo_3 : decode cX4_bentTo 3 = .ok (.istore_n 3, 1) := by decide +kernel
theorem dX4_bentTo_4 : decode cX4_bentTo 4 = .ok (.iload_n 3, 1) := by decide +kernel
theorem dX4_bentTo_5 : decode cX4_bentTo 5 = .ok (.aload_n 0, 1) := by decide +kernel
theorem dX4_bentTo_6 : decode cX4_bentTo 6 = .ok (.getfield 15, 3) := by decide +kernel
theorem dX4_bentTo_9 : decode cX4_bentTo 9 = .ok (.arraylength, 1) := by decide +kernel
theorem dX4_bentTo_10 : decode cX4_bentTo 10 = .ok (.if_icmp .ge 43, 3) := by decide +kernel
theorem dX4_bentTo_13 : decode cX4_bentTo 13 = .ok (.iload_n 3, 1) := by decide +kernel
theorem dX4_bentTo_14 : decode cX4_bentTo 14 = .ok (.aload_n 0, 1) := by decide +kernel
theorem dX4_bentTo_15 : decode cX4_bentTo 15 = .ok (.getfield 18, 3) := by decide +kernel
theorem dX4_bentTo_18 : decode cX4_bentTo 18 = .ok (.getfield 32, 3) := by decide +kernel
theorem dX4_bentTo_21 : decode cX4_bentTo 21 = .ok (.if_icmp .ge 32, 3) := by decide +kernel
theorem dX4_bentTo_24 : decode cX4_bentTo 24 = .ok (.iload_n 3, 1) := by decide +kernel
theorem dX4_bentTo_25 : decode cX4_bentTo 25 = .ok (.iload_n 1, 1) := by decide +kernel
theorem dX4_bentTo_26 : decode cX4_bentTo 26 = .ok (.if_icmp .ge 27, 3) := by decide +kernel
theorem dX4_bentTo_29 : decode cX4_bentTo 29 = .ok (.iload_n 2, 1) := by decide +kernel
theorem dX4_bentTo_30 : decode cX4_bentTo 30 = .ok (.aload_n 0, 1) := by decide +kernel
theorem dX4_bentTo_31 : decode cX4_bentTo 31 = .ok (.getfield 18, 3) := by decide +kernel
theorem dX4_bentTo_34 : decode cX4_bentTo 34 = .ok (.iload_n 3, 1) := by decide +kernel
theorem dX4_bentTo_35 : decode cX4_bentTo 35 = .ok (.invokevirtual 53, 3) := by decide +kernel
theorem dX4_bentTo_38 : decode cX4_bentTo 38 = .ok (.aload_n 0, 1) := by decide +kernel
theorem dX4_bentTo_39 : decode cX4_bentTo 39 = .ok (.getfield 15, 3) := by decide +kernel
theorem dX4_bentTo_42 : decode cX4_bentTo 42 = .ok (.iload_n 3, 1) := by decide +kernel
theorem dX4_bentTo_43 : decode cX4_bentTo 43 = .ok (.iaload, 1) := by decide +kernel
theorem dX4_bentTo_44 : decode cX4_bentTo 44 = .ok (.imul, 1) := by decide +kernel
theorem dX4_bentTo_45 : decode cX4_bentTo 45 = .ok (.iadd, 1) := by decide +kernel
theorem dX4_bentTo_46 : decode cX4_bentTo 46 = .ok (.istore_n 2, 1) := by decide +kernel
theorem dX4_bentTo_47 : decode cX4_bentTo 47 = .ok (.iinc 3 1, 3) := by decide +kernel
theorem dX4_bentTo_50 : decode cX4_bentTo 50 = .ok (.goto (-46), 3) := by decide +kernel
theorem dX4_bentTo_53 : decode cX4_bentTo 53 = .ok (.iload_n 2, 1) := by decide +kernel
theorem dX4_bentTo_54 : decode cX4_bentTo 54 = .ok (.ireturn, 1) := by decide +kernel
theorem dX4_lastTurn_0 : decode cX4_lastTurn 0 = .ok (.aload_n 0, 1) := by decide +kernel
theorem dX4_lastTurn_1 : decode cX4_lastTurn 1 = .ok (.getfield 28, 3) := by decide +kernel
theorem dX4_lastTurn_4 : decode cX4_lastTurn 4 = .ok (.ifCond .ne 7, 3) := by decide +kernel
theorem dX4_lastTurn_7 : decode cX4_lastTurn 7 = .ok (.iconst 0, 1) := by decide +kernel
theorem dX4_lastTurn_8 : decode cX4_lastTurn 8 = .ok (.goto 27, 3) := by decide +kernel
theorem dX4_lastTurn_11 : decode cX4_lastTurn 11 = .ok (.aload_n 0, 1) := by decide +kernel
theorem dX4_lastTurn_12 : decode cX4_lastTurn 12 = .ok (.getfield 28, 3) := by decide +kernel
theorem dX4_lastTurn_15 : decode cX4_lastTurn 15 = .ok (.aload_n 0, 1) := by decide +kernel
theorem dX4_lastTurn_16 : decode cX4_lastTurn 16 = .ok (.aload_n 0, 1) := by decide +kernel
theorem dX4_lastTurn_17 : decode cX4_lastTurn 17 = .ok (.getfield 57, 3) := by decide +kernel
theorem dX4_lastTurn_20 : decode cX4_lastTurn 20 = .ok (.iconst 1, 1) := by decide +kernel
theorem dX4_lastTurn_21 : decode cX4_lastTurn 21 = .ok (.iadd, 1) := by decide +kernel
theorem dX4_lastTurn_22 : decode cX4_lastTurn 22 = .ok (.invokevirtual 60, 3) := by decide +kernel
theorem dX4_lastTurn_25 : decode cX4_lastTurn 25 = .ok (.imul, 1) := by decide +kernel
theorem dX4_lastTurn_26 : decode cX4_lastTurn 26 = .ok (.aload_n 0, 1) := by decide +kernel
theorem dX4_lastTurn_27 : decode cX4_lastTurn 27 = .ok (.iconst 0, 1) := by decide +kernel
theorem dX4_lastTurn_28 : decode cX4_lastTurn 28 = .ok (.invokevirtual 60, 3) := by decide +kernel
theorem dX4_lastTurn_31 : decode cX4_lastTurn 31 = .ok (.invokestatic 63, 3) := by decide +kernel
theorem dX4_lastTurn_34 : decode cX4_lastTurn 34 = .ok (.ineg, 1) := by decide +kernel
theorem dX4_lastTurn_35 : decode cX4_lastTurn 35 = .ok (.ireturn, 1) := by decide +kernel
theorem dX4_makes_0 : decode cX4_makes 0 = .ok (.iload_n 1, 1) := by decide +kernel
theorem dX4_makes_1 : decode cX4_makes 1 = .ok (.ifCond .lt 9, 3) := by decide +kernel
theorem dX4_makes_4 : decode cX4_makes 4 = .ok (.iload_n 1, 1) := by decide +kernel
theorem dX4_makes_5 : decode cX4_makes 5 = .ok (.bipush 18, 2) := by decide +kernel
theorem dX4_makes_7 : decode cX4_makes 7 = .ok (.if_icmp .le 5, 3) := by decide +kernel
theorem dX4_makes_10 : decode cX4_makes 10 = .ok (.iconst 0, 1) := by decide +kernel
theorem dX4_makes_11 : decode cX4_makes 11 = .ok (.ireturn, 1) := by decide +kernel
theorem dX4_makes_12 : decode cX4_makes 12 = .ok (.iload_n 1, 1) := by decide +kernel
theorem dX4_makes_13 : decode cX4_makes 13 = .ok (.bipush 10, 2) := by decide +kernel
theorem dX4_makes_15 : decode cX4_makes 15 = .ok (.if_icmp .lt 20, 3) := by decide +kernel
theorem dX4_makes_18 : decode cX4_makes 18 = .ok (.aload_n 0, 1) := by decide +kernel
theorem dX4_makes_19 : decode cX4_makes 19 = .ok (.iload_n 1, 1) := by decide +kernel
theorem dX4_makes_20 : decode cX4_makes 20 = .ok (.bipush 10, 2) := by decide +kernel
theorem dX4_makes_22 : decode cX4_makes 22 = .ok (.isub, 1) := by decide +kernel
theorem dX4_makes_23 : decode cX4_makes 23 = .ok (.iconst 3, 1) := by decide +kernel
theorem dX4_makes_24 : decode cX4_makes 24 = .ok (.idiv, 1) := by decide +kernel
theorem dX4_makes_25 : decode cX4_makes 25 = .ok (.iload_n 1, 1) := by decide +kernel
theorem dX4_makes_26 : decode cX4_makes 26 = .ok (.bipush 10, 2) := by decide +kernel
theorem dX4_makes_28 : decode cX4_makes 28 = .ok (.isub, 1) := by decide +kernel
theorem dX4_makes_29 : decode cX4_makes 29 = .ok (.iconst 3, 1) := by decide +kernel
theorem dX4_makes_30 : decode cX4_makes 30 = .ok (.irem, 1) := by decide +kernel
theorem dX4_makes_31 : decode cX4_makes 31 = .ok (.invokevirtual 66, 3) := by decide +kernel
theorem dX4_makes_34 : decode cX4_makes 34 = .ok (.ireturn, 1) := by decide +kernel
theorem dX4_makes_35 : decode cX4_makes 35 = .ok (.iload_n 1, 1) := by decide +kernel
theorem dX4_makes_36 : decode cX4_makes 36 = .ok (.ifCond .le 25, 3) := by decide +kernel
theorem dX4_makes_39 : decode cX4_makes 39 = .ok (.aload_n 0, 1) := by decide +kernel
theorem dX4_makes_40 : decode cX4_makes 40 = .ok (.iload_n 1, 1) := by decide +kernel
theorem dX4_makes_41 : decode cX4_makes 41 = .ok (.iconst 1, 1) := by decide +kernel
theorem dX4_makes_42 : decode cX4_makes 42 = .ok (.isub, 1) := by decide +kernel
theorem dX4_makes_43 : decode cX4_makes 43 = .ok (.iconst 2, 1) := by decide +kernel
theorem dX4_makes_44 : decode cX4_makes 44 = .ok (.idiv, 1) := by decide +kernel
theorem dX4_makes_45 : decode cX4_makes 45 = .ok (.iload_n 1, 1) := by decide +kernel
theorem dX4_makes_46 : decode cX4_makes 46 = .ok (.iconst 2, 1) := by decide +kernel
theorem dX4_makes_47 : decode cX4_makes 47 = .ok (.irem, 1) := by decide +kernel
theorem dX4_makes_48 : decode cX4_makes 48 = .ok (.iconst 1, 1) := by decide +kernel
theorem dX4_makes_49 : decode cX4_makes 49 = .ok (.if_icmp .ne 7, 3) := by decide +kernel
theorem dX4_makes_52 : decode cX4_makes 52 = .ok (.iconst 1, 1) := by decide +kernel
theorem dX4_makes_53 : decode cX4_makes 53 = .ok (.goto 4, 3) := by decide +kernel
theorem dX4_makes_56 : decode cX4_makes 56 = .ok (.iconst (-1), 1) := by decide +kernel
theorem dX4_makes_57 : decode cX4_makes 57 = .ok (.invokevirtual 70, 3) := by decide +kernel
theorem dX4_makes_60 : decode cX4_makes 60 = .ok (.ireturn, 1) := by decide +kernel
theorem dX4_makes_61 : decode cX4_makes 61 = .ok (.aload_n 0, 1) := by decide +kernel
theorem dX4_makes_62 : decode cX4_makes 62 = .ok (.iconst 0, 1) := by decide +kernel
theorem dX4_makes_63 : decode cX4_makes 63 = .ok (.putfield 28, 3) := by decide +kernel
theorem dX4_makes_66 : decode cX4_makes 66 = .ok (.iconst 1, 1) := by decide +kernel
theorem dX4_makes_67 : decode cX4_makes 67 = .ok (.ireturn, 1) := by decide +kernel
theorem dX4_makesPose_0 : decode cX4_makesPose 0 = .ok (.iload_n 1, 1) := by decide +kernel
theorem dX4_makesPose_1 : decode cX4_makesPose 1 = .ok (.ifCond .lt 33, 3) := by decide +kernel
theorem dX4_makesPose_4 : decode cX4_makesPose 4 = .ok (.iload_n 1, 1) := by decide +kernel
theorem dX4_makesPose_5 : decode cX4_makesPose 5 = .ok (.aload_n 0, 1) := by decide +kernel
theorem dX4_makesPose_6 : decode cX4_makesPose 6 = .ok (.getfield 9, 3) := by decide +kernel
theorem dX4_makesPose_9 : decode cX4_makesPose 9 = .ok (.arraylength, 1) := by decide +kernel
theorem dX4_makesPose_10 : decode cX4_makesPose 10 = .ok (.if_icmp .ge 24, 3) := by decide +kernel
theorem dX4_makesPose_13 : decode cX4_makesPose 13 = .ok (.iload_n 1, 1) := by decide +kernel
theorem dX4_makesPose_14 : decode cX4_makesPose 14 = .ok (.aload_n 0, 1) := by decide +kernel
theorem dX4_makesPose_15 : decode cX4_makesPose 15 = .ok (.getfield 18, 3) := by decide +kernel
theorem dX4_makesPose_18 : decode cX4_makesPose 18 = .ok (.getfield 37, 3) := by decide +kernel
theorem dX4_makesPose_21 : decode cX4_makesPose 21 = .ok (.if_icmp .ge 13, 3) := by decide +kernel
theorem dX4_makesPose_24 : decode cX4_makesPose 24 = .ok (.aload_n 0, 1) := by decide +kernel
theorem dX4_makesPose_25 : decode cX4_makesPose 25 = .ok (.getfield 9, 3) := by decide +kernel
theorem dX4_makesPose_28 : decode cX4_makesPose 28 = .ok (.iload_n 1, 1) := by decide +kernel
theorem dX4_makesPose_29 : decode cX4_makesPose 29 = .ok (.iaload, 1) := by decide +kernel
theorem dX4_makesPose_30 : decode cX4_makesPose 30 = .ok (.iload_n 2, 1) := by decide +kernel
theorem dX4_makesPose_31 : decode cX4_makesPose 31 = .ok (.if_icmp .ne 5, 3) := by decide +kernel
theorem dX4_makesPose_34 : decode cX4_makesPose 34 = .ok (.iconst 0, 1) := by decide +kernel
theorem dX4_makesPose_35 : decode cX4_makesPose 35 = .ok (.ireturn, 1) := by decide +kernel
theorem dX4_makesPose_36 : decode cX4_makesPose 36 = .ok (.aload_n 0, 1) := by decide +kernel
theorem dX4_makesPose_37 : decode cX4_makesPose 37 = .ok (.getfield 9, 3) := by decide +kernel
theorem dX4_makesPose_40 : decode cX4_makesPose 40 = .ok (.iload_n 1, 1) := by decide +kernel
theorem dX4_makesPose_41 : decode cX4_makesPose 41 = .ok (.iload_n 2, 1) := by decide +kernel
theorem dX4_makesPose_42 : decode cX4_makesPose 42 = .ok (.iastore, 1) := by decide +kernel
theorem dX4_makesPose_43 : decode cX4_makesPose 43 = .ok (.aload_n 0, 1) := by decide +kernel
theorem dX4_makesPose_44 : decode cX4_makesPose 44 = .ok (.iconst 0, 1) := by decide +kernel
theorem dX4_makesPose_45 : decode cX4_makesPose 45 = .ok (.putfield 28, 3) := by decide +kernel
theorem dX4_makesPose_48 : decode cX4_makesPose 48 = .ok (.iconst 1, 1) := by decide +kernel
theorem dX4_makesPose_49 : decode cX4_makesPose 49 = .ok (.ireturn, 1) := by decide +kernel
theorem dX4_makesStep_0 : decode cX4_makesStep 0 = .ok (.iload_n 1, 1) := by decide +kernel
theorem dX4_makesStep_1 : decode cX4_makesStep 1 = .ok (.ifCond .lt 23, 3) := by decide +kernel
theorem dX4_makesStep_4 : decode cX4_makesStep 4 = .ok (.iload_n 1, 1) := by decide +kernel
theorem dX4_makesStep_5 : decode cX4_makesStep 5 = .ok (.aload_n 0, 1) := by decide +kernel
theorem dX4_makesStep_6 : decode cX4_makesStep 6 = .ok (.getfield 15, 3) := by decide +kernel
theorem dX4_makesStep_9 : decode cX4_makesStep 9 = .ok (.arraylength, 1) := by decide +kernel
theorem dX4_makesStep_10 : decode cX4_makesStep 10 = .ok (.if_icmp .ge 14, 3) := by decide +kernel
theorem dX4_makesStep_13 : decode cX4_makesStep 13 = .ok (.iload_n 1, 1) := by decide +kernel
theorem dX4_makesStep_14 : decode cX4_makesStep 14 = .ok (.aload_n 0, 1) := by decide +kernel
theorem dX4_makesStep_15 : decode cX4_makesStep 15 = .ok (.getfield 18, 3) := by decide +kernel
theorem dX4_makesStep_18 : decode cX4_makesStep 18 = .ok (.getfield 32, 3) := by decide +kernel
theorem dX4_makesStep_21 : decode cX4_makesStep 21 = .ok (.if_icmp .lt 5, 3) := by decide +kernel
theorem dX4_makesStep_24 : decode cX4_makesStep 24 = .ok (.iconst 0, 1) := by decide +kernel
theorem dX4_makesStep_25 : decode cX4_makesStep 25 = .ok (.ireturn, 1) := by decide +kernel
theorem dX4_makesStep_26 : decode cX4_makesStep 26 = .ok (.aload_n 0, 1) := by decide +kernel
theorem dX4_makesStep_27 : decode cX4_makesStep 27 = .ok (.getfield 15, 3) := by decide +kernel
theorem dX4_makesStep_30 : decode cX4_makesStep 30 = .ok (.iload_n 1, 1) := by decide +kernel
theorem dX4_makesStep_31 : decode cX4_makesStep 31 = .ok (.iaload, 1) := by decide +kernel
theorem dX4_makesStep_32 : decode cX4_makesStep 32 = .ok (.iload_n 2, 1) := by decide +kernel
theorem dX4_makesStep_33 : decode cX4_makesStep 33 = .ok (.iadd, 1) := by decide +kernel
theorem dX4_makesStep_34 : decode cX4_makesStep 34 = .ok (.istore_n 3, 1) := by decide +kernel
theorem dX4_makesStep_35 : decode cX4_makesStep 35 = .ok (.aload_n 0, 1) := by decide +kernel
theorem dX4_makesStep_36 : decode cX4_makesStep 36 = .ok (.getfield 18, 3) := by decide +kernel
theorem dX4_makesStep_39 : decode cX4_makesStep 39 = .ok (.iload_n 1, 1) := by decide +kernel
theorem dX4_makesStep_40 : decode cX4_makesStep 40 = .ok (.invokevirtual 73, 3) := by decide +kernel
theorem dX4_makesStep_43 : decode cX4_makesStep 43 = .ok (.ifCond .eq 22, 3) := by decide +kernel
theorem dX4_makesStep_46 : decode cX4_makesStep 46 = .ok (.iload_n 3, 1) := by decide +kernel
theorem dX4_makesStep_47 : decode cX4_makesStep 47 = .ok (.aload_n 0, 1) := by decide +kernel
theorem dX4_makesStep_48 : decode cX4_makesStep 48 = .ok (.getfield 18, 3) := by decide +kernel
theorem dX4_makesStep_51 : decode cX4_makesStep 51 = .ok (.getfield 77, 3) := by decide +kernel
theorem dX4_makesStep_54 : decode cX4_makesStep 54 = .ok (.iconst 1, 1) := by decide +kernel
theorem dX4_makesStep_55 : decode cX4_makesStep 55 = .ok (.invokestatic 44, 3) := by decide +kernel
theorem dX4_makesStep_58 : decode cX4_makesStep 58 = .ok (.invokestatic 80, 3) := by decide +kernel
theorem dX4_makesStep_61 : decode cX4_makesStep 61 = .ok (.istore_n 3, 1) := by decide +kernel
theorem dX4_makesStep_62 : decode cX4_makesStep 62 = .ok (.goto 15, 3) := by decide +kernel
theorem dX4_makesStep_65 : decode cX4_makesStep 65 = .ok (.iload_n 3, 1) := by decide +kernel
theorem dX4_makesStep_66 : decode cX4_makesStep 66 = .ok (.bipush (-2), 2) := by decide +kernel
theorem dX4_makesStep_68 : decode cX4_makesStep 68 = .ok (.iconst 2, 1) := by decide +kernel
theorem dX4_makesStep_69 : decode cX4_makesStep 69 = .ok (.invokestatic 83, 3) := by decide +kernel
theorem dX4_makesStep_72 : decode cX4_makesStep 72 = .ok (.ifCond .ne 5, 3) := by decide +kernel
theorem dX4_makesStep_75 : decode cX4_makesStep 75 = .ok (.iconst 0, 1) := by decide +kernel
theorem dX4_makesStep_76 : decode cX4_makesStep 76 = .ok (.ireturn, 1) := by decide +kernel
theorem dX4_makesStep_77 : decode cX4_makesStep 77 = .ok (.aload_n 0, 1) := by decide +kernel
theorem dX4_makesStep_78 : decode cX4_makesStep 78 = .ok (.getfield 15, 3) := by decide +kernel
theorem dX4_makesStep_81 : decode cX4_makesStep 81 = .ok (.iload_n 1, 1) := by decide +kernel
theorem dX4_makesStep_82 : decode cX4_makesStep 82 = .ok (.iload_n 3, 1) := by decide +kernel
theorem dX4_makesStep_83 : decode cX4_makesStep 83 = .ok (.iastore, 1) := by decide +kernel
theorem dX4_makesStep_84 : decode cX4_makesStep 84 = .ok (.aload_n 0, 1) := by decide +kernel
theorem dX4_makesStep_85 : decode cX4_makesStep 85 = .ok (.iload_n 1, 1) := by decide +kernel
theorem dX4_makesStep_86 : decode cX4_makesStep 86 = .ok (.putfield 57, 3) := by decide +kernel
theorem dX4_makesStep_89 : decode cX4_makesStep 89 = .ok (.aload_n 0, 1) := by decide +kernel
theorem dX4_makesStep_90 : decode cX4_makesStep 90 = .ok (.iload_n 2, 1) := by decide +kernel
theorem dX4_makesStep_91 : decode cX4_makesStep 91 = .ok (.aload_n 0, 1) := by decide +kernel
theorem dX4_makesStep_92 : decode cX4_makesStep 92 = .ok (.getfield 18, 3) := by decide +kernel
theorem dX4_makesStep_95 : decode cX4_makesStep 95 = .ok (.iload_n 1, 1) := by decide +kernel
theorem dX4_makesStep_96 : decode cX4_makesStep 96 = .ok (.invokevirtual 53, 3) := by decide +kernel
theorem dX4_makesStep_99 : decode cX4_makesStep 99 = .ok (.imul, 1) := by decide +kernel
theorem dX4_makesStep_100 : decode cX4_makesStep 100 = .ok (.putfield 28, 3) := by decide +kernel
theorem dX4_makesStep_103 : decode cX4_makesStep 103 = .ok (.iconst 1, 1) := by decide +kernel
theorem dX4_makesStep_104 : decode cX4_makesStep 104 = .ok (.ireturn, 1) := by decide +kernel
theorem dX5_init_0 : decode cX5_init 0 = .ok (.aload_n 0, 1) := by decide +kernel
theorem dX5_init_1 : decode cX5_init 1 = .ok (.invokespecial 3, 3) := by decide +kernel
theorem dX5_init_4 : decode cX5_init 4 = .ok (.aload_n 0, 1) := by decide +kernel
theorem dX5_init_5 : decode cX5_init 5 = .ok (.sipush 240, 3) := by decide +kernel
theorem dX5_init_8 : decode cX5_init 8 = .ok (.newarray .int, 2) := by decide +kernel
theorem dX5_init_10 : decode cX5_init 10 = .ok (.putfield 9, 3) := by decide +kernel
theorem dX5_init_13 : decode cX5_init 13 = .ok (.aload_n 0, 1) := by decide +kernel
theorem dX5_init_14 : decode cX5_init 14 = .ok (.iconst 4, 1) := by decide +kernel
theorem dX5_init_15 : decode cX5_init 15 = .ok (.newarray .int, 2) := by decide +kernel
theorem dX5_init_17 : decode cX5_init 17 = .ok (.putfield 15, 3) := by decide +kernel
theorem dX5_init_20 : decode cX5_init 20 = .ok (.aload_n 0, 1) := by decide +kernel
theorem dX5_init_21 : decode cX5_init 21 = .ok (.bipush 120, 2) := by decide +kernel
theorem dX5_init_23 : decode cX5_init 23 = .ok (.newarray .int, 2) := by decide +kernel
theorem dX5_init_25 : decode cX5_init 25 = .ok (.putfield 18, 3) := by decide +kernel
theorem dX5_init_28 : decode cX5_init 28 = .ok (.return_, 1) := by decide +kernel
theorem dX5_clear_0 : decode cX5_clear 0 = .ok (.aload_n 0, 1) := by decide +kernel
theorem dX5_clear_1 : decode cX5_clear 1 = .ok (.getfield 15, 3) := by decide +kernel
theorem dX5_clear_4 : decode cX5_clear 4 = .ok (.iconst 0, 1) := by decide +kernel
theorem dX5_clear_5 : decode cX5_clear 5 = .ok (.invokestatic 21, 3) := by decide +kernel
theorem dX5_clear_8 : decode cX5_clear 8 = .ok (.aload_n 0, 1) := by decide +kernel
theorem dX5_clear_9 : decode cX5_clear 9 = .ok (.iconst 0, 1) := by decide +kernel
theorem dX5_clear_10 : decode cX5_clear 10 = .ok (.putfield 27, 3) := by decide +kernel
theorem dX5_clear_13 : decode cX5_clear 13 = .ok (.return_, 1) := by decide +kernel
theorem dX5_copySheet_0 : decode cX5_copySheet 0 = .ok (.iconst 0, 1) := by decide +kernel
theorem dX5_copySheet_1 : decode cX5_copySheet 1 = .ok (.istore_n 2, 1) := by decide +kernel
theorem dX5_copySheet_2 : decode cX5_copySheet 2 = .ok (.iload_n 2, 1) := by decide +kernel
theorem dX5_copySheet_3 : decode cX5_copySheet 3 = .ok (.aload_n 0, 1) := by decide +kernel
theorem dX5_copySheet_4 : decode cX5_copySheet 4 = .ok (.getfield 9, 3) := by decide +kernel
theorem dX5_copySheet_7 : decode cX5_copySheet 7 = .ok (.arraylength, 1) := by decide +kernel
theorem dX5_copySheet_8 : decode cX5_copySheet 8 = .ok (.if_icmp .ge 30, 3) := by decide +kernel
theorem dX5_copySheet_11 : decode cX5_copySheet 11 = .ok (.iload_n 2, 1) := by decide +kernel
theorem dX5_copySheet_12 : decode cX5_copySheet 12 = .ok (.aload_n 1, 1) := by decide +kernel
theorem dX5_copySheet_13 : decode cX5_copySheet 13 = .ok (.getfield 9, 3) := by decide +kernel
theorem dX5_copySheet_16 : decode cX5_copySheet 16 = .ok (.arraylength, 1) := by decide +kernel
theorem dX5_copySheet_17 : decode cX5_copySheet 17 = .ok (.if_icmp .ge 21, 3) := by decide +kernel
theorem dX5_copySheet_20 : decode cX5_copySheet 20 = .ok (.aload_n 0, 1) := by decide +kernel
theorem dX5_copySheet_21 : decode cX5_copySheet 21 = .ok (.getfield 9, 3) := by decide +kernel
theorem dX5_copySheet_24 : decode cX5_copySheet 24 = .ok (.iload_n 2, 1) := by decide +kernel
theorem dX5_copySheet_25 : decode cX5_copySheet 25 = .ok (.aload_n 1, 1) := by decide +kernel
theorem dX5_copySheet_26 : decode cX5_copySheet 26 = .ok (.getfield 9, 3) := by decide +kernel
theorem dX5_copySheet_29 : decode cX5_copySheet 29 = .ok (.iload_n 2, 1) := by decide +kernel
theorem dX5_copySheet_30 : decode cX5_copySheet 30 = .ok (.iaload, 1) := by decide +kernel
theorem dX5_copySheet_31 : decode cX5_copySheet 31 = .ok (.iastore, 1) := by decide +kernel
theorem dX5_copySheet_32 : decode cX5_copySheet 32 = .ok (.iinc 2 1, 3) := by decide +kernel
theorem dX5_copySheet_35 : decode cX5_copySheet 35 = .ok (.goto (-33), 3) := by decide +kernel
theorem dX5_copySheet_38 : decode cX5_copySheet 38 = .ok (.iconst 0, 1) := by decide +kernel
theorem dX5_copySheet_39 : decode cX5_copySheet 39 = .ok (.istore_n 2, 1) := by decide +kernel
theorem dX5_copySheet_40 : decode cX5_copySheet 40 = .ok (.iload_n 2, 1) := by decide +kernel
theorem dX5_copySheet_41 : decode cX5_copySheet 41 = .ok (.aload_n 0, 1) := by decide +kernel
theorem dX5_copySheet_42 : decode cX5_copySheet 42 = .ok (.getfield 15, 3) := by decide +kernel
theorem dX5_copySheet_45 : decode cX5_copySheet 45 = .ok (.arraylength, 1) := by decide +kernel
theorem dX5_copySheet_46 : decode cX5_copySheet 46 = .ok (.if_icmp .ge 30, 3) := by decide +kernel
theorem dX5_copySheet_49 : decode cX5_copySheet 49 = .ok (.iload_n 2, 1) := by decide +kernel
theorem dX5_copySheet_50 : decode cX5_copySheet 50 = .ok (.aload_n 1, 1) := by decide +kernel
theorem dX5_copySheet_51 : decode cX5_copySheet 51 = .ok (.getfield 15, 3) := by decide +kernel
theorem dX5_copySheet_54 : decode cX5_copySheet 54 = .ok (.arraylength, 1) := by decide +kernel
theorem dX5_copySheet_55 : decode cX5_copySheet 55 = .ok (.if_icmp .ge 21, 3) := by decide +kernel
theorem dX5_copySheet_58 : decode cX5_copySheet 58 = .ok (.aload_n 0, 1) := by decide +kernel
theorem dX5_copySheet_59 : decode cX5_copySheet 59 = .ok (.getfield 15, 3) := by decide +kernel
theorem dX5_copySheet_62 : decode cX5_copySheet 62 = .ok (.iload_n 2, 1) := by decide +kernel
theorem dX5_copySheet_63 : decode cX5_copySheet 63 = .ok (.aload_n 1, 1) := by decide +kernel
theorem dX5_copySheet_64 : decode cX5_copySheet 64 = .ok (.getfield 15, 3) := by decide +kernel
theorem dX5_copySheet_67 : decode cX5_copySheet 67 = .ok (.iload_n 2, 1) := by decide +kernel
theorem dX5_copySheet_68 : decode cX5_copySheet 68 = .ok (.iaload, 1) := by decide +kernel
theorem dX5_copySheet_69 : decode cX5_copySheet 69 = .ok (.iastore, 1) := by decide +kernel
theorem dX5_copySheet_70 : decode cX5_copySheet 70 = .ok (.iinc 2 1, 3) := by decide +kernel
theorem dX5_copySheet_73 : decode cX5_copySheet 73 = .ok (.goto (-33), 3) := by decide +kernel
theorem dX5_copySheet_76 : decode cX5_copySheet 76 = .ok (.iconst 0, 1) := by decide +kernel
theorem dX5_copySheet_77 : decode cX5_copySheet 77 = .ok (.istore_n 2, 1) := by decide +kernel
theorem dX5_copySheet_78 : decode cX5_copySheet 78 = .ok (.iload_n 2, 1) := by decide +kernel
theorem dX5_copySheet_79 : decode cX5_copySheet 79 = .ok (.aload_n 0, 1) := by decide +kernel
theorem dX5_copySheet_80 : decode cX5_copySheet 80 = .ok (.getfield 18, 3) := by decide +kernel
theorem dX5_copySheet_83 : decode cX5_copySheet 83 = .ok (.arraylength, 1) := by decide +kernel
theorem dX5_copySheet_84 : decode cX5_copySheet 84 = .ok (.if_icmp .ge 30, 3) := by decide +kernel
theorem dX5_copySheet_87 : decode cX5_copySheet 87 = .ok (.iload_n 2, 1) := by decide +kernel
theorem dX5_copySheet_88 : decode cX5_copySheet 88 = .ok (.aload_n 1, 1) := by decide +kernel
theorem dX5_copySheet_89 : decode cX5_copySheet 89 = .ok (.getfield 18, 3) := by decide +kernel
theorem dX5_copySheet_92 : decode cX5_copySheet 92 = .ok (.arraylength, 1) := by decide +kernel
theorem dX5_copySheet_93 : decode cX5_copySheet 93 = .ok (.if_icmp .ge 21, 3) := by decide +kernel
theorem dX5_copySheet_96 : decode cX5_copySheet 96 = .ok (.aload_n 0, 1) := by decide +kernel
theorem dX5_copySheet_97 : decode cX5_copySheet 97 = .ok (.getfield 18, 3) := by decide +kernel
theorem dX5_copySheet_100 : decode cX5_copySheet 100 = .ok (.iload_n 2, 1) := by decide +kernel
theorem dX5_copySheet_101 : decode cX5_copySheet 101 = .ok (.aload_n 1, 1) := by decide +kernel
theorem dX5_copySheet_102 : decode cX5_copySheet 102 = .ok (.getfield 18, 3) := by decide +kernel
theorem dX5_copySheet_105 : decode cX5_copySheet 105 = .ok (.iload_n 2, 1) := by decide +kernel
theorem dX5_copySheet_106 : decode cX5_copySheet 106 = .ok (.iaload, 1) := by decide +kernel
theorem dX5_copySheet_107 : decode cX5_copySheet 107 = .ok (.iastore, 1) := by decide +kernel
theorem dX5_copySheet_108 : decode cX5_copySheet 108 = .ok (.iinc 2 1, 3) := by decide +kernel
theorem dX5_copySheet_111 : decode cX5_copySheet 111 = .ok (.goto (-33), 3) := by decide +kernel
theorem dX5_copySheet_114 : decode cX5_copySheet 114 = .ok (.aload_n 0, 1) := by decide +kernel
theorem dX5_copySheet_115 : decode cX5_copySheet 115 = .ok (.aload_n 1, 1) := by decide +kernel
theorem dX5_copySheet_116 : decode cX5_copySheet 116 = .ok (.getfield 27, 3) := by decide +kernel
theorem dX5_copySheet_119 : decode cX5_copySheet 119 = .ok (.putfield 27, 3) := by decide +kernel
theorem dX5_copySheet_122 : decode cX5_copySheet 122 = .ok (.return_, 1) := by decide +kernel
theorem dX5_lengthOf_0 : decode cX5_lengthOf 0 = .ok (.iload_n 1, 1) := by decide +kernel
theorem dX5_lengthOf_1 : decode cX5_lengthOf 1 = .ok (.ifCond .lt 21, 3) := by decide +kernel
theorem dX5_lengthOf_4 : decode cX5_lengthOf 4 = .ok (.iload_n 1, 1) := by decide +kernel
theorem dX5_lengthOf_5 : decode cX5_lengthOf 5 = .ok (.aload_n 0, 1) := by decide +kernel
theorem dX5_lengthOf_6 : decode cX5_lengthOf 6 = .ok (.getfield 15, 3) := by decide +kernel
theorem dX5_lengthOf_9 : decode cX5_lengthOf 9 = .ok (.arraylength, 1) := by decide +kernel
theorem dX5_lengthOf_10 : decode cX5_lengthOf 10 = .ok (.if_icmp .ge 12, 3) := by decide +kernel
theorem dX5_lengthOf_13 : decode cX5_lengthOf 13 = .ok (.aload_n 0, 1) := by decide +kernel
theorem dX5_lengthOf_14 : decode cX5_lengthOf 14 = .ok (.getfield 15, 3) := by decide +kernel
theorem dX5_lengthOf_17 : decode cX5_lengthOf 17 = .ok (.iload_n 1, 1) := by decide +kernel
theorem dX5_lengthOf_18 : decode cX5_lengthOf 18 = .ok (.iaload, 1) := by decide +kernel
theorem dX5_lengthOf_19 : decode cX5_lengthOf 19 = .ok (.goto 4, 3) := by decide +kernel
theorem dX5_lengthOf_22 : decode cX5_lengthOf 22 = .ok (.iconst 0, 1) := by decide +kernel
theorem dX5_lengthOf_23 : decode cX5_lengthOf 23 = .ok (.ireturn, 1) := by decide +kernel
theorem dX5_allMoves_0 : decode cX5_allMoves 0 = .ok (.iconst 0, 1) := by decide +kernel
theorem dX5_allMoves_1 : decode cX5_allMoves 1 = .ok (.istore_n 1, 1) := by decide +kernel
theorem dX5_allMoves_2 : decode cX5_allMoves 2 = .ok (.iconst 0, 1) := by decide +kernel
theorem dX5_allMoves_3 : decode cX5_allMoves 3 = .ok (.istore_n 2, 1) := by decide +kernel
theorem dX5_allMoves_4 : decode cX5_allMoves 4 = .ok (.iload_n 2, 1) := by decide +kernel
theorem dX5_allMoves_5 : decode cX5_allMoves 5 = .ok (.aload_n 0, 1) := by decide +kernel
theorem dX5_allMoves_6 : decode cX5_allMoves 6 = .ok (.getfield 15, 3) := by decide +kernel
theorem dX5_allMoves_9 : decode cX5_allMoves 9 = .ok (.arraylength, 1) := by decide +kernel
theorem dX5_allMoves_10 : decode cX5_allMoves 10 = .ok (.if_icmp .ge 18, 3) := by decide +kernel
theorem dX5_allMoves_13 : decode cX5_allMoves 13 = .ok (.iload_n 1, 1) := by decide +kernel
theorem dX5_allMoves_14 : decode cX5_allMoves 14 = .ok (.aload_n 0, 1) := by decide +kernel
theorem dX5_allMoves_15 : decode cX5_allMoves 15 = .ok (.getfield 15, 3) := by decide +kernel
theorem dX5_allMoves_18 : decode cX5_allMoves 18 = .ok (.iload_n 2, 1) := by decide +kernel
theorem dX5_allMoves_19 : decode cX5_allMoves 19 = .ok (.iaload, 1) := by decide +kernel
theorem dX5_allMoves_20 : decode cX5_allMoves 20 = .ok (.iadd, 1) := by decide +kernel
theorem dX5_allMoves_21 : decode cX5_allMoves 21 = .ok (.istore_n 1, 1) := by decide +kernel
theorem dX5_allMoves_22 : decode cX5_allMoves 22 = .ok (.iinc 2 1, 3) := by decide +kernel
theorem dX5_allMoves_25 : decode cX5_allMoves 25 = .ok (.goto (-21), 3) := by decide +kernel
theorem dX5_allMoves_28 : decode cX5_allMoves 28 = .ok (.iload_n 1, 1) := by decide +kernel
theorem dX5_allMoves_29 : decode cX5_allMoves 29 = .ok (.ireturn, 1) := by decide +kernel
theorem dX5_clearWay_0 : decode cX5_clearWay 0 = .ok (.aload_n 0, 1) := by decide +kernel
theorem dX5_clearWay_1 : decode cX5_clearWay 1 = .ok (.iload_n 1, 1) := by decide +kernel
theorem dX5_clearWay_2 : decode cX5_clearWay 2 = .ok (.invokevirtual 31, 3) := by decide +kernel
theorem dX5_clearWay_5 : decode cX5_clearWay 5 = .ok (.istore_n 2, 1) := by decide +kernel
theorem dX5_clearWay_6 : decode cX5_clearWay 6 = .ok (.iload_n 1, 1) := by decide +kernel
theorem dX5_clearWay_7 : decode cX5_clearWay 7 = .ok (.ifCond .lt 19, 3) := by decide +kernel
theorem dX5_clearWay_10 : decode cX5_clearWay 10 = .ok (.iload_n 1, 1) := by decide +kernel
