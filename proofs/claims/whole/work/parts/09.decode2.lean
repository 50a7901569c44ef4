theorem dX5_clearWay_11 : decode cX5_clearWay 11 = .ok (.aload_n 0, 1) := by decide +kernel
theorem dX5_clearWay_12 : decode cX5_clearWay 12 = .ok (.getfield 15, 3) := by decide +kernel
theorem dX5_clearWay_15 : decode cX5_clearWay 15 = .ok (.arraylength, 1) := by decide +kernel
theorem dX5_clearWay_16 : decode cX5_clearWay 16 = .ok (.if_icmp .ge 10, 3) := by decide +kernel
theorem dX5_clearWay_19 : decode cX5_clearWay 19 = .ok (.aload_n 0, 1) := by decide +kernel
theorem dX5_clearWay_20 : decode cX5_clearWay 20 = .ok (.getfield 15, 3) := by decide +kernel
theorem dX5_clearWay_23 : decode cX5_clearWay 23 = .ok (.iload_n 1, 1) := by decide +kernel
theorem dX5_clearWay_24 : decode cX5_clearWay 24 = .ok (.iconst 0, 1) := by decide +kernel
theorem dX5_clearWay_25 : decode cX5_clearWay 25 = .ok (.iastore, 1) := by decide +kernel
theorem dX5_clearWay_26 : decode cX5_clearWay 26 = .ok (.iload_n 2, 1) := by decide +kernel
theorem dX5_clearWay_27 : decode cX5_clearWay 27 = .ok (.ireturn, 1) := by decide +kernel
theorem dX5_addMove_0 : decode cX5_addMove 0 = .ok (.iload_n 1, 1) := by decide +kernel
theorem dX5_addMove_1 : decode cX5_addMove 1 = .ok (.ifCond .lt 23, 3) := by decide +kernel
theorem dX5_addMove_4 : decode cX5_addMove 4 = .ok (.iload_n 1, 1) := by decide +kernel
theorem dX5_addMove_5 : decode cX5_addMove 5 = .ok (.aload_n 0, 1) := by decide +kernel
theorem dX5_addMove_6 : decode cX5_addMove 6 = .ok (.getfield 15, 3) := by decide +kernel
theorem dX5_addMove_9 : decode cX5_addMove 9 = .ok (.arraylength, 1) := by decide +kernel
theorem dX5_addMove_10 : decode cX5_addMove 10 = .ok (.if_icmp .ge 14, 3) := by decide +kernel
theorem dX5_addMove_13 : decode cX5_addMove 13 = .ok (.aload_n 0, 1) := by decide +kernel
theorem dX5_addMove_14 : decode cX5_addMove 14 = .ok (.getfield 15, 3) := by decide +kernel
theorem dX5_addMove_17 : decode cX5_addMove 17 = .ok (.iload_n 1, 1) := by decide +kernel
theorem dX5_addMove_18 : decode cX5_addMove 18 = .ok (.iaload, 1) := by decide +kernel
theorem dX5_addMove_19 : decode cX5_addMove 19 = .ok (.bipush 60, 2) := by decide +kernel
theorem dX5_addMove_21 : decode cX5_addMove 21 = .ok (.if_icmp .lt 5, 3) := by decide +kernel
theorem dX5_addMove_24 : decode cX5_addMove 24 = .ok (.iconst 0, 1) := by decide +kernel
theorem dX5_addMove_25 : decode cX5_addMove 25 = .ok (.ireturn, 1) := by decide +kernel
theorem dX5_addMove_26 : decode cX5_addMove 26 = .ok (.iload_n 1, 1) := by decide +kernel
theorem dX5_addMove_27 : decode cX5_addMove 27 = .ok (.bipush 60, 2) := by decide +kernel
theorem dX5_addMove_29 : decode cX5_addMove 29 = .ok (.imul, 1) := by decide +kernel
theorem dX5_addMove_30 : decode cX5_addMove 30 = .ok (.aload_n 0, 1) := by decide +kernel
theorem dX5_addMove_31 : decode cX5_addMove 31 = .ok (.getfield 15, 3) := by decide +kernel
theorem dX5_addMove_34 : decode cX5_addMove 34 = .ok (.iload_n 1, 1) := by decide +kernel
theorem dX5_addMove_35 : decode cX5_addMove 35 = .ok (.iaload, 1) := by decide +kernel
theorem dX5_addMove_36 : decode cX5_addMove 36 = .ok (.iadd, 1) := by decide +kernel
theorem dX5_addMove_37 : decode cX5_addMove 37 = .ok (.istore_n 3, 1) := by decide +kernel
theorem dX5_addMove_38 : decode cX5_addMove 38 = .ok (.iload_n 3, 1) := by decide +kernel
theorem dX5_addMove_39 : decode cX5_addMove 39 = .ok (.ifCond .lt 12, 3) := by decide +kernel
theorem dX5_addMove_42 : decode cX5_addMove 42 = .ok (.iload_n 3, 1) := by decide +kernel
theorem dX5_addMove_43 : decode cX5_addMove 43 = .ok (.aload_n 0, 1) := by decide +kernel
theorem dX5_addMove_44 : decode cX5_addMove 44 = .ok (.getfield 9, 3) := by decide +kernel
theorem dX5_addMove_47 : decode cX5_addMove 47 = .ok (.arraylength, 1) := by decide +kernel
theorem dX5_addMove_48 : decode cX5_addMove 48 = .ok (.if_icmp .lt 5, 3) := by decide +kernel
theorem dX5_addMove_51 : decode cX5_addMove 51 = .ok (.iconst 0, 1) := by decide +kernel
theorem dX5_addMove_52 : decode cX5_addMove 52 = .ok (.ireturn, 1) := by decide +kernel
theorem dX5_addMove_53 : decode cX5_addMove 53 = .ok (.aload_n 0, 1) := by decide +kernel
theorem dX5_addMove_54 : decode cX5_addMove 54 = .ok (.getfield 9, 3) := by decide +kernel
theorem dX5_addMove_57 : decode cX5_addMove 57 = .ok (.iload_n 3, 1) := by decide +kernel
theorem dX5_addMove_58 : decode cX5_addMove 58 = .ok (.iload_n 2, 1) := by decide +kernel
theorem dX5_addMove_59 : decode cX5_addMove 59 = .ok (.iastore, 1) := by decide +kernel
theorem dX5_addMove_60 : decode cX5_addMove 60 = .ok (.aload_n 0, 1) := by decide +kernel
theorem dX5_addMove_61 : decode cX5_addMove 61 = .ok (.getfield 15, 3) := by decide +kernel
theorem dX5_addMove_64 : decode cX5_addMove 64 = .ok (.iload_n 1, 1) := by decide +kernel
theorem dX5_addMove_65 : decode cX5_addMove 65 = .ok (.dup2, 1) := by decide +kernel
theorem dX5_addMove_66 : decode cX5_addMove 66 = .ok (.iaload, 1) := by decide +kernel
theorem dX5_addMove_67 : decode cX5_addMove 67 = .ok (.iconst 1, 1) := by decide +kernel
theorem dX5_addMove_68 : decode cX5_addMove 68 = .ok (.iadd, 1) := by decide +kernel
theorem dX5_addMove_69 : decode cX5_addMove 69 = .ok (.iastore, 1) := by decide +kernel
theorem dX5_addMove_70 : decode cX5_addMove 70 = .ok (.iconst 1, 1) := by decide +kernel
theorem dX5_addMove_71 : decode cX5_addMove 71 = .ok (.ireturn, 1) := by decide +kernel
theorem dX5_moveAt_0 : decode cX5_moveAt 0 = .ok (.iload_n 1, 1) := by decide +kernel
theorem dX5_moveAt_1 : decode cX5_moveAt 1 = .ok (.bipush 60, 2) := by decide +kernel
theorem dX5_moveAt_3 : decode cX5_moveAt 3 = .ok (.imul, 1) := by decide +kernel
theorem dX5_moveAt_4 : decode cX5_moveAt 4 = .ok (.iload_n 2, 1) := by decide +kernel
theorem dX5_moveAt_5 : decode cX5_moveAt 5 = .ok (.iadd, 1) := by decide +kernel
theorem dX5_moveAt_6 : decode cX5_moveAt 6 = .ok (.istore_n 3, 1) := by decide +kernel
theorem dX5_moveAt_7 : decode cX5_moveAt 7 = .ok (.iload_n 3, 1) := by decide +kernel
theorem dX5_moveAt_8 : decode cX5_moveAt 8 = .ok (.ifCond .lt 21, 3) := by decide +kernel
theorem dX5_moveAt_11 : decode cX5_moveAt 11 = .ok (.iload_n 3, 1) := by decide +kernel
theorem dX5_moveAt_12 : decode cX5_moveAt 12 = .ok (.aload_n 0, 1) := by decide +kernel
theorem dX5_moveAt_13 : decode cX5_moveAt 13 = .ok (.getfield 9, 3) := by decide +kernel
theorem dX5_moveAt_16 : decode cX5_moveAt 16 = .ok (.arraylength, 1) := by decide +kernel
theorem dX5_moveAt_17 : decode cX5_moveAt 17 = .ok (.if_icmp .ge 12, 3) := by decide +kernel
theorem dX5_moveAt_20 : decode cX5_moveAt 20 = .ok (.aload_n 0, 1) := by decide +kernel
theorem dX5_moveAt_21 : decode cX5_moveAt 21 = .ok (.getfield 9, 3) := by decide +kernel
theorem dX5_moveAt_24 : decode cX5_moveAt 24 = .ok (.iload_n 3, 1) := by decide +kernel
theorem dX5_moveAt_25 : decode cX5_moveAt 25 = .ok (.iaload, 1) := by decide +kernel
theorem dX5_moveAt_26 : decode cX5_moveAt 26 = .ok (.goto 4, 3) := by decide +kernel
theorem dX5_moveAt_29 : decode cX5_moveAt 29 = .ok (.iconst 0, 1) := by decide +kernel
theorem dX5_moveAt_30 : decode cX5_moveAt 30 = .ok (.ireturn, 1) := by decide +kernel
theorem dX5_addPicture_0 : decode cX5_addPicture 0 = .ok (.aload_n 0, 1) := by decide +kernel
theorem dX5_addPicture_1 : decode cX5_addPicture 1 = .ok (.getfield 27, 3) := by decide +kernel
theorem dX5_addPicture_4 : decode cX5_addPicture 4 = .ok (.iconst 4, 1) := by decide +kernel
theorem dX5_addPicture_5 : decode cX5_addPicture 5 = .ok (.imul, 1) := by decide +kernel
theorem dX5_addPicture_6 : decode cX5_addPicture 6 = .ok (.istore 5, 2) := by decide +kernel
theorem dX5_addPicture_8 : decode cX5_addPicture 8 = .ok (.iload 5, 2) := by decide +kernel
theorem dX5_addPicture_10 : decode cX5_addPicture 10 = .ok (.ifCond .lt 15, 3) := by decide +kernel
theorem dX5_addPicture_13 : decode cX5_addPicture 13 = .ok (.iload 5, 2) := by decide +kernel
theorem dX5_addPicture_15 : decode cX5_addPicture 15 = .ok (.aload_n 0, 1) := by decide +kernel
theorem dX5_addPicture_16 : decode cX5_addPicture 16 = .ok (.getfield 18, 3) := by decide +kernel
theorem dX5_addPicture_19 : decode cX5_addPicture 19 = .ok (.arraylength, 1) := by decide +kernel
theorem dX5_addPicture_20 : decode cX5_addPicture 20 = .ok (.iconst 4, 1) := by decide +kernel
theorem dX5_addPicture_21 : decode cX5_addPicture 21 = .ok (.isub, 1) := by decide +kernel
theorem dX5_addPicture_22 : decode cX5_addPicture 22 = .ok (.if_icmp .le 5, 3) := by decide +kernel
theorem dX5_addPicture_25 : decode cX5_addPicture 25 = .ok (.iconst 0, 1) := by decide +kernel
theorem dX5_addPicture_26 : decode cX5_addPicture 26 = .ok (.ireturn, 1) := by decide +kernel
theorem dX5_addPicture_27 : decode cX5_addPicture 27 = .ok (.aload_n 0, 1) := by decide +kernel
theorem dX5_addPicture_28 : decode cX5_addPicture 28 = .ok (.getfield 18, 3) := by decide +kernel
theorem dX5_addPicture_31 : decode cX5_addPicture 31 = .ok (.iload 5, 2) := by decide +kernel
theorem dX5_addPicture_33 : decode cX5_addPicture 33 = .ok (.iload_n 1, 1) := by decide +kernel
theorem dX5_addPicture_34 : decode cX5_addPicture 34 = .ok (.iastore, 1) := by decide +kernel
theorem dX5_addPicture_35 : decode cX5_addPicture 35 = .ok (.aload_n 0, 1) := by decide +kernel
theorem dX5_addPicture_36 : decode cX5_addPicture 36 = .ok (.getfield 18, 3) := by decide +kernel
theorem dX5_addPicture_39 : decode cX5_addPicture 39 = .ok (.iload 5, 2) := by decide +kernel
theorem dX5_addPicture_41 : decode cX5_addPicture 41 = .ok (.iconst 1, 1) := by decide +kernel
theorem dX5_addPicture_42 : decode cX5_addPicture 42 = .ok (.iadd, 1) := by decide +kernel
theorem dX5_addPicture_43 : decode cX5_addPicture 43 = .ok (.iload_n 2, 1) := by decide +kernel
theorem dX5_addPicture_44 : decode cX5_addPicture 44 = .ok (.iastore, 1) := by decide +kernel
theorem dX5_addPicture_45 : decode cX5_addPicture 45 = .ok (.aload_n 0, 1) := by decide +kernel
theorem dX5_addPicture_46 : decode cX5_addPicture 46 = .ok (.getfield 18, 3) := by decide +kernel
theorem dX5_addPicture_49 : decode cX5_addPicture 49 = .ok (.iload 5, 2) := by decide +kernel
theorem dX5_addPicture_51 : decode cX5_addPicture 51 = .ok (.iconst 2, 1) := by decide +kernel
theorem dX5_addPicture_52 : decode cX5_addPicture 52 = .ok (.iadd, 1) := by decide +kernel
theorem dX5_addPicture_53 : decode cX5_addPicture 53 = .ok (.iload_n 3, 1) := by decide +kernel
theorem dX5_addPicture_54 : decode cX5_addPicture 54 = .ok (.iastore, 1) := by decide +kernel
theorem dX5_addPicture_55 : decode cX5_addPicture 55 = .ok (.aload_n 0, 1) := by decide +kernel
theorem dX5_addPicture_56 : decode cX5_addPicture 56 = .ok (.getfield 18, 3) := by decide +kernel
theorem dX5_addPicture_59 : decode cX5_addPicture 59 = .ok (.iload 5, 2) := by decide +kernel
theorem dX5_addPicture_61 : decode cX5_addPicture 61 = .ok (.iconst 3, 1) := by decide +kernel
theorem dX5_addPicture_62 : decode cX5_addPicture 62 = .ok (.iadd, 1) := by decide +kernel
theorem dX5_addPicture_63 : decode cX5_addPicture 63 = .ok (.iload 4, 2) := by decide +kernel
theorem dX5_addPicture_65 : decode cX5_addPicture 65 = .ok (.iastore, 1) := by decide +kernel
theorem dX5_addPicture_66 : decode cX5_addPicture 66 = .ok (.aload_n 0, 1) := by decide +kernel
theorem dX5_addPicture_67 : decode cX5_addPicture 67 = .ok (.dup, 1) := by decide +kernel
theorem dX5_addPicture_68 : decode cX5_addPicture 68 = .ok (.getfield 27, 3) := by decide +kernel
theorem dX5_addPicture_71 : decode cX5_addPicture 71 = .ok (.iconst 1, 1) := by decide +kernel
theorem dX5_addPicture_72 : decode cX5_addPicture 72 = .ok (.iadd, 1) := by decide +kernel
theorem dX5_addPicture_73 : decode cX5_addPicture 73 = .ok (.putfield 27, 3) := by decide +kernel
theorem dX5_addPicture_76 : decode cX5_addPicture 76 = .ok (.iconst 1, 1) := by decide +kernel
theorem dX5_addPicture_77 : decode cX5_addPicture 77 = .ok (.ireturn, 1) := by decide +kernel
theorem dX5_pictureOf_0 : decode cX5_pictureOf 0 = .ok (.iload_n 1, 1) := by decide +kernel
theorem dX5_pictureOf_1 : decode cX5_pictureOf 1 = .ok (.iconst 4, 1) := by decide +kernel
theorem dX5_pictureOf_2 : decode cX5_pictureOf 2 = .ok (.imul, 1) := by decide +kernel
theorem dX5_pictureOf_3 : decode cX5_pictureOf 3 = .ok (.iload_n 2, 1) := by decide +kernel
theorem dX5_pictureOf_4 : decode cX5_pictureOf 4 = .ok (.iadd, 1) := by decide +kernel
theorem dX5_pictureOf_5 : decode cX5_pictureOf 5 = .ok (.istore_n 3, 1) := by decide +kernel
theorem dX5_pictureOf_6 : decode cX5_pictureOf 6 = .ok (.iload_n 3, 1) := by decide +kernel
theorem dX5_pictureOf_7 : decode cX5_pictureOf 7 = .ok (.ifCond .lt 21, 3) := by decide +kernel
theorem dX5_pictureOf_10 : decode cX5_pictureOf 10 = .ok (.iload_n 3, 1) := by decide +kernel
theorem dX5_pictureOf_11 : decode cX5_pictureOf 11 = .ok (.aload_n 0, 1) := by decide +kernel
theorem dX5_pictureOf_12 : decode cX5_pictureOf 12 = .ok (.getfield 18, 3) := by decide +kernel
theorem dX5_pictureOf_15 : decode cX5_pictureOf 15 = .ok (.arraylength, 1) := by decide +kernel
theorem dX5_pictureOf_16 : decode cX5_pictureOf 16 = .ok (.if_icmp .ge 12, 3) := by decide +kernel
theorem dX5_pictureOf_19 : decode cX5_pictureOf 19 = .ok (.aload_n 0, 1) := by decide +kernel
theorem dX5_pictureOf_20 : decode cX5_pictureOf 20 = .ok (.getfield 18, 3) := by decide +kernel
theorem dX5_pictureOf_23 : decode cX5_pictureOf 23 = .ok (.iload_n 3, 1) := by decide +kernel
theorem dX5_pictureOf_24 : decode cX5_pictureOf 24 = .ok (.iaload, 1) := by decide +kernel
theorem dX5_pictureOf_25 : decode cX5_pictureOf 25 = .ok (.goto 4, 3) := by decide +kernel
theorem dX5_pictureOf_28 : decode cX5_pictureOf 28 = .ok (.iconst 0, 1) := by decide +kernel
theorem dX5_pictureOf_29 : decode cX5_pictureOf 29 = .ok (.ireturn, 1) := by decide +kernel
theorem dX6_init_0 : decode cX6_init 0 = .ok (.aload_n 0, 1) := by decide +kernel
theorem dX6_init_1 : decode cX6_init 1 = .ok (.invokespecial 3, 3) := by decide +kernel
theorem dX6_init_4 : decode cX6_init 4 = .ok (.aload_n 0, 1) := by decide +kernel
theorem dX6_init_5 : decode cX6_init 5 = .ok (.iconst 2, 1) := by decide +kernel
theorem dX6_init_6 : decode cX6_init 6 = .ok (.newarray .int, 2) := by decide +kernel
theorem dX6_init_8 : decode cX6_init 8 = .ok (.putfield 9, 3) := by decide +kernel
theorem dX6_init_11 : decode cX6_init 11 = .ok (.aload_n 0, 1) := by decide +kernel
theorem dX6_init_12 : decode cX6_init 12 = .ok (.iconst 2, 1) := by decide +kernel
theorem dX6_init_13 : decode cX6_init 13 = .ok (.newarray .int, 2) := by decide +kernel
theorem dX6_init_15 : decode cX6_init 15 = .ok (.putfield 15, 3) := by decide +kernel
theorem dX6_init_18 : decode cX6_init 18 = .ok (.aload_n 0, 1) := by decide +kernel
theorem dX6_init_19 : decode cX6_init 19 = .ok (.iconst 0, 1) := by decide +kernel
theorem dX6_init_20 : decode cX6_init 20 = .ok (.newarray .int, 2) := by decide +kernel
theorem dX6_init_22 : decode cX6_init 22 = .ok (.putfield 18, 3) := by decide +kernel
theorem dX6_init_25 : decode cX6_init 25 = .ok (.aload_n 0, 1) := by decide +kernel
theorem dX6_init_26 : decode cX6_init 26 = .ok (.iconst 0, 1) := by decide +kernel
theorem dX6_init_27 : decode cX6_init 27 = .ok (.newarray .int, 2) := by decide +kernel
theorem dX6_init_29 : decode cX6_init 29 = .ok (.putfield 21, 3) := by decide +kernel
theorem dX6_init_32 : decode cX6_init 32 = .ok (.aload_n 0, 1) := by decide +kernel
theorem dX6_init_33 : decode cX6_init 33 = .ok (.aload_n 1, 1) := by decide +kernel
theorem dX6_init_34 : decode cX6_init 34 = .ok (.putfield 24, 3) := by decide +kernel
theorem dX6_init_37 : decode cX6_init 37 = .ok (.aload_n 0, 1) := by decide +kernel
theorem dX6_init_38 : decode cX6_init 38 = .ok (.iload_n 2, 1) := by decide +kernel
theorem dX6_init_39 : decode cX6_init 39 = .ok (.putfield 28, 3) := by decide +kernel
theorem dX6_init_42 : decode cX6_init 42 = .ok (.aload_n 0, 1) := by decide +kernel
theorem dX6_init_43 : decode cX6_init 43 = .ok (.new 32, 3) := by decide +kernel
theorem dX6_init_46 : decode cX6_init 46 = .ok (.dup, 1) := by decide +kernel
theorem dX6_init_47 : decode cX6_init 47 = .ok (.aload_n 1, 1) := by decide +kernel
theorem dX6_init_48 : decode cX6_init 48 = .ok (.invokespecial 34, 3) := by decide +kernel
theorem dX6_init_51 : decode cX6_init 51 = .ok (.putfield 37, 3) := by decide +kernel
theorem dX6_init_54 : decode cX6_init 54 = .ok (.return_, 1) := by decide +kernel
theorem dX6_numberShapes_0 : decode cX6_numberShapes 0 = .ok (.iconst 1, 1) := by decide +kernel
theorem dX6_numberShapes_1 : decode cX6_numberShapes 1 = .ok (.istore_n 1, 1) := by decide +kernel
theorem dX6_numberShapes_2 : decode cX6_numberShapes 2 = .ok (.iconst 0, 1) := by decide +kernel
theorem dX6_numberShapes_3 : decode cX6_numberShapes 3 = .ok (.istore_n 2, 1) := by decide +kernel
theorem dX6_numberShapes_4 : decode cX6_numberShapes 4 = .ok (.iload_n 2, 1) := by decide +kernel
theorem dX6_numberShapes_5 : decode cX6_numberShapes 5 = .ok (.aload_n 0, 1) := by decide +kernel
theorem dX6_numberShapes_6 : decode cX6_numberShapes 6 = .ok (.getfield 24, 3) := by decide +kernel
theorem dX6_numberShapes_9 : decode cX6_numberShapes 9 = .ok (.getfield 41, 3) := by decide +kernel
theorem dX6_numberShapes_12 : decode cX6_numberShapes 12 = .ok (.if_icmp .ge 13, 3) := by decide +kernel
theorem dX6_numberShapes_15 : decode cX6_numberShapes 15 = .ok (.iload_n 1, 1) := by decide +kernel
theorem dX6_numberShapes_16 : decode cX6_numberShapes 16 = .ok (.iconst 3, 1) := by decide +kernel
theorem dX6_numberShapes_17 : decode cX6_numberShapes 17 = .ok (.imul, 1) := by decide +kernel
theorem dX6_numberShapes_18 : decode cX6_numberShapes 18 = .ok (.istore_n 1, 1) := by decide +kernel
theorem dX6_numberShapes_19 : decode cX6_numberShapes 19 = .ok (.iinc 2 1, 3) := by decide +kernel
theorem dX6_numberShapes_22 : decode cX6_numberShapes 22 = .ok (.goto (-18), 3) := by decide +kernel
theorem dX6_numberShapes_25 : decode cX6_numberShapes 25 = .ok (.aload_n 0, 1) := by decide +kernel
theorem dX6_numberShapes_26 : decode cX6_numberShapes 26 = .ok (.iload_n 1, 1) := by decide +kernel
theorem dX6_numberShapes_27 : decode cX6_numberShapes 27 = .ok (.putfield 46, 3) := by decide +kernel
theorem dX6_numberShapes_30 : decode cX6_numberShapes 30 = .ok (.iconst 0, 1) := by decide +kernel
theorem dX6_numberShapes_31 : decode cX6_numberShapes 31 = .ok (.istore_n 2, 1) := by decide +kernel
theorem dX6_numberShapes_32 : decode cX6_numberShapes 32 = .ok (.iload_n 2, 1) := by decide +kernel
theorem dX6_numberShapes_33 : decode cX6_numberShapes 33 = .ok (.aload_n 0, 1) := by decide +kernel
theorem dX6_numberShapes_34 : decode cX6_numberShapes 34 = .ok (.getfield 9, 3) := by decide +kernel
theorem dX6_numberShapes_37 : decode cX6_numberShapes 37 = .ok (.arraylength, 1) := by decide +kernel
theorem dX6_numberShapes_38 : decode cX6_numberShapes 38 = .ok (.if_icmp .ge 106, 3) := by decide +kernel
theorem dX6_numberShapes_41 : decode cX6_numberShapes 41 = .ok (.iload_n 2, 1) := by decide +kernel
theorem dX6_numberShapes_42 : decode cX6_numberShapes 42 = .ok (.aload_n 0, 1) := by decide +kernel
theorem dX6_numberShapes_43 : decode cX6_numberShapes 43 = .ok (.getfield 15, 3) := by decide +kernel
theorem dX6_numberShapes_46 : decode cX6_numberShapes 46 = .ok (.arraylength, 1) := by decide +kernel
theorem dX6_numberShapes_47 : decode cX6_numberShapes 47 = .ok (.if_icmp .ge 97, 3) := by decide +kernel
theorem dX6_numberShapes_50 : decode cX6_numberShapes 50 = .ok (.iload_n 2, 1) := by decide +kernel
theorem dX6_numberShapes_51 : decode cX6_numberShapes 51 = .ok (.aload_n 0, 1) := by decide +kernel
theorem dX6_numberShapes_52 : decode cX6_numberShapes 52 = .ok (.getfield 24, 3) := by decide +kernel
theorem dX6_numberShapes_55 : decode cX6_numberShapes 55 = .ok (.getfield 49, 3) := by decide +kernel
theorem dX6_numberShapes_58 : decode cX6_numberShapes 58 = .ok (.if_icmp .ge 15, 3) := by decide +kernel
theorem dX6_numberShapes_61 : decode cX6_numberShapes 61 = .ok (.iload_n 2, 1) := by decide +kernel
theorem dX6_numberShapes_62 : decode cX6_numberShapes 62 = .ok (.aload_n 0, 1) := by decide +kernel
theorem dX6_numberShapes_63 : decode cX6_numberShapes 63 = .ok (.getfield 28, 3) := by decide +kernel
theorem dX6_numberShapes_66 : decode cX6_numberShapes 66 = .ok (.if_icmp .eq 7, 3) := by decide +kernel
theorem dX6_numberShapes_69 : decode cX6_numberShapes 69 = .ok (.iconst 1, 1) := by decide +kernel
theorem dX6_numberShapes_70 : decode cX6_numberShapes 70 = .ok (.goto 4, 3) := by decide +kernel
theorem dX6_numberShapes_73 : decode cX6_numberShapes 73 = .ok (.iconst 0, 1) := by decide +kernel
theorem dX6_numberShapes_74 : decode cX6_numberShapes 74 = .ok (.istore_n 3, 1) := by decide +kernel
theorem dX6_numberShapes_75 : decode cX6_numberShapes 75 = .ok (.aload_n 0, 1) := by decide +kernel
theorem dX6_numberShapes_76 : decode cX6_numberShapes 76 = .ok (.getfield 9, 3) := by decide +kernel
theorem dX6_numberShapes_79 : decode cX6_numberShapes 79 = .ok (.iload_n 2, 1) := by decide +kernel
theorem dX6_numberShapes_80 : decode cX6_numberShapes 80 = .ok (.iload_n 3, 1) := by decide +kernel
theorem dX6_numberShapes_81 : decode cX6_numberShapes 81 = .ok (.ifCond .eq 18, 3) := by decide +kernel
theorem dX6_numberShapes_84 : decode cX6_numberShapes 84 = .ok (.aload_n 0, 1) := by decide +kernel
theorem dX6_numberShapes_85 : decode cX6_numberShapes 85 = .ok (.getfield 24, 3) := by decide +kernel
theorem dX6_numberShapes_88 : decode cX6_numberShapes 88 = .ok (.iload_n 2, 1) := by decide +kernel
theorem dX6_numberShapes_89 : decode cX6_numberShapes 89 = .ok (.invokevirtual 52, 3) := by decide +kernel
theorem dX6_numberShapes_92 : decode cX6_numberShapes 92 = .ok (.iconst 1, 1) := by decide +kernel
theorem dX6_numberShapes_93 : decode cX6_numberShapes 93 = .ok (.invokestatic 56, 3) := by decide +kernel
theorem dX6_numberShapes_96 : decode cX6_numberShapes 96 = .ok (.goto 4, 3) := by decide +kernel
theorem dX6_numberShapes_99 : decode cX6_numberShapes 99 = .ok (.iconst 1, 1) := by decide +kernel
theorem dX6_numberShapes_100 : decode cX6_numberShapes 100 = .ok (.iastore, 1) := by decide +kernel
theorem dX6_numberShapes_101 : decode cX6_numberShapes 101 = .ok (.aload_n 0, 1) := by decide +kernel
theorem dX6_numberShapes_102 : decode cX6_numberShapes 102 = .ok (.getfield 15, 3) := by decide +kernel
theorem dX6_numberShapes_105 : decode cX6_numberShapes 105 = .ok (.iload_n 2, 1) := by decide +kernel
theorem dX6_numberShapes_106 : decode cX6_numberShapes 106 = .ok (.iload_n 3, 1) := by decide +kernel
theorem dX6_numberShapes_107 : decode cX6_numberShapes 107 = .ok (.ifCond .eq 14, 3) := by decide +kernel
theorem dX6_numberShapes_110 : decode cX6_numberShapes 110 = .ok (.aload_n 0, 1) := by decide +kernel
theorem dX6_numberShapes_111 : decode cX6_numberShapes 111 = .ok (.getfield 24, 3) := by decide +kernel
theorem dX6_numberShapes_114 : decode cX6_numberShapes 114 = .ok (.iload_n 2, 1) := by decide +kernel
theorem dX6_numberShapes_115 : decode cX6_numberShapes 115 = .ok (.invokevirtual 62, 3) := by decide +kernel
theorem dX6_numberShapes_118 : decode cX6_numberShapes 118 = .ok (.goto 4, 3) := by decide +kernel
theorem dX6_numberShapes_121 : decode cX6_numberShapes 121 = .ok (.iconst 0, 1) := by decide +kernel
theorem dX6_numberShapes_122 : decode cX6_numberShapes 122 = .ok (.iastore, 1) := by decide +kernel
theorem dX6_numberShapes_123 : decode cX6_numberShapes 123 = .ok (.aload_n 0, 1) := by decide +kernel
theorem dX6_numberShapes_124 : decode cX6_numberShapes 124 = .ok (.dup, 1) := by decide +kernel
theorem dX6_numberShapes_125 : decode cX6_numberShapes 125 = .ok (.getfield 46, 3) := by decide +kernel
theorem dX6_numberShapes_128 : decode cX6_numberShapes 128 = .ok (.aload_n 0, 1) := by decide +kernel
theorem dX6_numberShapes_129 : decode cX6_numberShapes 129 = .ok (.getfield 9, 3) := by decide +kernel
theorem dX6_numberShapes_132 : decode cX6_numberShapes 132 = .ok (.iload_n 2, 1) := by decide +kernel
theorem dX6_numberShapes_133 : decode cX6_numberShapes 133 = .ok (.iaload, 1) := by decide +kernel
theorem dX6_numberShapes_134 : decode cX6_numberShapes 134 = .ok (.imul, 1) := by decide +kernel
theorem dX6_numberShapes_135 : decode cX6_numberShapes 135 = .ok (.putfield 46, 3) := by decide +kernel
theorem dX6_numberShapes_138 : decode cX6_numberShapes 138 = .ok (.iinc 2 1, 3) := by decide +kernel
theorem dX6_numberShapes_141 : decode cX6_numberShapes 141 = .ok (.goto (-109), 3) := by decide +kernel
theorem dX6_numberShapes_144 : decode cX6_numberShapes 144 = .ok (.aload_n 0, 1) := by decide +kernel
theorem dX6_numberShapes_145 : decode cX6_numberShapes 145 = .ok (.getfield 21, 3) := by decide +kernel
theorem dX6_numberShapes_148 : decode cX6_numberShapes 148 = .ok (.arraylength, 1) := by decide +kernel
theorem dX6_numberShapes_149 : decode cX6_numberShapes 149 = .ok (.aload_n 0, 1) := by decide +kernel
theorem dX6_numberShapes_150 : decode cX6_numberShapes 150 = .ok (.getfield 46, 3) := by decide +kernel
theorem dX6_numberShapes_153 : decode cX6_numberShapes 153 = .ok (.if_icmp .ge 26, 3) := by decide +kernel
theorem dX6_numberShapes_156 : decode cX6_numberShapes 156 = .ok (.aload_n 0, 1) := by decide +kernel
theorem dX6_numberShapes_157 : decode cX6_numberShapes 157 = .ok (.aload_n 0, 1) := by decide +kernel
theorem dX6_numberShapes_158 : decode cX6_numberShapes 158 = .ok (.getfield 46, 3) := by decide +kernel
theorem dX6_numberShapes_161 : decode cX6_numberShapes 161 = .ok (.newarray .int, 2) := by decide +kernel
theorem dX6_numberShapes_163 : decode cX6_numberShapes 163 = .ok (.putfield 21, 3) := by decide +kernel
theorem dX6_numberShapes_166 : decode cX6_numberShapes 166 = .ok (.aload_n 0, 1) := by decide +kernel
theorem dX6_numberShapes_167 : decode cX6_numberShapes 167 = .ok (.aload_n 0, 1) := by decide +kernel
theorem dX6_numberShapes_168 : decode cX6_numberShapes 168 = .ok (.getfield 46, 3) := by decide +kernel
theorem dX6_numberShapes_171 : decode cX6_numberShapes 171 = .ok (.bipush 11, 2) := by decide +kernel
theorem dX6_numberShapes_173 : decode cX6_numberShapes 173 = .ok (.imul, 1) := by decide +kernel
theorem dX6_numberShapes_174 : decode cX6_numberShapes 174 = .ok (.newarray .int, 2) := by decide +kernel
theorem dX6_numberShapes_176 : decode cX6_numberShapes 176 = .ok (.putfield 18, 3) := by decide +kernel
theorem dX6_numberShapes_179 : decode cX6_numberShapes 179 = .ok (.aload_n 0, 1) := by decide +kernel
theorem dX6_numberShapes_180 : decode cX6_numberShapes 180 = .ok (.getfield 21, 3) := by decide +kernel
theorem dX6_numberShapes_183 : decode cX6_numberShapes 183 = .ok (.iconst 0, 1) := by decide +kernel
theorem dX6_numberShapes_184 : decode cX6_numberShapes 184 = .ok (.invokestatic 65, 3) := by decide +kernel
theorem dX6_numberShapes_187 : decode cX6_numberShapes 187 = .ok (.aload_n 0, 1) := by decide +kernel
theorem dX6_numberShapes_188 : decode cX6_numberShapes 188 = .ok (.getfield 37, 3) := by decide +kernel
theorem dX6_numberShapes_191 : decode cX6_numberShapes 191 = .ok (.invokevirtual 71, 3) := by decide +kernel
theorem dX6_numberShapes_194 : decode cX6_numberShapes 194 = .ok (.iconst 0, 1) := by decide +kernel
theorem dX6_numberShapes_195 : decode cX6_numberShapes 195 = .ok (.istore_n 2, 1) := by decide +kernel
theorem dX6_numberShapes_196 : decode cX6_numberShapes 196 = .ok (.iload_n 2, 1) := by decide +kernel
theorem dX6_numberShapes_197 : decode cX6_numberShapes 197 = .ok (.aload_n 0, 1) := by decide +kernel
theorem dX6_numberShapes_198 : decode cX6_numberShapes 198 = .ok (.getfield 24, 3) := by decide +kernel
theorem dX6_numberShapes_201 : decode cX6_numberShapes 201 = .ok (.getfield 41, 3) := by decide +kernel
theorem dX6_numberShapes_204 : decode cX6_numberShapes 204 = .ok (.if_icmp .ge 18, 3) := by decide +kernel
theorem dX6_numberShapes_207 : decode cX6_numberShapes 207 = .ok (.aload_n 0, 1) := by decide +kernel
theorem dX6_numberShapes_208 : decode cX6_numberShapes 208 = .ok (.getfield 37, 3) := by decide +kernel
theorem dX6_numberShapes_211 : decode cX6_numberShapes 211 = .ok (.iload_n 2, 1) := by decide +kernel
theorem dX6_numberShapes_212 : decode cX6_numberShapes 212 = .ok (.iconst 0, 1) := by decide +kernel
theorem dX6_numberShapes_213 : decode cX6_numberShapes 213 = .ok (.invokevirtual 74, 3) := by decide +kernel
theorem dX6_numberShapes_216 : decode cX6_numberShapes 216 = .ok (.iinc 2 1, 3) := by decide +kernel
theorem dX6_numberShapes_219 : decode cX6_numberShapes 219 = .ok (.goto (-23), 3) := by decide +kernel
theorem dX6_numberShapes_222 : decode cX6_numberShapes 222 = .ok (.aload_n 0, 1) := by decide +kernel
theorem dX6_numberShapes_223 : decode cX6_numberShapes 223 = .ok (.aload_n 0, 1) := by decide +kernel
theorem dX6_numberShapes_224 : decode cX6_numberShapes 224 = .ok (.invokevirtual 78, 3) := by decide +kernel
theorem dX6_numberShapes_227 : decode cX6_numberShapes 227 = .ok (.putfield 82, 3) := by decide +kernel
theorem dX6_numberShapes_230 : decode cX6_numberShapes 230 = .ok (.aload_n 0, 1) := by decide +kernel
theorem dX6_numberShapes_231 : decode cX6_numberShapes 231 = .ok (.aload_n 0, 1) := by decide +kernel
theorem dX6_numberShapes_232 : decode cX6_numberShapes 232 = .ok (.getfield 82, 3) := by decide +kernel
theorem dX6_numberShapes_235 : decode cX6_numberShapes 235 = .ok (.iload_n 1, 1) := by decide +kernel
theorem dX6_numberShapes_236 : decode cX6_numberShapes 236 = .ok (.iadd, 1) := by decide +kernel
theorem dX6_numberShapes_237 : decode cX6_numberShapes 237 = .ok (.iconst 1, 1) := by decide +kernel
theorem dX6_numberShapes_238 : decode cX6_numberShapes 238 = .ok (.isub, 1) := by decide +kernel
theorem dX6_numberShapes_239 : decode cX6_numberShapes 239 = .ok (.putfield 85, 3) := by decide +kernel
theorem dX6_numberShapes_242 : decode cX6_numberShapes 242 = .ok (.return_, 1) := by decide +kernel
theorem dX6_numberAtRest_0 : decode cX6_numberAtRest 0 = .ok (.aload_n 0, 1) := by decide +kernel
theorem dX6_numberAtRest_1 : decode cX6_numberAtRest 1 = .ok (.getfield 37, 3) := by decide +kernel
theorem dX6_numberAtRest_4 : decode cX6_numberAtRest 4 = .ok (.invokevirtual 71, 3) := by decide +kernel
theorem dX6_numberAtRest_7 : decode cX6_numberAtRest 7 = .ok (.aload_n 0, 1) := by decide +kernel
theorem dX6_numberAtRest_8 : decode cX6_numberAtRest 8 = .ok (.invokevirtual 78, 3) := by decide +kernel
theorem dX6_numberAtRest_11 : decode cX6_numberAtRest 11 = .ok (.ireturn, 1) := by decide +kernel
theorem dX6_isStraightAt_0 : decode cX6_isStraightAt 0 = .ok (.iload_n 1, 1) := by decide +kernel
theorem dX6_isStraightAt_1 : decode cX6_isStraightAt 1 = .ok (.aload_n 0, 1) := by decide +kernel
theorem dX6_isStraightAt_2 : decode cX6_isStraightAt 2 = .ok (.getfield 82, 3) := by decide +kernel
theorem dX6_isStraightAt_5 : decode cX6_isStraightAt 5 = .ok (.if_icmp .lt 15, 3) := by decide +kernel
theorem dX6_isStraightAt_8 : decode cX6_isStraightAt 8 = .ok (.iload_n 1, 1) := by decide +kernel
theorem dX6_isStraightAt_9 : decode cX6_isStraightAt 9 = .ok (.aload_n 0, 1) := by decide +kernel
theorem dX6_isStraightAt_10 : decode cX6_isStraightAt 10 = .ok (.getfield 85, 3) := by decide +kernel
theorem dX6_isStraightAt_13 : decode cX6_isStraightAt 13 = .ok (.if_icmp .gt 7, 3) := by decide +kernel
theorem dX6_isStraightAt_16 : decode cX6_isStraightAt 16 = .ok (.iconst 1, 1) := by decide +kernel
theorem dX6_isStraightAt_17 : decode cX6_isStraightAt 17 = .ok (.goto 4, 3) := by decide +kernel
theorem dX6_isStraightAt_20 : decode cX6_isStraightAt 20 = .ok (.iconst 0, 1) := by decide +kernel
theorem dX6_isStraightAt_21 : decode cX6_isStraightAt 21 = .ok (.ireturn, 1) := by decide +kernel
theorem dX6_numberNow_0 : decode cX6_numberNow 0 = .ok (.iconst 0, 1) := by decide +kernel
theorem dX6_numberNow_1 : decode cX6_numberNow 1 = .ok (.istore_n 1, 1) := by decide +kernel
theorem dX6_numberNow_2 : decode cX6_numberNow 2 = .ok (.aload_n 0, 1) := by decide +kernel
theorem dX6_numberNow_3 : decode cX6_numberNow 3 = .ok (.getfield 9, 3) := by decide +kernel
theorem dX6_numberNow_6 : decode cX6_numberNow 6 = .ok (.arraylength, 1) := by decide +kernel
theorem dX6_numberNow_7 : decode cX6_numberNow 7 = .ok (.aload_n 0, 1) := by decide +kernel
theorem dX6_numberNow_8 : decode cX6_numberNow 8 = .ok (.getfield 15, 3) := by decide +kernel
theorem dX6_numberNow_11 : decode cX6_numberNow 11 = .ok (.arraylength, 1) := by decide +kernel
theorem dX6_numberNow_12 : decode cX6_numberNow 12 = .ok (.invokestatic 88, 3) := by decide +kernel
theorem dX6_numberNow_15 : decode cX6_numberNow 15 = .ok (.iconst 1, 1) := by decide +kernel
theorem dX6_numberNow_16 : decode cX6_numberNow 16 = .ok (.isub, 1) := by decide +kernel
theorem dX6_numberNow_17 : decode cX6_numberNow 17 = .ok (.istore_n 2, 1) := by decide +kernel
theorem dX6_numberNow_18 : decode cX6_numberNow 18 = .ok (.iload_n 2, 1) := by decide +kernel
theorem dX6_numberNow_19 : decode cX6_numberNow 19 = .ok (.ifCond .lt 34, 3) := by decide +kernel
theorem dX6_numberNow_22 : decode cX6_numberNow 22 = .ok (.iload_n 1, 1) := by decide +kernel
theorem dX6_numberNow_23 : decode cX6_numberNow 23 = .ok (.aload_n 0, 1) := by decide +kernel
theorem dX6_numberNow_24 : decode cX6_numberNow 24 = .ok (.getfield 9, 3) := by decide +kernel
theorem dX6_numberNow_27 : decode cX6_numberNow 27 = .ok (.iload_n 2, 1) := by decide +kernel
theorem dX6_numberNow_28 : decode cX6_numberNow 28 = .ok (.iaload, 1) := by decide +kernel
theorem dX6_numberNow_29 : decode cX6_numberNow 29 = .ok (.imul, 1) := by decide +kernel
theorem dX6_numberNow_30 : decode cX6_numberNow 30 = .ok (.aload_n 0, 1) := by decide +kernel
theorem dX6_numberNow_31 : decode cX6_numberNow 31 = .ok (.getfield 37, 3) := by decide +kernel
theorem dX6_numberNow_34 : decode cX6_numberNow 34 = .ok (.iload_n 2, 1) := by decide +kernel
theorem dX6_numberNow_35 : decode cX6_numberNow 35 = .ok (.invokevirtual 91, 3) := by decide +kernel
theorem dX6_numberNow_38 : decode cX6_numberNow 38 = .ok (.iadd, 1) := by decide +kernel
theorem dX6_numberNow_39 : decode cX6_numberNow 39 = .ok (.aload_n 0, 1) := by decide +kernel
theorem dX6_numberNow_40 : decode cX6_numberNow 40 = .ok (.getfield 15, 3) := by decide +kernel
theorem dX6_numberNow_43 : decode cX6_numberNow 43 = .ok (.iload_n 2, 1) := by decide +kernel
theorem dX6_numberNow_44 : decode cX6_numberNow 44 = .ok (.iaload, 1) := by decide +kernel
theorem dX6_numberNow_45 : decode cX6_numberNow 45 = .ok (.isub, 1) := by decide +kernel
theorem dX6_numberNow_46 : decode cX6_numberNow 46 = .ok (.istore_n 1, 1) := by decide +kernel
theorem dX6_numberNow_47 : decode cX6_numberNow 47 = .ok (.iinc 2 (-1), 3) := by decide +kernel
theorem dX6_numberNow_50 : decode cX6_numberNow 50 = .ok (.goto (-32), 3) := by decide +kernel
theorem dX6_numberNow_53 : decode cX6_numberNow 53 = .ok (.aload_n 0, 1) := by decide +kernel
theorem dX6_numberNow_54 : decode cX6_numberNow 54 = .ok (.getfield 24, 3) := by decide +kernel
theorem dX6_numberNow_57 : decode cX6_numberNow 57 = .ok (.getfield 41, 3) := by decide +kernel
theorem dX6_numberNow_60 : decode cX6_numberNow 60 = .ok (.iconst 1, 1) := by decide +kernel
theorem dX6_numberNow_61 : decode cX6_numberNow 61 = .ok (.isub, 1) := by decide +kernel
theorem dX6_numberNow_62 : decode cX6_numberNow 62 = .ok (.istore_n 2, 1) := by decide +kernel
theorem dX6_numberNow_63 : decode cX6_numberNow 63 = .ok (.iload_n 2, 1) := by decide +kernel
theorem dX6_numberNow_64 : decode cX6_numberNow 64 = .ok (.ifCond .lt 22, 3) := by decide +kernel
theorem dX6_numberNow_67 : decode cX6_numberNow 67 = .ok (.iload_n 1, 1) := by decide +kernel
theorem dX6_numberNow_68 : decode cX6_numberNow 68 = .ok (.iconst 3, 1) := by decide +kernel
theorem dX6_numberNow_69 : decode cX6_numberNow 69 = .ok (.imul, 1) := by decide +kernel
theorem dX6_numberNow_70 : decode cX6_numberNow 70 = .ok (.aload_n 0, 1) := by decide +kernel
theorem dX6_numberNow_71 : decode cX6_numberNow 71 = .ok (.getfield 37, 3) := by decide +kernel
theorem dX6_numberNow_74 : decode cX6_numberNow 74 = .ok (.iload_n 2, 1) := by decide +kernel
theorem dX6_numberNow_75 : decode cX6_numberNow 75 = .ok (.invokevirtual 94, 3) := by decide +kernel
theorem dX6_numberNow_78 : decode cX6_numberNow 78 = .ok (.iadd, 1) := by decide +kernel
theorem dX6_numberNow_79 : decode cX6_numberNow 79 = .ok (.istore_n 1, 1) := by decide +kernel
theorem dX6_numberNow_80 : decode cX6_numberNow 80 = .ok (.iinc 2 (-1), 3) := by decide +kernel
theorem dX6_numberNow_83 : decode cX6_numberNow 83 = .ok (.goto (-20), 3) := by decide +kernel
theorem dX6_numberNow_86 : decode cX6_numberNow 86 = .ok (.iload_n 1, 1) := by decide +kernel
theorem dX6_numberNow_87 : decode cX6_numberNow 87 = .ok (.ireturn, 1) := by decide +kernel
theorem dX6_become_0 : decode cX6_become 0 = .ok (.iload_n 1, 1) := by decide +kernel
theorem dX6_become_1 : decode cX6_become 1 = .ok (.istore_n 2, 1) := by decide +kernel
theorem dX6_become_2 : decode cX6_become 2 = .ok (.iconst 0, 1) := by decide +kernel
theorem dX6_become_3 : decode cX6_become 3 = .ok (.istore_n 3, 1) := by decide +kernel
theorem dX6_become_4 : decode cX6_become 4 = .ok (.iload_n 3, 1) := by decide +kernel
theorem dX6_become_5 : decode cX6_become 5 = .ok (.aload_n 0, 1) := by decide +kernel
theorem dX6_become_6 : decode cX6_become 6 = .ok (.getfield 24, 3) := by decide +kernel
theorem dX6_become_9 : decode cX6_become 9 = .ok (.getfield 41, 3) := by decide +kernel
theorem dX6_become_12 : decode cX6_become 12 = .ok (.if_icmp .ge 24, 3) := by decide +kernel
theorem dX6_become_15 : decode cX6_become 15 = .ok (.aload_n 0, 1) := by decide +kernel
theorem dX6_become_16 : decode cX6_become 16 = .ok (.getfield 37, 3) := by decide +kernel
theorem dX6_become_19 : decode cX6_become 19 = .ok (.iload_n 3, 1) := by decide +kernel
theorem dX6_become_20 : decode cX6_become 20 = .ok (.iload_n 2, 1) := by decide +kernel
theorem dX6_become_21 : decode cX6_become 21 = .ok (.iconst 3, 1) := by decide +kernel
theorem dX6_become_22 : decode cX6_become 22 = .ok (.irem, 1) := by decide +kernel
theorem dX6_become_23 : decode cX6_become 23 = .ok (.invokevirtual 74, 3) := by decide +kernel
theorem dX6_become_26 : decode cX6_become 26 = .ok (.iload_n 2, 1) := by decide +kernel
theorem dX6_become_27 : decode cX6_become 27 = .ok (.iconst 3, 1) := by decide +kernel
theorem dX6_become_28 : decode cX6_become 28 = .ok (.idiv, 1) := by decide +kernel
theorem dX6_become_29 : decode cX6_become 29 = .ok (.istore_n 2, 1) := by decide +kernel
theorem dX6_become_30 : decode cX6_become 30 = .ok (.iinc 3 1, 3) := by decide +kernel
theorem dX6_become_33 : decode cX6_become 33 = .ok (.goto (-29), 3) := by decide +kernel
theorem dX6_become_36 : decode cX6_become 36 = .ok (.iconst 0, 1) := by decide +kernel
theorem dX6_become_37 : decode cX6_become 37 = .ok (.istore_n 3, 1) := by decide +kernel
theorem dX6_become_38 : decode cX6_become 38 = .ok (.iload_n 3, 1) := by decide +kernel
theorem dX6_become_39 : decode cX6_become 39 = .ok (.aload_n 0, 1) := by decide +kernel
theorem dX6_become_40 : decode cX6_become 40 = .ok (.getfield 9, 3) := by decide +kernel
theorem dX6_become_43 : decode cX6_become 43 = .ok (.arraylength, 1) := by decide +kernel
theorem dX6_become_44 : decode cX6_become 44 = .ok (.if_icmp .ge 54, 3) := by decide +kernel
theorem dX6_become_47 : decode cX6_become 47 = .ok (.iload_n 3, 1) := by decide +kernel
theorem dX6_become_48 : decode cX6_become 48 = .ok (.aload_n 0, 1) := by decide +kernel
theorem dX6_become_49 : decode cX6_become 49 = .ok (.getfield 15, 3) := by decide +kernel
theorem dX6_become_52 : decode cX6_become 52 = .ok (.arraylength, 1) := by decide +kernel
theorem dX6_become_53 : decode cX6_become 53 = .ok (.if_icmp .ge 45, 3) := by decide +kernel
theorem dX6_become_56 : decode cX6_become 56 = .ok (.aload_n 0, 1) := by decide +kernel
theorem dX6_become_57 : decode cX6_become 57 = .ok (.getfield 9, 3) := by decide +kernel
theorem dX6_become_60 : decode cX6_become 60 = .ok (.iload_n 3, 1) := by decide +kernel
theorem dX6_become_61 : decode cX6_become 61 = .ok (.iaload, 1) := by decide +kernel
theorem dX6_become_62 : decode cX6_become 62 = .ok (.iconst 1, 1) := by decide +kernel
theorem dX6_become_63 : decode cX6_become 63 = .ok (.invokestatic 56, 3) := by decide +kernel
theorem dX6_become_66 : decode cX6_become 66 = .ok (.istore 4, 2) := by decide +kernel
theorem dX6_become_68 : decode cX6_become 68 = .ok (.aload_n 0, 1) := by decide +kernel
theorem dX6_become_69 : decode cX6_become 69 = .ok (.getfield 37, 3) := by decide +kernel
theorem dX6_become_72 : decode cX6_become 72 = .ok (.iload_n 3, 1) := by decide +kernel
theorem dX6_become_73 : decode cX6_become 73 = .ok (.iload_n 2, 1) := by decide +kernel
theorem dX6_become_74 : decode cX6_become 74 = .ok (.iload 4, 2) := by decide +kernel
theorem dX6_become_76 : decode cX6_become 76 = .ok (.irem, 1) := by decide +kernel
theorem dX6_become_77 : decode cX6_become 77 = .ok (.aload_n 0, 1) := by decide +kernel
theorem dX6_become_78 : decode cX6_become 78 = .ok (.getfield 15, 3) := by decide +kernel
theorem dX6_become_81 : decode cX6_become 81 = .ok (.iload_n 3, 1) := by decide +kernel
theorem dX6_become_82 : decode cX6_become 82 = .ok (.iaload, 1) := by decide +kernel
theorem dX6_become_83 : decode cX6_become 83 = .ok (.iadd, 1) := by decide +kernel
theorem dX6_become_84 : decode cX6_become 84 = .ok (.invokevirtual 97, 3) := by decide +kernel
theorem dX6_become_87 : decode cX6_become 87 = .ok (.iload_n 2, 1) := by decide +kernel
theorem dX6_become_88 : decode cX6_become 88 = .ok (.iload 4, 2) := by decide +kernel
theorem dX6_become_90 : decode cX6_become 90 = .ok (.idiv, 1) := by decide +kernel
theorem dX6_become_91 : decode cX6_become 91 = .ok (.istore_n 2, 1) := by decide +kernel
theorem dX6_become_92 : decode cX6_become 92 = .ok (.iinc 3 1, 3) := by decide +kernel
theorem dX6_become_95 : decode cX6_become 95 = .ok (.goto (-57), 3) := by decide +kernel
theorem dX6_become_98 : decode cX6_become 98 = .ok (.return_, 1) := by decide +kernel
theorem dX6_branchesOf_0 : decode cX6_branchesOf 0 = .ok (.iload_n 1, 1) := by decide +kernel
theorem dX6_branchesOf_1 : decode cX6_branchesOf 1 = .ok (.ifCond .lt 12, 3) := by decide +kernel
theorem dX6_branchesOf_4 : decode cX6_branchesOf 4 = .ok (.iload_n 1, 1) := by decide +kernel
theorem dX6_branchesOf_5 : decode cX6_branchesOf 5 = .ok (.aload_n 0, 1) := by decide +kernel
theorem dX6_branchesOf_6 : decode cX6_branchesOf 6 = .ok (.getfield 21, 3) := by decide +kernel
theorem dX6_branchesOf_9 : decode cX6_branchesOf 9 = .ok (.arraylength, 1) := by decide +kernel
theorem dX6_branchesOf_10 : decode cX6_branchesOf 10 = .ok (.if_icmp .lt 5, 3) := by decide +kernel
theorem dX6_branchesOf_13 : decode cX6_branchesOf 13 = .ok (.iconst 0, 1) := by decide +kernel
theorem dX6_branchesOf_14 : decode cX6_branchesOf 14 = .ok (.ireturn, 1) := by decide +kernel
theorem dX6_branchesOf_15 : decode cX6_branchesOf 15 = .ok (.aload_n 0, 1) := by decide +kernel
theorem dX6_branchesOf_16 : decode cX6_branchesOf 16 = .ok (.getfield 21, 3) := by decide +kernel
theorem dX6_branchesOf_19 : decode cX6_branchesOf 19 = .ok (.iload_n 1, 1) := by decide +kernel
theorem dX6_branchesOf_20 : decode cX6_branchesOf 20 = .ok (.iaload, 1) := by decide +kernel
theorem dX6_branchesOf_21 : decode cX6_branchesOf 21 = .ok (.ifCond .ne 14, 3) := by decide +kernel
theorem dX6_branchesOf_24 : decode cX6_branchesOf 24 = .ok (.aload_n 0, 1) := by decide +kernel
theorem dX6_branchesOf_25 : decode cX6_branchesOf 25 = .ok (.getfield 21, 3) := by decide +kernel
theorem dX6_branchesOf_28 : decode cX6_branchesOf 28 = .ok (.iload_n 1, 1) := by decide +kernel
theorem dX6_branchesOf_29 : decode cX6_branchesOf 29 = .ok (.aload_n 0, 1) := by decide +kernel
theorem dX6_branchesOf_30 : decode cX6_branchesOf 30 = .ok (.iload_n 1, 1) := by decide +kernel
theorem dX6_branchesOf_31 : decode cX6_branchesOf 31 = .ok (.invokevirtual 100, 3) := by decide +kernel
theorem dX6_branchesOf_34 : decode cX6_branchesOf 34 = .ok (.iastore, 1) := by decide +kernel
theorem dX6_branchesOf_35 : decode cX6_branchesOf 35 = .ok (.aload_n 0, 1) := by decide +kernel
theorem dX6_branchesOf_36 : decode cX6_branchesOf 36 = .ok (.getfield 21, 3) := by decide +kernel
theorem dX6_branchesOf_39 : decode cX6_branchesOf 39 = .ok (.iload_n 1, 1) := by decide +kernel
theorem dX6_branchesOf_40 : decode cX6_branchesOf 40 = .ok (.iaload, 1) := by decide +kernel
theorem dX6_branchesOf_41 : decode cX6_branchesOf 41 = .ok (.ireturn, 1) := by decide +kernel
theorem dX6_findBranches_0 : decode cX6_findBranches 0 = .ok (.iconst 0, 1) := by decide +kernel
theorem dX6_findBranches_1 : decode cX6_findBranches 1 = .ok (.istore_n 2, 1) := by decide +kernel
theorem dX6_findBranches_2 : decode cX6_findBranches 2 = .ok (.aload_n 0, 1) := by decide +kernel
theorem dX6_findBranches_3 : decode cX6_findBranches 3 = .ok (.iload_n 1, 1) := by decide +kernel
theorem dX6_findBranches_4 : decode cX6_findBranches 4 = .ok (.invokevirtual 103, 3) := by decide +kernel
theorem dX6_findBranches_7 : decode cX6_findBranches 7 = .ok (.iconst 0, 1) := by decide +kernel
theorem dX6_findBranches_8 : decode cX6_findBranches 8 = .ok (.istore_n 3, 1) := by decide +kernel
theorem dX6_findBranches_9 : decode cX6_findBranches 9 = .ok (.iload_n 3, 1) := by decide +kernel
theorem dX6_findBranches_10 : decode cX6_findBranches 10 = .ok (.bipush 18, 2) := by decide +kernel
theorem dX6_findBranches_12 : decode cX6_findBranches 12 = .ok (.if_icmp .gt 114, 3) := by decide +kernel
theorem dX6_findBranches_15 : decode cX6_findBranches 15 = .ok (.iload_n 1, 1) := by decide +kernel
theorem dX6_findBranches_16 : decode cX6_findBranches 16 = .ok (.bipush 11, 2) := by decide +kernel
theorem dX6_findBranches_18 : decode cX6_findBranches 18 = .ok (.imul, 1) := by decide +kernel
theorem dX6_findBranches_19 : decode cX6_findBranches 19 = .ok (.iload_n 2, 1) := by decide +kernel
theorem dX6_findBranches_20 : decode cX6_findBranches 20 = .ok (.iadd, 1) := by decide +kernel
theorem dX6_findBranches_21 : decode cX6_findBranches 21 = .ok (.istore 4, 2) := by decide +kernel
theorem dX6_findBranches_23 : decode cX6_findBranches 23 = .ok (.aload_n 0, 1) := by decide +kernel
theorem dX6_findBranches_24 : decode cX6_findBranches 24 = .ok (.iload_n 3, 1) := by decide +kernel
theorem dX6_findBranches_25 : decode cX6_findBranches 25 = .ok (.invokevirtual 107, 3) := by decide +kernel
theorem dX6_findBranches_28 : decode cX6_findBranches 28 = .ok (.ifCond .ne 92, 3) := by decide +kernel
theorem dX6_findBranches_31 : decode cX6_findBranches 31 = .ok (.iload 4, 2) := by decide +kernel
theorem dX6_findBranches_33 : decode cX6_findBranches 33 = .ok (.ifCond .lt 87, 3) := by decide +kernel
theorem dX6_findBranches_36 : decode cX6_findBranches 36 = .ok (.iload 4, 2) := by decide +kernel
theorem dX6_findBranches_38 : decode cX6_findBranches 38 = .ok (.aload_n 0, 1) := by decide +kernel
theorem dX6_findBranches_39 : decode cX6_findBranches 39 = .ok (.getfield 18, 3) := by decide +kernel
theorem dX6_findBranches_42 : decode cX6_findBranches 42 = .ok (.arraylength, 1) := by decide +kernel
theorem dX6_findBranches_43 : decode cX6_findBranches 43 = .ok (.if_icmp .ge 77, 3) := by decide +kernel
theorem dX6_findBranches_46 : decode cX6_findBranches 46 = .ok (.aload_n 0, 1) := by decide +kernel
theorem dX6_findBranches_47 : decode cX6_findBranches 47 = .ok (.getfield 37, 3) := by decide +kernel
theorem dX6_findBranches_50 : decode cX6_findBranches 50 = .ok (.iload_n 3, 1) := by decide +kernel
theorem dX6_findBranches_51 : decode cX6_findBranches 51 = .ok (.invokevirtual 111, 3) := by decide +kernel
theorem dX6_findBranches_54 : decode cX6_findBranches 54 = .ok (.ifCond .eq 66, 3) := by decide +kernel
theorem dX6_findBranches_57 : decode cX6_findBranches 57 = .ok (.aload_n 0, 1) := by decide +kernel
theorem dX6_findBranches_58 : decode cX6_findBranches 58 = .ok (.getfield 37, 3) := by decide +kernel
theorem dX6_findBranches_61 : decode cX6_findBranches 61 = .ok (.invokevirtual 114, 3) := by decide +kernel
theorem dX6_findBranches_64 : decode cX6_findBranches 64 = .ok (.aload_n 0, 1) := by decide +kernel
theorem dX6_findBranches_65 : decode cX6_findBranches 65 = .ok (.getfield 24, 3) := by decide +kernel
theorem dX6_findBranches_68 : decode cX6_findBranches 68 = .ok (.getfield 117, 3) := by decide +kernel
theorem dX6_findBranches_71 : decode cX6_findBranches 71 = .ok (.aload_n 0, 1) := by decide +kernel
theorem dX6_findBranches_72 : decode cX6_findBranches 72 = .ok (.getfield 37, 3) := by decide +kernel
theorem dX6_findBranches_75 : decode cX6_findBranches 75 = .ok (.iconst 0, 1) := by decide +kernel
theorem dX6_findBranches_76 : decode cX6_findBranches 76 = .ok (.invokevirtual 120, 3) := by decide +kernel
theorem dX6_findBranches_79 : decode cX6_findBranches 79 = .ok (.invokestatic 123, 3) := by decide +kernel
theorem dX6_findBranches_82 : decode cX6_findBranches 82 = .ok (.iadd, 1) := by decide +kernel
theorem dX6_findBranches_83 : decode cX6_findBranches 83 = .ok (.istore 5, 2) := by decide +kernel
theorem dX6_findBranches_85 : decode cX6_findBranches 85 = .ok (.aload_n 0, 1) := by decide +kernel
theorem dX6_findBranches_86 : decode cX6_findBranches 86 = .ok (.getfield 18, 3) := by decide +kernel
theorem dX6_findBranches_89 : decode cX6_findBranches 89 = .ok (.iload 4, 2) := by decide +kernel
theorem dX6_findBranches_91 : decode cX6_findBranches 91 = .ok (.iload_n 3, 1) := by decide +kernel
theorem dX6_findBranches_92 : decode cX6_findBranches 92 = .ok (.aload_n 0, 1) := by decide +kernel
theorem dX6_findBranches_93 : decode cX6_findBranches 93 = .ok (.invokevirtual 78, 3) := by decide +kernel
theorem dX6_findBranches_96 : decode cX6_findBranches 96 = .ok (.iconst 5, 1) := by decide +kernel
theorem dX6_findBranches_97 : decode cX6_findBranches 97 = .ok (.ishl, 1) := by decide +kernel
theorem dX6_findBranches_98 : decode cX6_findBranches 98 = .ok (.ior, 1) := by decide +kernel
theorem dX6_findBranches_99 : decode cX6_findBranches 99 = .ok (.iload 5, 2) := by decide +kernel
theorem dX6_findBranches_101 : decode cX6_findBranches 101 = .ok (.sipush 360, 3) := by decide +kernel
theorem dX6_findBranches_104 : decode cX6_findBranches 104 = .ok (.invokestatic 126, 3) := by decide +kernel
theorem dX6_findBranches_107 : decode cX6_findBranches 107 = .ok (.bipush 16, 2) := by decide +kernel
theorem dX6_findBranches_109 : decode cX6_findBranches 109 = .ok (.ishl, 1) := by decide +kernel
theorem dX6_findBranches_110 : decode cX6_findBranches 110 = .ok (.ior, 1) := by decide +kernel
theorem dX6_findBranches_111 : decode cX6_findBranches 111 = .ok (.iastore, 1) := by decide +kernel
theorem dX6_findBranches_112 : decode cX6_findBranches 112 = .ok (.iinc 2 1, 3) := by decide +kernel
theorem dX6_findBranches_115 : decode cX6_findBranches 115 = .ok (.aload_n 0, 1) := by decide +kernel
theorem dX6_findBranches_116 : decode cX6_findBranches 116 = .ok (.iload_n 1, 1) := by decide +kernel
theorem dX6_findBranches_117 : decode cX6_findBranches 117 = .ok (.invokevirtual 103, 3) := by decide +kernel
theorem dX6_findBranches_120 : decode cX6_findBranches 120 = .ok (.iinc 3 1, 3) := by decide +kernel
theorem dX6_findBranches_123 : decode cX6_findBranches 123 = .ok (.goto (-114), 3) := by decide +kernel
theorem dX6_findBranches_126 : decode cX6_findBranches 126 = .ok (.iload_n 2, 1) := by decide +kernel
theorem dX6_findBranches_127 : decode cX6_findBranches 127 = .ok (.ireturn, 1) := by decide +kernel
theorem dX6_isStiff_0 : decode cX6_isStiff 0 = .ok (.iload_n 1, 1) := by decide +kernel
theorem dX6_isStiff_1 : decode cX6_isStiff 1 = .ok (.ifCond .le 25, 3) := by decide +kernel
theorem dX6_isStiff_4 : decode cX6_isStiff 4 = .ok (.iload_n 1, 1) := by decide +kernel
theorem dX6_isStiff_5 : decode cX6_isStiff 5 = .ok (.bipush 10, 2) := by decide +kernel
theorem dX6_isStiff_7 : decode cX6_isStiff 7 = .ok (.if_icmp .ge 19, 3) := by decide +kernel
theorem dX6_isStiff_10 : decode cX6_isStiff 10 = .ok (.iload_n 1, 1) := by decide +kernel
theorem dX6_isStiff_11 : decode cX6_isStiff 11 = .ok (.iconst 1, 1) := by decide +kernel
theorem dX6_isStiff_12 : decode cX6_isStiff 12 = .ok (.isub, 1) := by decide +kernel
theorem dX6_isStiff_13 : decode cX6_isStiff 13 = .ok (.iconst 2, 1) := by decide +kernel
theorem dX6_isStiff_14 : decode cX6_isStiff 14 = .ok (.idiv, 1) := by decide +kernel
theorem dX6_isStiff_15 : decode cX6_isStiff 15 = .ok (.aload_n 0, 1) := by decide +kernel
theorem dX6_isStiff_16 : decode cX6_isStiff 16 = .ok (.getfield 28, 3) := by decide +kernel
theorem dX6_isStiff_19 : decode cX6_isStiff 19 = .ok (.if_icmp .ne 7, 3) := by decide +kernel
theorem dX6_isStiff_22 : decode cX6_isStiff 22 = .ok (.iconst 1, 1) := by decide +kernel
theorem dX6_isStiff_23 : decode cX6_isStiff 23 = .ok (.goto 4, 3) := by decide +kernel
theorem dX6_isStiff_26 : decode cX6_isStiff 26 = .ok (.iconst 0, 1) := by decide +kernel
theorem dX6_isStiff_27 : decode cX6_isStiff 27 = .ok (.ireturn, 1) := by decide +kernel
theorem dX6_branch_0 : decode cX6_branch 0 = .ok (.iload_n 1, 1) := by decide +kernel
theorem dX6_branch_1 : decode cX6_branch 1 = .ok (.bipush 11, 2) := by decide +kernel
theorem dX6_branch_3 : decode cX6_branch 3 = .ok (.imul, 1) := by decide +kernel
theorem dX6_branch_4 : decode cX6_branch 4 = .ok (.iload_n 2, 1) := by decide +kernel
theorem dX6_branch_5 : decode cX6_branch 5 = .ok (.iadd, 1) := by decide +kernel
theorem dX6_branch_6 : decode cX6_branch 6 = .ok (.istore_n 3, 1) := by decide +kernel
theorem dX6_branch_7 : decode cX6_branch 7 = .ok (.iload_n 3, 1) := by decide +kernel
theorem dX6_branch_8 : decode cX6_branch 8 = .ok (.ifCond .lt 21, 3) := by decide +kernel
theorem dX6_branch_11 : decode cX6_branch 11 = .ok (.iload_n 3, 1) := by decide +kernel
theorem dX6_branch_12 : decode cX6_branch 12 = .ok (.aload_n 0, 1) := by decide +kernel
theorem dX6_branch_13 : decode cX6_branch 13 = .ok (.getfield 18, 3) := by decide +kernel
theorem dX6_branch_16 : decode cX6_branch 16 = .ok (.arraylength, 1) := by decide +kernel
theorem dX6_branch_17 : decode cX6_branch 17 = .ok (.if_icmp .ge 12, 3) := by decide +kernel
theorem dX6_branch_20 : decode cX6_branch 20 = .ok (.aload_n 0, 1) := by decide +kernel
theorem dX6_branch_21 : decode cX6_branch 21 = .ok (.getfield 18, 3) := by decide +kernel
theorem dX6_branch_24 : decode cX6_branch 24 = .ok (.iload_n 3, 1) := by decide +kernel
theorem dX6_branch_25 : decode cX6_branch 25 = .ok (.iaload, 1) := by decide +kernel
theorem dX6_branch_26 : decode cX6_branch 26 = .ok (.goto 4, 3) := by decide +kernel
theorem dX6_branch_29 : decode cX6_branch 29 = .ok (.iconst 0, 1) := by decide +kernel
theorem dX6_branch_30 : decode cX6_branch 30 = .ok (.ireturn, 1) := by decide +kernel
theorem dX6_branchBetween_0 : decode cX6_branchBetween 0 = .ok (.aload_n 0, 1) := by decide +kernel
theorem dX6_branchBetween_1 : decode cX6_branchBetween 1 = .ok (.iload_n 1, 1) := by decide +kernel
theorem dX6_branchBetween_2 : decode cX6_branchBetween 2 = .ok (.invokevirtual 129, 3) := by decide +kernel
theorem dX6_branchBetween_5 : decode cX6_branchBetween 5 = .ok (.istore_n 3, 1) := by decide +kernel
theorem dX6_branchBetween_6 : decode cX6_branchBetween 6 = .ok (.iconst 0, 1) := by decide +kernel
theorem dX6_branchBetween_7 : decode cX6_branchBetween 7 = .ok (.istore 4, 2) := by decide +kernel
theorem dX6_branchBetween_9 : decode cX6_branchBetween 9 = .ok (.iload 4, 2) := by decide +kernel
theorem dX6_branchBetween_11 : decode cX6_branchBetween 11 = .ok (.iload_n 3, 1) := by decide +kernel
theorem dX6_branchBetween_12 : decode cX6_branchBetween 12 = .ok (.if_icmp .ge 31, 3) := by decide +kernel
theorem dX6_branchBetween_15 : decode cX6_branchBetween 15 = .ok (.aload_n 0, 1) := by decide +kernel
theorem dX6_branchBetween_16 : decode cX6_branchBetween 16 = .ok (.iload_n 1, 1) := by decide +kernel
theorem dX6_branchBetween_17 : decode cX6_branchBetween 17 = .ok (.iload 4, 2) := by decide +kernel
theorem dX6_branchBetween_19 : decode cX6_branchBetween 19 = .ok (.invokevirtual 132, 3) := by decide +kernel
theorem dX6_branchBetween_22 : decode cX6_branchBetween 22 = .ok (.invokestatic 135, 3) := by decide +kernel
theorem dX6_branchBetween_25 : decode cX6_branchBetween 25 = .ok (.iload_n 2, 1) := by decide +kernel
theorem dX6_branchBetween_26 : decode cX6_branchBetween 26 = .ok (.if_icmp .ne 11, 3) := by decide +kernel
theorem dX6_branchBetween_29 : decode cX6_branchBetween 29 = .ok (.aload_n 0, 1) := by decide +kernel
theorem dX6_branchBetween_30 : decode cX6_branchBetween 30 = .ok (.iload_n 1, 1) := by decide +kernel
theorem dX6_branchBetween_31 : decode cX6_branchBetween 31 = .ok (.iload 4, 2) := by decide +kernel
theorem dX6_branchBetween_33 : decode cX6_branchBetween 33 = .ok (.invokevirtual 132, 3) := by decide +kernel
theorem dX6_branchBetween_36 : decode cX6_branchBetween 36 = .ok (.ireturn, 1) := by decide +kernel
theorem dX6_branchBetween_37 : decode cX6_branchBetween 37 = .ok (.iinc 4 1, 3) := by decide +kernel
theorem dX6_branchBetween_40 : decode cX6_branchBetween 40 = .ok (.goto (-31), 3) := by decide +kernel
theorem dX6_branchBetween_43 : decode cX6_branchBetween 43 = .ok (.iconst 0, 1) := by decide +kernel
theorem dX6_branchBetween_44 : decode cX6_branchBetween 44 = .ok (.ireturn, 1) := by decide +kernel
theorem dX6_moveOf_0 : decode cX6_moveOf 0 = .ok (.iload_n 0, 1) := by decide +kernel
theorem dX6_moveOf_1 : decode cX6_moveOf 1 = .ok (.bipush 31, 2) := by decide +kernel
theorem dX6_moveOf_3 : decode cX6_moveOf 3 = .ok (.iand, 1) := by decide +kernel
theorem dX6_moveOf_4 : decode cX6_moveOf 4 = .ok (.ireturn, 1) := by decide +kernel
theorem dX6_shapeOf_0 : decode cX6_shapeOf 0 = .ok (.iload_n 0, 1) := by decide +kernel
theorem dX6_shapeOf_1 : decode cX6_shapeOf 1 = .ok (.iconst 5, 1) := by decide +kernel
theorem dX6_shapeOf_2 : decode cX6_shapeOf 2 = .ok (.ishr, 1) := by decide +kernel
theorem dX6_shapeOf_3 : decode cX6_shapeOf 3 = .ok (.sipush 2047, 3) := by decide +kernel
theorem dX6_shapeOf_6 : decode cX6_shapeOf 6 = .ok (.iand, 1) := by decide +kernel
theorem dX6_shapeOf_7 : decode cX6_shapeOf 7 = .ok (.ireturn, 1) := by decide +kernel
theorem dX6_angleOf_0 : decode cX6_angleOf 0 = .ok (.iload_n 0, 1) := by decide +kernel
theorem dX6_angleOf_1 : decode cX6_angleOf 1 = .ok (.bipush 16, 2) := by decide +kernel
theorem dX6_angleOf_3 : decode cX6_angleOf 3 = .ok (.ishr, 1) := by decide +kernel
theorem dX6_angleOf_4 : decode cX6_angleOf 4 = .ok (.ireturn, 1) := by decide +kernel
theorem dX7_init_0 : decode cX7_init 0 = .ok (.aload_n 0, 1) := by decide +kernel
theorem dX7_init_1 : decode cX7_init 1 = .ok (.invokespecial 3, 3) := by decide +kernel
theorem dX7_init_4 : decode cX7_init 4 = .ok (.aload_n 0, 1) := by decide +kernel
theorem dX7_init_5 : decode cX7_init 5 = .ok (.bipush 120, 2) := by decide +kernel
theorem dX7_init_7 : decode cX7_init 7 = .ok (.newarray .int, 2) := by decide +kernel
theorem dX7_init_9 : decode cX7_init 9 = .ok (.putfield 9, 3) := by decide +kernel
theorem dX7_init_12 : decode cX7_init 12 = .ok (.return_, 1) := by decide +kernel
theorem dX7_takesBytes_0 : decode cX7_takesBytes 0 = .ok (.iload_n 1, 1) := by decide +kernel
theorem dX7_takesBytes_1 : decode cX7_takesBytes 1 = .ok (.ifCond .lt 14, 3) := by decide +kernel
theorem dX7_takesBytes_4 : decode cX7_takesBytes 4 = .ok (.iload_n 1, 1) := by decide +kernel
theorem dX7_takesBytes_5 : decode cX7_takesBytes 5 = .ok (.bipush 120, 2) := by decide +kernel
theorem dX7_takesBytes_7 : decode cX7_takesBytes 7 = .ok (.aload_n 0, 1) := by decide +kernel
theorem dX7_takesBytes_8 : decode cX7_takesBytes 8 = .ok (.getfield 15, 3) := by decide +kernel
theorem dX7_takesBytes_11 : decode cX7_takesBytes 11 = .ok (.isub, 1) := by decide +kernel
theorem dX7_takesBytes_12 : decode cX7_takesBytes 12 = .ok (.if_icmp .le 5, 3) := by decide +kernel
theorem dX7_takesBytes_15 : decode cX7_takesBytes 15 = .ok (.iconst 0, 1) := by decide +kernel
theorem dX7_takesBytes_16 : decode cX7_takesBytes 16 = .ok (.ireturn, 1) := by decide +kernel
theorem dX7_takesBytes_17 : decode cX7_takesBytes 17 = .ok (.iload_n 1, 1) := by decide +kernel
theorem dX7_takesBytes_18 : decode cX7_takesBytes 18 = .ok (.iconst 1, 1) := by decide +kernel
theorem dX7_takesBytes_19 : decode cX7_takesBytes 19 = .ok (.isub, 1) := by decide +kernel
theorem dX7_takesBytes_20 : decode cX7_takesBytes 20 = .ok (.istore 4, 2) := by decide +kernel
theorem dX7_takesBytes_22 : decode cX7_takesBytes 22 = .ok (.iload 4, 2) := by decide +kernel
theorem dX7_takesBytes_24 : decode cX7_takesBytes 24 = .ok (.ifCond .lt 59, 3) := by decide +kernel
theorem dX7_takesBytes_27 : decode cX7_takesBytes 27 = .ok (.aload_n 0, 1) := by decide +kernel
theorem dX7_takesBytes_28 : decode cX7_takesBytes 28 = .ok (.getfield 15, 3) := by decide +kernel
theorem dX7_takesBytes_31 : decode cX7_takesBytes 31 = .ok (.ifCond .lt 46, 3) := by decide +kernel
theorem dX7_takesBytes_34 : decode cX7_takesBytes 34 = .ok (.aload_n 0, 1) := by decide +kernel
theorem dX7_takesBytes_35 : decode cX7_takesBytes 35 = .ok (.getfield 15, 3) := by decide +kernel
theorem dX7_takesBytes_38 : decode cX7_takesBytes 38 = .ok (.aload_n 0, 1) := by decide +kernel
theorem dX7_takesBytes_39 : decode cX7_takesBytes 39 = .ok (.getfield 9, 3) := by decide +kernel
theorem dX7_takesBytes_42 : decode cX7_takesBytes 42 = .ok (.arraylength, 1) := by decide +kernel
theorem dX7_takesBytes_43 : decode cX7_takesBytes 43 = .ok (.if_icmp .ge 34, 3) := by decide +kernel
theorem dX7_takesBytes_46 : decode cX7_takesBytes 46 = .ok (.aload_n 0, 1) := by decide +kernel
theorem dX7_takesBytes_47 : decode cX7_takesBytes 47 = .ok (.getfield 9, 3) := by decide +kernel
theorem dX7_takesBytes_50 : decode cX7_takesBytes 50 = .ok (.aload_n 0, 1) := by decide +kernel
theorem dX7_takesBytes_51 : decode cX7_takesBytes 51 = .ok (.getfield 15, 3) := by decide +kernel
theorem dX7_takesBytes_54 : decode cX7_takesBytes 54 = .ok (.lload_n 2, 1) := by decide +kernel
theorem dX7_takesBytes_55 : decode cX7_takesBytes 55 = .ok (.bipush 8, 2) := by decide +kernel
theorem dX7_takesBytes_57 : decode cX7_takesBytes 57 = .ok (.iload 4, 2) := by decide +kernel
theorem dX7_takesBytes_59 : decode cX7_takesBytes 59 = .ok (.imul, 1) := by decide +kernel
theorem dX7_takesBytes_60 : decode cX7_takesBytes 60 = .ok (.lushr, 1) := by decide +kernel
theorem dX7_takesBytes_61 : decode cX7_takesBytes 61 = .ok (.l2i, 1) := by decide +kernel
theorem dX7_takesBytes_62 : decode cX7_takesBytes 62 = .ok (.sipush 255, 3) := by decide +kernel
theorem dX7_takesBytes_65 : decode cX7_takesBytes 65 = .ok (.iand, 1) := by decide +kernel
theorem dX7_takesBytes_66 : decode cX7_takesBytes 66 = .ok (.iastore, 1) := by decide +kernel
theorem dX7_takesBytes_67 : decode cX7_takesBytes 67 = .ok (.aload_n 0, 1) := by decide +kernel
theorem dX7_takesBytes_68 : decode cX7_takesBytes 68 = .ok (.dup, 1) := by decide +kernel
theorem dX7_takesBytes_69 : decode cX7_takesBytes 69 = .ok (.getfield 15, 3) := by decide +kernel
theorem dX7_takesBytes_72 : decode cX7_takesBytes 72 = .ok (.iconst 1, 1) := by decide +kernel
theorem dX7_takesBytes_73 : decode cX7_takesBytes 73 = .ok (.iadd, 1) := by decide +kernel
theorem dX7_takesBytes_74 : decode cX7_takesBytes 74 = .ok (.putfield 15, 3) := by decide +kernel
theorem dX7_takesBytes_77 : decode cX7_takesBytes 77 = .ok (.iinc 4 (-1), 3) := by decide +kernel
theorem dX7_takesBytes_80 : decode cX7_takesBytes 80 = .ok (.goto (-58), 3) := by decide +kernel
theorem dX7_takesBytes_83 : decode cX7_takesBytes 83 = .ok (.iconst 1, 1) := by decide +kernel
theorem dX7_takesBytes_84 : decode cX7_takesBytes 84 = .ok (.ireturn, 1) := by decide +kernel
theorem dX7_byteAt_0 : decode cX7_byteAt 0 = .ok (.iload_n 1, 1) := by decide +kernel
theorem dX7_byteAt_1 : decode cX7_byteAt 1 = .ok (.ifCond .lt 29, 3) := by decide +kernel
theorem dX7_byteAt_4 : decode cX7_byteAt 4 = .ok (.iload_n 1, 1) := by decide +kernel
theorem dX7_byteAt_5 : decode cX7_byteAt 5 = .ok (.aload_n 0, 1) := by decide +kernel
theorem dX7_byteAt_6 : decode cX7_byteAt 6 = .ok (.getfield 15, 3) := by decide +kernel
theorem dX7_byteAt_9 : decode cX7_byteAt 9 = .ok (.if_icmp .ge 21, 3) := by decide +kernel
theorem dX7_byteAt_12 : decode cX7_byteAt 12 = .ok (.iload_n 1, 1) := by decide +kernel
theorem dX7_byteAt_13 : decode cX7_byteAt 13 = .ok (.aload_n 0, 1) := by decide +kernel
theorem dX7_byteAt_14 : decode cX7_byteAt 14 = .ok (.getfield 9, 3) := by decide +kernel
theorem dX7_byteAt_17 : decode cX7_byteAt 17 = .ok (.arraylength, 1) := by decide +kernel
theorem dX7_byteAt_18 : decode cX7_byteAt 18 = .ok (.if_icmp .ge 12, 3) := by decide +kernel
theorem dX7_byteAt_21 : decode cX7_byteAt 21 = .ok (.aload_n 0, 1) := by decide +kernel
theorem dX7_byteAt_22 : decode cX7_byteAt 22 = .ok (.getfield 9, 3) := by decide +kernel
theorem dX7_byteAt_25 : decode cX7_byteAt 25 = .ok (.iload_n 1, 1) := by decide +kernel
theorem dX7_byteAt_26 : decode cX7_byteAt 26 = .ok (.iaload, 1) := by decide +kernel
theorem dX7_byteAt_27 : decode cX7_byteAt 27 = .ok (.goto 4, 3) := by decide +kernel
theorem dX7_byteAt_30 : decode cX7_byteAt 30 = .ok (.iconst (-1), 1) := by decide +kernel
theorem dX7_byteAt_31 : decode cX7_byteAt 31 = .ok (.ireturn, 1) := by decide +kernel
theorem dX8_init_0 : decode cX8_init 0 = .ok (.aload_n 0, 1) := by decide +kernel
theorem dX8_init_1 : decode cX8_init 1 = .ok (.invokespecial 3, 3) := by decide +kernel
theorem dX8_init_4 : decode cX8_init 4 = .ok (.aload_n 0, 1) := by decide +kernel
theorem dX8_init_5 : decode cX8_init 5 = .ok (.sipush 183, 3) := by decide +kernel
theorem dX8_init_8 : decode cX8_init 8 = .ok (.newarray .int, 2) := by decide +kernel
theorem dX8_init_10 : decode cX8_init 10 = .ok (.putfield 9, 3) := by decide +kernel
theorem dX8_init_13 : decode cX8_init 13 = .ok (.aload_n 0, 1) := by decide +kernel
theorem dX8_init_14 : decode cX8_init 14 = .ok (.bipush 61, 2) := by decide +kernel
theorem dX8_init_16 : decode cX8_init 16 = .ok (.newarray .int, 2) := by decide +kernel
theorem dX8_init_18 : decode cX8_init 18 = .ok (.putfield 15, 3) := by decide +kernel
theorem dX8_init_21 : decode cX8_init 21 = .ok (.aload_n 0, 1) := by decide +kernel
theorem dX8_init_22 : decode cX8_init 22 = .ok (.bipush 61, 2) := by decide +kernel
theorem dX8_init_24 : decode cX8_init 24 = .ok (.newarray .int, 2) := by decide +kernel
theorem dX8_init_26 : decode cX8_init 26 = .ok (.putfield 18, 3) := by decide +kernel
theorem dX8_init_29 : decode cX8_init 29 = .ok (.aload_n 0, 1) := by decide +kernel
theorem dX8_init_30 : decode cX8_init 30 = .ok (.aload_n 1, 1) := by decide +kernel
theorem dX8_init_31 : decode cX8_init 31 = .ok (.putfield 21, 3) := by decide +kernel
theorem dX8_init_34 : decode cX8_init 34 = .ok (.aload_n 0, 1) := by decide +kernel
theorem dX8_init_35 : decode cX8_init 35 = .ok (.new 25, 3) := by decide +kernel
theorem dX8_init_38 : decode cX8_init 38 = .ok (.dup, 1) := by decide +kernel
theorem dX8_init_39 : decode cX8_init 39 = .ok (.aload_n 1, 1) := by decide +kernel
theorem dX8_init_40 : decode cX8_init 40 = .ok (.invokespecial 27, 3) := by decide +kernel
theorem dX8_init_43 : decode cX8_init 43 = .ok (.putfield 30, 3) := by decide +kernel
theorem dX8_init_46 : decode cX8_init 46 = .ok (.return_, 1) := by decide +kernel
theorem dX8_follow_0 : decode cX8_follow 0 = .ok (.aload_n 0, 1) := by decide +kernel
theorem dX8_follow_1 : decode cX8_follow 1 = .ok (.getfield 30, 3) := by decide +kernel
theorem dX8_follow_4 : decode cX8_follow 4 = .ok (.invokevirtual 34, 3) := by decide +kernel
theorem dX8_follow_7 : decode cX8_follow 7 = .ok (.iconst 0, 1) := by decide +kernel
theorem dX8_follow_8 : decode cX8_follow 8 = .ok (.istore_n 3, 1) := by decide +kernel
theorem dX8_follow_9 : decode cX8_follow 9 = .ok (.aload_n 0, 1) := by decide +kernel
theorem dX8_follow_10 : decode cX8_follow 10 = .ok (.iconst 0, 1) := by decide +kernel
theorem dX8_follow_11 : decode cX8_follow 11 = .ok (.putfield 37, 3) := by decide +kernel
theorem dX8_follow_14 : decode cX8_follow 14 = .ok (.aload_n 0, 1) := by decide +kernel
theorem dX8_follow_15 : decode cX8_follow 15 = .ok (.iload_n 3, 1) := by decide +kernel
theorem dX8_follow_16 : decode cX8_follow 16 = .ok (.invokevirtual 41, 3) := by decide +kernel
theorem dX8_follow_19 : decode cX8_follow 19 = .ok (.aload_n 1, 1) := by decide +kernel
theorem dX8_follow_20 : decode cX8_follow 20 = .ok (.iload_n 2, 1) := by decide +kernel
theorem dX8_follow_21 : decode cX8_follow 21 = .ok (.invokevirtual 45, 3) := by decide +kernel
theorem dX8_follow_24 : decode cX8_follow 24 = .ok (.bipush 60, 2) := by decide +kernel
theorem dX8_follow_26 : decode cX8_follow 26 = .ok (.invokestatic 51, 3) := by decide +kernel
theorem dX8_follow_29 : decode cX8_follow 29 = .ok (.istore 4, 2) := by decide +kernel
theorem dX8_follow_31 : decode cX8_follow 31 = .ok (.iconst 0, 1) := by decide +kernel
theorem dX8_follow_32 : decode cX8_follow 32 = .ok (.istore 5, 2) := by decide +kernel
theorem dX8_follow_34 : decode cX8_follow 34 = .ok (.iload 5, 2) := by decide +kernel
theorem dX8_follow_36 : decode cX8_follow 36 = .ok (.iload 4, 2) := by decide +kernel
theorem dX8_follow_38 : decode cX8_follow 38 = .ok (.if_icmp .ge 49, 3) := by decide +kernel
theorem dX8_follow_41 : decode cX8_follow 41 = .ok (.aload_n 0, 1) := by decide +kernel
theorem dX8_follow_42 : decode cX8_follow 42 = .ok (.getfield 30, 3) := by decide +kernel
theorem dX8_follow_45 : decode cX8_follow 45 = .ok (.aload_n 1, 1) := by decide +kernel
theorem dX8_follow_46 : decode cX8_follow 46 = .ok (.iload_n 2, 1) := by decide +kernel
theorem dX8_follow_47 : decode cX8_follow 47 = .ok (.iload 5, 2) := by decide +kernel
theorem dX8_follow_49 : decode cX8_follow 49 = .ok (.invokevirtual 57, 3) := by decide +kernel
theorem dX8_follow_52 : decode cX8_follow 52 = .ok (.invokevirtual 60, 3) := by decide +kernel
theorem dX8_follow_55 : decode cX8_follow 55 = .ok (.ifCond .eq 32, 3) := by decide +kernel
theorem dX8_follow_58 : decode cX8_follow 58 = .ok (.aload_n 0, 1) := by decide +kernel
theorem dX8_follow_59 : decode cX8_follow 59 = .ok (.iload 5, 2) := by decide +kernel
theorem dX8_follow_61 : decode cX8_follow 61 = .ok (.iconst 1, 1) := by decide +kernel
theorem dX8_follow_62 : decode cX8_follow 62 = .ok (.iadd, 1) := by decide +kernel
theorem dX8_follow_63 : decode cX8_follow 63 = .ok (.putfield 37, 3) := by decide +kernel
theorem dX8_follow_66 : decode cX8_follow 66 = .ok (.iload_n 3, 1) := by decide +kernel
theorem dX8_follow_67 : decode cX8_follow 67 = .ok (.aload_n 0, 1) := by decide +kernel
theorem dX8_follow_68 : decode cX8_follow 68 = .ok (.getfield 30, 3) := by decide +kernel
theorem dX8_follow_71 : decode cX8_follow 71 = .ok (.invokevirtual 64, 3) := by decide +kernel
theorem dX8_follow_74 : decode cX8_follow 74 = .ok (.iadd, 1) := by decide +kernel
theorem dX8_follow_75 : decode cX8_follow 75 = .ok (.istore_n 3, 1) := by decide +kernel
theorem dX8_follow_76 : decode cX8_follow 76 = .ok (.aload_n 0, 1) := by decide +kernel
theorem dX8_follow_77 : decode cX8_follow 77 = .ok (.iload_n 3, 1) := by decide +kernel
theorem dX8_follow_78 : decode cX8_follow 78 = .ok (.invokevirtual 41, 3) := by decide +kernel
theorem dX8_follow_81 : decode cX8_follow 81 = .ok (.iinc 5 1, 3) := by decide +kernel
theorem dX8_follow_84 : decode cX8_follow 84 = .ok (.goto (-50), 3) := by decide +kernel
theorem dX8_follow_87 : decode cX8_follow 87 = .ok (.aload_n 0, 1) := by decide +kernel
theorem dX8_follow_88 : decode cX8_follow 88 = .ok (.aload_n 0, 1) := by decide +kernel
theorem dX8_follow_89 : decode cX8_follow 89 = .ok (.getfield 37, 3) := by decide +kernel
theorem dX8_follow_92 : decode cX8_follow 92 = .ok (.iload 4, 2) := by decide +kernel
theorem dX8_follow_94 : decode cX8_follow 94 = .ok (.if_icmp .ne 7, 3) := by decide +kernel
theorem dX8_follow_97 : decode cX8_follow 97 = .ok (.iconst 1, 1) := by decide +kernel
theorem dX8_follow_98 : decode cX8_follow 98 = .ok (.goto 4, 3) := by decide +kernel
theorem dX8_follow_101 : decode cX8_follow 101 = .ok (.iconst 0, 1) := by decide +kernel
theorem dX8_follow_102 : decode cX8_follow 102 = .ok (.putfield 68, 3) := by decide +kernel
theorem dX8_follow_105 : decode cX8_follow 105 = .ok (.return_, 1) := by decide +kernel
theorem dX8_note_0 : decode cX8_note 0 = .ok (.aload_n 0, 1) := by decide +kernel
theorem dX8_note_1 : decode cX8_note 1 = .ok (.getfield 37, 3) := by decide +kernel
theorem dX8_note_4 : decode cX8_note 4 = .ok (.ifCond .lt 15, 3) := by decide +kernel
theorem dX8_note_7 : decode cX8_note 7 = .ok (.aload_n 0, 1) := by decide +kernel
theorem dX8_note_8 : decode cX8_note 8 = .ok (.getfield 37, 3) := by decide +kernel
theorem dX8_note_11 : decode cX8_note 11 = .ok (.aload_n 0, 1) := by decide +kernel
theorem dX8_note_12 : decode cX8_note 12 = .ok (.getfield 15, 3) := by decide +kernel
theorem dX8_note_15 : decode cX8_note 15 = .ok (.arraylength, 1) := by decide +kernel
theorem dX8_note_16 : decode cX8_note 16 = .ok (.if_icmp .lt 4, 3) := by decide +kernel
theorem dX8_note_19 : decode cX8_note 19 = .ok (.return_, 1) := by decide +kernel
theorem dX8_note_20 : decode cX8_note 20 = .ok (.aload_n 0, 1) := by decide +kernel
theorem dX8_note_21 : decode cX8_note 21 = .ok (.getfield 15, 3) := by decide +kernel
theorem dX8_note_24 : decode cX8_note 24 = .ok (.aload_n 0, 1) := by decide +kernel
theorem dX8_note_25 : decode cX8_note 25 = .ok (.getfield 37, 3) := by decide +kernel
theorem dX8_note_28 : decode cX8_note 28 = .ok (.aload_n 0, 1) := by decide +kernel
theorem dX8_note_29 : decode cX8_note 29 = .ok (.getfield 30, 3) := by decide +kernel
theorem dX8_note_32 : decode cX8_note 32 = .ok (.iconst 0, 1) := by decide +kernel
theorem dX8_note_33 : decode cX8_note 33 = .ok (.invokevirtual 72, 3) := by decide +kernel
theorem dX8_note_36 : decode cX8_note 36 = .ok (.iastore, 1) := by decide +kernel
theorem dX8_note_37 : decode cX8_note 37 = .ok (.iconst 0, 1) := by decide +kernel
theorem dX8_note_38 : decode cX8_note 38 = .ok (.istore_n 2, 1) := by decide +kernel
theorem dX8_note_39 : decode cX8_note 39 = .ok (.iload_n 2, 1) := by decide +kernel
theorem dX8_note_40 : decode cX8_note 40 = .ok (.aload_n 0, 1) := by decide +kernel
theorem dX8_note_41 : decode cX8_note 41 = .ok (.getfield 21, 3) := by decide +kernel
theorem dX8_note_44 : decode cX8_note 44 = .ok (.getfield 75, 3) := by decide +kernel
theorem dX8_note_47 : decode cX8_note 47 = .ok (.if_icmp .ge 43, 3) := by decide +kernel
theorem dX8_note_50 : decode cX8_note 50 = .ok (.aload_n 0, 1) := by decide +kernel
theorem dX8_note_51 : decode cX8_note 51 = .ok (.getfield 37, 3) := by decide +kernel
theorem dX8_note_54 : decode cX8_note 54 = .ok (.iconst 3, 1) := by decide +kernel
theorem dX8_note_55 : decode cX8_note 55 = .ok (.imul, 1) := by decide +kernel
theorem dX8_note_56 : decode cX8_note 56 = .ok (.iload_n 2, 1) := by decide +kernel
theorem dX8_note_57 : decode cX8_note 57 = .ok (.iadd, 1) := by decide +kernel
theorem dX8_note_58 : decode cX8_note 58 = .ok (.istore_n 3, 1) := by decide +kernel
theorem dX8_note_59 : decode cX8_note 59 = .ok (.iload_n 3, 1) := by decide +kernel
theorem dX8_note_60 : decode cX8_note 60 = .ok (.aload_n 0, 1) := by decide +kernel
theorem dX8_note_61 : decode cX8_note 61 = .ok (.getfield 9, 3) := by decide +kernel
theorem dX8_note_64 : decode cX8_note 64 = .ok (.arraylength, 1) := by decide +kernel
theorem dX8_note_65 : decode cX8_note 65 = .ok (.if_icmp .ge 19, 3) := by decide +kernel
theorem dX8_note_68 : decode cX8_note 68 = .ok (.aload_n 0, 1) := by decide +kernel
theorem dX8_note_69 : decode cX8_note 69 = .ok (.getfield 9, 3) := by decide +kernel
theorem dX8_note_72 : decode cX8_note 72 = .ok (.iload_n 3, 1) := by decide +kernel
theorem dX8_note_73 : decode cX8_note 73 = .ok (.iload_n 1, 1) := by decide +kernel
theorem dX8_note_74 : decode cX8_note 74 = .ok (.aload_n 0, 1) := by decide +kernel
theorem dX8_note_75 : decode cX8_note 75 = .ok (.getfield 30, 3) := by decide +kernel
theorem dX8_note_78 : decode cX8_note 78 = .ok (.iload_n 2, 1) := by decide +kernel
theorem dX8_note_79 : decode cX8_note 79 = .ok (.invokevirtual 80, 3) := by decide +kernel
theorem dX8_note_82 : decode cX8_note 82 = .ok (.iadd, 1) := by decide +kernel
theorem dX8_note_83 : decode cX8_note 83 = .ok (.iastore, 1) := by decide +kernel
theorem dX8_note_84 : decode cX8_note 84 = .ok (.iinc 2 1, 3) := by decide +kernel
theorem dX8_note_87 : decode cX8_note 87 = .ok (.goto (-48), 3) := by decide +kernel
theorem dX8_note_90 : decode cX8_note 90 = .ok (.return_, 1) := by decide +kernel
theorem dX8_drift_0 : decode cX8_drift 0 = .ok (.iconst 0, 1) := by decide +kernel
theorem dX8_drift_1 : decode cX8_drift 1 = .ok (.istore_n 2, 1) := by decide +kernel
theorem dX8_drift_2 : decode cX8_drift 2 = .ok (.iconst 1, 1) := by decide +kernel
theorem dX8_drift_3 : decode cX8_drift 3 = .ok (.istore_n 3, 1) := by decide +kernel
theorem dX8_drift_4 : decode cX8_drift 4 = .ok (.iload_n 3, 1) := by decide +kernel
theorem dX8_drift_5 : decode cX8_drift 5 = .ok (.aload_n 0, 1) := by decide +kernel
theorem dX8_drift_6 : decode cX8_drift 6 = .ok (.getfield 37, 3) := by decide +kernel
theorem dX8_drift_9 : decode cX8_drift 9 = .ok (.if_icmp .gt 47, 3) := by decide +kernel
theorem dX8_drift_12 : decode cX8_drift 12 = .ok (.iload_n 3, 1) := by decide +kernel
theorem dX8_drift_13 : decode cX8_drift 13 = .ok (.aload_n 0, 1) := by decide +kernel
theorem dX8_drift_14 : decode cX8_drift 14 = .ok (.getfield 18, 3) := by decide +kernel
theorem dX8_drift_17 : decode cX8_drift 17 = .ok (.arraylength, 1) := by decide +kernel
theorem dX8_drift_18 : decode cX8_drift 18 = .ok (.if_icmp .ge 38, 3) := by decide +kernel
theorem dX8_drift_21 : decode cX8_drift 21 = .ok (.iload_n 3, 1) := by decide +kernel
theorem dX8_drift_22 : decode cX8_drift 22 = .ok (.aload_n 0, 1) := by decide +kernel
theorem dX8_drift_23 : decode cX8_drift 23 = .ok (.getfield 15, 3) := by decide +kernel
theorem dX8_drift_26 : decode cX8_drift 26 = .ok (.arraylength, 1) := by decide +kernel
theorem dX8_drift_27 : decode cX8_drift 27 = .ok (.if_icmp .ge 29, 3) := by decide +kernel
theorem dX8_drift_30 : decode cX8_drift 30 = .ok (.iload_n 2, 1) := by decide +kernel
theorem dX8_drift_31 : decode cX8_drift 31 = .ok (.iload_n 1, 1) := by decide +kernel
theorem dX8_drift_32 : decode cX8_drift 32 = .ok (.aload_n 0, 1) := by decide +kernel
theorem dX8_drift_33 : decode cX8_drift 33 = .ok (.getfield 15, 3) := by decide +kernel
theorem dX8_drift_36 : decode cX8_drift 36 = .ok (.iload_n 3, 1) := by decide +kernel
theorem dX8_drift_37 : decode cX8_drift 37 = .ok (.iaload, 1) := by decide +kernel
theorem dX8_drift_38 : decode cX8_drift 38 = .ok (.invokestatic 83, 3) := by decide +kernel
theorem dX8_drift_41 : decode cX8_drift 41 = .ok (.iadd, 1) := by decide +kernel
theorem dX8_drift_42 : decode cX8_drift 42 = .ok (.istore_n 2, 1) := by decide +kernel
theorem dX8_drift_43 : decode cX8_drift 43 = .ok (.aload_n 0, 1) := by decide +kernel
theorem dX8_drift_44 : decode cX8_drift 44 = .ok (.getfield 18, 3) := by decide +kernel
theorem dX8_drift_47 : decode cX8_drift 47 = .ok (.iload_n 3, 1) := by decide +kernel
theorem dX8_drift_48 : decode cX8_drift 48 = .ok (.iload_n 2, 1) := by decide +kernel
theorem dX8_drift_49 : decode cX8_drift 49 = .ok (.iastore, 1) := by decide +kernel
theorem dX8_drift_50 : decode cX8_drift 50 = .ok (.iinc 3 1, 3) := by decide +kernel
theorem dX8_drift_53 : decode cX8_drift 53 = .ok (.goto (-49), 3) := by decide +kernel
theorem dX8_drift_56 : decode cX8_drift 56 = .ok (.return_, 1) := by decide +kernel
theorem dX8_closes_0 : decode cX8_closes 0 = .ok (.aload_n 0, 1) := by decide +kernel
theorem dX8_closes_1 : decode cX8_closes 1 = .ok (.getfield 68, 3) := by decide +kernel
theorem dX8_closes_4 : decode cX8_closes 4 = .ok (.ifCond .eq 17, 3) := by decide +kernel
theorem dX8_closes_7 : decode cX8_closes 7 = .ok (.aload_n 0, 1) := by decide +kernel
theorem dX8_closes_8 : decode cX8_closes 8 = .ok (.getfield 30, 3) := by decide +kernel
theorem dX8_closes_11 : decode cX8_closes 11 = .ok (.invokevirtual 86, 3) := by decide +kernel
theorem dX8_closes_14 : decode cX8_closes 14 = .ok (.ifCond .eq 7, 3) := by decide +kernel
theorem dX8_closes_17 : decode cX8_closes 17 = .ok (.iconst 1, 1) := by decide +kernel
theorem dX8_closes_18 : decode cX8_closes 18 = .ok (.goto 4, 3) := by decide +kernel
theorem dX8_closes_21 : decode cX8_closes 21 = .ok (.iconst 0, 1) := by decide +kernel
theorem dX8_closes_22 : decode cX8_closes 22 = .ok (.ireturn, 1) := by decide +kernel
theorem dX8_turnOf_0 : decode cX8_turnOf 0 = .ok (.iload_n 1, 1) := by decide +kernel
theorem dX8_turnOf_1 : decode cX8_turnOf 1 = .ok (.iconst 3, 1) := by decide +kernel
theorem dX8_turnOf_2 : decode cX8_turnOf 2 = .ok (.imul, 1) := by decide +kernel
theorem dX8_turnOf_3 : decode cX8_turnOf 3 = .ok (.iload_n 2, 1) := by decide +kernel
theorem dX8_turnOf_4 : decode cX8_turnOf 4 = .ok (.iadd, 1) := by decide +kernel
theorem dX8_turnOf_5 : decode cX8_turnOf 5 = .ok (.istore_n 3, 1) := by decide +kernel
theorem dX8_turnOf_6 : decode cX8_turnOf 6 = .ok (.iload_n 1, 1) := by decide +kernel
theorem dX8_turnOf_7 : decode cX8_turnOf 7 = .ok (.ifCond .lt 41, 3) := by decide +kernel
theorem dX8_turnOf_10 : decode cX8_turnOf 10 = .ok (.iload_n 1, 1) := by decide +kernel
theorem dX8_turnOf_11 : decode cX8_turnOf 11 = .ok (.aload_n 0, 1) := by decide +kernel
theorem dX8_turnOf_12 : decode cX8_turnOf 12 = .ok (.getfield 18, 3) := by decide +kernel
theorem dX8_turnOf_15 : decode cX8_turnOf 15 = .ok (.arraylength, 1) := by decide +kernel
theorem dX8_turnOf_16 : decode cX8_turnOf 16 = .ok (.if_icmp .ge 32, 3) := by decide +kernel
theorem dX8_turnOf_19 : decode cX8_turnOf 19 = .ok (.iload_n 3, 1) := by decide +kernel
theorem dX8_turnOf_20 : decode cX8_turnOf 20 = .ok (.ifCond .lt 28, 3) := by decide +kernel
theorem dX8_turnOf_23 : decode cX8_turnOf 23 = .ok (.iload_n 3, 1) := by decide +kernel
theorem dX8_turnOf_24 : decode cX8_turnOf 24 = .ok (.aload_n 0, 1) := by decide +kernel
theorem dX8_turnOf_25 : decode cX8_turnOf 25 = .ok (.getfield 9, 3) := by decide +kernel
theorem dX8_turnOf_28 : decode cX8_turnOf 28 = .ok (.arraylength, 1) := by decide +kernel
theorem dX8_turnOf_29 : decode cX8_turnOf 29 = .ok (.if_icmp .ge 19, 3) := by decide +kernel
theorem dX8_turnOf_32 : decode cX8_turnOf 32 = .ok (.aload_n 0, 1) := by decide +kernel
theorem dX8_turnOf_33 : decode cX8_turnOf 33 = .ok (.getfield 9, 3) := by decide +kernel
theorem dX8_turnOf_36 : decode cX8_turnOf 36 = .ok (.iload_n 3, 1) := by decide +kernel
theorem dX8_turnOf_37 : decode cX8_turnOf 37 = .ok (.iaload, 1) := by decide +kernel
theorem dX8_turnOf_38 : decode cX8_turnOf 38 = .ok (.aload_n 0, 1) := by decide +kernel
theorem dX8_turnOf_39 : decode cX8_turnOf 39 = .ok (.getfield 18, 3) := by decide +kernel
theorem dX8_turnOf_42 : decode cX8_turnOf 42 = .ok (.iload_n 1, 1) := by decide +kernel
theorem dX8_turnOf_43 : decode cX8_turnOf 43 = .ok (.iaload, 1) := by decide +kernel
theorem dX8_turnOf_44 : decode cX8_turnOf 44 = .ok (.iadd, 1) := by decide +kernel
theorem dX8_turnOf_45 : decode cX8_turnOf 45 = .ok (.goto 4, 3) := by decide +kernel
theorem dX8_turnOf_48 : decode cX8_turnOf 48 = .ok (.iconst 0, 1) := by decide +kernel
theorem dX8_turnOf_49 : decode cX8_turnOf 49 = .ok (.ireturn, 1) := by decide +kernel
theorem dX8_isFilmed_0 : decode cX8_isFilmed 0 = .ok (.iconst 0, 1) := by decide +kernel
theorem dX8_isFilmed_1 : decode cX8_isFilmed 1 = .ok (.istore_n 3, 1) := by decide +kernel
theorem dX8_isFilmed_2 : decode cX8_isFilmed 2 = .ok (.iload_n 3, 1) := by decide +kernel
theorem dX8_isFilmed_3 : decode cX8_isFilmed 3 = .ok (.aload_n 1, 1) := by decide +kernel
theorem dX8_isFilmed_4 : decode cX8_isFilmed 4 = .ok (.getfield 90, 3) := by decide +kernel
theorem dX8_isFilmed_7 : decode cX8_isFilmed 7 = .ok (.if_icmp .ge 66, 3) := by decide +kernel
theorem dX8_isFilmed_10 : decode cX8_isFilmed 10 = .ok (.aload_n 1, 1) := by decide +kernel
theorem dX8_isFilmed_11 : decode cX8_isFilmed 11 = .ok (.iload_n 3, 1) := by decide +kernel
theorem dX8_isFilmed_12 : decode cX8_isFilmed 12 = .ok (.iconst 0, 1) := by decide +kernel
theorem dX8_isFilmed_13 : decode cX8_isFilmed 13 = .ok (.invokevirtual 93, 3) := by decide +kernel
theorem dX8_isFilmed_16 : decode cX8_isFilmed 16 = .ok (.istore 4, 2) := by decide +kernel
theorem dX8_isFilmed_18 : decode cX8_isFilmed 18 = .ok (.iload 4, 2) := by decide +kernel
theorem dX8_isFilmed_20 : decode cX8_isFilmed 20 = .ok (.aload_n 0, 1) := by decide +kernel
theorem dX8_isFilmed_21 : decode cX8_isFilmed 21 = .ok (.getfield 37, 3) := by decide +kernel
theorem dX8_isFilmed_24 : decode cX8_isFilmed 24 = .ok (.if_icmp .le 5, 3) := by decide +kernel
theorem dX8_isFilmed_27 : decode cX8_isFilmed 27 = .ok (.iconst 0, 1) := by decide +kernel
theorem dX8_isFilmed_28 : decode cX8_isFilmed 28 = .ok (.ireturn, 1) := by decide +kernel
theorem dX8_isFilmed_29 : decode cX8_isFilmed 29 = .ok (.iload_n 2, 1) := by decide +kernel
theorem dX8_isFilmed_30 : decode cX8_isFilmed 30 = .ok (.aload_n 0, 1) := by decide +kernel
theorem dX8_isFilmed_31 : decode cX8_isFilmed 31 = .ok (.iload 4, 2) := by decide +kernel
theorem dX8_isFilmed_33 : decode cX8_isFilmed 33 = .ok (.aload_n 1, 1) := by decide +kernel
theorem dX8_isFilmed_34 : decode cX8_isFilmed 34 = .ok (.iload_n 3, 1) := by decide +kernel
theorem dX8_isFilmed_35 : decode cX8_isFilmed 35 = .ok (.iconst 1, 1) := by decide +kernel
theorem dX8_isFilmed_36 : decode cX8_isFilmed 36 = .ok (.invokevirtual 93, 3) := by decide +kernel
theorem dX8_isFilmed_39 : decode cX8_isFilmed 39 = .ok (.invokevirtual 96, 3) := by decide +kernel
theorem dX8_isFilmed_42 : decode cX8_isFilmed 42 = .ok (.iadd, 1) := by decide +kernel
theorem dX8_isFilmed_43 : decode cX8_isFilmed 43 = .ok (.istore 5, 2) := by decide +kernel
theorem dX8_isFilmed_45 : decode cX8_isFilmed 45 = .ok (.iload 5, 2) := by decide +kernel
theorem dX8_isFilmed_47 : decode cX8_isFilmed 47 = .ok (.aload_n 1, 1) := by decide +kernel
theorem dX8_isFilmed_48 : decode cX8_isFilmed 48 = .ok (.iload_n 3, 1) := by decide +kernel
theorem dX8_isFilmed_49 : decode cX8_isFilmed 49 = .ok (.iconst 2, 1) := by decide +kernel
theorem dX8_isFilmed_50 : decode cX8_isFilmed 50 = .ok (.invokevirtual 93, 3) := by decide +kernel
theorem dX8_isFilmed_53 : decode cX8_isFilmed 53 = .ok (.invokestatic 99, 3) := by decide +kernel
theorem dX8_isFilmed_56 : decode cX8_isFilmed 56 = .ok (.aload_n 1, 1) := by decide +kernel
theorem dX8_isFilmed_57 : decode cX8_isFilmed 57 = .ok (.iload_n 3, 1) := by decide +kernel
theorem dX8_isFilmed_58 : decode cX8_isFilmed 58 = .ok (.iconst 3, 1) := by decide +kernel
theorem dX8_isFilmed_59 : decode cX8_isFilmed 59 = .ok (.invokevirtual 93, 3) := by decide +kernel
theorem dX8_isFilmed_62 : decode cX8_isFilmed 62 = .ok (.if_icmp .le 5, 3) := by decide +kernel
theorem dX8_isFilmed_65 : decode cX8_isFilmed 65 = .ok (.iconst 0, 1) := by decide +kernel
theorem dX8_isFilmed_66 : decode cX8_isFilmed 66 = .ok (.ireturn, 1) := by decide +kernel
theorem dX8_isFilmed_67 : decode cX8_isFilmed 67 = .ok (.iinc 3 1, 3) := by decide +kernel
theorem dX8_isFilmed_70 : decode cX8_isFilmed 70 = .ok (.goto (-68), 3) := by decide +kernel
theorem dX8_isFilmed_73 : decode cX8_isFilmed 73 = .ok (.iconst 1, 1) := by decide +kernel
theorem dX8_isFilmed_74 : decode cX8_isFilmed 74 = .ok (.ireturn, 1) := by decide +kernel
theorem dX9_init_0 : decode cX9_init 0 = .ok (.aload_n 0, 1) := by decide +kernel
theorem dX9_init_1 : decode cX9_init 1 = .ok (.invokespecial 3, 3) := by decide +kernel
theorem dX9_init_4 : decode cX9_init 4 = .ok (.aload_n 0, 1) := by decide +kernel
theorem dX9_init_5 : decode cX9_init 5 = .ok (.new 9, 3) := by decide +kernel
theorem dX9_init_8 : decode cX9_init 8 = .ok (.dup, 1) := by decide +kernel
theorem dX9_init_9 : decode cX9_init 9 = .ok (.invokespecial 11, 3) := by decide +kernel
theorem dX9_init_12 : decode cX9_init 12 = .ok (.putfield 12, 3) := by decide +kernel
theorem dX9_init_15 : decode cX9_init 15 = .ok (.aload_n 0, 1) := by decide +kernel
theorem dX9_init_16 : decode cX9_init 16 = .ok (.new 16, 3) := by decide +kernel
theorem dX9_init_19 : decode cX9_init 19 = .ok (.dup, 1) := by decide +kernel
theorem dX9_init_20 : decode cX9_init 20 = .ok (.invokespecial 18, 3) := by decide +kernel
theorem dX9_init_23 : decode cX9_init 23 = .ok (.putfield 19, 3) := by decide +kernel
theorem dX9_init_26 : decode cX9_init 26 = .ok (.aload_n 0, 1) := by decide +kernel
theorem dX9_init_27 : decode cX9_init 27 = .ok (.new 16, 3) := by decide +kernel
theorem dX9_init_30 : decode cX9_init 30 = .ok (.dup, 1) := by decide +kernel
theorem dX9_init_31 : decode cX9_init 31 = .ok (.invokespecial 18, 3) := by decide +kernel
theorem dX9_init_34 : decode cX9_init 34 = .ok (.putfield 23, 3) := by decide +kernel
theorem dX9_init_37 : decode cX9_init 37 = .ok (.aload_n 0, 1) := by decide +kernel
theorem dX9_init_38 : decode cX9_init 38 = .ok (.new 26, 3) := by decide +kernel
theorem dX9_init_41 : decode cX9_init 41 = .ok (.dup, 1) := by decide +kernel
theorem dX9_init_42 : decode cX9_init 42 = .ok (.aload_n 0, 1) := by decide +kernel
theorem dX9_init_43 : decode cX9_init 43 = .ok (.getfield 12, 3) := by decide +kernel
theorem dX9_init_46 : decode cX9_init 46 = .ok (.aload_n 0, 1) := by decide +kernel
theorem dX9_init_47 : decode cX9_init 47 = .ok (.getfield 23, 3) := by decide +kernel
theorem dX9_init_50 : decode cX9_init 50 = .ok (.invokespecial 28, 3) := by decide +kernel
theorem dX9_init_53 : decode cX9_init 53 = .ok (.putfield 31, 3) := by decide +kernel
theorem dX9_init_56 : decode cX9_init 56 = .ok (.aload_n 0, 1) := by decide +kernel
theorem dX9_init_57 : decode cX9_init 57 = .ok (.new 35, 3) := by decide +kernel
theorem dX9_init_60 : decode cX9_init 60 = .ok (.dup, 1) := by decide +kernel
theorem dX9_init_61 : decode cX9_init 61 = .ok (.invokespecial 37, 3) := by decide +kernel
theorem dX9_init_64 : decode cX9_init 64 = .ok (.putfield 38, 3) := by decide +kernel
theorem dX9_init_67 : decode cX9_init 67 = .ok (.aload_n 0, 1) := by decide +kernel
theorem dX9_init_68 : decode cX9_init 68 = .ok (.iconst 2, 1) := by decide +kernel
theorem dX9_init_69 : decode cX9_init 69 = .ok (.anewarray 35, 3) := by decide +kernel
theorem dX9_init_72 : decode cX9_init 72 = .ok (.putfield 42, 3) := by decide +kernel
theorem dX9_init_75 : decode cX9_init 75 = .ok (.iconst 0, 1) := by decide +kernel
theorem dX9_init_76 : decode cX9_init 76 = .ok (.istore_n 1, 1) := by decide +kernel
theorem dX9_init_77 : decode cX9_init 77 = .ok (.iload_n 1, 1) := by decide +kernel
theorem dX9_init_78 : decode cX9_init 78 = .ok (.aload_n 0, 1) := by decide +kernel
theorem dX9_init_79 : decode cX9_init 79 = .ok (.getfield 42, 3) := by decide +kernel
theorem dX9_init_82 : decode cX9_init 82 = .ok (.arraylength, 1) := by decide +kernel
theorem dX9_init_83 : decode cX9_init 83 = .ok (.if_icmp .ge 22, 3) := by decide +kernel
theorem dX9_init_86 : decode cX9_init 86 = .ok (.aload_n 0, 1) := by decide +kernel
theorem dX9_init_87 : decode cX9_init 87 = .ok (.getfield 42, 3) := by decide +kernel
theorem dX9_init_90 : decode cX9_init 90 = .ok (.iload_n 1, 1) := by decide +kernel
theorem dX9_init_91 : decode cX9_init 91 = .ok (.new 35, 3) := by decide +kernel
theorem dX9_init_94 : decode cX9_init 94 = .ok (.dup, 1) := by decide +kernel
theorem dX9_init_95 : decode cX9_init 95 = .ok (.invokespecial 37, 3) := by decide +kernel
theorem dX9_init_98 : decode cX9_init 98 = .ok (.aastore, 1) := by decide +kernel
theorem dX9_init_99 : decode cX9_init 99 = .ok (.iinc 1 1, 3) := by decide +kernel
theorem dX9_init_102 : decode cX9_init 102 = .ok (.goto (-25), 3) := by decide +kernel
theorem dX9_init_105 : decode cX9_init 105 = .ok (.aload_n 0, 1) := by decide +kernel
theorem dX9_init_106 : decode cX9_init 106 = .ok (.new 46, 3) := by decide +kernel
theorem dX9_init_109 : decode cX9_init 109 = .ok (.dup, 1) := by decide +kernel
theorem dX9_init_110 : decode cX9_init 110 = .ok (.aload_n 0, 1) := by decide +kernel
theorem dX9_init_111 : decode cX9_init 111 = .ok (.getfield 19, 3) := by decide +kernel
theorem dX9_init_114 : decode cX9_init 114 = .ok (.invokespecial 48, 3) := by decide +kernel
theorem dX9_init_117 : decode cX9_init 117 = .ok (.putfield 51, 3) := by decide +kernel
theorem dX9_init_120 : decode cX9_init 120 = .ok (.aload_n 0, 1) := by decide +kernel
theorem dX9_init_121 : decode cX9_init 121 = .ok (.iconst 4, 1) := by decide +kernel
theorem dX9_init_122 : decode cX9_init 122 = .ok (.newarray .int, 2) := by decide +kernel
theorem dX9_init_124 : decode cX9_init 124 = .ok (.putfield 55, 3) := by decide +kernel
theorem dX9_init_127 : decode cX9_init 127 = .ok (.aload_n 0, 1) := by decide +kernel
theorem dX9_init_128 : decode cX9_init 128 = .ok (.new 59, 3) := by decide +kernel
theorem dX9_init_131 : decode cX9_init 131 = .ok (.dup, 1) := by decide +kernel
theorem dX9_init_132 : decode cX9_init 132 = .ok (.aload_n 0, 1) := by decide +kernel
theorem dX9_init_133 : decode cX9_init 133 = .ok (.getfield 19, 3) := by decide +kernel
theorem dX9_init_136 : decode cX9_init 136 = .ok (.invokespecial 61, 3) := by decide +kernel
theorem dX9_init_139 : decode cX9_init 139 = .ok (.putfield 62, 3) := by decide +kernel
theorem dX9_init_142 : decode cX9_init 142 = .ok (.aload_n 0, 1) := by decide +kernel
theorem dX9_init_143 : decode cX9_init 143 = .ok (.new 66, 3) := by decide +kernel
theorem dX9_init_146 : decode cX9_init 146 = .ok (.dup, 1) := by decide +kernel
theorem dX9_init_147 : decode cX9_init 147 = .ok (.aload_n 0, 1) := by decide +kernel
theorem dX9_init_148 : decode cX9_init 148 = .ok (.getfield 19, 3) := by decide +kernel
theorem dX9_init_151 : decode cX9_init 151 = .ok (.iconst (-1), 1) := by decide +kernel
theorem dX9_init_152 : decode cX9_init 152 = .ok (.invokespecial 68, 3) := by decide +kernel
theorem dX9_init_155 : decode cX9_init 155 = .ok (.putfield 71, 3) := by decide +kernel
theorem dX9_init_158 : decode cX9_init 158 = .ok (.aload_n 0, 1) := by decide +kernel
theorem dX9_init_159 : decode cX9_init 159 = .ok (.new 66, 3) := by decide +kernel
theorem dX9_init_162 : decode cX9_init 162 = .ok (.dup, 1) := by decide +kernel
theorem dX9_init_163 : decode cX9_init 163 = .ok (.aload_n 0, 1) := by decide +kernel
theorem dX9_init_164 : decode cX9_init 164 = .ok (.getfield 19, 3) := by decide +kernel
theorem dX9_init_167 : decode cX9_init 167 = .ok (.iconst 0, 1) := by decide +kernel
theorem dX9_init_168 : decode cX9_init 168 = .ok (.invokespecial 68, 3) := by decide +kernel
theorem dX9_init_171 : decode cX9_init 171 = .ok (.putfield 75, 3) := by decide +kernel
theorem dX9_init_174 : decode cX9_init 174 = .ok (.aload_n 0, 1) := by decide +kernel
theorem dX9_init_175 : decode cX9_init 175 = .ok (.new 66, 3) := by decide +kernel
theorem dX9_init_178 : decode cX9_init 178 = .ok (.dup, 1) := by decide +kernel
theorem dX9_init_179 : decode cX9_init 179 = .ok (.aload_n 0, 1) := by decide +kernel
theorem dX9_init_180 : decode cX9_init 180 = .ok (.getfield 19, 3) := by decide +kernel
theorem dX9_init_183 : decode cX9_init 183 = .ok (.iconst 1, 1) := by decide +kernel
theorem dX9_init_184 : decode cX9_init 184 = .ok (.invokespecial 68, 3) := by decide +kernel
theorem dX9_init_187 : decode cX9_init 187 = .ok (.putfield 78, 3) := by decide +kernel
theorem dX9_init_190 : decode cX9_init 190 = .ok (.aload_n 0, 1) := by decide +kernel
theorem dX9_init_191 : decode cX9_init 191 = .ok (.getfield 19, 3) := by decide +kernel
theorem dX9_init_194 : decode cX9_init 194 = .ok (.iconst 1, 1) := by decide +kernel
theorem dX9_init_195 : decode cX9_init 195 = .ok (.iconst 1, 1) := by decide +kernel
theorem dX9_init_196 : decode cX9_init 196 = .ok (.iconst 1, 1) := by decide +kernel
theorem dX9_init_197 : decode cX9_init 197 = .ok (.invokevirtual 81, 3) := by decide +kernel
theorem dX9_init_200 : decode cX9_init 200 = .ok (.pop, 1) := by decide +kernel
theorem dX9_init_201 : decode cX9_init 201 = .ok (.aload_n 0, 1) := by decide +kernel
theorem dX9_init_202 : decode cX9_init 202 = .ok (.getfield 19, 3) := by decide +kernel
theorem dX9_init_205 : decode cX9_init 205 = .ok (.iconst 1, 1) := by decide +kernel
theorem dX9_init_206 : decode cX9_init 206 = .ok (.iconst 1, 1) := by decide +kernel
theorem dX9_init_207 : decode cX9_init 207 = .ok (.iconst 1, 1) := by decide +kernel
theorem dX9_init_208 : decode cX9_init 208 = .ok (.invokevirtual 81, 3) := by decide +kernel
theorem dX9_init_211 : decode cX9_init 211 = .ok (.pop, 1) := by decide +kernel
theorem dX9_init_212 : decode cX9_init 212 = .ok (.aload_n 0, 1) := by decide +kernel
theorem dX9_init_213 : decode cX9_init 213 = .ok (.getfield 19, 3) := by decide +kernel
theorem dX9_init_216 : decode cX9_init 216 = .ok (.bipush 10, 2) := by decide +kernel
theorem dX9_init_218 : decode cX9_init 218 = .ok (.invokevirtual 85, 3) := by decide +kernel
theorem dX9_init_221 : decode cX9_init 221 = .ok (.pop, 1) := by decide +kernel
theorem dX9_init_222 : decode cX9_init 222 = .ok (.return_, 1) := by decide +kernel
theorem dX9_write_0 : decode cX9_write 0 = .ok (.iload_n 1, 1) := by decide +kernel
theorem dX9_write_1 : decode cX9_write 1 = .ok (.iconst 1, 1) := by decide +kernel
theorem dX9_write_2 : decode cX9_write 2 = .ok (.bipush 8, 2) := by decide +kernel
theorem dX9_write_4 : decode cX9_write 4 = .ok (.invokestatic 89, 3) := by decide +kernel
theorem dX9_write_7 : decode cX9_write 7 = .ok (.ifCond .ne 5, 3) := by decide +kernel
theorem dX9_write_10 : decode cX9_write 10 = .ok (.iconst (-1), 1) := by decide +kernel
theorem dX9_write_11 : decode cX9_write 11 = .ok (.ireturn, 1) := by decide +kernel
theorem dX9_write_12 : decode cX9_write 12 = .ok (.aload_n 0, 1) := by decide +kernel
theorem dX9_write_13 : decode cX9_write 13 = .ok (.getfield 12, 3) := by decide +kernel
theorem dX9_write_16 : decode cX9_write 16 = .ok (.iload_n 1, 1) := by decide +kernel
theorem dX9_write_17 : decode cX9_write 17 = .ok (.lload_n 2, 1) := by decide +kernel
theorem dX9_write_18 : decode cX9_write 18 = .ok (.invokevirtual 92, 3) := by decide +kernel
theorem dX9_write_21 : decode cX9_write 21 = .ok (.ifCond .eq 13, 3) := by decide +kernel
theorem dX9_write_24 : decode cX9_write 24 = .ok (.aload_n 0, 1) := by decide +kernel
theorem dX9_write_25 : decode cX9_write 25 = .ok (.getfield 12, 3) := by decide +kernel
theorem dX9_write_28 : decode cX9_write 28 = .ok (.getfield 96, 3) := by decide +kernel
theorem dX9_write_31 : decode cX9_write 31 = .ok (.goto 5, 3) := by decide +kernel
theorem dX9_write_34 : decode cX9_write 34 = .ok (.bipush (-3), 2) := by decide +kernel
theorem dX9_write_36 : decode cX9_write 36 = .ok (.ireturn, 1) := by decide +kernel
theorem dX9_wipe_0 : decode cX9_wipe 0 = .ok (.aload_n 0, 1) := by decide +kernel
theorem dX9_wipe_1 : decode cX9_wipe 1 = .ok (.getfield 12, 3) := by decide +kernel
theorem dX9_wipe_4 : decode cX9_wipe 4 = .ok (.getfield 96, 3) := by decide +kernel
theorem dX9_wipe_7 : decode cX9_wipe 7 = .ok (.istore_n 1, 1) := by decide +kernel
theorem dX9_wipe_8 : decode cX9_wipe 8 = .ok (.aload_n 0, 1) := by decide +kernel
theorem dX9_wipe_9 : decode cX9_wipe 9 = .ok (.getfield 12, 3) := by decide +kernel
theorem dX9_wipe_12 : decode cX9_wipe 12 = .ok (.iconst 0, 1) := by decide +kernel
theorem dX9_wipe_13 : decode cX9_wipe 13 = .ok (.putfield 96, 3) := by decide +kernel
theorem dX9_wipe_16 : decode cX9_wipe 16 = .ok (.iload_n 1, 1) := by decide +kernel
theorem dX9_wipe_17 : decode cX9_wipe 17 = .ok (.ireturn, 1) := by decide +kernel
theorem dX9_fault_0 : decode cX9_fault 0 = .ok (.aload_n 0, 1) := by decide +kernel
theorem dX9_fault_1 : decode cX9_fault 1 = .ok (.getfield 31, 3) := by decide +kernel
theorem dX9_fault_4 : decode cX9_fault 4 = .ok (.invokevirtual 100, 3) := by decide +kernel
theorem dX9_fault_7 : decode cX9_fault 7 = .ok (.ireturn, 1) := by decide +kernel
theorem dX9_lay_0 : decode cX9_lay 0 = .ok (.aload_n 0, 1) := by decide +kernel
theorem dX9_lay_1 : decode cX9_lay 1 = .ok (.getfield 31, 3) := by decide +kernel
theorem dX9_lay_4 : decode cX9_lay 4 = .ok (.invokevirtual 100, 3) := by decide +kernel
theorem dX9_lay_7 : decode cX9_lay 7 = .ok (.bipush (-4), 2) := by decide +kernel
theorem dX9_lay_9 : decode cX9_lay 9 = .ok (.if_icmp .ne 13, 3) := by decide +kernel
theorem dX9_lay_12 : decode cX9_lay 12 = .ok (.aload_n 0, 1) := by decide +kernel
theorem dX9_lay_13 : decode cX9_lay 13 = .ok (.getfield 23, 3) := by decide +kernel
theorem dX9_lay_16 : decode cX9_lay 16 = .ok (.invokevirtual 104, 3) := by decide +kernel
theorem dX9_lay_19 : decode cX9_lay 19 = .ok (.ifCond .ne 6, 3) := by decide +kernel
theorem dX9_lay_22 : decode cX9_lay 22 = .ok (.bipush (-2), 2) := by decide +kernel
theorem dX9_lay_24 : decode cX9_lay 24 = .ok (.ireturn, 1) := by decide +kernel
theorem dX9_lay_25 : decode cX9_lay 25 = .ok (.aload_n 0, 1) := by decide +kernel
theorem dX9_lay_26 : decode cX9_lay 26 = .ok (.getfield 23, 3) := by decide +kernel
theorem dX9_lay_29 : decode cX9_lay 29 = .ok (.aload_n 0, 1) := by decide +kernel
theorem dX9_lay_30 : decode cX9_lay 30 = .ok (.getfield 19, 3) := by decide +kernel
theorem dX9_lay_33 : decode cX9_lay 33 = .ok (.invokevirtual 108, 3) := by decide +kernel
theorem dX9_lay_36 : decode cX9_lay 36 = .ok (.ifCond .ne 35, 3) := by decide +kernel
theorem dX9_lay_39 : decode cX9_lay 39 = .ok (.aload_n 0, 1) := by decide +kernel
theorem dX9_lay_40 : decode cX9_lay 40 = .ok (.getfield 19, 3) := by decide +kernel
theorem dX9_lay_43 : decode cX9_lay 43 = .ok (.aload_n 0, 1) := by decide +kernel
theorem dX9_lay_44 : decode cX9_lay 44 = .ok (.getfield 23, 3) := by decide +kernel
theorem dX9_lay_47 : decode cX9_lay 47 = .ok (.invokevirtual 112, 3) := by decide +kernel
theorem dX9_lay_50 : decode cX9_lay 50 = .ok (.aload_n 0, 1) := by decide +kernel
theorem dX9_lay_51 : decode cX9_lay 51 = .ok (.getfield 71, 3) := by decide +kernel
theorem dX9_lay_54 : decode cX9_lay 54 = .ok (.invokevirtual 115, 3) := by decide +kernel
theorem dX9_lay_57 : decode cX9_lay 57 = .ok (.aload_n 0, 1) := by decide +kernel
theorem dX9_lay_58 : decode cX9_lay 58 = .ok (.getfield 75, 3) := by decide +kernel
theorem dX9_lay_61 : decode cX9_lay 61 = .ok (.invokevirtual 115, 3) := by decide +kernel
theorem dX9_lay_64 : decode cX9_lay 64 = .ok (.aload_n 0, 1) := by decide +kernel
theorem dX9_lay_65 : decode cX9_lay 65 = .ok (.getfield 78, 3) := by decide +kernel
theorem dX9_lay_68 : decode cX9_lay 68 = .ok (.invokevirtual 115, 3) := by decide +kernel
theorem dX9_lay_71 : decode cX9_lay 71 = .ok (.aload_n 0, 1) := by decide +kernel
theorem dX9_lay_72 : decode cX9_lay 72 = .ok (.getfield 38, 3) := by decide +kernel
theorem dX9_lay_75 : decode cX9_lay 75 = .ok (.invokevirtual 118, 3) := by decide +kernel
theorem dX9_lay_78 : decode cX9_lay 78 = .ok (.aload_n 0, 1) := by decide +kernel
theorem dX9_lay_79 : decode cX9_lay 79 = .ok (.iconst 0, 1) := by decide +kernel
theorem dX9_lay_80 : decode cX9_lay 80 = .ok (.putfield 121, 3) := by decide +kernel
theorem dX9_lay_83 : decode cX9_lay 83 = .ok (.aload_n 0, 1) := by decide +kernel
theorem dX9_lay_84 : decode cX9_lay 84 = .ok (.getfield 19, 3) := by decide +kernel
theorem dX9_lay_87 : decode cX9_lay 87 = .ok (.getfield 124, 3) := by decide +kernel
theorem dX9_lay_90 : decode cX9_lay 90 = .ok (.ireturn, 1) := by decide +kernel
theorem dX9_load_0 : decode cX9_load 0 = .ok (.aload_n 0, 1) := by decide +kernel
theorem dX9_load_1 : decode cX9_load 1 = .ok (.iload_n 1, 1) := by decide +kernel
theorem dX9_load_2 : decode cX9_load 2 = .ok (.invokevirtual 127, 3) := by decide +kernel
theorem dX9_load_5 : decode cX9_load 5 = .ok (.ifCond .eq 12, 3) := by decide +kernel
theorem dX9_load_8 : decode cX9_load 8 = .ok (.iload_n 2, 1) := by decide +kernel
theorem dX9_load_9 : decode cX9_load 9 = .ok (.iconst 0, 1) := by decide +kernel
theorem dX9_load_10 : decode cX9_load 10 = .ok (.iconst 2, 1) := by decide +kernel
theorem dX9_load_11 : decode cX9_load 11 = .ok (.invokestatic 89, 3) := by decide +kernel
theorem dX9_load_14 : decode cX9_load 14 = .ok (.ifCond .ne 5, 3) := by decide +kernel
theorem dX9_load_17 : decode cX9_load 17 = .ok (.iconst (-1), 1) := by decide +kernel
theorem dX9_load_18 : decode cX9_load 18 = .ok (.ireturn, 1) := by decide +kernel
theorem dX9_load_19 : decode cX9_load 19 = .ok (.aload_n 0, 1) := by decide +kernel
theorem dX9_load_20 : decode cX9_load 20 = .ok (.getfield 19, 3) := by decide +kernel
theorem dX9_load_23 : decode cX9_load 23 = .ok (.iload_n 1, 1) := by decide +kernel
theorem dX9_load_24 : decode cX9_load 24 = .ok (.iload_n 2, 1) := by decide +kernel
theorem dX9_load_25 : decode cX9_load 25 = .ok (.invokevirtual 130, 3) := by decide +kernel
theorem dX9_load_28 : decode cX9_load 28 = .ok (.ireturn, 1) := by decide +kernel
theorem dX9_joint_0 : decode cX9_joint 0 = .ok (.aload_n 0, 1) := by decide +kernel
theorem dX9_joint_1 : decode cX9_joint 1 = .ok (.iload_n 1, 1) := by decide +kernel
theorem dX9_joint_2 : decode cX9_joint 2 = .ok (.invokevirtual 134, 3) := by decide +kernel
theorem dX9_joint_5 : decode cX9_joint 5 = .ok (.ifCond .eq 12, 3) := by decide +kernel
theorem dX9_joint_8 : decode cX9_joint 8 = .ok (.iload_n 2, 1) := by decide +kernel
theorem dX9_joint_9 : decode cX9_joint 9 = .ok (.iconst 0, 1) := by decide +kernel
theorem dX9_joint_10 : decode cX9_joint 10 = .ok (.iconst 1, 1) := by decide +kernel
theorem dX9_joint_11 : decode cX9_joint 11 = .ok (.invokestatic 89, 3) := by decide +kernel
theorem dX9_joint_14 : decode cX9_joint 14 = .ok (.ifCond .ne 5, 3) := by decide +kernel
theorem dX9_joint_17 : decode cX9_joint 17 = .ok (.iconst (-1), 1) := by decide +kernel
theorem dX9_joint_18 : decode cX9_joint 18 = .ok (.ireturn, 1) := by decide +kernel
theorem dX9_joint_19 : decode cX9_joint 19 = .ok (.iload_n 2, 1) := by decide +kernel
theorem dX9_joint_20 : decode cX9_joint 20 = .ok (.ifCond .ne 12, 3) := by decide +kernel
theorem dX9_joint_23 : decode cX9_joint 23 = .ok (.aload_n 0, 1) := by decide +kernel
theorem dX9_joint_24 : decode cX9_joint 24 = .ok (.getfield 19, 3) := by decide +kernel
theorem dX9_joint_27 : decode cX9_joint 27 = .ok (.iload_n 1, 1) := by decide +kernel
theorem dX9_joint_28 : decode cX9_joint 28 = .ok (.invokevirtual 137, 3) := by decide +kernel
theorem dX9_joint_31 : decode cX9_joint 31 = .ok (.ireturn, 1) := by decide +kernel
theorem dX9_joint_32 : decode cX9_joint 32 = .ok (.aload_n 0, 1) := by decide +kernel
theorem dX9_joint_33 : decode cX9_joint 33 = .ok (.getfield 19, 3) := by decide +kernel
theorem dX9_joint_36 : decode cX9_joint 36 = .ok (.iload_n 1, 1) := by decide +kernel
theorem dX9_joint_37 : decode cX9_joint 37 = .ok (.invokevirtual 141, 3) := by decide +kernel
theorem dX9_joint_40 : decode cX9_joint 40 = .ok (.ifCond .eq 7, 3) := by decide +kernel
theorem dX9_joint_43 : decode cX9_joint 43 = .ok (.iconst 1, 1) := by decide +kernel
theorem dX9_joint_44 : decode cX9_joint 44 = .ok (.goto 4, 3) := by decide +kernel
theorem dX9_joint_47 : decode cX9_joint 47 = .ok (.iconst 0, 1) := by decide +kernel
theorem dX9_joint_48 : decode cX9_joint 48 = .ok (.ireturn, 1) := by decide +kernel
theorem dX9_begun_0 : decode cX9_begun 0 = .ok (.iload_n 1, 1) := by decide +kernel
theorem dX9_begun_1 : decode cX9_begun 1 = .ok (.iconst 0, 1) := by decide +kernel
theorem dX9_begun_2 : decode cX9_begun 2 = .ok (.iconst 1, 1) := by decide +kernel
theorem dX9_begun_3 : decode cX9_begun 3 = .ok (.invokestatic 89, 3) := by decide +kernel
theorem dX9_begun_6 : decode cX9_begun 6 = .ok (.ifCond .ne 7, 3) := by decide +kernel
theorem dX9_begun_9 : decode cX9_begun 9 = .ok (.sipush (-10000), 3) := by decide +kernel
theorem dX9_begun_12 : decode cX9_begun 12 = .ok (.ireturn, 1) := by decide +kernel
theorem dX9_begun_13 : decode cX9_begun 13 = .ok (.iload_n 1, 1) := by decide +kernel
theorem dX9_begun_14 : decode cX9_begun 14 = .ok (.ifCond .ne 13, 3) := by decide +kernel
theorem dX9_begun_17 : decode cX9_begun 17 = .ok (.aload_n 0, 1) := by decide +kernel
theorem dX9_begun_18 : decode cX9_begun 18 = .ok (.getfield 19, 3) := by decide +kernel
theorem dX9_begun_21 : decode cX9_begun 21 = .ok (.getfield 144, 3) := by decide +kernel
theorem dX9_begun_24 : decode cX9_begun 24 = .ok (.goto 10, 3) := by decide +kernel
theorem dX9_begun_27 : decode cX9_begun 27 = .ok (.aload_n 0, 1) := by decide +kernel
theorem dX9_begun_28 : decode cX9_begun 28 = .ok (.getfield 19, 3) := by decide +kernel
theorem dX9_begun_31 : decode cX9_begun 31 = .ok (.getfield 147, 3) := by decide +kernel
theorem dX9_begun_34 : decode cX9_begun 34 = .ok (.ireturn, 1) := by decide +kernel
theorem dX9_move_0 : decode cX9_move 0 = .ok (.iload_n 1, 1) := by decide +kernel
theorem dX9_move_1 : decode cX9_move 1 = .ok (.invokestatic 150, 3) := by decide +kernel
theorem dX9_move_4 : decode cX9_move 4 = .ok (.ifCond .eq 13, 3) := by decide +kernel
theorem dX9_move_7 : decode cX9_move 7 = .ok (.iload_n 2, 1) := by decide +kernel
theorem dX9_move_8 : decode cX9_move 8 = .ok (.iconst 0, 1) := by decide +kernel
theorem dX9_move_9 : decode cX9_move 9 = .ok (.bipush 18, 2) := by decide +kernel
theorem dX9_move_11 : decode cX9_move 11 = .ok (.invokestatic 89, 3) := by decide +kernel
theorem dX9_move_14 : decode cX9_move 14 = .ok (.ifCond .ne 5, 3) := by decide +kernel
theorem dX9_move_17 : decode cX9_move 17 = .ok (.iconst (-1), 1) := by decide +kernel
theorem dX9_move_18 : decode cX9_move 18 = .ok (.ireturn, 1) := by decide +kernel
theorem dX9_move_19 : decode cX9_move 19 = .ok (.aload_n 0, 1) := by decide +kernel
theorem dX9_move_20 : decode cX9_move 20 = .ok (.getfield 38, 3) := by decide +kernel
theorem dX9_move_23 : decode cX9_move 23 = .ok (.iload_n 1, 1) := by decide +kernel
theorem dX9_move_24 : decode cX9_move 24 = .ok (.iload_n 2, 1) := by decide +kernel
theorem dX9_move_25 : decode cX9_move 25 = .ok (.invokevirtual 153, 3) := by decide +kernel
theorem dX9_move_28 : decode cX9_move 28 = .ok (.ifCond .eq 14, 3) := by decide +kernel
theorem dX9_move_31 : decode cX9_move 31 = .ok (.aload_n 0, 1) := by decide +kernel
theorem dX9_move_32 : decode cX9_move 32 = .ok (.getfield 38, 3) := by decide +kernel
theorem dX9_move_35 : decode cX9_move 35 = .ok (.iload_n 1, 1) := by decide +kernel
theorem dX9_move_36 : decode cX9_move 36 = .ok (.invokevirtual 157, 3) := by decide +kernel
theorem dX9_move_39 : decode cX9_move 39 = .ok (.goto 5, 3) := by decide +kernel
theorem dX9_move_42 : decode cX9_move 42 = .ok (.bipush (-3), 2) := by decide +kernel
theorem dX9_move_44 : decode cX9_move 44 = .ok (.ireturn, 1) := by decide +kernel
theorem dX9_noWay_0 : decode cX9_noWay 0 = .ok (.iload_n 1, 1) := by decide +kernel
theorem dX9_noWay_1 : decode cX9_noWay 1 = .ok (.invokestatic 150, 3) := by decide +kernel
theorem dX9_noWay_4 : decode cX9_noWay 4 = .ok (.ifCond .eq 14, 3) := by decide +kernel
theorem dX9_noWay_7 : decode cX9_noWay 7 = .ok (.aload_n 0, 1) := by decide +kernel
theorem dX9_noWay_8 : decode cX9_noWay 8 = .ok (.getfield 38, 3) := by decide +kernel
theorem dX9_noWay_11 : decode cX9_noWay 11 = .ok (.iload_n 1, 1) := by decide +kernel
theorem dX9_noWay_12 : decode cX9_noWay 12 = .ok (.invokevirtual 160, 3) := by decide +kernel
theorem dX9_noWay_15 : decode cX9_noWay 15 = .ok (.goto 4, 3) := by decide +kernel
theorem dX9_noWay_18 : decode cX9_noWay 18 = .ok (.iconst (-1), 1) := by decide +kernel
theorem dX9_noWay_19 : decode cX9_noWay 19 = .ok (.ireturn, 1) := by decide +kernel
theorem dX9_turn_0 : decode cX9_turn 0 = .ok (.iload_n 1, 1) := by decide +kernel
theorem dX9_turn_1 : decode cX9_turn 1 = .ok (.invokestatic 150, 3) := by decide +kernel
theorem dX9_turn_4 : decode cX9_turn 4 = .ok (.ifCond .eq 29, 3) := by decide +kernel
theorem dX9_turn_7 : decode cX9_turn 7 = .ok (.iload_n 2, 1) := by decide +kernel
theorem dX9_turn_8 : decode cX9_turn 8 = .ok (.invokestatic 163, 3) := by decide +kernel
theorem dX9_turn_11 : decode cX9_turn 11 = .ok (.ifCond .eq 22, 3) := by decide +kernel
theorem dX9_turn_14 : decode cX9_turn 14 = .ok (.iload_n 3, 1) := by decide +kernel
theorem dX9_turn_15 : decode cX9_turn 15 = .ok (.iconst 0, 1) := by decide +kernel
theorem dX9_turn_16 : decode cX9_turn 16 = .ok (.bipush 60, 2) := by decide +kernel
theorem dX9_turn_18 : decode cX9_turn 18 = .ok (.invokestatic 89, 3) := by decide +kernel
theorem dX9_turn_21 : decode cX9_turn 21 = .ok (.ifCond .eq 12, 3) := by decide +kernel
theorem dX9_turn_24 : decode cX9_turn 24 = .ok (.aload_n 0, 1) := by decide +kernel
theorem dX9_turn_25 : decode cX9_turn 25 = .ok (.iload 4, 2) := by decide +kernel
theorem dX9_turn_27 : decode cX9_turn 27 = .ok (.invokevirtual 127, 3) := by decide +kernel
theorem dX9_turn_30 : decode cX9_turn 30 = .ok (.ifCond .ne 5, 3) := by decide +kernel
theorem dX9_turn_33 : decode cX9_turn 33 = .ok (.iconst (-1), 1) := by decide +kernel
theorem dX9_turn_34 : decode cX9_turn 34 = .ok (.ireturn, 1) := by decide +kernel
theorem dX9_turn_35 : decode cX9_turn 35 = .ok (.aload_n 0, 1) := by decide +kernel
theorem dX9_turn_36 : decode cX9_turn 36 = .ok (.getfield 51, 3) := by decide +kernel
theorem dX9_turn_39 : decode cX9_turn 39 = .ok (.aload_n 0, 1) := by decide +kernel
theorem dX9_turn_40 : decode cX9_turn 40 = .ok (.getfield 38, 3) := by decide +kernel
theorem dX9_turn_43 : decode cX9_turn 43 = .ok (.iload_n 1, 1) := by decide +kernel
theorem dX9_turn_44 : decode cX9_turn 44 = .ok (.invokevirtual 166, 3) := by decide +kernel
theorem dX9_turn_47 : decode cX9_turn 47 = .ok (.iload_n 3, 1) := by decide +kernel
theorem dX9_turn_48 : decode cX9_turn 48 = .ok (.aload_n 0, 1) := by decide +kernel
theorem dX9_turn_49 : decode cX9_turn 49 = .ok (.getfield 51, 3) := by decide +kernel
theorem dX9_turn_52 : decode cX9_turn 52 = .ok (.getfield 170, 3) := by decide +kernel
theorem dX9_turn_55 : decode cX9_turn 55 = .ok (.if_icmp .le 6, 3) := by decide +kernel
theorem dX9_turn_58 : decode cX9_turn 58 = .ok (.bipush (-4), 2) := by decide +kernel
theorem dX9_turn_60 : decode cX9_turn 60 = .ok (.ireturn, 1) := by decide +kernel
theorem dX9_turn_61 : decode cX9_turn 61 = .ok (.aload_n 0, 1) := by decide +kernel
theorem dX9_turn_62 : decode cX9_turn 62 = .ok (.getfield 51, 3) := by decide +kernel
theorem dX9_turn_65 : decode cX9_turn 65 = .ok (.aload_n 0, 1) := by decide +kernel
theorem dX9_turn_66 : decode cX9_turn 66 = .ok (.getfield 19, 3) := by decide +kernel
theorem dX9_turn_69 : decode cX9_turn 69 = .ok (.getfield 144, 3) := by decide +kernel
theorem dX9_turn_72 : decode cX9_turn 72 = .ok (.invokevirtual 173, 3) := by decide +kernel
theorem dX9_turn_75 : decode cX9_turn 75 = .ok (.iload_n 2, 1) := by decide +kernel
theorem dX9_turn_76 : decode cX9_turn 76 = .ok (.aload_n 0, 1) := by decide +kernel
theorem dX9_turn_77 : decode cX9_turn 77 = .ok (.getfield 51, 3) := by decide +kernel
theorem dX9_turn_80 : decode cX9_turn 80 = .ok (.iload_n 3, 1) := by decide +kernel
theorem dX9_turn_81 : decode cX9_turn 81 = .ok (.iload 4, 2) := by decide +kernel
theorem dX9_turn_83 : decode cX9_turn 83 = .ok (.invokevirtual 177, 3) := by decide +kernel
theorem dX9_turn_86 : decode cX9_turn 86 = .ok (.iadd, 1) := by decide +kernel
theorem dX9_turn_87 : decode cX9_turn 87 = .ok (.sipush 360, 3) := by decide +kernel
theorem dX9_turn_90 : decode cX9_turn 90 = .ok (.invokestatic 180, 3) := by decide +kernel
theorem dX9_turn_93 : decode cX9_turn 93 = .ok (.ireturn, 1) := by decide +kernel
theorem dX9_run_0 : decode cX9_run 0 = .ok (.iload_n 1, 1) := by decide +kernel
theorem dX9_run_1 : decode cX9_run 1 = .ok (.invokestatic 150, 3) := by decide +kernel
theorem dX9_run_4 : decode cX9_run 4 = .ok (.ifCond .eq 12, 3) := by decide +kernel
theorem dX9_run_7 : decode cX9_run 7 = .ok (.iload_n 2, 1) := by decide +kernel
theorem dX9_run_8 : decode cX9_run 8 = .ok (.iconst 0, 1) := by decide +kernel
theorem dX9_run_9 : decode cX9_run 9 = .ok (.iconst 3, 1) := by decide +kernel
theorem dX9_run_10 : decode cX9_run 10 = .ok (.invokestatic 89, 3) := by decide +kernel
theorem dX9_run_13 : decode cX9_run 13 = .ok (.ifCond .ne 5, 3) := by decide +kernel
theorem dX9_run_16 : decode cX9_run 16 = .ok (.iconst (-1), 1) := by decide +kernel
theorem dX9_run_17 : decode cX9_run 17 = .ok (.ireturn, 1) := by decide +kernel
theorem dX9_run_18 : decode cX9_run 18 = .ok (.aload_n 0, 1) := by decide +kernel
theorem dX9_run_19 : decode cX9_run 19 = .ok (.getfield 51, 3) := by decide +kernel
theorem dX9_run_22 : decode cX9_run 22 = .ok (.aload_n 0, 1) := by decide +kernel
theorem dX9_run_23 : decode cX9_run 23 = .ok (.getfield 38, 3) := by decide +kernel
theorem dX9_run_26 : decode cX9_run 26 = .ok (.iload_n 1, 1) := by decide +kernel
theorem dX9_run_27 : decode cX9_run 27 = .ok (.invokevirtual 166, 3) := by decide +kernel
theorem dX9_run_30 : decode cX9_run 30 = .ok (.iload_n 2, 1) := by decide +kernel
theorem dX9_run_31 : decode cX9_run 31 = .ok (.ifCond .ne 11, 3) := by decide +kernel
theorem dX9_run_34 : decode cX9_run 34 = .ok (.aload_n 0, 1) := by decide +kernel
theorem dX9_run_35 : decode cX9_run 35 = .ok (.getfield 51, 3) := by decide +kernel
theorem dX9_run_38 : decode cX9_run 38 = .ok (.getfield 170, 3) := by decide +kernel
theorem dX9_run_41 : decode cX9_run 41 = .ok (.ireturn, 1) := by decide +kernel
theorem dX9_run_42 : decode cX9_run 42 = .ok (.iload_n 2, 1) := by decide +kernel
theorem dX9_run_43 : decode cX9_run 43 = .ok (.iconst 1, 1) := by decide +kernel
theorem dX9_run_44 : decode cX9_run 44 = .ok (.if_icmp .ne 13, 3) := by decide +kernel
theorem dX9_run_47 : decode cX9_run 47 = .ok (.aload_n 0, 1) := by decide +kernel
theorem dX9_run_48 : decode cX9_run 48 = .ok (.getfield 51, 3) := by decide +kernel
theorem dX9_run_51 : decode cX9_run 51 = .ok (.getfield 185, 3) := by decide +kernel
theorem dX9_run_54 : decode cX9_run 54 = .ok (.goto 28, 3) := by decide +kernel
theorem dX9_run_57 : decode cX9_run 57 = .ok (.iload_n 2, 1) := by decide +kernel
theorem dX9_run_58 : decode cX9_run 58 = .ok (.iconst 2, 1) := by decide +kernel
theorem dX9_run_59 : decode cX9_run 59 = .ok (.if_icmp .ne 13, 3) := by decide +kernel
theorem dX9_run_62 : decode cX9_run 62 = .ok (.aload_n 0, 1) := by decide +kernel
theorem dX9_run_63 : decode cX9_run 63 = .ok (.getfield 51, 3) := by decide +kernel
theorem dX9_run_66 : decode cX9_run 66 = .ok (.invokevirtual 189, 3) := by decide +kernel
theorem dX9_run_69 : decode cX9_run 69 = .ok (.goto 13, 3) := by decide +kernel
theorem dX9_run_72 : decode cX9_run 72 = .ok (.aload_n 0, 1) := by decide +kernel
theorem dX9_run_73 : decode cX9_run 73 = .ok (.getfield 51, 3) := by decide +kernel
theorem dX9_run_76 : decode cX9_run 76 = .ok (.getfield 192, 3) := by decide +kernel
theorem dX9_run_79 : decode cX9_run 79 = .ok (.invokevirtual 196, 3) := by decide +kernel
theorem dX9_run_82 : decode cX9_run 82 = .ok (.istore_n 3, 1) := by decide +kernel
theorem dX9_run_83 : decode cX9_run 83 = .ok (.iload_n 3, 1) := by decide +kernel
theorem dX9_run_84 : decode cX9_run 84 = .ok (.ifCond .eq 7, 3) := by decide +kernel
theorem dX9_run_87 : decode cX9_run 87 = .ok (.iconst 1, 1) := by decide +kernel
theorem dX9_run_88 : decode cX9_run 88 = .ok (.goto 4, 3) := by decide +kernel
theorem dX9_run_91 : decode cX9_run 91 = .ok (.iconst 0, 1) := by decide +kernel
theorem dX9_run_92 : decode cX9_run 92 = .ok (.ireturn, 1) := by decide +kernel
theorem dX9_spun_0 : decode cX9_spun 0 = .ok (.iload_n 1, 1) := by decide +kernel
theorem dX9_spun_1 : decode cX9_spun 1 = .ok (.invokestatic 150, 3) := by decide +kernel
theorem dX9_spun_4 : decode cX9_spun 4 = .ok (.ifCond .ne 5, 3) := by decide +kernel
theorem dX9_spun_7 : decode cX9_spun 7 = .ok (.iconst (-1), 1) := by decide +kernel
theorem dX9_spun_8 : decode cX9_spun 8 = .ok (.ireturn, 1) := by decide +kernel
theorem dX9_spun_9 : decode cX9_spun 9 = .ok (.aload_n 0, 1) := by decide +kernel
theorem dX9_spun_10 : decode cX9_spun 10 = .ok (.getfield 51, 3) := by decide +kernel
theorem dX9_spun_13 : decode cX9_spun 13 = .ok (.aload_n 0, 1) := by decide +kernel
theorem dX9_spun_14 : decode cX9_spun 14 = .ok (.getfield 38, 3) := by decide +kernel
theorem dX9_spun_17 : decode cX9_spun 17 = .ok (.iload_n 1, 1) := by decide +kernel
theorem dX9_spun_18 : decode cX9_spun 18 = .ok (.invokevirtual 166, 3) := by decide +kernel
theorem dX9_spun_21 : decode cX9_spun 21 = .ok (.aload_n 0, 1) := by decide +kernel
theorem dX9_spun_22 : decode cX9_spun 22 = .ok (.getfield 51, 3) := by decide +kernel
theorem dX9_spun_25 : decode cX9_spun 25 = .ok (.aload_n 0, 1) := by decide +kernel
theorem dX9_spun_26 : decode cX9_spun 26 = .ok (.getfield 19, 3) := by decide +kernel
theorem dX9_spun_29 : decode cX9_spun 29 = .ok (.getfield 144, 3) := by decide +kernel
theorem dX9_spun_32 : decode cX9_spun 32 = .ok (.invokevirtual 173, 3) := by decide +kernel
theorem dX9_spun_35 : decode cX9_spun 35 = .ok (.aload_n 0, 1) := by decide +kernel
theorem dX9_spun_36 : decode cX9_spun 36 = .ok (.getfield 51, 3) := by decide +kernel
theorem dX9_spun_39 : decode cX9_spun 39 = .ok (.aload_n 0, 1) := by decide +kernel
theorem dX9_spun_40 : decode cX9_spun 40 = .ok (.getfield 51, 3) := by decide +kernel
theorem dX9_spun_43 : decode cX9_spun 43 = .ok (.getfield 170, 3) := by decide +kernel
theorem dX9_spun_46 : decode cX9_spun 46 = .ok (.iconst 0, 1) := by decide +kernel
theorem dX9_spun_47 : decode cX9_spun 47 = .ok (.invokevirtual 177, 3) := by decide +kernel
theorem dX9_spun_50 : decode cX9_spun 50 = .ok (.sipush 360, 3) := by decide +kernel
theorem dX9_spun_53 : decode cX9_spun 53 = .ok (.invokestatic 180, 3) := by decide +kernel
theorem dX9_spun_56 : decode cX9_spun 56 = .ok (.ireturn, 1) := by decide +kernel
theorem dX9_times_0 : decode cX9_times 0 = .ok (.iload_n 1, 1) := by decide +kernel
theorem dX9_times_1 : decode cX9_times 1 = .ok (.invokestatic 150, 3) := by decide +kernel
theorem dX9_times_4 : decode cX9_times 4 = .ok (.ifCond .eq 14, 3) := by decide +kernel
theorem dX9_times_7 : decode cX9_times 7 = .ok (.iload_n 2, 1) := by decide +kernel
theorem dX9_times_8 : decode cX9_times 8 = .ok (.iconst 1, 1) := by decide +kernel
theorem dX9_times_9 : decode cX9_times 9 = .ok (.sipush 1000, 3) := by decide +kernel
theorem dX9_times_12 : decode cX9_times 12 = .ok (.invokestatic 89, 3) := by decide +kernel
theorem dX9_times_15 : decode cX9_times 15 = .ok (.ifCond .ne 5, 3) := by decide +kernel
theorem dX9_times_18 : decode cX9_times 18 = .ok (.iconst (-1), 1) := by decide +kernel
theorem dX9_times_19 : decode cX9_times 19 = .ok (.ireturn, 1) := by decide +kernel
theorem dX9_times_20 : decode cX9_times 20 = .ok (.aload_n 0, 1) := by decide +kernel
theorem dX9_times_21 : decode cX9_times 21 = .ok (.getfield 51, 3) := by decide +kernel
theorem dX9_times_24 : decode cX9_times 24 = .ok (.aload_n 0, 1) := by decide +kernel
theorem dX9_times_25 : decode cX9_times 25 = .ok (.getfield 38, 3) := by decide +kernel
theorem dX9_times_28 : decode cX9_times 28 = .ok (.iload_n 1, 1) := by decide +kernel
theorem dX9_times_29 : decode cX9_times 29 = .ok (.invokevirtual 166, 3) := by decide +kernel
theorem dX9_times_32 : decode cX9_times 32 = .ok (.aload_n 0, 1) := by decide +kernel
theorem dX9_times_33 : decode cX9_times 33 = .ok (.getfield 51, 3) := by decide +kernel
theorem dX9_times_36 : decode cX9_times 36 = .ok (.invokevirtual 189, 3) := by decide +kernel
theorem dX9_times_39 : decode cX9_times 39 = .ok (.ifCond .ne 6, 3) := by decide +kernel
theorem dX9_times_42 : decode cX9_times 42 = .ok (.bipush (-2), 2) := by decide +kernel
theorem dX9_times_44 : decode cX9_times 44 = .ok (.ireturn, 1) := by decide +kernel
theorem dX9_times_45 : decode cX9_times 45 = .ok (.aload_n 0, 1) := by decide +kernel
theorem dX9_times_46 : decode cX9_times 46 = .ok (.getfield 51, 3) := by decide +kernel
theorem dX9_times_49 : decode cX9_times 49 = .ok (.aload_n 0, 1) := by decide +kernel
theorem dX9_times_50 : decode cX9_times 50 = .ok (.getfield 19, 3) := by decide +kernel
theorem dX9_times_53 : decode cX9_times 53 = .ok (.getfield 144, 3) := by decide +kernel
theorem dX9_times_56 : decode cX9_times 56 = .ok (.invokevirtual 173, 3) := by decide +kernel
theorem dX9_times_59 : decode cX9_times 59 = .ok (.aload_n 0, 1) := by decide +kernel
theorem dX9_times_60 : decode cX9_times 60 = .ok (.getfield 51, 3) := by decide +kernel
theorem dX9_times_63 : decode cX9_times 63 = .ok (.aload_n 0, 1) := by decide +kernel
theorem dX9_times_64 : decode cX9_times 64 = .ok (.getfield 51, 3) := by decide +kernel
theorem dX9_times_67 : decode cX9_times 67 = .ok (.getfield 170, 3) := by decide +kernel
theorem dX9_times_70 : decode cX9_times 70 = .ok (.iconst 0, 1) := by decide +kernel
theorem dX9_times_71 : decode cX9_times 71 = .ok (.invokevirtual 177, 3) := by decide +kernel
theorem dX9_times_74 : decode cX9_times 74 = .ok (.sipush 360, 3) := by decide +kernel
theorem dX9_times_77 : decode cX9_times 77 = .ok (.invokestatic 180, 3) := by decide +kernel
theorem dX9_times_80 : decode cX9_times 80 = .ok (.iload_n 2, 1) := by decide +kernel
theorem dX9_times_81 : decode cX9_times 81 = .ok (.imul, 1) := by decide +kernel
theorem dX9_times_82 : decode cX9_times 82 = .ok (.sipush 360, 3) := by decide +kernel
theorem dX9_times_85 : decode cX9_times 85 = .ok (.invokestatic 180, 3) := by decide +kernel
theorem dX9_times_88 : decode cX9_times 88 = .ok (.ireturn, 1) := by decide +kernel
theorem dX9_soon_0 : decode cX9_soon 0 = .ok (.iload_n 1, 1) := by decide +kernel
theorem dX9_soon_1 : decode cX9_soon 1 = .ok (.invokestatic 163, 3) := by decide +kernel
theorem dX9_soon_4 : decode cX9_soon 4 = .ok (.ifCond .eq 8, 3) := by decide +kernel
theorem dX9_soon_7 : decode cX9_soon 7 = .ok (.iload_n 2, 1) := by decide +kernel
theorem dX9_soon_8 : decode cX9_soon 8 = .ok (.iconst (-1), 1) := by decide +kernel
theorem dX9_soon_9 : decode cX9_soon 9 = .ok (.if_icmp .ge 5, 3) := by decide +kernel
theorem dX9_soon_12 : decode cX9_soon 12 = .ok (.iconst (-1), 1) := by decide +kernel
theorem dX9_soon_13 : decode cX9_soon 13 = .ok (.ireturn, 1) := by decide +kernel
theorem dX9_soon_14 : decode cX9_soon 14 = .ok (.aload_n 0, 1) := by decide +kernel
theorem dX9_soon_15 : decode cX9_soon 15 = .ok (.getfield 71, 3) := by decide +kernel
theorem dX9_soon_18 : decode cX9_soon 18 = .ok (.iload_n 1, 1) := by decide +kernel
theorem dX9_soon_19 : decode cX9_soon 19 = .ok (.invokevirtual 201, 3) := by decide +kernel
theorem dX9_soon_22 : decode cX9_soon 22 = .ok (.istore_n 3, 1) := by decide +kernel
theorem dX9_soon_23 : decode cX9_soon 23 = .ok (.iload_n 3, 1) := by decide +kernel
theorem dX9_soon_24 : decode cX9_soon 24 = .ok (.ifCond .lt 8, 3) := by decide +kernel
theorem dX9_soon_27 : decode cX9_soon 27 = .ok (.iload_n 2, 1) := by decide +kernel
theorem dX9_soon_28 : decode cX9_soon 28 = .ok (.iload_n 3, 1) := by decide +kernel
theorem dX9_soon_29 : decode cX9_soon 29 = .ok (.if_icmp .lt 6, 3) := by decide +kernel
theorem dX9_soon_32 : decode cX9_soon 32 = .ok (.bipush (-4), 2) := by decide +kernel
theorem dX9_soon_34 : decode cX9_soon 34 = .ok (.ireturn, 1) := by decide +kernel
theorem dX9_soon_35 : decode cX9_soon 35 = .ok (.iload_n 2, 1) := by decide +kernel
theorem dX9_soon_36 : decode cX9_soon 36 = .ok (.ifCond .ge 7, 3) := by decide +kernel
theorem dX9_soon_39 : decode cX9_soon 39 = .ok (.iload_n 3, 1) := by decide +kernel
theorem dX9_soon_40 : decode cX9_soon 40 = .ok (.goto 12, 3) := by decide +kernel
theorem dX9_soon_43 : decode cX9_soon 43 = .ok (.aload_n 0, 1) := by decide +kernel
theorem dX9_soon_44 : decode cX9_soon 44 = .ok (.getfield 71, 3) := by decide +kernel
theorem dX9_soon_47 : decode cX9_soon 47 = .ok (.iload_n 1, 1) := by decide +kernel
theorem dX9_soon_48 : decode cX9_soon 48 = .ok (.iload_n 2, 1) := by decide +kernel
theorem dX9_soon_49 : decode cX9_soon 49 = .ok (.invokevirtual 204, 3) := by decide +kernel
theorem dX9_soon_52 : decode cX9_soon 52 = .ok (.ireturn, 1) := by decide +kernel
theorem dX9_fall_0 : decode cX9_fall 0 = .ok (.iload_n 1, 1) := by decide +kernel
theorem dX9_fall_1 : decode cX9_fall 1 = .ok (.iconst 0, 1) := by decide +kernel
theorem dX9_fall_2 : decode cX9_fall 2 = .ok (.ldc 207, 2) := by decide +kernel
theorem dX9_fall_4 : decode cX9_fall 4 = .ok (.invokestatic 89, 3) := by decide +kernel
theorem dX9_fall_7 : decode cX9_fall 7 = .ok (.ifCond .eq 10, 3) := by decide +kernel
theorem dX9_fall_10 : decode cX9_fall 10 = .ok (.iload_n 1, 1) := by decide +kernel
theorem dX9_fall_11 : decode cX9_fall 11 = .ok (.invokestatic 208, 3) := by decide +kernel
theorem dX9_fall_14 : decode cX9_fall 14 = .ok (.goto 4, 3) := by decide +kernel
theorem dX9_fall_17 : decode cX9_fall 17 = .ok (.iconst (-1), 1) := by decide +kernel
theorem dX9_fall_18 : decode cX9_fall 18 = .ok (.ireturn, 1) := by decide +kernel
theorem dX9_saved_0 : decode cX9_saved 0 = .ok (.iload_n 1, 1) := by decide +kernel
theorem dX9_saved_1 : decode cX9_saved 1 = .ok (.iconst 0, 1) := by decide +kernel
theorem dX9_saved_2 : decode cX9_saved 2 = .ok (.ldc 207, 2) := by decide +kernel
theorem dX9_saved_4 : decode cX9_saved 4 = .ok (.invokestatic 89, 3) := by decide +kernel
theorem dX9_saved_7 : decode cX9_saved 7 = .ok (.ifCond .eq 17, 3) := by decide +kernel
theorem dX9_saved_10 : decode cX9_saved 10 = .ok (.aload_n 0, 1) := by decide +kernel
theorem dX9_saved_11 : decode cX9_saved 11 = .ok (.getfield 71, 3) := by decide +kernel
theorem dX9_saved_14 : decode cX9_saved 14 = .ok (.iload_n 1, 1) := by decide +kernel
theorem dX9_saved_15 : decode cX9_saved 15 = .ok (.invokestatic 208, 3) := by decide +kernel
theorem dX9_saved_18 : decode cX9_saved 18 = .ok (.invokevirtual 211, 3) := by decide +kernel
theorem dX9_saved_21 : decode cX9_saved 21 = .ok (.goto 4, 3) := by decide +kernel
theorem dX9_saved_24 : decode cX9_saved 24 = .ok (.iconst (-1), 1) := by decide +kernel
theorem dX9_saved_25 : decode cX9_saved 25 = .ok (.ireturn, 1) := by decide +kernel
theorem dX9_free_0 : decode cX9_free 0 = .ok (.iload_n 1, 1) := by decide +kernel
theorem dX9_free_1 : decode cX9_free 1 = .ok (.iconst 0, 1) := by decide +kernel
theorem dX9_free_2 : decode cX9_free 2 = .ok (.iconst 1, 1) := by decide +kernel
theorem dX9_free_3 : decode cX9_free 3 = .ok (.aload_n 0, 1) := by decide +kernel
theorem dX9_free_4 : decode cX9_free 4 = .ok (.getfield 19, 3) := by decide +kernel
theorem dX9_free_7 : decode cX9_free 7 = .ok (.getfield 214, 3) := by decide +kernel
theorem dX9_free_10 : decode cX9_free 10 = .ok (.ishl, 1) := by decide +kernel
theorem dX9_free_11 : decode cX9_free 11 = .ok (.iconst 1, 1) := by decide +kernel
theorem dX9_free_12 : decode cX9_free 12 = .ok (.isub, 1) := by decide +kernel
theorem dX9_free_13 : decode cX9_free 13 = .ok (.invokestatic 89, 3) := by decide +kernel
theorem dX9_free_16 : decode cX9_free 16 = .ok (.ifCond .ne 5, 3) := by decide +kernel
theorem dX9_free_19 : decode cX9_free 19 = .ok (.iconst (-1), 1) := by decide +kernel
theorem dX9_free_20 : decode cX9_free 20 = .ok (.ireturn, 1) := by decide +kernel
theorem dX9_free_21 : decode cX9_free 21 = .ok (.aload_n 0, 1) := by decide +kernel
theorem dX9_free_22 : decode cX9_free 22 = .ok (.getfield 62, 3) := by decide +kernel
theorem dX9_free_25 : decode cX9_free 25 = .ok (.iload_n 1, 1) := by decide +kernel
theorem dX9_free_26 : decode cX9_free 26 = .ok (.invokevirtual 217, 3) := by decide +kernel
theorem dX9_free_29 : decode cX9_free 29 = .ok (.ireturn, 1) := by decide +kernel
theorem dX9_fewest_0 : decode cX9_fewest 0 = .ok (.iconst 1, 1) := by decide +kernel
theorem dX9_fewest_1 : decode cX9_fewest 1 = .ok (.istore_n 1, 1) := by decide +kernel
theorem dX9_fewest_2 : decode cX9_fewest 2 = .ok (.iload_n 1, 1) := by decide +kernel
theorem dX9_fewest_3 : decode cX9_fewest 3 = .ok (.iconst 1, 1) := by decide +kernel
theorem dX9_fewest_4 : decode cX9_fewest 4 = .ok (.aload_n 0, 1) := by decide +kernel
theorem dX9_fewest_5 : decode cX9_fewest 5 = .ok (.getfield 19, 3) := by decide +kernel
theorem dX9_fewest_8 : decode cX9_fewest 8 = .ok (.getfield 214, 3) := by decide +kernel
theorem dX9_fewest_11 : decode cX9_fewest 11 = .ok (.ishl, 1) := by decide +kernel
theorem dX9_fewest_12 : decode cX9_fewest 12 = .ok (.if_icmp .ge 23, 3) := by decide +kernel
theorem dX9_fewest_15 : decode cX9_fewest 15 = .ok (.aload_n 0, 1) := by decide +kernel
theorem dX9_fewest_16 : decode cX9_fewest 16 = .ok (.getfield 62, 3) := by decide +kernel
theorem dX9_fewest_19 : decode cX9_fewest 19 = .ok (.iload_n 1, 1) := by decide +kernel
theorem dX9_fewest_20 : decode cX9_fewest 20 = .ok (.invokevirtual 217, 3) := by decide +kernel
theorem dX9_fewest_23 : decode cX9_fewest 23 = .ok (.iconst 1, 1) := by decide +kernel
theorem dX9_fewest_24 : decode cX9_fewest 24 = .ok (.if_icmp .le 5, 3) := by decide +kernel
theorem dX9_fewest_27 : decode cX9_fewest 27 = .ok (.iload_n 1, 1) := by decide +kernel
theorem dX9_fewest_28 : decode cX9_fewest 28 = .ok (.ireturn, 1) := by decide +kernel
theorem dX9_fewest_29 : decode cX9_fewest 29 = .ok (.iinc 1 1, 3) := by decide +kernel
theorem dX9_fewest_32 : decode cX9_fewest 32 = .ok (.goto (-30), 3) := by decide +kernel
theorem dX9_fewest_35 : decode cX9_fewest 35 = .ok (.bipush (-4), 2) := by decide +kernel
theorem dX9_fewest_37 : decode cX9_fewest 37 = .ok (.ireturn, 1) := by decide +kernel
theorem dX9_worth_0 : decode cX9_worth 0 = .ok (.aload_n 0, 1) := by decide +kernel
theorem dX9_worth_1 : decode cX9_worth 1 = .ok (.iload_n 1, 1) := by decide +kernel
theorem dX9_worth_2 : decode cX9_worth 2 = .ok (.invokevirtual 134, 3) := by decide +kernel
theorem dX9_worth_5 : decode cX9_worth 5 = .ok (.ifCond .eq 10, 3) := by decide +kernel
theorem dX9_worth_8 : decode cX9_worth 8 = .ok (.iload_n 2, 1) := by decide +kernel
theorem dX9_worth_9 : decode cX9_worth 9 = .ok (.invokestatic 163, 3) := by decide +kernel
theorem dX9_worth_12 : decode cX9_worth 12 = .ok (.ifCond .ne 5, 3) := by decide +kernel
theorem dX9_worth_15 : decode cX9_worth 15 = .ok (.iconst (-1), 1) := by decide +kernel
theorem dX9_worth_16 : decode cX9_worth 16 = .ok (.ireturn, 1) := by decide +kernel
theorem dX9_worth_17 : decode cX9_worth 17 = .ok (.aload_n 0, 1) := by decide +kernel
theorem dX9_worth_18 : decode cX9_worth 18 = .ok (.getfield 71, 3) := by decide +kernel
theorem dX9_worth_21 : decode cX9_worth 21 = .ok (.iload_n 2, 1) := by decide +kernel
theorem dX9_worth_22 : decode cX9_worth 22 = .ok (.invokevirtual 201, 3) := by decide +kernel
theorem dX9_worth_25 : decode cX9_worth 25 = .ok (.istore_n 3, 1) := by decide +kernel
theorem dX9_worth_26 : decode cX9_worth 26 = .ok (.iload_n 1, 1) := by decide +kernel
theorem dX9_worth_27 : decode cX9_worth 27 = .ok (.ifCond .ne 10, 3) := by decide +kernel
theorem dX9_worth_30 : decode cX9_worth 30 = .ok (.aload_n 0, 1) := by decide +kernel
theorem dX9_worth_31 : decode cX9_worth 31 = .ok (.getfield 75, 3) := by decide +kernel
theorem dX9_worth_34 : decode cX9_worth 34 = .ok (.goto 7, 3) := by decide +kernel
theorem dX9_worth_37 : decode cX9_worth 37 = .ok (.aload_n 0, 1) := by decide +kernel
theorem dX9_worth_38 : decode cX9_worth 38 = .ok (.getfield 78, 3) := by decide +kernel
theorem dX9_worth_41 : decode cX9_worth 41 = .ok (.iload_n 2, 1) := by decide +kernel
theorem dX9_worth_42 : decode cX9_worth 42 = .ok (.invokevirtual 201, 3) := by decide +kernel
theorem dX9_worth_45 : decode cX9_worth 45 = .ok (.istore 4, 2) := by decide +kernel
theorem dX9_worth_47 : decode cX9_worth 47 = .ok (.iload_n 3, 1) := by decide +kernel
theorem dX9_worth_48 : decode cX9_worth 48 = .ok (.ifCond .lt 8, 3) := by decide +kernel
theorem dX9_worth_51 : decode cX9_worth 51 = .ok (.iload 4, 2) := by decide +kernel
theorem dX9_worth_53 : decode cX9_worth 53 = .ok (.ifCond .ge 8, 3) := by decide +kernel
theorem dX9_worth_56 : decode cX9_worth 56 = .ok (.bipush (-4), 2) := by decide +kernel
theorem dX9_worth_58 : decode cX9_worth 58 = .ok (.goto 7, 3) := by decide +kernel
theorem dX9_worth_61 : decode cX9_worth 61 = .ok (.iload 4, 2) := by decide +kernel
theorem dX9_worth_63 : decode cX9_worth 63 = .ok (.iload_n 3, 1) := by decide +kernel
theorem dX9_worth_64 : decode cX9_worth 64 = .ok (.isub, 1) := by decide +kernel
theorem dX9_worth_65 : decode cX9_worth 65 = .ok (.ireturn, 1) := by decide +kernel
theorem dX9_picture_0 : decode cX9_picture 0 = .ok (.iload_n 1, 1) := by decide +kernel
theorem dX9_picture_1 : decode cX9_picture 1 = .ok (.iconst 0, 1) := by decide +kernel
theorem dX9_picture_2 : decode cX9_picture 2 = .ok (.bipush 60, 2) := by decide +kernel
theorem dX9_picture_4 : decode cX9_picture 4 = .ok (.invokestatic 89, 3) := by decide +kernel
theorem dX9_picture_7 : decode cX9_picture 7 = .ok (.ifCond .eq 29, 3) := by decide +kernel
theorem dX9_picture_10 : decode cX9_picture 10 = .ok (.aload_n 0, 1) := by decide +kernel
theorem dX9_picture_11 : decode cX9_picture 11 = .ok (.iload_n 2, 1) := by decide +kernel
theorem dX9_picture_12 : decode cX9_picture 12 = .ok (.invokevirtual 127, 3) := by decide +kernel
theorem dX9_picture_15 : decode cX9_picture 15 = .ok (.ifCond .eq 21, 3) := by decide +kernel
theorem dX9_picture_18 : decode cX9_picture 18 = .ok (.iload_n 3, 1) := by decide +kernel
theorem dX9_picture_19 : decode cX9_picture 19 = .ok (.invokestatic 163, 3) := by decide +kernel
theorem dX9_picture_22 : decode cX9_picture 22 = .ok (.ifCond .eq 14, 3) := by decide +kernel
theorem dX9_picture_25 : decode cX9_picture 25 = .ok (.iload 4, 2) := by decide +kernel
theorem dX9_picture_27 : decode cX9_picture 27 = .ok (.iconst 0, 1) := by decide +kernel
theorem dX9_picture_28 : decode cX9_picture 28 = .ok (.bipush 90, 2) := by decide +kernel
theorem dX9_picture_30 : decode cX9_picture 30 = .ok (.invokestatic 89, 3) := by decide +kernel
theorem dX9_picture_33 : decode cX9_picture 33 = .ok (.ifCond .ne 5, 3) := by decide +kernel
theorem dX9_picture_36 : decode cX9_picture 36 = .ok (.iconst (-1), 1) := by decide +kernel
theorem dX9_picture_37 : decode cX9_picture 37 = .ok (.ireturn, 1) := by decide +kernel
theorem dX9_picture_38 : decode cX9_picture 38 = .ok (.aload_n 0, 1) := by decide +kernel
theorem dX9_picture_39 : decode cX9_picture 39 = .ok (.getfield 38, 3) := by decide +kernel
theorem dX9_picture_42 : decode cX9_picture 42 = .ok (.iload_n 1, 1) := by decide +kernel
theorem dX9_picture_43 : decode cX9_picture 43 = .ok (.iload_n 2, 1) := by decide +kernel
theorem dX9_picture_44 : decode cX9_picture 44 = .ok (.iload_n 3, 1) := by decide +kernel
theorem dX9_picture_45 : decode cX9_picture 45 = .ok (.iload 4, 2) := by decide +kernel
theorem dX9_picture_47 : decode cX9_picture 47 = .ok (.invokevirtual 220, 3) := by decide +kernel
theorem dX9_picture_50 : decode cX9_picture 50 = .ok (.ifCond .eq 13, 3) := by decide +kernel
theorem dX9_picture_53 : decode cX9_picture 53 = .ok (.aload_n 0, 1) := by decide +kernel
theorem dX9_picture_54 : decode cX9_picture 54 = .ok (.getfield 38, 3) := by decide +kernel
theorem dX9_picture_57 : decode cX9_picture 57 = .ok (.getfield 224, 3) := by decide +kernel
theorem dX9_picture_60 : decode cX9_picture 60 = .ok (.goto 5, 3) := by decide +kernel
theorem dX9_picture_63 : decode cX9_picture 63 = .ok (.bipush (-3), 2) := by decide +kernel
theorem dX9_picture_65 : decode cX9_picture 65 = .ok (.ireturn, 1) := by decide +kernel
theorem dX9_noFilm_0 : decode cX9_noFilm 0 = .ok (.aload_n 0, 1) := by decide +kernel
theorem dX9_noFilm_1 : decode cX9_noFilm 1 = .ok (.getfield 38, 3) := by decide +kernel
theorem dX9_noFilm_4 : decode cX9_noFilm 4 = .ok (.getfield 224, 3) := by decide +kernel
theorem dX9_noFilm_7 : decode cX9_noFilm 7 = .ok (.istore_n 1, 1) := by decide +kernel
theorem dX9_noFilm_8 : decode cX9_noFilm 8 = .ok (.aload_n 0, 1) := by decide +kernel
theorem dX9_noFilm_9 : decode cX9_noFilm 9 = .ok (.getfield 38, 3) := by decide +kernel
theorem dX9_noFilm_12 : decode cX9_noFilm 12 = .ok (.iconst 0, 1) := by decide +kernel
theorem dX9_noFilm_13 : decode cX9_noFilm 13 = .ok (.putfield 224, 3) := by decide +kernel
theorem dX9_noFilm_16 : decode cX9_noFilm 16 = .ok (.iload_n 1, 1) := by decide +kernel
theorem dX9_noFilm_17 : decode cX9_noFilm 17 = .ok (.ireturn, 1) := by decide +kernel
theorem dX9_may_0 : decode cX9_may 0 = .ok (.iload_n 1, 1) := by decide +kernel
theorem dX9_may_1 : decode cX9_may 1 = .ok (.invokestatic 150, 3) := by decide +kernel
theorem dX9_may_4 : decode cX9_may 4 = .ok (.ifCond .eq 10, 3) := by decide +kernel
theorem dX9_may_7 : decode cX9_may 7 = .ok (.iload_n 2, 1) := by decide +kernel
theorem dX9_may_8 : decode cX9_may 8 = .ok (.invokestatic 163, 3) := by decide +kernel
theorem dX9_may_11 : decode cX9_may 11 = .ok (.ifCond .ne 5, 3) := by decide +kernel
theorem dX9_may_14 : decode cX9_may 14 = .ok (.iconst (-1), 1) := by decide +kernel
theorem dX9_may_15 : decode cX9_may 15 = .ok (.ireturn, 1) := by decide +kernel
theorem dX9_may_16 : decode cX9_may 16 = .ok (.aload_n 0, 1) := by decide +kernel
theorem dX9_may_17 : decode cX9_may 17 = .ok (.getfield 51, 3) := by decide +kernel
theorem dX9_may_20 : decode cX9_may 20 = .ok (.aload_n 0, 1) := by decide +kernel
theorem dX9_may_21 : decode cX9_may 21 = .ok (.getfield 38, 3) := by decide +kernel
theorem dX9_may_24 : decode cX9_may 24 = .ok (.iload_n 1, 1) := by decide +kernel
theorem dX9_may_25 : decode cX9_may 25 = .ok (.invokevirtual 166, 3) := by decide +kernel
theorem dX9_may_28 : decode cX9_may 28 = .ok (.aload_n 0, 1) := by decide +kernel
theorem dX9_may_29 : decode cX9_may 29 = .ok (.getfield 51, 3) := by decide +kernel
theorem dX9_may_32 : decode cX9_may 32 = .ok (.aload_n 0, 1) := by decide +kernel
theorem dX9_may_33 : decode cX9_may 33 = .ok (.getfield 19, 3) := by decide +kernel
theorem dX9_may_36 : decode cX9_may 36 = .ok (.getfield 144, 3) := by decide +kernel
theorem dX9_may_39 : decode cX9_may 39 = .ok (.invokevirtual 173, 3) := by decide +kernel
theorem dX9_may_42 : decode cX9_may 42 = .ok (.aload_n 0, 1) := by decide +kernel
theorem dX9_may_43 : decode cX9_may 43 = .ok (.getfield 51, 3) := by decide +kernel
theorem dX9_may_46 : decode cX9_may 46 = .ok (.aload_n 0, 1) := by decide +kernel
theorem dX9_may_47 : decode cX9_may 47 = .ok (.getfield 38, 3) := by decide +kernel
theorem dX9_may_50 : decode cX9_may 50 = .ok (.iload_n 2, 1) := by decide +kernel
theorem dX9_may_51 : decode cX9_may 51 = .ok (.invokevirtual 227, 3) := by decide +kernel
theorem dX9_may_54 : decode cX9_may 54 = .ok (.ifCond .eq 7, 3) := by decide +kernel
theorem dX9_may_57 : decode cX9_may 57 = .ok (.iconst 1, 1) := by decide +kernel
theorem dX9_may_58 : decode cX9_may 58 = .ok (.goto 4, 3) := by decide +kernel
theorem dX9_may_61 : decode cX9_may 61 = .ok (.iconst 0, 1) := by decide +kernel
theorem dX9_may_62 : decode cX9_may 62 = .ok (.ireturn, 1) := by decide +kernel
theorem dX9_looked_0 : decode cX9_looked 0 = .ok (.iload_n 1, 1) := by decide +kernel
theorem dX9_looked_1 : decode cX9_looked 1 = .ok (.invokestatic 150, 3) := by decide +kernel
theorem dX9_looked_4 : decode cX9_looked 4 = .ok (.ifCond .eq 12, 3) := by decide +kernel
theorem dX9_looked_7 : decode cX9_looked 7 = .ok (.iload_n 2, 1) := by decide +kernel
theorem dX9_looked_8 : decode cX9_looked 8 = .ok (.iconst 0, 1) := by decide +kernel
theorem dX9_looked_9 : decode cX9_looked 9 = .ok (.iconst 1, 1) := by decide +kernel
theorem dX9_looked_10 : decode cX9_looked 10 = .ok (.invokestatic 89, 3) := by decide +kernel
theorem dX9_looked_13 : decode cX9_looked 13 = .ok (.ifCond .ne 5, 3) := by decide +kernel
theorem dX9_looked_16 : decode cX9_looked 16 = .ok (.iconst (-1), 1) := by decide +kernel
theorem dX9_looked_17 : decode cX9_looked 17 = .ok (.ireturn, 1) := by decide +kernel
theorem dX9_looked_18 : decode cX9_looked 18 = .ok (.aload_n 0, 1) := by decide +kernel
theorem dX9_looked_19 : decode cX9_looked 19 = .ok (.getfield 51, 3) := by decide +kernel
theorem dX9_looked_22 : decode cX9_looked 22 = .ok (.aload_n 0, 1) := by decide +kernel
theorem dX9_looked_23 : decode cX9_looked 23 = .ok (.getfield 38, 3) := by decide +kernel
theorem dX9_looked_26 : decode cX9_looked 26 = .ok (.iload_n 1, 1) := by decide +kernel
theorem dX9_looked_27 : decode cX9_looked 27 = .ok (.invokevirtual 166, 3) := by decide +kernel
theorem dX9_looked_30 : decode cX9_looked 30 = .ok (.aload_n 0, 1) := by decide +kernel
theorem dX9_looked_31 : decode cX9_looked 31 = .ok (.getfield 51, 3) := by decide +kernel
theorem dX9_looked_34 : decode cX9_looked 34 = .ok (.aload_n 0, 1) := by decide +kernel
theorem dX9_looked_35 : decode cX9_looked 35 = .ok (.getfield 19, 3) := by decide +kernel
theorem dX9_looked_38 : decode cX9_looked 38 = .ok (.getfield 144, 3) := by decide +kernel
theorem dX9_looked_41 : decode cX9_looked 41 = .ok (.invokevirtual 173, 3) := by decide +kernel
theorem dX9_looked_44 : decode cX9_looked 44 = .ok (.iconst 0, 1) := by decide +kernel
theorem dX9_looked_45 : decode cX9_looked 45 = .ok (.istore_n 3, 1) := by decide +kernel
theorem dX9_looked_46 : decode cX9_looked 46 = .ok (.iconst 0, 1) := by decide +kernel
theorem dX9_looked_47 : decode cX9_looked 47 = .ok (.istore 4, 2) := by decide +kernel
theorem dX9_looked_49 : decode cX9_looked 49 = .ok (.iload 4, 2) := by decide +kernel
theorem dX9_looked_51 : decode cX9_looked 51 = .ok (.sipush 360, 3) := by decide +kernel
theorem dX9_looked_54 : decode cX9_looked 54 = .ok (.if_icmp .ge 36, 3) := by decide +kernel
theorem dX9_looked_57 : decode cX9_looked 57 = .ok (.aload_n 0, 1) := by decide +kernel
theorem dX9_looked_58 : decode cX9_looked 58 = .ok (.getfield 51, 3) := by decide +kernel
theorem dX9_looked_61 : decode cX9_looked 61 = .ok (.aload_n 0, 1) := by decide +kernel
theorem dX9_looked_62 : decode cX9_looked 62 = .ok (.getfield 38, 3) := by decide +kernel
theorem dX9_looked_65 : decode cX9_looked 65 = .ok (.iload 4, 2) := by decide +kernel
theorem dX9_looked_67 : decode cX9_looked 67 = .ok (.invokevirtual 227, 3) := by decide +kernel
theorem dX9_looked_70 : decode cX9_looked 70 = .ok (.ifCond .eq 14, 3) := by decide +kernel
theorem dX9_looked_73 : decode cX9_looked 73 = .ok (.iload_n 2, 1) := by decide +kernel
theorem dX9_looked_74 : decode cX9_looked 74 = .ok (.iconst 1, 1) := by decide +kernel
theorem dX9_looked_75 : decode cX9_looked 75 = .ok (.if_icmp .ne 6, 3) := by decide +kernel
theorem dX9_looked_78 : decode cX9_looked 78 = .ok (.iload 4, 2) := by decide +kernel
theorem dX9_looked_80 : decode cX9_looked 80 = .ok (.ireturn, 1) := by decide +kernel
theorem dX9_looked_81 : decode cX9_looked 81 = .ok (.iinc 3 1, 3) := by decide +kernel
theorem dX9_looked_84 : decode cX9_looked 84 = .ok (.iinc 4 1, 3) := by decide +kernel
theorem dX9_looked_87 : decode cX9_looked 87 = .ok (.goto (-38), 3) := by decide +kernel
theorem dX9_looked_90 : decode cX9_looked 90 = .ok (.iload_n 2, 1) := by decide +kernel
theorem dX9_looked_91 : decode cX9_looked 91 = .ok (.iconst 1, 1) := by decide +kernel
theorem dX9_looked_92 : decode cX9_looked 92 = .ok (.if_icmp .ne 8, 3) := by decide +kernel
theorem dX9_looked_95 : decode cX9_looked 95 = .ok (.bipush (-4), 2) := by decide +kernel
theorem dX9_looked_97 : decode cX9_looked 97 = .ok (.goto 4, 3) := by decide +kernel
theorem dX9_looked_100 : decode cX9_looked 100 = .ok (.iload_n 3, 1) := by decide +kernel
theorem dX9_looked_101 : decode cX9_looked 101 = .ok (.ireturn, 1) := by decide +kernel
theorem dX9_pushed_0 : decode cX9_pushed 0 = .ok (.iload_n 1, 1) := by decide +kernel
theorem dX9_pushed_1 : decode cX9_pushed 1 = .ok (.invokestatic 150, 3) := by decide +kernel
theorem dX9_pushed_4 : decode cX9_pushed 4 = .ok (.ifCond .eq 31, 3) := by decide +kernel
theorem dX9_pushed_7 : decode cX9_pushed 7 = .ok (.iload_n 2, 1) := by decide +kernel
theorem dX9_pushed_8 : decode cX9_pushed 8 = .ok (.invokestatic 163, 3) := by decide +kernel
theorem dX9_pushed_11 : decode cX9_pushed 11 = .ok (.ifCond .eq 24, 3) := by decide +kernel
theorem dX9_pushed_14 : decode cX9_pushed 14 = .ok (.iload_n 3, 1) := by decide +kernel
theorem dX9_pushed_15 : decode cX9_pushed 15 = .ok (.iconst 0, 1) := by decide +kernel
theorem dX9_pushed_16 : decode cX9_pushed 16 = .ok (.sipush 200, 3) := by decide +kernel
theorem dX9_pushed_19 : decode cX9_pushed 19 = .ok (.invokestatic 89, 3) := by decide +kernel
theorem dX9_pushed_22 : decode cX9_pushed 22 = .ok (.ifCond .eq 13, 3) := by decide +kernel
theorem dX9_pushed_25 : decode cX9_pushed 25 = .ok (.iload 4, 2) := by decide +kernel
theorem dX9_pushed_27 : decode cX9_pushed 27 = .ok (.iconst 0, 1) := by decide +kernel
theorem dX9_pushed_28 : decode cX9_pushed 28 = .ok (.iconst 1, 1) := by decide +kernel
theorem dX9_pushed_29 : decode cX9_pushed 29 = .ok (.invokestatic 89, 3) := by decide +kernel
theorem dX9_pushed_32 : decode cX9_pushed 32 = .ok (.ifCond .ne 7, 3) := by decide +kernel
theorem dX9_pushed_35 : decode cX9_pushed 35 = .ok (.sipush (-10001), 3) := by decide +kernel
theorem dX9_pushed_38 : decode cX9_pushed 38 = .ok (.ireturn, 1) := by decide +kernel
theorem dX9_pushed_39 : decode cX9_pushed 39 = .ok (.aload_n 0, 1) := by decide +kernel
theorem dX9_pushed_40 : decode cX9_pushed 40 = .ok (.getfield 51, 3) := by decide +kernel
theorem dX9_pushed_43 : decode cX9_pushed 43 = .ok (.aload_n 0, 1) := by decide +kernel
theorem dX9_pushed_44 : decode cX9_pushed 44 = .ok (.getfield 38, 3) := by decide +kernel
theorem dX9_pushed_47 : decode cX9_pushed 47 = .ok (.iload_n 1, 1) := by decide +kernel
theorem dX9_pushed_48 : decode cX9_pushed 48 = .ok (.invokevirtual 166, 3) := by decide +kernel
theorem dX9_pushed_51 : decode cX9_pushed 51 = .ok (.iconst 0, 1) := by decide +kernel
theorem dX9_pushed_52 : decode cX9_pushed 52 = .ok (.istore 5, 2) := by decide +kernel
theorem dX9_pushed_54 : decode cX9_pushed 54 = .ok (.iconst 0, 1) := by decide +kernel
theorem dX9_pushed_55 : decode cX9_pushed 55 = .ok (.istore 6, 2) := by decide +kernel
theorem dX9_pushed_57 : decode cX9_pushed 57 = .ok (.iload 6, 2) := by decide +kernel
theorem dX9_pushed_59 : decode cX9_pushed 59 = .ok (.iconst 2, 1) := by decide +kernel
theorem dX9_pushed_60 : decode cX9_pushed 60 = .ok (.iload_n 3, 1) := by decide +kernel
theorem dX9_pushed_61 : decode cX9_pushed 61 = .ok (.imul, 1) := by decide +kernel
theorem dX9_pushed_62 : decode cX9_pushed 62 = .ok (.if_icmp .gt 69, 3) := by decide +kernel
theorem dX9_pushed_65 : decode cX9_pushed 65 = .ok (.iload 6, 2) := by decide +kernel
theorem dX9_pushed_67 : decode cX9_pushed 67 = .ok (.iconst 2, 1) := by decide +kernel
theorem dX9_pushed_68 : decode cX9_pushed 68 = .ok (.irem, 1) := by decide +kernel
theorem dX9_pushed_69 : decode cX9_pushed 69 = .ok (.iconst 1, 1) := by decide +kernel
theorem dX9_pushed_70 : decode cX9_pushed 70 = .ok (.if_icmp .ne 13, 3) := by decide +kernel
theorem dX9_pushed_73 : decode cX9_pushed 73 = .ok (.iload 6, 2) := by decide +kernel
theorem dX9_pushed_75 : decode cX9_pushed 75 = .ok (.iconst 1, 1) := by decide +kernel
theorem dX9_pushed_76 : decode cX9_pushed 76 = .ok (.iadd, 1) := by decide +kernel
theorem dX9_pushed_77 : decode cX9_pushed 77 = .ok (.ineg, 1) := by decide +kernel
theorem dX9_pushed_78 : decode cX9_pushed 78 = .ok (.iconst 2, 1) := by decide +kernel
theorem dX9_pushed_79 : decode cX9_pushed 79 = .ok (.idiv, 1) := by decide +kernel
theorem dX9_pushed_80 : decode cX9_pushed 80 = .ok (.goto 7, 3) := by decide +kernel
theorem dX9_pushed_83 : decode cX9_pushed 83 = .ok (.iload 6, 2) := by decide +kernel
theorem dX9_pushed_85 : decode cX9_pushed 85 = .ok (.iconst 2, 1) := by decide +kernel
theorem dX9_pushed_86 : decode cX9_pushed 86 = .ok (.idiv, 1) := by decide +kernel
theorem dX9_pushed_87 : decode cX9_pushed 87 = .ok (.istore 7, 2) := by decide +kernel
theorem dX9_pushed_89 : decode cX9_pushed 89 = .ok (.aload_n 0, 1) := by decide +kernel
theorem dX9_pushed_90 : decode cX9_pushed 90 = .ok (.getfield 51, 3) := by decide +kernel
theorem dX9_pushed_93 : decode cX9_pushed 93 = .ok (.iload 7, 2) := by decide +kernel
theorem dX9_pushed_95 : decode cX9_pushed 95 = .ok (.invokevirtual 173, 3) := by decide +kernel
theorem dX9_pushed_98 : decode cX9_pushed 98 = .ok (.aload_n 0, 1) := by decide +kernel
theorem dX9_pushed_99 : decode cX9_pushed 99 = .ok (.getfield 51, 3) := by decide +kernel
theorem dX9_pushed_102 : decode cX9_pushed 102 = .ok (.aload_n 0, 1) := by decide +kernel
theorem dX9_pushed_103 : decode cX9_pushed 103 = .ok (.getfield 38, 3) := by decide +kernel
theorem dX9_pushed_106 : decode cX9_pushed 106 = .ok (.iload_n 2, 1) := by decide +kernel
theorem dX9_pushed_107 : decode cX9_pushed 107 = .ok (.invokevirtual 227, 3) := by decide +kernel
theorem dX9_pushed_110 : decode cX9_pushed 110 = .ok (.ifCond .eq 15, 3) := by decide +kernel
theorem dX9_pushed_113 : decode cX9_pushed 113 = .ok (.iload 4, 2) := by decide +kernel
theorem dX9_pushed_115 : decode cX9_pushed 115 = .ok (.iconst 1, 1) := by decide +kernel
theorem dX9_pushed_116 : decode cX9_pushed 116 = .ok (.if_icmp .ne 6, 3) := by decide +kernel
theorem dX9_pushed_119 : decode cX9_pushed 119 = .ok (.iload 7, 2) := by decide +kernel
theorem dX9_pushed_121 : decode cX9_pushed 121 = .ok (.ireturn, 1) := by decide +kernel
theorem dX9_pushed_122 : decode cX9_pushed 122 = .ok (.iinc 5 1, 3) := by decide +kernel
theorem dX9_pushed_125 : decode cX9_pushed 125 = .ok (.iinc 6 1, 3) := by decide +kernel
theorem dX9_pushed_128 : decode cX9_pushed 128 = .ok (.goto (-71), 3) := by decide +kernel
theorem dX9_pushed_131 : decode cX9_pushed 131 = .ok (.iload 4, 2) := by decide +kernel
theorem dX9_pushed_133 : decode cX9_pushed 133 = .ok (.iconst 1, 1) := by decide +kernel
theorem dX9_pushed_134 : decode cX9_pushed 134 = .ok (.if_icmp .ne 9, 3) := by decide +kernel
theorem dX9_pushed_137 : decode cX9_pushed 137 = .ok (.sipush (-10004), 3) := by decide +kernel
theorem dX9_pushed_140 : decode cX9_pushed 140 = .ok (.goto 5, 3) := by decide +kernel
theorem dX9_pushed_143 : decode cX9_pushed 143 = .ok (.iload 5, 2) := by decide +kernel
theorem dX9_pushed_145 : decode cX9_pushed 145 = .ok (.ireturn, 1) := by decide +kernel
theorem dX9_head_0 : decode cX9_head 0 = .ok (.iload_n 1, 1) := by decide +kernel
theorem dX9_head_1 : decode cX9_head 1 = .ok (.invokestatic 163, 3) := by decide +kernel
theorem dX9_head_4 : decode cX9_head 4 = .ok (.ifCond .eq 13, 3) := by decide +kernel
theorem dX9_head_7 : decode cX9_head 7 = .ok (.iload_n 2, 1) := by decide +kernel
theorem dX9_head_8 : decode cX9_head 8 = .ok (.iconst 0, 1) := by decide +kernel
theorem dX9_head_9 : decode cX9_head 9 = .ok (.bipush 60, 2) := by decide +kernel
theorem dX9_head_11 : decode cX9_head 11 = .ok (.invokestatic 89, 3) := by decide +kernel
theorem dX9_head_14 : decode cX9_head 14 = .ok (.ifCond .ne 5, 3) := by decide +kernel
theorem dX9_head_17 : decode cX9_head 17 = .ok (.iconst (-1), 1) := by decide +kernel
theorem dX9_head_18 : decode cX9_head 18 = .ok (.ireturn, 1) := by decide +kernel
theorem dX9_head_19 : decode cX9_head 19 = .ok (.aload_n 0, 1) := by decide +kernel
theorem dX9_head_20 : decode cX9_head 20 = .ok (.iload_n 2, 1) := by decide +kernel
theorem dX9_head_21 : decode cX9_head 21 = .ok (.invokevirtual 231, 3) := by decide +kernel
theorem dX9_head_24 : decode cX9_head 24 = .ok (.aload_n 0, 1) := by decide +kernel
theorem dX9_head_25 : decode cX9_head 25 = .ok (.iload_n 1, 1) := by decide +kernel
theorem dX9_head_26 : decode cX9_head 26 = .ok (.invokevirtual 234, 3) := by decide +kernel
theorem dX9_head_29 : decode cX9_head 29 = .ok (.ireturn, 1) := by decide +kernel
theorem dX9_down_0 : decode cX9_down 0 = .ok (.iload_n 1, 1) := by decide +kernel
theorem dX9_down_1 : decode cX9_down 1 = .ok (.iconst 0, 1) := by decide +kernel
theorem dX9_down_2 : decode cX9_down 2 = .ok (.bipush 60, 2) := by decide +kernel
theorem dX9_down_4 : decode cX9_down 4 = .ok (.invokestatic 89, 3) := by decide +kernel
theorem dX9_down_7 : decode cX9_down 7 = .ok (.ifCond .ne 5, 3) := by decide +kernel
theorem dX9_down_10 : decode cX9_down 10 = .ok (.iconst (-1), 1) := by decide +kernel
theorem dX9_down_11 : decode cX9_down 11 = .ok (.ireturn, 1) := by decide +kernel
theorem dX9_down_12 : decode cX9_down 12 = .ok (.aload_n 0, 1) := by decide +kernel
theorem dX9_down_13 : decode cX9_down 13 = .ok (.iload_n 1, 1) := by decide +kernel
theorem dX9_down_14 : decode cX9_down 14 = .ok (.invokevirtual 231, 3) := by decide +kernel
theorem dX9_down_17 : decode cX9_down 17 = .ok (.iconst 0, 1) := by decide +kernel
theorem dX9_down_18 : decode cX9_down 18 = .ok (.istore_n 2, 1) := by decide +kernel
theorem dX9_down_19 : decode cX9_down 19 = .ok (.iconst 0, 1) := by decide +kernel
theorem dX9_down_20 : decode cX9_down 20 = .ok (.istore_n 3, 1) := by decide +kernel
theorem dX9_down_21 : decode cX9_down 21 = .ok (.iload_n 3, 1) := by decide +kernel
theorem dX9_down_22 : decode cX9_down 22 = .ok (.sipush 360, 3) := by decide +kernel
theorem dX9_down_25 : decode cX9_down 25 = .ok (.if_icmp .ge 22, 3) := by decide +kernel
theorem dX9_down_28 : decode cX9_down 28 = .ok (.aload_n 0, 1) := by decide +kernel
theorem dX9_down_29 : decode cX9_down 29 = .ok (.iload_n 3, 1) := by decide +kernel
theorem dX9_down_30 : decode cX9_down 30 = .ok (.invokevirtual 234, 3) := by decide +kernel
theorem dX9_down_33 : decode cX9_down 33 = .ok (.bipush (-4), 2) := by decide +kernel
theorem dX9_down_35 : decode cX9_down 35 = .ok (.if_icmp .eq 6, 3) := by decide +kernel
theorem dX9_down_38 : decode cX9_down 38 = .ok (.iinc 2 1, 3) := by decide +kernel
theorem dX9_down_41 : decode cX9_down 41 = .ok (.iinc 3 1, 3) := by decide +kernel
theorem dX9_down_44 : decode cX9_down 44 = .ok (.goto (-23), 3) := by decide +kernel
theorem dX9_down_47 : decode cX9_down 47 = .ok (.iload_n 2, 1) := by decide +kernel
theorem dX9_down_48 : decode cX9_down 48 = .ok (.ireturn, 1) := by decide +kernel
theorem dX9_keep_0 : decode cX9_keep 0 = .ok (.aload_n 0, 1) := by decide +kernel
theorem dX9_keep_1 : decode cX9_keep 1 = .ok (.getfield 121, 3) := by decide +kernel
theorem dX9_keep_4 : decode cX9_keep 4 = .ok (.ifCond .lt 27, 3) := by decide +kernel
theorem dX9_keep_7 : decode cX9_keep 7 = .ok (.aload_n 0, 1) := by decide +kernel
theorem dX9_keep_8 : decode cX9_keep 8 = .ok (.getfield 121, 3) := by decide +kernel
theorem dX9_keep_11 : decode cX9_keep 11 = .ok (.aload_n 0, 1) := by decide +kernel
theorem dX9_keep_12 : decode cX9_keep 12 = .ok (.getfield 42, 3) := by decide +kernel
theorem dX9_keep_15 : decode cX9_keep 15 = .ok (.arraylength, 1) := by decide +kernel
theorem dX9_keep_16 : decode cX9_keep 16 = .ok (.if_icmp .ge 15, 3) := by decide +kernel
theorem dX9_keep_19 : decode cX9_keep 19 = .ok (.aload_n 0, 1) := by decide +kernel
theorem dX9_keep_20 : decode cX9_keep 20 = .ok (.getfield 42, 3) := by decide +kernel
theorem dX9_keep_23 : decode cX9_keep 23 = .ok (.aload_n 0, 1) := by decide +kernel
theorem dX9_keep_24 : decode cX9_keep 24 = .ok (.getfield 121, 3) := by decide +kernel
theorem dX9_keep_27 : decode cX9_keep 27 = .ok (.aaload, 1) := by decide +kernel
theorem dX9_keep_28 : decode cX9_keep 28 = .ok (.ifnonnull 6, 3) := by decide +kernel
theorem dX9_keep_31 : decode cX9_keep 31 = .ok (.bipush (-3), 2) := by decide +kernel
theorem dX9_keep_33 : decode cX9_keep 33 = .ok (.ireturn, 1) := by decide +kernel
theorem dX9_keep_34 : decode cX9_keep 34 = .ok (.aload_n 0, 1) := by decide +kernel
theorem dX9_keep_35 : decode cX9_keep 35 = .ok (.getfield 42, 3) := by decide +kernel
theorem dX9_keep_38 : decode cX9_keep 38 = .ok (.aload_n 0, 1) := by decide +kernel
theorem dX9_keep_39 : decode cX9_keep 39 = .ok (.getfield 121, 3) := by decide +kernel
theorem dX9_keep_42 : decode cX9_keep 42 = .ok (.aaload, 1) := by decide +kernel
theorem dX9_keep_43 : decode cX9_keep 43 = .ok (.aload_n 0, 1) := by decide +kernel
theorem dX9_keep_44 : decode cX9_keep 44 = .ok (.getfield 38, 3) := by decide +kernel
theorem dX9_keep_47 : decode cX9_keep 47 = .ok (.invokevirtual 237, 3) := by decide +kernel
theorem dX9_keep_50 : decode cX9_keep 50 = .ok (.aload_n 0, 1) := by decide +kernel
theorem dX9_keep_51 : decode cX9_keep 51 = .ok (.dup, 1) := by decide +kernel
theorem dX9_keep_52 : decode cX9_keep 52 = .ok (.getfield 121, 3) := by decide +kernel
theorem dX9_keep_55 : decode cX9_keep 55 = .ok (.iconst 1, 1) := by decide +kernel
theorem dX9_keep_56 : decode cX9_keep 56 = .ok (.iadd, 1) := by decide +kernel
theorem dX9_keep_57 : decode cX9_keep 57 = .ok (.putfield 121, 3) := by decide +kernel
theorem dX9_keep_60 : decode cX9_keep 60 = .ok (.aload_n 0, 1) := by decide +kernel
theorem dX9_keep_61 : decode cX9_keep 61 = .ok (.getfield 121, 3) := by decide +kernel
theorem dX9_keep_64 : decode cX9_keep 64 = .ok (.ireturn, 1) := by decide +kernel
theorem dX9_back_0 : decode cX9_back 0 = .ok (.aload_n 0, 1) := by decide +kernel
theorem dX9_back_1 : decode cX9_back 1 = .ok (.getfield 121, 3) := by decide +kernel
theorem dX9_back_4 : decode cX9_back 4 = .ok (.iconst 1, 1) := by decide +kernel
theorem dX9_back_5 : decode cX9_back 5 = .ok (.isub, 1) := by decide +kernel
theorem dX9_back_6 : decode cX9_back 6 = .ok (.istore_n 1, 1) := by decide +kernel
theorem dX9_back_7 : decode cX9_back 7 = .ok (.iload_n 1, 1) := by decide +kernel
theorem dX9_back_8 : decode cX9_back 8 = .ok (.ifCond .lt 21, 3) := by decide +kernel
theorem dX9_back_11 : decode cX9_back 11 = .ok (.iload_n 1, 1) := by decide +kernel
theorem dX9_back_12 : decode cX9_back 12 = .ok (.aload_n 0, 1) := by decide +kernel
theorem dX9_back_13 : decode cX9_back 13 = .ok (.getfield 42, 3) := by decide +kernel
theorem dX9_back_16 : decode cX9_back 16 = .ok (.arraylength, 1) := by decide +kernel
theorem dX9_back_17 : decode cX9_back 17 = .ok (.if_icmp .ge 12, 3) := by decide +kernel
theorem dX9_back_20 : decode cX9_back 20 = .ok (.aload_n 0, 1) := by decide +kernel
theorem dX9_back_21 : decode cX9_back 21 = .ok (.getfield 42, 3) := by decide +kernel
theorem dX9_back_24 : decode cX9_back 24 = .ok (.iload_n 1, 1) := by decide +kernel
theorem dX9_back_25 : decode cX9_back 25 = .ok (.aaload, 1) := by decide +kernel
theorem dX9_back_26 : decode cX9_back 26 = .ok (.ifnonnull 6, 3) := by decide +kernel
theorem dX9_back_29 : decode cX9_back 29 = .ok (.bipush (-2), 2) := by decide +kernel
theorem dX9_back_31 : decode cX9_back 31 = .ok (.ireturn, 1) := by decide +kernel
theorem dX9_back_32 : decode cX9_back 32 = .ok (.aload_n 0, 1) := by decide +kernel
theorem dX9_back_33 : decode cX9_back 33 = .ok (.getfield 38, 3) := by decide +kernel
theorem dX9_back_36 : decode cX9_back 36 = .ok (.aload_n 0, 1) := by decide +kernel
theorem dX9_back_37 : decode cX9_back 37 = .ok (.getfield 42, 3) := by decide +kernel
theorem dX9_back_40 : decode cX9_back 40 = .ok (.iload_n 1, 1) := by decide +kernel
theorem dX9_back_41 : decode cX9_back 41 = .ok (.aaload, 1) := by decide +kernel
theorem dX9_back_42 : decode cX9_back 42 = .ok (.invokevirtual 237, 3) := by decide +kernel
theorem dX9_back_45 : decode cX9_back 45 = .ok (.aload_n 0, 1) := by decide +kernel
theorem dX9_back_46 : decode cX9_back 46 = .ok (.iload_n 1, 1) := by decide +kernel
theorem dX9_back_47 : decode cX9_back 47 = .ok (.putfield 121, 3) := by decide +kernel
theorem dX9_back_50 : decode cX9_back 50 = .ok (.aload_n 0, 1) := by decide +kernel
theorem dX9_back_51 : decode cX9_back 51 = .ok (.getfield 121, 3) := by decide +kernel
theorem dX9_back_54 : decode cX9_back 54 = .ok (.ireturn, 1) := by decide +kernel
theorem dX9_count_0 : decode cX9_count 0 = .ok (.iload_n 1, 1) := by decide +kernel
theorem dX9_count_1 : decode cX9_count 1 = .ok (.tableswitch 72 0 4 #[35, 43, 51, 59, 67], 35) := by decide +kernel
