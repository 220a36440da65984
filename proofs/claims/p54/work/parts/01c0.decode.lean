theorem dX0_init_0 : decode cX0_init 0 = .ok (.aload_n 0, 1) := by decide +kernel
theorem dX0_init_1 : decode cX0_init 1 = .ok (.invokespecial 3, 3) := by decide +kernel
theorem dX0_init_4 : decode cX0_init 4 = .ok (.aload_n 0, 1) := by decide +kernel
theorem dX0_init_5 : decode cX0_init 5 = .ok (.sipush 6144, 3) := by decide +kernel
theorem dX0_init_8 : decode cX0_init 8 = .ok (.newarray .int, 2) := by decide +kernel
theorem dX0_init_10 : decode cX0_init 10 = .ok (.putfield 11, 3) := by decide +kernel
theorem dX0_init_13 : decode cX0_init 13 = .ok (.aload_n 0, 1) := by decide +kernel
theorem dX0_init_14 : decode cX0_init 14 = .ok (.sipush 6144, 3) := by decide +kernel
theorem dX0_init_17 : decode cX0_init 17 = .ok (.newarray .int, 2) := by decide +kernel
theorem dX0_init_19 : decode cX0_init 19 = .ok (.putfield 15, 3) := by decide +kernel
theorem dX0_init_22 : decode cX0_init 22 = .ok (.aload_n 0, 1) := by decide +kernel
theorem dX0_init_23 : decode cX0_init 23 = .ok (.sipush 6144, 3) := by decide +kernel
theorem dX0_init_26 : decode cX0_init 26 = .ok (.newarray .int, 2) := by decide +kernel
theorem dX0_init_28 : decode cX0_init 28 = .ok (.putfield 18, 3) := by decide +kernel
theorem dX0_init_31 : decode cX0_init 31 = .ok (.aload_n 0, 1) := by decide +kernel
theorem dX0_init_32 : decode cX0_init 32 = .ok (.sipush 6144, 3) := by decide +kernel
theorem dX0_init_35 : decode cX0_init 35 = .ok (.newarray .int, 2) := by decide +kernel
theorem dX0_init_37 : decode cX0_init 37 = .ok (.putfield 21, 3) := by decide +kernel
theorem dX0_init_40 : decode cX0_init 40 = .ok (.aload_n 0, 1) := by decide +kernel
theorem dX0_init_41 : decode cX0_init 41 = .ok (.sipush 6144, 3) := by decide +kernel
theorem dX0_init_44 : decode cX0_init 44 = .ok (.newarray .int, 2) := by decide +kernel
theorem dX0_init_46 : decode cX0_init 46 = .ok (.putfield 24, 3) := by decide +kernel
theorem dX0_init_49 : decode cX0_init 49 = .ok (.aload_n 0, 1) := by decide +kernel
theorem dX0_init_50 : decode cX0_init 50 = .ok (.sipush 256, 3) := by decide +kernel
theorem dX0_init_53 : decode cX0_init 53 = .ok (.newarray .int, 2) := by decide +kernel
theorem dX0_init_55 : decode cX0_init 55 = .ok (.putfield 27, 3) := by decide +kernel
theorem dX0_init_58 : decode cX0_init 58 = .ok (.aload_n 0, 1) := by decide +kernel
theorem dX0_init_59 : decode cX0_init 59 = .ok (.iconst 1, 1) := by decide +kernel
theorem dX0_init_60 : decode cX0_init 60 = .ok (.putfield 30, 3) := by decide +kernel
theorem dX0_init_63 : decode cX0_init 63 = .ok (.aload_n 0, 1) := by decide +kernel
theorem dX0_init_64 : decode cX0_init 64 = .ok (.sipush 6143, 3) := by decide +kernel
theorem dX0_init_67 : decode cX0_init 67 = .ok (.putfield 34, 3) := by decide +kernel
theorem dX0_init_70 : decode cX0_init 70 = .ok (.aload_n 0, 1) := by decide +kernel
theorem dX0_init_71 : decode cX0_init 71 = .ok (.iconst 0, 1) := by decide +kernel
theorem dX0_init_72 : decode cX0_init 72 = .ok (.putfield 37, 3) := by decide +kernel
theorem dX0_init_75 : decode cX0_init 75 = .ok (.aload_n 0, 1) := by decide +kernel
theorem dX0_init_76 : decode cX0_init 76 = .ok (.iconst 0, 1) := by decide +kernel
theorem dX0_init_77 : decode cX0_init 77 = .ok (.putfield 40, 3) := by decide +kernel
theorem dX0_init_80 : decode cX0_init 80 = .ok (.return_, 1) := by decide +kernel
theorem dX0_hasRoom_0 : decode cX0_hasRoom 0 = .ok (.aload_n 0, 1) := by decide +kernel
theorem dX0_hasRoom_1 : decode cX0_hasRoom 1 = .ok (.getfield 34, 3) := by decide +kernel
theorem dX0_hasRoom_4 : decode cX0_hasRoom 4 = .ok (.sipush 4096, 3) := by decide +kernel
theorem dX0_hasRoom_7 : decode cX0_hasRoom 7 = .ok (.if_icmp .lt 7, 3) := by decide +kernel
theorem dX0_hasRoom_10 : decode cX0_hasRoom 10 = .ok (.iconst 1, 1) := by decide +kernel
theorem dX0_hasRoom_11 : decode cX0_hasRoom 11 = .ok (.goto 4, 3) := by decide +kernel
theorem dX0_hasRoom_14 : decode cX0_hasRoom 14 = .ok (.iconst 0, 1) := by decide +kernel
theorem dX0_hasRoom_15 : decode cX0_hasRoom 15 = .ok (.ireturn, 1) := by decide +kernel
theorem dX0_forgetKept_0 : decode cX0_forgetKept 0 = .ok (.aload_n 0, 1) := by decide +kernel
theorem dX0_forgetKept_1 : decode cX0_forgetKept 1 = .ok (.getfield 21, 3) := by decide +kernel
theorem dX0_forgetKept_4 : decode cX0_forgetKept 4 = .ok (.iconst 0, 1) := by decide +kernel
theorem dX0_forgetKept_5 : decode cX0_forgetKept 5 = .ok (.invokestatic 43, 3) := by decide +kernel
theorem dX0_forgetKept_8 : decode cX0_forgetKept 8 = .ok (.aload_n 0, 1) := by decide +kernel
theorem dX0_forgetKept_9 : decode cX0_forgetKept 9 = .ok (.getfield 21, 3) := by decide +kernel
theorem dX0_forgetKept_12 : decode cX0_forgetKept 12 = .ok (.iconst 0, 1) := by decide +kernel
theorem dX0_forgetKept_13 : decode cX0_forgetKept 13 = .ok (.iconst 1, 1) := by decide +kernel
theorem dX0_forgetKept_14 : decode cX0_forgetKept 14 = .ok (.iastore, 1) := by decide +kernel
theorem dX0_forgetKept_15 : decode cX0_forgetKept 15 = .ok (.aload_n 0, 1) := by decide +kernel
theorem dX0_forgetKept_16 : decode cX0_forgetKept 16 = .ok (.sipush 6143, 3) := by decide +kernel
theorem dX0_forgetKept_19 : decode cX0_forgetKept 19 = .ok (.putfield 34, 3) := by decide +kernel
theorem dX0_forgetKept_22 : decode cX0_forgetKept 22 = .ok (.aload_n 0, 1) := by decide +kernel
theorem dX0_forgetKept_23 : decode cX0_forgetKept 23 = .ok (.iconst 1, 1) := by decide +kernel
theorem dX0_forgetKept_24 : decode cX0_forgetKept 24 = .ok (.putfield 30, 3) := by decide +kernel
theorem dX0_forgetKept_27 : decode cX0_forgetKept 27 = .ok (.return_, 1) := by decide +kernel
theorem dX0_keepAll_0 : decode cX0_keepAll 0 = .ok (.aload_n 0, 1) := by decide +kernel
theorem dX0_keepAll_1 : decode cX0_keepAll 1 = .ok (.iload_n 1, 1) := by decide +kernel
theorem dX0_keepAll_2 : decode cX0_keepAll 2 = .ok (.iload_n 2, 1) := by decide +kernel
theorem dX0_keepAll_3 : decode cX0_keepAll 3 = .ok (.invokevirtual 49, 3) := by decide +kernel
theorem dX0_keepAll_6 : decode cX0_keepAll 6 = .ok (.iconst 0, 1) := by decide +kernel
theorem dX0_keepAll_7 : decode cX0_keepAll 7 = .ok (.istore_n 3, 1) := by decide +kernel
theorem dX0_keepAll_8 : decode cX0_keepAll 8 = .ok (.iload_n 3, 1) := by decide +kernel
theorem dX0_keepAll_9 : decode cX0_keepAll 9 = .ok (.iload_n 2, 1) := by decide +kernel
theorem dX0_keepAll_10 : decode cX0_keepAll 10 = .ok (.if_icmp .ge 57, 3) := by decide +kernel
theorem dX0_keepAll_13 : decode cX0_keepAll 13 = .ok (.aload_n 0, 1) := by decide +kernel
theorem dX0_keepAll_14 : decode cX0_keepAll 14 = .ok (.getfield 27, 3) := by decide +kernel
theorem dX0_keepAll_17 : decode cX0_keepAll 17 = .ok (.iload_n 3, 1) := by decide +kernel
theorem dX0_keepAll_18 : decode cX0_keepAll 18 = .ok (.iaload, 1) := by decide +kernel
theorem dX0_keepAll_19 : decode cX0_keepAll 19 = .ok (.invokestatic 53, 3) := by decide +kernel
theorem dX0_keepAll_22 : decode cX0_keepAll 22 = .ok (.ifCond .eq 39, 3) := by decide +kernel
theorem dX0_keepAll_25 : decode cX0_keepAll 25 = .ok (.aload_n 0, 1) := by decide +kernel
theorem dX0_keepAll_26 : decode cX0_keepAll 26 = .ok (.getfield 21, 3) := by decide +kernel
theorem dX0_keepAll_29 : decode cX0_keepAll 29 = .ok (.aload_n 0, 1) := by decide +kernel
theorem dX0_keepAll_30 : decode cX0_keepAll 30 = .ok (.getfield 27, 3) := by decide +kernel
theorem dX0_keepAll_33 : decode cX0_keepAll 33 = .ok (.iload_n 3, 1) := by decide +kernel
theorem dX0_keepAll_34 : decode cX0_keepAll 34 = .ok (.iaload, 1) := by decide +kernel
theorem dX0_keepAll_35 : decode cX0_keepAll 35 = .ok (.iaload, 1) := by decide +kernel
theorem dX0_keepAll_36 : decode cX0_keepAll 36 = .ok (.ifCond .ne 25, 3) := by decide +kernel
theorem dX0_keepAll_39 : decode cX0_keepAll 39 = .ok (.aload_n 0, 1) := by decide +kernel
theorem dX0_keepAll_40 : decode cX0_keepAll 40 = .ok (.getfield 21, 3) := by decide +kernel
theorem dX0_keepAll_43 : decode cX0_keepAll 43 = .ok (.aload_n 0, 1) := by decide +kernel
theorem dX0_keepAll_44 : decode cX0_keepAll 44 = .ok (.getfield 27, 3) := by decide +kernel
theorem dX0_keepAll_47 : decode cX0_keepAll 47 = .ok (.iload_n 3, 1) := by decide +kernel
theorem dX0_keepAll_48 : decode cX0_keepAll 48 = .ok (.iaload, 1) := by decide +kernel
theorem dX0_keepAll_49 : decode cX0_keepAll 49 = .ok (.iconst 1, 1) := by decide +kernel
theorem dX0_keepAll_50 : decode cX0_keepAll 50 = .ok (.iastore, 1) := by decide +kernel
theorem dX0_keepAll_51 : decode cX0_keepAll 51 = .ok (.aload_n 0, 1) := by decide +kernel
theorem dX0_keepAll_52 : decode cX0_keepAll 52 = .ok (.dup, 1) := by decide +kernel
theorem dX0_keepAll_53 : decode cX0_keepAll 53 = .ok (.getfield 34, 3) := by decide +kernel
theorem dX0_keepAll_56 : decode cX0_keepAll 56 = .ok (.iconst 1, 1) := by decide +kernel
theorem dX0_keepAll_57 : decode cX0_keepAll 57 = .ok (.isub, 1) := by decide +kernel
theorem dX0_keepAll_58 : decode cX0_keepAll 58 = .ok (.putfield 34, 3) := by decide +kernel
theorem dX0_keepAll_61 : decode cX0_keepAll 61 = .ok (.iinc 3 1, 3) := by decide +kernel
theorem dX0_keepAll_64 : decode cX0_keepAll 64 = .ok (.goto (-56), 3) := by decide +kernel
theorem dX0_keepAll_67 : decode cX0_keepAll 67 = .ok (.return_, 1) := by decide +kernel
theorem dX0_make_0 : decode cX0_make 0 = .ok (.aload_n 0, 1) := by decide +kernel
theorem dX0_make_1 : decode cX0_make 1 = .ok (.getfield 30, 3) := by decide +kernel
theorem dX0_make_4 : decode cX0_make 4 = .ok (.sipush 6144, 3) := by decide +kernel
theorem dX0_make_7 : decode cX0_make 7 = .ok (.if_icmp .ge 28, 3) := by decide +kernel
theorem dX0_make_10 : decode cX0_make 10 = .ok (.aload_n 0, 1) := by decide +kernel
theorem dX0_make_11 : decode cX0_make 11 = .ok (.getfield 21, 3) := by decide +kernel
theorem dX0_make_14 : decode cX0_make 14 = .ok (.aload_n 0, 1) := by decide +kernel
theorem dX0_make_15 : decode cX0_make 15 = .ok (.getfield 30, 3) := by decide +kernel
theorem dX0_make_18 : decode cX0_make 18 = .ok (.iaload, 1) := by decide +kernel
theorem dX0_make_19 : decode cX0_make 19 = .ok (.ifCond .eq 16, 3) := by decide +kernel
theorem dX0_make_22 : decode cX0_make 22 = .ok (.aload_n 0, 1) := by decide +kernel
theorem dX0_make_23 : decode cX0_make 23 = .ok (.dup, 1) := by decide +kernel
theorem dX0_make_24 : decode cX0_make 24 = .ok (.getfield 30, 3) := by decide +kernel
theorem dX0_make_27 : decode cX0_make 27 = .ok (.iconst 1, 1) := by decide +kernel
theorem dX0_make_28 : decode cX0_make 28 = .ok (.iadd, 1) := by decide +kernel
theorem dX0_make_29 : decode cX0_make 29 = .ok (.putfield 30, 3) := by decide +kernel
theorem dX0_make_32 : decode cX0_make 32 = .ok (.goto (-32), 3) := by decide +kernel
theorem dX0_make_35 : decode cX0_make 35 = .ok (.aload_n 0, 1) := by decide +kernel
theorem dX0_make_36 : decode cX0_make 36 = .ok (.getfield 30, 3) := by decide +kernel
theorem dX0_make_39 : decode cX0_make 39 = .ok (.sipush 6144, 3) := by decide +kernel
theorem dX0_make_42 : decode cX0_make 42 = .ok (.if_icmp .lt 5, 3) := by decide +kernel
theorem dX0_make_45 : decode cX0_make 45 = .ok (.iconst 0, 1) := by decide +kernel
theorem dX0_make_46 : decode cX0_make 46 = .ok (.ireturn, 1) := by decide +kernel
theorem dX0_make_47 : decode cX0_make 47 = .ok (.aload_n 0, 1) := by decide +kernel
theorem dX0_make_48 : decode cX0_make 48 = .ok (.getfield 30, 3) := by decide +kernel
theorem dX0_make_51 : decode cX0_make 51 = .ok (.istore 4, 2) := by decide +kernel
theorem dX0_make_53 : decode cX0_make 53 = .ok (.aload_n 0, 1) := by decide +kernel
theorem dX0_make_54 : decode cX0_make 54 = .ok (.getfield 11, 3) := by decide +kernel
theorem dX0_make_57 : decode cX0_make 57 = .ok (.iload 4, 2) := by decide +kernel
theorem dX0_make_59 : decode cX0_make 59 = .ok (.iload_n 1, 1) := by decide +kernel
theorem dX0_make_60 : decode cX0_make 60 = .ok (.iastore, 1) := by decide +kernel
theorem dX0_make_61 : decode cX0_make 61 = .ok (.aload_n 0, 1) := by decide +kernel
theorem dX0_make_62 : decode cX0_make 62 = .ok (.getfield 15, 3) := by decide +kernel
theorem dX0_make_65 : decode cX0_make 65 = .ok (.iload 4, 2) := by decide +kernel
theorem dX0_make_67 : decode cX0_make 67 = .ok (.iload_n 2, 1) := by decide +kernel
theorem dX0_make_68 : decode cX0_make 68 = .ok (.iastore, 1) := by decide +kernel
theorem dX0_make_69 : decode cX0_make 69 = .ok (.aload_n 0, 1) := by decide +kernel
theorem dX0_make_70 : decode cX0_make 70 = .ok (.getfield 18, 3) := by decide +kernel
theorem dX0_make_73 : decode cX0_make 73 = .ok (.iload 4, 2) := by decide +kernel
theorem dX0_make_75 : decode cX0_make 75 = .ok (.iload_n 3, 1) := by decide +kernel
theorem dX0_make_76 : decode cX0_make 76 = .ok (.iastore, 1) := by decide +kernel
theorem dX0_make_77 : decode cX0_make 77 = .ok (.aload_n 0, 1) := by decide +kernel
theorem dX0_make_78 : decode cX0_make 78 = .ok (.dup, 1) := by decide +kernel
theorem dX0_make_79 : decode cX0_make 79 = .ok (.getfield 30, 3) := by decide +kernel
theorem dX0_make_82 : decode cX0_make 82 = .ok (.iconst 1, 1) := by decide +kernel
theorem dX0_make_83 : decode cX0_make 83 = .ok (.iadd, 1) := by decide +kernel
theorem dX0_make_84 : decode cX0_make 84 = .ok (.putfield 30, 3) := by decide +kernel
theorem dX0_make_87 : decode cX0_make 87 = .ok (.aload_n 0, 1) := by decide +kernel
theorem dX0_make_88 : decode cX0_make 88 = .ok (.dup, 1) := by decide +kernel
theorem dX0_make_89 : decode cX0_make 89 = .ok (.getfield 34, 3) := by decide +kernel
theorem dX0_make_92 : decode cX0_make 92 = .ok (.iconst 1, 1) := by decide +kernel
theorem dX0_make_93 : decode cX0_make 93 = .ok (.isub, 1) := by decide +kernel
theorem dX0_make_94 : decode cX0_make 94 = .ok (.putfield 34, 3) := by decide +kernel
theorem dX0_make_97 : decode cX0_make 97 = .ok (.aload_n 0, 1) := by decide +kernel
theorem dX0_make_98 : decode cX0_make 98 = .ok (.dup, 1) := by decide +kernel
theorem dX0_make_99 : decode cX0_make 99 = .ok (.getfield 37, 3) := by decide +kernel
theorem dX0_make_102 : decode cX0_make 102 = .ok (.iconst 1, 1) := by decide +kernel
theorem dX0_make_103 : decode cX0_make 103 = .ok (.iadd, 1) := by decide +kernel
theorem dX0_make_104 : decode cX0_make 104 = .ok (.putfield 37, 3) := by decide +kernel
theorem dX0_make_107 : decode cX0_make 107 = .ok (.iload 4, 2) := by decide +kernel
theorem dX0_make_109 : decode cX0_make 109 = .ok (.ireturn, 1) := by decide +kernel
theorem dX0_isNode_0 : decode cX0_isNode 0 = .ok (.iload_n 0, 1) := by decide +kernel
theorem dX0_isNode_1 : decode cX0_isNode 1 = .ok (.ifCond .le 14, 3) := by decide +kernel
theorem dX0_isNode_4 : decode cX0_isNode 4 = .ok (.iload_n 0, 1) := by decide +kernel
theorem dX0_isNode_5 : decode cX0_isNode 5 = .ok (.sipush 6144, 3) := by decide +kernel
theorem dX0_isNode_8 : decode cX0_isNode 8 = .ok (.if_icmp .ge 7, 3) := by decide +kernel
theorem dX0_isNode_11 : decode cX0_isNode 11 = .ok (.iconst 1, 1) := by decide +kernel
theorem dX0_isNode_12 : decode cX0_isNode 12 = .ok (.goto 4, 3) := by decide +kernel
theorem dX0_isNode_15 : decode cX0_isNode 15 = .ok (.iconst 0, 1) := by decide +kernel
theorem dX0_isNode_16 : decode cX0_isNode 16 = .ok (.ireturn, 1) := by decide +kernel
theorem dX0_numberOf_0 : decode cX0_numberOf 0 = .ok (.iload_n 1, 1) := by decide +kernel
theorem dX0_numberOf_1 : decode cX0_numberOf 1 = .ok (.invokestatic 53, 3) := by decide +kernel
theorem dX0_numberOf_4 : decode cX0_numberOf 4 = .ok (.ifCond .eq 12, 3) := by decide +kernel
theorem dX0_numberOf_7 : decode cX0_numberOf 7 = .ok (.aload_n 0, 1) := by decide +kernel
theorem dX0_numberOf_8 : decode cX0_numberOf 8 = .ok (.getfield 11, 3) := by decide +kernel
theorem dX0_numberOf_11 : decode cX0_numberOf 11 = .ok (.iload_n 1, 1) := by decide +kernel
theorem dX0_numberOf_12 : decode cX0_numberOf 12 = .ok (.iaload, 1) := by decide +kernel
theorem dX0_numberOf_13 : decode cX0_numberOf 13 = .ok (.goto 4, 3) := by decide +kernel
theorem dX0_numberOf_16 : decode cX0_numberOf 16 = .ok (.iconst 0, 1) := by decide +kernel
theorem dX0_numberOf_17 : decode cX0_numberOf 17 = .ok (.ireturn, 1) := by decide +kernel
theorem dX0_leftOf_0 : decode cX0_leftOf 0 = .ok (.iload_n 1, 1) := by decide +kernel
theorem dX0_leftOf_1 : decode cX0_leftOf 1 = .ok (.invokestatic 53, 3) := by decide +kernel
theorem dX0_leftOf_4 : decode cX0_leftOf 4 = .ok (.ifCond .eq 12, 3) := by decide +kernel
theorem dX0_leftOf_7 : decode cX0_leftOf 7 = .ok (.aload_n 0, 1) := by decide +kernel
theorem dX0_leftOf_8 : decode cX0_leftOf 8 = .ok (.getfield 15, 3) := by decide +kernel
theorem dX0_leftOf_11 : decode cX0_leftOf 11 = .ok (.iload_n 1, 1) := by decide +kernel
theorem dX0_leftOf_12 : decode cX0_leftOf 12 = .ok (.iaload, 1) := by decide +kernel
theorem dX0_leftOf_13 : decode cX0_leftOf 13 = .ok (.goto 4, 3) := by decide +kernel
theorem dX0_leftOf_16 : decode cX0_leftOf 16 = .ok (.iconst 0, 1) := by decide +kernel
theorem dX0_leftOf_17 : decode cX0_leftOf 17 = .ok (.ireturn, 1) := by decide +kernel
theorem dX0_rightOf_0 : decode cX0_rightOf 0 = .ok (.iload_n 1, 1) := by decide +kernel
theorem dX0_rightOf_1 : decode cX0_rightOf 1 = .ok (.invokestatic 53, 3) := by decide +kernel
theorem dX0_rightOf_4 : decode cX0_rightOf 4 = .ok (.ifCond .eq 12, 3) := by decide +kernel
theorem dX0_rightOf_7 : decode cX0_rightOf 7 = .ok (.aload_n 0, 1) := by decide +kernel
theorem dX0_rightOf_8 : decode cX0_rightOf 8 = .ok (.getfield 18, 3) := by decide +kernel
theorem dX0_rightOf_11 : decode cX0_rightOf 11 = .ok (.iload_n 1, 1) := by decide +kernel
theorem dX0_rightOf_12 : decode cX0_rightOf 12 = .ok (.iaload, 1) := by decide +kernel
theorem dX0_rightOf_13 : decode cX0_rightOf 13 = .ok (.goto 4, 3) := by decide +kernel
theorem dX0_rightOf_16 : decode cX0_rightOf 16 = .ok (.iconst 0, 1) := by decide +kernel
theorem dX0_rightOf_17 : decode cX0_rightOf 17 = .ok (.ireturn, 1) := by decide +kernel
theorem dX0_numberAt_0 : decode cX0_numberAt 0 = .ok (.iload_n 1, 1) := by decide +kernel
theorem dX0_numberAt_1 : decode cX0_numberAt 1 = .ok (.istore_n 3, 1) := by decide +kernel
theorem dX0_numberAt_2 : decode cX0_numberAt 2 = .ok (.iload_n 2, 1) := by decide +kernel
theorem dX0_numberAt_3 : decode cX0_numberAt 3 = .ok (.istore 4, 2) := by decide +kernel
theorem dX0_numberAt_5 : decode cX0_numberAt 5 = .ok (.iload 4, 2) := by decide +kernel
theorem dX0_numberAt_7 : decode cX0_numberAt 7 = .ok (.ifCond .le 36, 3) := by decide +kernel
theorem dX0_numberAt_10 : decode cX0_numberAt 10 = .ok (.iload 4, 2) := by decide +kernel
theorem dX0_numberAt_12 : decode cX0_numberAt 12 = .ok (.iconst 2, 1) := by decide +kernel
theorem dX0_numberAt_13 : decode cX0_numberAt 13 = .ok (.irem, 1) := by decide +kernel
theorem dX0_numberAt_14 : decode cX0_numberAt 14 = .ok (.iconst 1, 1) := by decide +kernel
theorem dX0_numberAt_15 : decode cX0_numberAt 15 = .ok (.if_icmp .ne 11, 3) := by decide +kernel
theorem dX0_numberAt_18 : decode cX0_numberAt 18 = .ok (.aload_n 0, 1) := by decide +kernel
theorem dX0_numberAt_19 : decode cX0_numberAt 19 = .ok (.iload_n 3, 1) := by decide +kernel
theorem dX0_numberAt_20 : decode cX0_numberAt 20 = .ok (.invokevirtual 57, 3) := by decide +kernel
theorem dX0_numberAt_23 : decode cX0_numberAt 23 = .ok (.goto 8, 3) := by decide +kernel
theorem dX0_numberAt_26 : decode cX0_numberAt 26 = .ok (.aload_n 0, 1) := by decide +kernel
theorem dX0_numberAt_27 : decode cX0_numberAt 27 = .ok (.iload_n 3, 1) := by decide +kernel
theorem dX0_numberAt_28 : decode cX0_numberAt 28 = .ok (.invokevirtual 61, 3) := by decide +kernel
theorem dX0_numberAt_31 : decode cX0_numberAt 31 = .ok (.istore_n 3, 1) := by decide +kernel
theorem dX0_numberAt_32 : decode cX0_numberAt 32 = .ok (.iload 4, 2) := by decide +kernel
theorem dX0_numberAt_34 : decode cX0_numberAt 34 = .ok (.iconst 1, 1) := by decide +kernel
theorem dX0_numberAt_35 : decode cX0_numberAt 35 = .ok (.isub, 1) := by decide +kernel
theorem dX0_numberAt_36 : decode cX0_numberAt 36 = .ok (.iconst 2, 1) := by decide +kernel
theorem dX0_numberAt_37 : decode cX0_numberAt 37 = .ok (.idiv, 1) := by decide +kernel
theorem dX0_numberAt_38 : decode cX0_numberAt 38 = .ok (.istore 4, 2) := by decide +kernel
theorem dX0_numberAt_40 : decode cX0_numberAt 40 = .ok (.goto (-35), 3) := by decide +kernel
theorem dX0_numberAt_43 : decode cX0_numberAt 43 = .ok (.aload_n 0, 1) := by decide +kernel
theorem dX0_numberAt_44 : decode cX0_numberAt 44 = .ok (.iload_n 3, 1) := by decide +kernel
theorem dX0_numberAt_45 : decode cX0_numberAt 45 = .ok (.invokevirtual 64, 3) := by decide +kernel
theorem dX0_numberAt_48 : decode cX0_numberAt 48 = .ok (.ireturn, 1) := by decide +kernel
theorem dX0_spread_0 : decode cX0_spread 0 = .ok (.aload_n 0, 1) := by decide +kernel
theorem dX0_spread_1 : decode cX0_spread 1 = .ok (.getfield 27, 3) := by decide +kernel
theorem dX0_spread_4 : decode cX0_spread 4 = .ok (.iconst 0, 1) := by decide +kernel
theorem dX0_spread_5 : decode cX0_spread 5 = .ok (.iload_n 1, 1) := by decide +kernel
theorem dX0_spread_6 : decode cX0_spread 6 = .ok (.iastore, 1) := by decide +kernel
theorem dX0_spread_7 : decode cX0_spread 7 = .ok (.iconst 0, 1) := by decide +kernel
theorem dX0_spread_8 : decode cX0_spread 8 = .ok (.istore_n 3, 1) := by decide +kernel
theorem dX0_spread_9 : decode cX0_spread 9 = .ok (.iload_n 3, 1) := by decide +kernel
theorem dX0_spread_10 : decode cX0_spread 10 = .ok (.iload_n 2, 1) := by decide +kernel
theorem dX0_spread_11 : decode cX0_spread 11 = .ok (.if_icmp .ge 73, 3) := by decide +kernel
theorem dX0_spread_14 : decode cX0_spread 14 = .ok (.iload_n 3, 1) := by decide +kernel
theorem dX0_spread_15 : decode cX0_spread 15 = .ok (.invokestatic 67, 3) := by decide +kernel
theorem dX0_spread_18 : decode cX0_spread 18 = .ok (.istore 4, 2) := by decide +kernel
theorem dX0_spread_20 : decode cX0_spread 20 = .ok (.iload_n 3, 1) := by decide +kernel
theorem dX0_spread_21 : decode cX0_spread 21 = .ok (.iload 4, 2) := by decide +kernel
theorem dX0_spread_23 : decode cX0_spread 23 = .ok (.iadd, 1) := by decide +kernel
theorem dX0_spread_24 : decode cX0_spread 24 = .ok (.iload_n 2, 1) := by decide +kernel
theorem dX0_spread_25 : decode cX0_spread 25 = .ok (.if_icmp .ge 22, 3) := by decide +kernel
theorem dX0_spread_28 : decode cX0_spread 28 = .ok (.aload_n 0, 1) := by decide +kernel
theorem dX0_spread_29 : decode cX0_spread 29 = .ok (.getfield 27, 3) := by decide +kernel
theorem dX0_spread_32 : decode cX0_spread 32 = .ok (.iload_n 3, 1) := by decide +kernel
theorem dX0_spread_33 : decode cX0_spread 33 = .ok (.iload 4, 2) := by decide +kernel
theorem dX0_spread_35 : decode cX0_spread 35 = .ok (.iadd, 1) := by decide +kernel
theorem dX0_spread_36 : decode cX0_spread 36 = .ok (.aload_n 0, 1) := by decide +kernel
theorem dX0_spread_37 : decode cX0_spread 37 = .ok (.aload_n 0, 1) := by decide +kernel
theorem dX0_spread_38 : decode cX0_spread 38 = .ok (.getfield 27, 3) := by decide +kernel
theorem dX0_spread_41 : decode cX0_spread 41 = .ok (.iload_n 3, 1) := by decide +kernel
theorem dX0_spread_42 : decode cX0_spread 42 = .ok (.iaload, 1) := by decide +kernel
theorem dX0_spread_43 : decode cX0_spread 43 = .ok (.invokevirtual 57, 3) := by decide +kernel
theorem dX0_spread_46 : decode cX0_spread 46 = .ok (.iastore, 1) := by decide +kernel
theorem dX0_spread_47 : decode cX0_spread 47 = .ok (.iload_n 3, 1) := by decide +kernel
theorem dX0_spread_48 : decode cX0_spread 48 = .ok (.iconst 2, 1) := by decide +kernel
theorem dX0_spread_49 : decode cX0_spread 49 = .ok (.iload 4, 2) := by decide +kernel
theorem dX0_spread_51 : decode cX0_spread 51 = .ok (.imul, 1) := by decide +kernel
theorem dX0_spread_52 : decode cX0_spread 52 = .ok (.iadd, 1) := by decide +kernel
theorem dX0_spread_53 : decode cX0_spread 53 = .ok (.iload_n 2, 1) := by decide +kernel
theorem dX0_spread_54 : decode cX0_spread 54 = .ok (.if_icmp .ge 24, 3) := by decide +kernel
theorem dX0_spread_57 : decode cX0_spread 57 = .ok (.aload_n 0, 1) := by decide +kernel
theorem dX0_spread_58 : decode cX0_spread 58 = .ok (.getfield 27, 3) := by decide +kernel
theorem dX0_spread_61 : decode cX0_spread 61 = .ok (.iload_n 3, 1) := by decide +kernel
theorem dX0_spread_62 : decode cX0_spread 62 = .ok (.iconst 2, 1) := by decide +kernel
theorem dX0_spread_63 : decode cX0_spread 63 = .ok (.iload 4, 2) := by decide +kernel
theorem dX0_spread_65 : decode cX0_spread 65 = .ok (.imul, 1) := by decide +kernel
theorem dX0_spread_66 : decode cX0_spread 66 = .ok (.iadd, 1) := by decide +kernel
theorem dX0_spread_67 : decode cX0_spread 67 = .ok (.aload_n 0, 1) := by decide +kernel
theorem dX0_spread_68 : decode cX0_spread 68 = .ok (.aload_n 0, 1) := by decide +kernel
theorem dX0_spread_69 : decode cX0_spread 69 = .ok (.getfield 27, 3) := by decide +kernel
theorem dX0_spread_72 : decode cX0_spread 72 = .ok (.iload_n 3, 1) := by decide +kernel
theorem dX0_spread_73 : decode cX0_spread 73 = .ok (.iaload, 1) := by decide +kernel
theorem dX0_spread_74 : decode cX0_spread 74 = .ok (.invokevirtual 61, 3) := by decide +kernel
theorem dX0_spread_77 : decode cX0_spread 77 = .ok (.iastore, 1) := by decide +kernel
theorem dX0_spread_78 : decode cX0_spread 78 = .ok (.iinc 3 1, 3) := by decide +kernel
theorem dX0_spread_81 : decode cX0_spread 81 = .ok (.goto (-72), 3) := by decide +kernel
theorem dX0_spread_84 : decode cX0_spread 84 = .ok (.return_, 1) := by decide +kernel
theorem dX0_read_0 : decode cX0_read 0 = .ok (.aload_n 0, 1) := by decide +kernel
theorem dX0_read_1 : decode cX0_read 1 = .ok (.iload_n 1, 1) := by decide +kernel
theorem dX0_read_2 : decode cX0_read 2 = .ok (.iload_n 2, 1) := by decide +kernel
theorem dX0_read_3 : decode cX0_read 3 = .ok (.invokevirtual 49, 3) := by decide +kernel
theorem dX0_read_6 : decode cX0_read 6 = .ok (.iconst 0, 1) := by decide +kernel
theorem dX0_read_7 : decode cX0_read 7 = .ok (.istore 4, 2) := by decide +kernel
theorem dX0_read_9 : decode cX0_read 9 = .ok (.iload 4, 2) := by decide +kernel
theorem dX0_read_11 : decode cX0_read 11 = .ok (.iload_n 2, 1) := by decide +kernel
theorem dX0_read_12 : decode cX0_read 12 = .ok (.if_icmp .ge 24, 3) := by decide +kernel
theorem dX0_read_15 : decode cX0_read 15 = .ok (.aload_n 3, 1) := by decide +kernel
theorem dX0_read_16 : decode cX0_read 16 = .ok (.iload 4, 2) := by decide +kernel
theorem dX0_read_18 : decode cX0_read 18 = .ok (.aload_n 0, 1) := by decide +kernel
theorem dX0_read_19 : decode cX0_read 19 = .ok (.aload_n 0, 1) := by decide +kernel
theorem dX0_read_20 : decode cX0_read 20 = .ok (.getfield 27, 3) := by decide +kernel
theorem dX0_read_23 : decode cX0_read 23 = .ok (.iload 4, 2) := by decide +kernel
theorem dX0_read_25 : decode cX0_read 25 = .ok (.iaload, 1) := by decide +kernel
theorem dX0_read_26 : decode cX0_read 26 = .ok (.invokevirtual 64, 3) := by decide +kernel
theorem dX0_read_29 : decode cX0_read 29 = .ok (.iastore, 1) := by decide +kernel
theorem dX0_read_30 : decode cX0_read 30 = .ok (.iinc 4 1, 3) := by decide +kernel
theorem dX0_read_33 : decode cX0_read 33 = .ok (.goto (-24), 3) := by decide +kernel
theorem dX0_read_36 : decode cX0_read 36 = .ok (.return_, 1) := by decide +kernel
theorem dX0_below_0 : decode cX0_below 0 = .ok (.iload_n 1, 1) := by decide +kernel
theorem dX0_below_1 : decode cX0_below 1 = .ok (.iload_n 2, 1) := by decide +kernel
theorem dX0_below_2 : decode cX0_below 2 = .ok (.iload_n 1, 1) := by decide +kernel
theorem dX0_below_3 : decode cX0_below 3 = .ok (.invokestatic 67, 3) := by decide +kernel
theorem dX0_below_6 : decode cX0_below 6 = .ok (.imul, 1) := by decide +kernel
theorem dX0_below_7 : decode cX0_below 7 = .ok (.iadd, 1) := by decide +kernel
theorem dX0_below_8 : decode cX0_below 8 = .ok (.istore 4, 2) := by decide +kernel
theorem dX0_below_10 : decode cX0_below 10 = .ok (.iload 4, 2) := by decide +kernel
theorem dX0_below_12 : decode cX0_below 12 = .ok (.iload_n 3, 1) := by decide +kernel
theorem dX0_below_13 : decode cX0_below 13 = .ok (.if_icmp .ge 13, 3) := by decide +kernel
theorem dX0_below_16 : decode cX0_below 16 = .ok (.aload_n 0, 1) := by decide +kernel
theorem dX0_below_17 : decode cX0_below 17 = .ok (.getfield 27, 3) := by decide +kernel
theorem dX0_below_20 : decode cX0_below 20 = .ok (.iload 4, 2) := by decide +kernel
theorem dX0_below_22 : decode cX0_below 22 = .ok (.iaload, 1) := by decide +kernel
theorem dX0_below_23 : decode cX0_below 23 = .ok (.goto 4, 3) := by decide +kernel
theorem dX0_below_26 : decode cX0_below 26 = .ok (.iconst 0, 1) := by decide +kernel
theorem dX0_below_27 : decode cX0_below 27 = .ok (.ireturn, 1) := by decide +kernel
theorem dX0_rootOf_0 : decode cX0_rootOf 0 = .ok (.iload_n 1, 1) := by decide +kernel
theorem dX0_rootOf_1 : decode cX0_rootOf 1 = .ok (.ifCond .le 12, 3) := by decide +kernel
theorem dX0_rootOf_4 : decode cX0_rootOf 4 = .ok (.aload_n 0, 1) := by decide +kernel
theorem dX0_rootOf_5 : decode cX0_rootOf 5 = .ok (.getfield 27, 3) := by decide +kernel
theorem dX0_rootOf_8 : decode cX0_rootOf 8 = .ok (.iconst 0, 1) := by decide +kernel
theorem dX0_rootOf_9 : decode cX0_rootOf 9 = .ok (.iaload, 1) := by decide +kernel
theorem dX0_rootOf_10 : decode cX0_rootOf 10 = .ok (.goto 4, 3) := by decide +kernel
theorem dX0_rootOf_13 : decode cX0_rootOf 13 = .ok (.iconst 0, 1) := by decide +kernel
theorem dX0_rootOf_14 : decode cX0_rootOf 14 = .ok (.ireturn, 1) := by decide +kernel
theorem dX0_changed_0 : decode cX0_changed 0 = .ok (.aload_n 0, 1) := by decide +kernel
theorem dX0_changed_1 : decode cX0_changed 1 = .ok (.iload_n 1, 1) := by decide +kernel
theorem dX0_changed_2 : decode cX0_changed 2 = .ok (.iload_n 2, 1) := by decide +kernel
theorem dX0_changed_3 : decode cX0_changed 3 = .ok (.invokevirtual 49, 3) := by decide +kernel
theorem dX0_changed_6 : decode cX0_changed 6 = .ok (.iload_n 2, 1) := by decide +kernel
theorem dX0_changed_7 : decode cX0_changed 7 = .ok (.iconst 1, 1) := by decide +kernel
theorem dX0_changed_8 : decode cX0_changed 8 = .ok (.isub, 1) := by decide +kernel
theorem dX0_changed_9 : decode cX0_changed 9 = .ok (.istore 5, 2) := by decide +kernel
theorem dX0_changed_11 : decode cX0_changed 11 = .ok (.iload 5, 2) := by decide +kernel
theorem dX0_changed_13 : decode cX0_changed 13 = .ok (.ifCond .lt 50, 3) := by decide +kernel
theorem dX0_changed_16 : decode cX0_changed 16 = .ok (.aload_n 3, 1) := by decide +kernel
theorem dX0_changed_17 : decode cX0_changed 17 = .ok (.iload 5, 2) := by decide +kernel
theorem dX0_changed_19 : decode cX0_changed 19 = .ok (.invokevirtual 82, 3) := by decide +kernel
theorem dX0_changed_22 : decode cX0_changed 22 = .ok (.ifCond .eq 35, 3) := by decide +kernel
theorem dX0_changed_25 : decode cX0_changed 25 = .ok (.aload_n 0, 1) := by decide +kernel
theorem dX0_changed_26 : decode cX0_changed 26 = .ok (.getfield 27, 3) := by decide +kernel
theorem dX0_changed_29 : decode cX0_changed 29 = .ok (.iload 5, 2) := by decide +kernel
theorem dX0_changed_31 : decode cX0_changed 31 = .ok (.aload_n 0, 1) := by decide +kernel
theorem dX0_changed_32 : decode cX0_changed 32 = .ok (.aload 4, 2) := by decide +kernel
theorem dX0_changed_34 : decode cX0_changed 34 = .ok (.iload 5, 2) := by decide +kernel
theorem dX0_changed_36 : decode cX0_changed 36 = .ok (.iaload, 1) := by decide +kernel
theorem dX0_changed_37 : decode cX0_changed 37 = .ok (.aload_n 0, 1) := by decide +kernel
theorem dX0_changed_38 : decode cX0_changed 38 = .ok (.iload 5, 2) := by decide +kernel
theorem dX0_changed_40 : decode cX0_changed 40 = .ok (.iconst 1, 1) := by decide +kernel
theorem dX0_changed_41 : decode cX0_changed 41 = .ok (.iload_n 2, 1) := by decide +kernel
theorem dX0_changed_42 : decode cX0_changed 42 = .ok (.invokevirtual 72, 3) := by decide +kernel
theorem dX0_changed_45 : decode cX0_changed 45 = .ok (.aload_n 0, 1) := by decide +kernel
theorem dX0_changed_46 : decode cX0_changed 46 = .ok (.iload 5, 2) := by decide +kernel
theorem dX0_changed_48 : decode cX0_changed 48 = .ok (.iconst 2, 1) := by decide +kernel
theorem dX0_changed_49 : decode cX0_changed 49 = .ok (.iload_n 2, 1) := by decide +kernel
theorem dX0_changed_50 : decode cX0_changed 50 = .ok (.invokevirtual 72, 3) := by decide +kernel
theorem dX0_changed_53 : decode cX0_changed 53 = .ok (.invokevirtual 76, 3) := by decide +kernel
theorem dX0_changed_56 : decode cX0_changed 56 = .ok (.iastore, 1) := by decide +kernel
theorem dX0_changed_57 : decode cX0_changed 57 = .ok (.iinc 5 (-1), 3) := by decide +kernel
theorem dX0_changed_60 : decode cX0_changed 60 = .ok (.goto (-49), 3) := by decide +kernel
theorem dX0_changed_63 : decode cX0_changed 63 = .ok (.aload_n 0, 1) := by decide +kernel
theorem dX0_changed_64 : decode cX0_changed 64 = .ok (.iload_n 2, 1) := by decide +kernel
theorem dX0_changed_65 : decode cX0_changed 65 = .ok (.invokevirtual 79, 3) := by decide +kernel
theorem dX0_changed_68 : decode cX0_changed 68 = .ok (.ireturn, 1) := by decide +kernel
theorem dX0_alike_0 : decode cX0_alike 0 = .ok (.iconst 0, 1) := by decide +kernel
theorem dX0_alike_1 : decode cX0_alike 1 = .ok (.istore_n 3, 1) := by decide +kernel
theorem dX0_alike_2 : decode cX0_alike 2 = .ok (.aload_n 0, 1) := by decide +kernel
theorem dX0_alike_3 : decode cX0_alike 3 = .ok (.iload_n 2, 1) := by decide +kernel
theorem dX0_alike_4 : decode cX0_alike 4 = .ok (.iconst 0, 1) := by decide +kernel
theorem dX0_alike_5 : decode cX0_alike 5 = .ok (.iconst 0, 1) := by decide +kernel
theorem dX0_alike_6 : decode cX0_alike 6 = .ok (.invokevirtual 76, 3) := by decide +kernel
theorem dX0_alike_9 : decode cX0_alike 9 = .ok (.istore 4, 2) := by decide +kernel
theorem dX0_alike_11 : decode cX0_alike 11 = .ok (.iload_n 1, 1) := by decide +kernel
theorem dX0_alike_12 : decode cX0_alike 12 = .ok (.invokestatic 87, 3) := by decide +kernel
theorem dX0_alike_15 : decode cX0_alike 15 = .ok (.iconst 1, 1) := by decide +kernel
theorem dX0_alike_16 : decode cX0_alike 16 = .ok (.isub, 1) := by decide +kernel
theorem dX0_alike_17 : decode cX0_alike 17 = .ok (.istore 5, 2) := by decide +kernel
theorem dX0_alike_19 : decode cX0_alike 19 = .ok (.iload 5, 2) := by decide +kernel
theorem dX0_alike_21 : decode cX0_alike 21 = .ok (.ifCond .lt 82, 3) := by decide +kernel
theorem dX0_alike_24 : decode cX0_alike 24 = .ok (.iload_n 1, 1) := by decide +kernel
theorem dX0_alike_25 : decode cX0_alike 25 = .ok (.iconst 1, 1) := by decide +kernel
theorem dX0_alike_26 : decode cX0_alike 26 = .ok (.iadd, 1) := by decide +kernel
theorem dX0_alike_27 : decode cX0_alike 27 = .ok (.iload 5, 2) := by decide +kernel
theorem dX0_alike_29 : decode cX0_alike 29 = .ok (.ishr, 1) := by decide +kernel
theorem dX0_alike_30 : decode cX0_alike 30 = .ok (.iconst 2, 1) := by decide +kernel
theorem dX0_alike_31 : decode cX0_alike 31 = .ok (.irem, 1) := by decide +kernel
theorem dX0_alike_32 : decode cX0_alike 32 = .ok (.ifCond .ne 7, 3) := by decide +kernel
theorem dX0_alike_35 : decode cX0_alike 35 = .ok (.iconst 1, 1) := by decide +kernel
theorem dX0_alike_36 : decode cX0_alike 36 = .ok (.goto 4, 3) := by decide +kernel
theorem dX0_alike_39 : decode cX0_alike 39 = .ok (.iconst 0, 1) := by decide +kernel
theorem dX0_alike_40 : decode cX0_alike 40 = .ok (.istore 6, 2) := by decide +kernel
theorem dX0_alike_42 : decode cX0_alike 42 = .ok (.iload 6, 2) := by decide +kernel
theorem dX0_alike_44 : decode cX0_alike 44 = .ok (.ifCond .eq 13, 3) := by decide +kernel
theorem dX0_alike_47 : decode cX0_alike 47 = .ok (.aload_n 0, 1) := by decide +kernel
theorem dX0_alike_48 : decode cX0_alike 48 = .ok (.iload_n 2, 1) := by decide +kernel
theorem dX0_alike_49 : decode cX0_alike 49 = .ok (.iload_n 3, 1) := by decide +kernel
theorem dX0_alike_50 : decode cX0_alike 50 = .ok (.iload_n 3, 1) := by decide +kernel
theorem dX0_alike_51 : decode cX0_alike 51 = .ok (.invokevirtual 76, 3) := by decide +kernel
theorem dX0_alike_54 : decode cX0_alike 54 = .ok (.goto 11, 3) := by decide +kernel
theorem dX0_alike_57 : decode cX0_alike 57 = .ok (.aload_n 0, 1) := by decide +kernel
theorem dX0_alike_58 : decode cX0_alike 58 = .ok (.iload_n 2, 1) := by decide +kernel
theorem dX0_alike_59 : decode cX0_alike 59 = .ok (.iload 4, 2) := by decide +kernel
theorem dX0_alike_61 : decode cX0_alike 61 = .ok (.iload_n 3, 1) := by decide +kernel
theorem dX0_alike_62 : decode cX0_alike 62 = .ok (.invokevirtual 76, 3) := by decide +kernel
theorem dX0_alike_65 : decode cX0_alike 65 = .ok (.istore 7, 2) := by decide +kernel
theorem dX0_alike_67 : decode cX0_alike 67 = .ok (.iload 6, 2) := by decide +kernel
theorem dX0_alike_69 : decode cX0_alike 69 = .ok (.ifCond .eq 14, 3) := by decide +kernel
theorem dX0_alike_72 : decode cX0_alike 72 = .ok (.aload_n 0, 1) := by decide +kernel
theorem dX0_alike_73 : decode cX0_alike 73 = .ok (.iload_n 2, 1) := by decide +kernel
theorem dX0_alike_74 : decode cX0_alike 74 = .ok (.iload 4, 2) := by decide +kernel
theorem dX0_alike_76 : decode cX0_alike 76 = .ok (.iload_n 3, 1) := by decide +kernel
theorem dX0_alike_77 : decode cX0_alike 77 = .ok (.invokevirtual 76, 3) := by decide +kernel
theorem dX0_alike_80 : decode cX0_alike 80 = .ok (.goto 12, 3) := by decide +kernel
theorem dX0_alike_83 : decode cX0_alike 83 = .ok (.aload_n 0, 1) := by decide +kernel
theorem dX0_alike_84 : decode cX0_alike 84 = .ok (.iload_n 2, 1) := by decide +kernel
theorem dX0_alike_85 : decode cX0_alike 85 = .ok (.iload 4, 2) := by decide +kernel
theorem dX0_alike_87 : decode cX0_alike 87 = .ok (.iload 4, 2) := by decide +kernel
theorem dX0_alike_89 : decode cX0_alike 89 = .ok (.invokevirtual 76, 3) := by decide +kernel
theorem dX0_alike_92 : decode cX0_alike 92 = .ok (.istore 4, 2) := by decide +kernel
theorem dX0_alike_94 : decode cX0_alike 94 = .ok (.iload 7, 2) := by decide +kernel
theorem dX0_alike_96 : decode cX0_alike 96 = .ok (.istore_n 3, 1) := by decide +kernel
theorem dX0_alike_97 : decode cX0_alike 97 = .ok (.iinc 5 (-1), 3) := by decide +kernel
theorem dX0_alike_100 : decode cX0_alike 100 = .ok (.goto (-81), 3) := by decide +kernel
theorem dX0_alike_103 : decode cX0_alike 103 = .ok (.iload_n 3, 1) := by decide +kernel
theorem dX0_alike_104 : decode cX0_alike 104 = .ok (.ireturn, 1) := by decide +kernel
theorem dX0_forget_0 : decode cX0_forget 0 = .ok (.aload_n 0, 1) := by decide +kernel
theorem dX0_forget_1 : decode cX0_forget 1 = .ok (.dup, 1) := by decide +kernel
theorem dX0_forget_2 : decode cX0_forget 2 = .ok (.getfield 40, 3) := by decide +kernel
theorem dX0_forget_5 : decode cX0_forget 5 = .ok (.sipush 256, 3) := by decide +kernel
theorem dX0_forget_8 : decode cX0_forget 8 = .ok (.iadd, 1) := by decide +kernel
theorem dX0_forget_9 : decode cX0_forget 9 = .ok (.putfield 40, 3) := by decide +kernel
theorem dX0_forget_12 : decode cX0_forget 12 = .ok (.return_, 1) := by decide +kernel
theorem dX0_seeAt_0 : decode cX0_seeAt 0 = .ok (.aload_n 0, 1) := by decide +kernel
theorem dX0_seeAt_1 : decode cX0_seeAt 1 = .ok (.getfield 27, 3) := by decide +kernel
theorem dX0_seeAt_4 : decode cX0_seeAt 4 = .ok (.iload_n 1, 1) := by decide +kernel
theorem dX0_seeAt_5 : decode cX0_seeAt 5 = .ok (.iaload, 1) := by decide +kernel
theorem dX0_seeAt_6 : decode cX0_seeAt 6 = .ok (.istore_n 3, 1) := by decide +kernel
theorem dX0_seeAt_7 : decode cX0_seeAt 7 = .ok (.iload_n 3, 1) := by decide +kernel
theorem dX0_seeAt_8 : decode cX0_seeAt 8 = .ok (.invokestatic 53, 3) := by decide +kernel
theorem dX0_seeAt_11 : decode cX0_seeAt 11 = .ok (.ifCond .ne 5, 3) := by decide +kernel
theorem dX0_seeAt_14 : decode cX0_seeAt 14 = .ok (.iconst 0, 1) := by decide +kernel
theorem dX0_seeAt_15 : decode cX0_seeAt 15 = .ok (.ireturn, 1) := by decide +kernel
theorem dX0_seeAt_16 : decode cX0_seeAt 16 = .ok (.aload_n 0, 1) := by decide +kernel
theorem dX0_seeAt_17 : decode cX0_seeAt 17 = .ok (.iload_n 3, 1) := by decide +kernel
theorem dX0_seeAt_18 : decode cX0_seeAt 18 = .ok (.invokevirtual 90, 3) := by decide +kernel
theorem dX0_seeAt_21 : decode cX0_seeAt 21 = .ok (.istore 4, 2) := by decide +kernel
theorem dX0_seeAt_23 : decode cX0_seeAt 23 = .ok (.aload_n 0, 1) := by decide +kernel
theorem dX0_seeAt_24 : decode cX0_seeAt 24 = .ok (.getfield 24, 3) := by decide +kernel
theorem dX0_seeAt_27 : decode cX0_seeAt 27 = .ok (.iload_n 3, 1) := by decide +kernel
theorem dX0_seeAt_28 : decode cX0_seeAt 28 = .ok (.aload_n 0, 1) := by decide +kernel
theorem dX0_seeAt_29 : decode cX0_seeAt 29 = .ok (.getfield 40, 3) := by decide +kernel
theorem dX0_seeAt_32 : decode cX0_seeAt 32 = .ok (.iload 4, 2) := by decide +kernel
theorem dX0_seeAt_34 : decode cX0_seeAt 34 = .ok (.iload_n 2, 1) := by decide +kernel
theorem dX0_seeAt_35 : decode cX0_seeAt 35 = .ok (.ior, 1) := by decide +kernel
theorem dX0_seeAt_36 : decode cX0_seeAt 36 = .ok (.iadd, 1) := by decide +kernel
theorem dX0_seeAt_37 : decode cX0_seeAt 37 = .ok (.iastore, 1) := by decide +kernel
theorem dX0_seeAt_38 : decode cX0_seeAt 38 = .ok (.iload 4, 2) := by decide +kernel
theorem dX0_seeAt_40 : decode cX0_seeAt 40 = .ok (.ireturn, 1) := by decide +kernel
theorem dX0_seenOf_0 : decode cX0_seenOf 0 = .ok (.iconst 0, 1) := by decide +kernel
theorem dX0_seenOf_1 : decode cX0_seenOf 1 = .ok (.aload_n 0, 1) := by decide +kernel
theorem dX0_seenOf_2 : decode cX0_seenOf 2 = .ok (.getfield 24, 3) := by decide +kernel
theorem dX0_seenOf_5 : decode cX0_seenOf 5 = .ok (.iload_n 1, 1) := by decide +kernel
theorem dX0_seenOf_6 : decode cX0_seenOf 6 = .ok (.iaload, 1) := by decide +kernel
theorem dX0_seenOf_7 : decode cX0_seenOf 7 = .ok (.aload_n 0, 1) := by decide +kernel
theorem dX0_seenOf_8 : decode cX0_seenOf 8 = .ok (.getfield 40, 3) := by decide +kernel
theorem dX0_seenOf_11 : decode cX0_seenOf 11 = .ok (.isub, 1) := by decide +kernel
theorem dX0_seenOf_12 : decode cX0_seenOf 12 = .ok (.invokestatic 93, 3) := by decide +kernel
theorem dX0_seenOf_15 : decode cX0_seenOf 15 = .ok (.ireturn, 1) := by decide +kernel
theorem dX0_put_0 : decode cX0_put 0 = .ok (.iload 4, 2) := by decide +kernel
theorem dX0_put_2 : decode cX0_put 2 = .ok (.lookupswitch 42 #[(0, 26), (1, 34)], 26) := by decide +kernel
theorem dX0_put_28 : decode cX0_put 28 = .ok (.aload_n 0, 1) := by decide +kernel
theorem dX0_put_29 : decode cX0_put 29 = .ok (.iload_n 1, 1) := by decide +kernel
theorem dX0_put_30 : decode cX0_put 30 = .ok (.iload_n 2, 1) := by decide +kernel
theorem dX0_put_31 : decode cX0_put 31 = .ok (.iload_n 3, 1) := by decide +kernel
theorem dX0_put_32 : decode cX0_put 32 = .ok (.invokestatic 99, 3) := by decide +kernel
theorem dX0_put_35 : decode cX0_put 35 = .ok (.ireturn, 1) := by decide +kernel
theorem dX0_put_36 : decode cX0_put 36 = .ok (.aload_n 0, 1) := by decide +kernel
theorem dX0_put_37 : decode cX0_put 37 = .ok (.iload_n 1, 1) := by decide +kernel
theorem dX0_put_38 : decode cX0_put 38 = .ok (.iload_n 2, 1) := by decide +kernel
theorem dX0_put_39 : decode cX0_put 39 = .ok (.iload_n 3, 1) := by decide +kernel
theorem dX0_put_40 : decode cX0_put 40 = .ok (.invokestatic 103, 3) := by decide +kernel
theorem dX0_put_43 : decode cX0_put 43 = .ok (.ireturn, 1) := by decide +kernel
theorem dX0_put_44 : decode cX0_put 44 = .ok (.aload_n 0, 1) := by decide +kernel
theorem dX0_put_45 : decode cX0_put 45 = .ok (.iload_n 1, 1) := by decide +kernel
theorem dX0_put_46 : decode cX0_put 46 = .ok (.iload_n 2, 1) := by decide +kernel
theorem dX0_put_47 : decode cX0_put 47 = .ok (.iload_n 3, 1) := by decide +kernel
theorem dX0_put_48 : decode cX0_put 48 = .ok (.invokestatic 106, 3) := by decide +kernel
theorem dX0_put_51 : decode cX0_put 51 = .ok (.ireturn, 1) := by decide +kernel
theorem dX0_putAll_0 : decode cX0_putAll 0 = .ok (.iload_n 1, 1) := by decide +kernel
theorem dX0_putAll_1 : decode cX0_putAll 1 = .ok (.istore 6, 2) := by decide +kernel
theorem dX0_putAll_3 : decode cX0_putAll 3 = .ok (.iconst 0, 1) := by decide +kernel
theorem dX0_putAll_4 : decode cX0_putAll 4 = .ok (.istore 7, 2) := by decide +kernel
theorem dX0_putAll_6 : decode cX0_putAll 6 = .ok (.iload 7, 2) := by decide +kernel
theorem dX0_putAll_8 : decode cX0_putAll 8 = .ok (.iload 4, 2) := by decide +kernel
theorem dX0_putAll_10 : decode cX0_putAll 10 = .ok (.if_icmp .ge 27, 3) := by decide +kernel
theorem dX0_putAll_13 : decode cX0_putAll 13 = .ok (.aload_n 0, 1) := by decide +kernel
theorem dX0_putAll_14 : decode cX0_putAll 14 = .ok (.aload_n 3, 1) := by decide +kernel
theorem dX0_putAll_15 : decode cX0_putAll 15 = .ok (.iload 7, 2) := by decide +kernel
theorem dX0_putAll_17 : decode cX0_putAll 17 = .ok (.iaload, 1) := by decide +kernel
theorem dX0_putAll_18 : decode cX0_putAll 18 = .ok (.iload 6, 2) := by decide +kernel
theorem dX0_putAll_20 : decode cX0_putAll 20 = .ok (.iload_n 2, 1) := by decide +kernel
theorem dX0_putAll_21 : decode cX0_putAll 21 = .ok (.iload 7, 2) := by decide +kernel
theorem dX0_putAll_23 : decode cX0_putAll 23 = .ok (.iadd, 1) := by decide +kernel
theorem dX0_putAll_24 : decode cX0_putAll 24 = .ok (.iload 5, 2) := by decide +kernel
theorem dX0_putAll_26 : decode cX0_putAll 26 = .ok (.invokevirtual 109, 3) := by decide +kernel
theorem dX0_putAll_29 : decode cX0_putAll 29 = .ok (.istore 6, 2) := by decide +kernel
theorem dX0_putAll_31 : decode cX0_putAll 31 = .ok (.iinc 7 1, 3) := by decide +kernel
theorem dX0_putAll_34 : decode cX0_putAll 34 = .ok (.goto (-28), 3) := by decide +kernel
theorem dX0_putAll_37 : decode cX0_putAll 37 = .ok (.iload 6, 2) := by decide +kernel
theorem dX0_putAll_39 : decode cX0_putAll 39 = .ok (.ireturn, 1) := by decide +kernel
theorem dX0_take_0 : decode cX0_take 0 = .ok (.iload_n 3, 1) := by decide +kernel
theorem dX0_take_1 : decode cX0_take 1 = .ok (.iconst 2, 1) := by decide +kernel
theorem dX0_take_2 : decode cX0_take 2 = .ok (.if_icmp .ne 12, 3) := by decide +kernel
theorem dX0_take_5 : decode cX0_take 5 = .ok (.aload_n 0, 1) := by decide +kernel
theorem dX0_take_6 : decode cX0_take 6 = .ok (.iload_n 1, 1) := by decide +kernel
theorem dX0_take_7 : decode cX0_take 7 = .ok (.iload_n 2, 1) := by decide +kernel
theorem dX0_take_8 : decode cX0_take 8 = .ok (.invokestatic 113, 3) := by decide +kernel
theorem dX0_take_11 : decode cX0_take 11 = .ok (.goto 9, 3) := by decide +kernel
theorem dX0_take_14 : decode cX0_take 14 = .ok (.aload_n 0, 1) := by decide +kernel
theorem dX0_take_15 : decode cX0_take 15 = .ok (.iload_n 1, 1) := by decide +kernel
theorem dX0_take_16 : decode cX0_take 16 = .ok (.iload_n 2, 1) := by decide +kernel
theorem dX0_take_17 : decode cX0_take 17 = .ok (.invokestatic 117, 3) := by decide +kernel
theorem dX0_take_20 : decode cX0_take 20 = .ok (.ireturn, 1) := by decide +kernel
theorem dX0_takeMany_0 : decode cX0_takeMany 0 = .ok (.iload_n 1, 1) := by decide +kernel
theorem dX0_takeMany_1 : decode cX0_takeMany 1 = .ok (.istore 5, 2) := by decide +kernel
theorem dX0_takeMany_3 : decode cX0_takeMany 3 = .ok (.iconst 0, 1) := by decide +kernel
theorem dX0_takeMany_4 : decode cX0_takeMany 4 = .ok (.istore 6, 2) := by decide +kernel
theorem dX0_takeMany_6 : decode cX0_takeMany 6 = .ok (.iload 6, 2) := by decide +kernel
theorem dX0_takeMany_8 : decode cX0_takeMany 8 = .ok (.iload_n 3, 1) := by decide +kernel
theorem dX0_takeMany_9 : decode cX0_takeMany 9 = .ok (.if_icmp .ge 23, 3) := by decide +kernel
theorem dX0_takeMany_12 : decode cX0_takeMany 12 = .ok (.aload_n 0, 1) := by decide +kernel
theorem dX0_takeMany_13 : decode cX0_takeMany 13 = .ok (.iload 5, 2) := by decide +kernel
theorem dX0_takeMany_15 : decode cX0_takeMany 15 = .ok (.iload_n 2, 1) := by decide +kernel
theorem dX0_takeMany_16 : decode cX0_takeMany 16 = .ok (.iload 6, 2) := by decide +kernel
theorem dX0_takeMany_18 : decode cX0_takeMany 18 = .ok (.isub, 1) := by decide +kernel
theorem dX0_takeMany_19 : decode cX0_takeMany 19 = .ok (.iload 4, 2) := by decide +kernel
theorem dX0_takeMany_21 : decode cX0_takeMany 21 = .ok (.invokevirtual 120, 3) := by decide +kernel
theorem dX0_takeMany_24 : decode cX0_takeMany 24 = .ok (.istore 5, 2) := by decide +kernel
theorem dX0_takeMany_26 : decode cX0_takeMany 26 = .ok (.iinc 6 1, 3) := by decide +kernel
theorem dX0_takeMany_29 : decode cX0_takeMany 29 = .ok (.goto (-23), 3) := by decide +kernel
theorem dX0_takeMany_32 : decode cX0_takeMany 32 = .ok (.iload 5, 2) := by decide +kernel
theorem dX0_takeMany_34 : decode cX0_takeMany 34 = .ok (.ireturn, 1) := by decide +kernel
theorem dX0_popped_0 : decode cX0_popped 0 = .ok (.iload_n 2, 1) := by decide +kernel
theorem dX0_popped_1 : decode cX0_popped 1 = .ok (.iconst 1, 1) := by decide +kernel
theorem dX0_popped_2 : decode cX0_popped 2 = .ok (.if_icmp .gt 5, 3) := by decide +kernel
theorem dX0_popped_5 : decode cX0_popped 5 = .ok (.iconst 0, 1) := by decide +kernel
theorem dX0_popped_6 : decode cX0_popped 6 = .ok (.ireturn, 1) := by decide +kernel
theorem dX0_popped_7 : decode cX0_popped 7 = .ok (.aload_n 0, 1) := by decide +kernel
theorem dX0_popped_8 : decode cX0_popped 8 = .ok (.iload_n 1, 1) := by decide +kernel
theorem dX0_popped_9 : decode cX0_popped 9 = .ok (.invokevirtual 57, 3) := by decide +kernel
theorem dX0_popped_12 : decode cX0_popped 12 = .ok (.istore_n 3, 1) := by decide +kernel
theorem dX0_popped_13 : decode cX0_popped 13 = .ok (.aload_n 0, 1) := by decide +kernel
theorem dX0_popped_14 : decode cX0_popped 14 = .ok (.iload_n 3, 1) := by decide +kernel
theorem dX0_popped_15 : decode cX0_popped 15 = .ok (.invokevirtual 123, 3) := by decide +kernel
theorem dX0_popped_18 : decode cX0_popped 18 = .ok (.istore 4, 2) := by decide +kernel
theorem dX0_popped_20 : decode cX0_popped 20 = .ok (.aload_n 0, 1) := by decide +kernel
theorem dX0_popped_21 : decode cX0_popped 21 = .ok (.iload_n 3, 1) := by decide +kernel
theorem dX0_popped_22 : decode cX0_popped 22 = .ok (.iload_n 2, 1) := by decide +kernel
theorem dX0_popped_23 : decode cX0_popped 23 = .ok (.invokestatic 126, 3) := by decide +kernel
theorem dX0_popped_26 : decode cX0_popped 26 = .ok (.invokestatic 129, 3) := by decide +kernel
theorem dX0_popped_29 : decode cX0_popped 29 = .ok (.istore 5, 2) := by decide +kernel
theorem dX0_popped_31 : decode cX0_popped 31 = .ok (.aload_n 0, 1) := by decide +kernel
theorem dX0_popped_32 : decode cX0_popped 32 = .ok (.iload 4, 2) := by decide +kernel
theorem dX0_popped_34 : decode cX0_popped 34 = .ok (.aload_n 0, 1) := by decide +kernel
theorem dX0_popped_35 : decode cX0_popped 35 = .ok (.iload_n 1, 1) := by decide +kernel
theorem dX0_popped_36 : decode cX0_popped 36 = .ok (.invokevirtual 61, 3) := by decide +kernel
theorem dX0_popped_39 : decode cX0_popped 39 = .ok (.iload 5, 2) := by decide +kernel
theorem dX0_popped_41 : decode cX0_popped 41 = .ok (.bipush 8, 2) := by decide +kernel
theorem dX0_popped_43 : decode cX0_popped 43 = .ok (.invokestatic 132, 3) := by decide +kernel
theorem dX0_popped_46 : decode cX0_popped 46 = .ok (.ireturn, 1) := by decide +kernel
theorem dX0_farLeft_0 : decode cX0_farLeft 0 = .ok (.iload_n 1, 1) := by decide +kernel
theorem dX0_farLeft_1 : decode cX0_farLeft 1 = .ok (.istore_n 2, 1) := by decide +kernel
theorem dX0_farLeft_2 : decode cX0_farLeft 2 = .ok (.iconst 0, 1) := by decide +kernel
theorem dX0_farLeft_3 : decode cX0_farLeft 3 = .ok (.istore_n 3, 1) := by decide +kernel
theorem dX0_farLeft_4 : decode cX0_farLeft 4 = .ok (.iload_n 3, 1) := by decide +kernel
theorem dX0_farLeft_5 : decode cX0_farLeft 5 = .ok (.bipush 8, 2) := by decide +kernel
theorem dX0_farLeft_7 : decode cX0_farLeft 7 = .ok (.if_icmp .ge 23, 3) := by decide +kernel
theorem dX0_farLeft_10 : decode cX0_farLeft 10 = .ok (.aload_n 0, 1) := by decide +kernel
theorem dX0_farLeft_11 : decode cX0_farLeft 11 = .ok (.iload_n 2, 1) := by decide +kernel
theorem dX0_farLeft_12 : decode cX0_farLeft 12 = .ok (.invokevirtual 57, 3) := by decide +kernel
theorem dX0_farLeft_15 : decode cX0_farLeft 15 = .ok (.ifCond .eq 15, 3) := by decide +kernel
theorem dX0_farLeft_18 : decode cX0_farLeft 18 = .ok (.aload_n 0, 1) := by decide +kernel
theorem dX0_farLeft_19 : decode cX0_farLeft 19 = .ok (.iload_n 2, 1) := by decide +kernel
theorem dX0_farLeft_20 : decode cX0_farLeft 20 = .ok (.invokevirtual 57, 3) := by decide +kernel
theorem dX0_farLeft_23 : decode cX0_farLeft 23 = .ok (.istore_n 2, 1) := by decide +kernel
theorem dX0_farLeft_24 : decode cX0_farLeft 24 = .ok (.iinc 3 1, 3) := by decide +kernel
theorem dX0_farLeft_27 : decode cX0_farLeft 27 = .ok (.goto (-23), 3) := by decide +kernel
theorem dX0_farLeft_30 : decode cX0_farLeft 30 = .ok (.aload_n 0, 1) := by decide +kernel
theorem dX0_farLeft_31 : decode cX0_farLeft 31 = .ok (.iload_n 2, 1) := by decide +kernel
theorem dX0_farLeft_32 : decode cX0_farLeft 32 = .ok (.invokevirtual 64, 3) := by decide +kernel
theorem dX0_farLeft_35 : decode cX0_farLeft 35 = .ok (.ireturn, 1) := by decide +kernel
theorem dX0_fronted_0 : decode cX0_fronted 0 = .ok (.iload_n 3, 1) := by decide +kernel
theorem dX0_fronted_1 : decode cX0_fronted 1 = .ok (.ifCond .gt 11, 3) := by decide +kernel
theorem dX0_fronted_4 : decode cX0_fronted 4 = .ok (.aload_n 0, 1) := by decide +kernel
theorem dX0_fronted_5 : decode cX0_fronted 5 = .ok (.iload_n 1, 1) := by decide +kernel
theorem dX0_fronted_6 : decode cX0_fronted 6 = .ok (.iconst 0, 1) := by decide +kernel
theorem dX0_fronted_7 : decode cX0_fronted 7 = .ok (.iconst 0, 1) := by decide +kernel
theorem dX0_fronted_8 : decode cX0_fronted 8 = .ok (.invokevirtual 76, 3) := by decide +kernel
theorem dX0_fronted_11 : decode cX0_fronted 11 = .ok (.ireturn, 1) := by decide +kernel
theorem dX0_fronted_12 : decode cX0_fronted 12 = .ok (.aload_n 0, 1) := by decide +kernel
theorem dX0_fronted_13 : decode cX0_fronted 13 = .ok (.aload_n 0, 1) := by decide +kernel
theorem dX0_fronted_14 : decode cX0_fronted 14 = .ok (.iload_n 2, 1) := by decide +kernel
theorem dX0_fronted_15 : decode cX0_fronted 15 = .ok (.invokevirtual 64, 3) := by decide +kernel
theorem dX0_fronted_18 : decode cX0_fronted 18 = .ok (.aload_n 0, 1) := by decide +kernel
theorem dX0_fronted_19 : decode cX0_fronted 19 = .ok (.iload_n 2, 1) := by decide +kernel
theorem dX0_fronted_20 : decode cX0_fronted 20 = .ok (.invokevirtual 61, 3) := by decide +kernel
theorem dX0_fronted_23 : decode cX0_fronted 23 = .ok (.iload_n 3, 1) := by decide +kernel
theorem dX0_fronted_24 : decode cX0_fronted 24 = .ok (.invokestatic 136, 3) := by decide +kernel
theorem dX0_fronted_27 : decode cX0_fronted 27 = .ok (.invokestatic 99, 3) := by decide +kernel
theorem dX0_fronted_30 : decode cX0_fronted 30 = .ok (.istore 4, 2) := by decide +kernel
theorem dX0_fronted_32 : decode cX0_fronted 32 = .ok (.aload_n 0, 1) := by decide +kernel
theorem dX0_fronted_33 : decode cX0_fronted 33 = .ok (.iload_n 1, 1) := by decide +kernel
theorem dX0_fronted_34 : decode cX0_fronted 34 = .ok (.iload 4, 2) := by decide +kernel
theorem dX0_fronted_36 : decode cX0_fronted 36 = .ok (.aload_n 0, 1) := by decide +kernel
theorem dX0_fronted_37 : decode cX0_fronted 37 = .ok (.iload_n 2, 1) := by decide +kernel
theorem dX0_fronted_38 : decode cX0_fronted 38 = .ok (.invokevirtual 57, 3) := by decide +kernel
theorem dX0_fronted_41 : decode cX0_fronted 41 = .ok (.invokevirtual 76, 3) := by decide +kernel
theorem dX0_fronted_44 : decode cX0_fronted 44 = .ok (.ireturn, 1) := by decide +kernel
theorem dX0_backed_0 : decode cX0_backed 0 = .ok (.iload_n 3, 1) := by decide +kernel
theorem dX0_backed_1 : decode cX0_backed 1 = .ok (.ifCond .gt 11, 3) := by decide +kernel
theorem dX0_backed_4 : decode cX0_backed 4 = .ok (.aload_n 0, 1) := by decide +kernel
theorem dX0_backed_5 : decode cX0_backed 5 = .ok (.iload_n 1, 1) := by decide +kernel
theorem dX0_backed_6 : decode cX0_backed 6 = .ok (.iconst 0, 1) := by decide +kernel
theorem dX0_backed_7 : decode cX0_backed 7 = .ok (.iconst 0, 1) := by decide +kernel
theorem dX0_backed_8 : decode cX0_backed 8 = .ok (.invokevirtual 76, 3) := by decide +kernel
theorem dX0_backed_11 : decode cX0_backed 11 = .ok (.ireturn, 1) := by decide +kernel
theorem dX0_backed_12 : decode cX0_backed 12 = .ok (.aload_n 0, 1) := by decide +kernel
theorem dX0_backed_13 : decode cX0_backed 13 = .ok (.iload_n 2, 1) := by decide +kernel
theorem dX0_backed_14 : decode cX0_backed 14 = .ok (.invokevirtual 57, 3) := by decide +kernel
theorem dX0_backed_17 : decode cX0_backed 17 = .ok (.istore 4, 2) := by decide +kernel
theorem dX0_backed_19 : decode cX0_backed 19 = .ok (.aload_n 0, 1) := by decide +kernel
theorem dX0_backed_20 : decode cX0_backed 20 = .ok (.iload_n 2, 1) := by decide +kernel
theorem dX0_backed_21 : decode cX0_backed 21 = .ok (.invokevirtual 61, 3) := by decide +kernel
theorem dX0_backed_24 : decode cX0_backed 24 = .ok (.istore 5, 2) := by decide +kernel
theorem dX0_backed_26 : decode cX0_backed 26 = .ok (.iload_n 3, 1) := by decide +kernel
theorem dX0_backed_27 : decode cX0_backed 27 = .ok (.iconst 2, 1) := by decide +kernel
theorem dX0_backed_28 : decode cX0_backed 28 = .ok (.irem, 1) := by decide +kernel
theorem dX0_backed_29 : decode cX0_backed 29 = .ok (.iconst 1, 1) := by decide +kernel
theorem dX0_backed_30 : decode cX0_backed 30 = .ok (.if_icmp .ne 19, 3) := by decide +kernel
theorem dX0_backed_33 : decode cX0_backed 33 = .ok (.aload_n 0, 1) := by decide +kernel
theorem dX0_backed_34 : decode cX0_backed 34 = .ok (.iload_n 1, 1) := by decide +kernel
theorem dX0_backed_35 : decode cX0_backed 35 = .ok (.iload 4, 2) := by decide +kernel
theorem dX0_backed_37 : decode cX0_backed 37 = .ok (.iload_n 3, 1) := by decide +kernel
theorem dX0_backed_38 : decode cX0_backed 38 = .ok (.invokestatic 126, 3) := by decide +kernel
theorem dX0_backed_41 : decode cX0_backed 41 = .ok (.invokestatic 103, 3) := by decide +kernel
theorem dX0_backed_44 : decode cX0_backed 44 = .ok (.istore 4, 2) := by decide +kernel
theorem dX0_backed_46 : decode cX0_backed 46 = .ok (.goto 16, 3) := by decide +kernel
theorem dX0_backed_49 : decode cX0_backed 49 = .ok (.aload_n 0, 1) := by decide +kernel
theorem dX0_backed_50 : decode cX0_backed 50 = .ok (.iload_n 1, 1) := by decide +kernel
theorem dX0_backed_51 : decode cX0_backed 51 = .ok (.iload 5, 2) := by decide +kernel
theorem dX0_backed_53 : decode cX0_backed 53 = .ok (.iload_n 3, 1) := by decide +kernel
theorem dX0_backed_54 : decode cX0_backed 54 = .ok (.invokestatic 136, 3) := by decide +kernel
theorem dX0_backed_57 : decode cX0_backed 57 = .ok (.invokestatic 103, 3) := by decide +kernel
theorem dX0_backed_60 : decode cX0_backed 60 = .ok (.istore 5, 2) := by decide +kernel
theorem dX0_backed_62 : decode cX0_backed 62 = .ok (.aload_n 0, 1) := by decide +kernel
theorem dX0_backed_63 : decode cX0_backed 63 = .ok (.aload_n 0, 1) := by decide +kernel
theorem dX0_backed_64 : decode cX0_backed 64 = .ok (.iload_n 2, 1) := by decide +kernel
theorem dX0_backed_65 : decode cX0_backed 65 = .ok (.invokevirtual 64, 3) := by decide +kernel
theorem dX0_backed_68 : decode cX0_backed 68 = .ok (.iload 4, 2) := by decide +kernel
theorem dX0_backed_70 : decode cX0_backed 70 = .ok (.iload 5, 2) := by decide +kernel
theorem dX0_backed_72 : decode cX0_backed 72 = .ok (.invokevirtual 76, 3) := by decide +kernel
theorem dX0_backed_75 : decode cX0_backed 75 = .ok (.ireturn, 1) := by decide +kernel
theorem dX0_firstGone_0 : decode cX0_firstGone 0 = .ok (.iload_n 2, 1) := by decide +kernel
theorem dX0_firstGone_1 : decode cX0_firstGone 1 = .ok (.iconst 1, 1) := by decide +kernel
theorem dX0_firstGone_2 : decode cX0_firstGone 2 = .ok (.if_icmp .gt 5, 3) := by decide +kernel
theorem dX0_firstGone_5 : decode cX0_firstGone 5 = .ok (.iconst 0, 1) := by decide +kernel
theorem dX0_firstGone_6 : decode cX0_firstGone 6 = .ok (.ireturn, 1) := by decide +kernel
theorem dX0_firstGone_7 : decode cX0_firstGone 7 = .ok (.aload_n 0, 1) := by decide +kernel
theorem dX0_firstGone_8 : decode cX0_firstGone 8 = .ok (.iload_n 1, 1) := by decide +kernel
theorem dX0_firstGone_9 : decode cX0_firstGone 9 = .ok (.invokevirtual 57, 3) := by decide +kernel
theorem dX0_firstGone_12 : decode cX0_firstGone 12 = .ok (.istore_n 3, 1) := by decide +kernel
theorem dX0_firstGone_13 : decode cX0_firstGone 13 = .ok (.aload_n 0, 1) := by decide +kernel
theorem dX0_firstGone_14 : decode cX0_firstGone 14 = .ok (.iload_n 3, 1) := by decide +kernel
theorem dX0_firstGone_15 : decode cX0_firstGone 15 = .ok (.iload_n 2, 1) := by decide +kernel
theorem dX0_firstGone_16 : decode cX0_firstGone 16 = .ok (.invokestatic 126, 3) := by decide +kernel
theorem dX0_firstGone_19 : decode cX0_firstGone 19 = .ok (.invokestatic 113, 3) := by decide +kernel
theorem dX0_firstGone_22 : decode cX0_firstGone 22 = .ok (.istore 4, 2) := by decide +kernel
theorem dX0_firstGone_24 : decode cX0_firstGone 24 = .ok (.aload_n 0, 1) := by decide +kernel
theorem dX0_firstGone_25 : decode cX0_firstGone 25 = .ok (.aload_n 0, 1) := by decide +kernel
theorem dX0_firstGone_26 : decode cX0_firstGone 26 = .ok (.iload_n 3, 1) := by decide +kernel
theorem dX0_firstGone_27 : decode cX0_firstGone 27 = .ok (.invokevirtual 64, 3) := by decide +kernel
theorem dX0_firstGone_30 : decode cX0_firstGone 30 = .ok (.aload_n 0, 1) := by decide +kernel
theorem dX0_firstGone_31 : decode cX0_firstGone 31 = .ok (.iload_n 1, 1) := by decide +kernel
theorem dX0_firstGone_32 : decode cX0_firstGone 32 = .ok (.invokevirtual 61, 3) := by decide +kernel
theorem dX0_firstGone_35 : decode cX0_firstGone 35 = .ok (.iload 4, 2) := by decide +kernel
theorem dX0_firstGone_37 : decode cX0_firstGone 37 = .ok (.invokevirtual 76, 3) := by decide +kernel
theorem dX0_firstGone_40 : decode cX0_firstGone 40 = .ok (.ireturn, 1) := by decide +kernel
theorem dX0_lastGone_0 : decode cX0_lastGone 0 = .ok (.iload_n 2, 1) := by decide +kernel
theorem dX0_lastGone_1 : decode cX0_lastGone 1 = .ok (.iconst 1, 1) := by decide +kernel
theorem dX0_lastGone_2 : decode cX0_lastGone 2 = .ok (.if_icmp .gt 5, 3) := by decide +kernel
theorem dX0_lastGone_5 : decode cX0_lastGone 5 = .ok (.iconst 0, 1) := by decide +kernel
theorem dX0_lastGone_6 : decode cX0_lastGone 6 = .ok (.ireturn, 1) := by decide +kernel
theorem dX0_lastGone_7 : decode cX0_lastGone 7 = .ok (.aload_n 0, 1) := by decide +kernel
theorem dX0_lastGone_8 : decode cX0_lastGone 8 = .ok (.iload_n 1, 1) := by decide +kernel
theorem dX0_lastGone_9 : decode cX0_lastGone 9 = .ok (.invokevirtual 57, 3) := by decide +kernel
theorem dX0_lastGone_12 : decode cX0_lastGone 12 = .ok (.istore_n 3, 1) := by decide +kernel
theorem dX0_lastGone_13 : decode cX0_lastGone 13 = .ok (.aload_n 0, 1) := by decide +kernel
theorem dX0_lastGone_14 : decode cX0_lastGone 14 = .ok (.iload_n 1, 1) := by decide +kernel
theorem dX0_lastGone_15 : decode cX0_lastGone 15 = .ok (.invokevirtual 61, 3) := by decide +kernel
theorem dX0_lastGone_18 : decode cX0_lastGone 18 = .ok (.istore 4, 2) := by decide +kernel
theorem dX0_lastGone_20 : decode cX0_lastGone 20 = .ok (.iload_n 2, 1) := by decide +kernel
theorem dX0_lastGone_21 : decode cX0_lastGone 21 = .ok (.iconst 2, 1) := by decide +kernel
theorem dX0_lastGone_22 : decode cX0_lastGone 22 = .ok (.irem, 1) := by decide +kernel
theorem dX0_lastGone_23 : decode cX0_lastGone 23 = .ok (.ifCond .ne 16, 3) := by decide +kernel
theorem dX0_lastGone_26 : decode cX0_lastGone 26 = .ok (.aload_n 0, 1) := by decide +kernel
theorem dX0_lastGone_27 : decode cX0_lastGone 27 = .ok (.iload_n 3, 1) := by decide +kernel
theorem dX0_lastGone_28 : decode cX0_lastGone 28 = .ok (.iload_n 2, 1) := by decide +kernel
theorem dX0_lastGone_29 : decode cX0_lastGone 29 = .ok (.invokestatic 126, 3) := by decide +kernel
theorem dX0_lastGone_32 : decode cX0_lastGone 32 = .ok (.invokestatic 117, 3) := by decide +kernel
theorem dX0_lastGone_35 : decode cX0_lastGone 35 = .ok (.istore_n 3, 1) := by decide +kernel
theorem dX0_lastGone_36 : decode cX0_lastGone 36 = .ok (.goto 15, 3) := by decide +kernel
theorem dX0_lastGone_39 : decode cX0_lastGone 39 = .ok (.aload_n 0, 1) := by decide +kernel
theorem dX0_lastGone_40 : decode cX0_lastGone 40 = .ok (.iload 4, 2) := by decide +kernel
theorem dX0_lastGone_42 : decode cX0_lastGone 42 = .ok (.iload_n 2, 1) := by decide +kernel
theorem dX0_lastGone_43 : decode cX0_lastGone 43 = .ok (.invokestatic 136, 3) := by decide +kernel
theorem dX0_lastGone_46 : decode cX0_lastGone 46 = .ok (.invokestatic 117, 3) := by decide +kernel
theorem dX0_lastGone_49 : decode cX0_lastGone 49 = .ok (.istore 4, 2) := by decide +kernel
theorem dX0_lastGone_51 : decode cX0_lastGone 51 = .ok (.aload_n 0, 1) := by decide +kernel
theorem dX0_lastGone_52 : decode cX0_lastGone 52 = .ok (.aload_n 0, 1) := by decide +kernel
theorem dX0_lastGone_53 : decode cX0_lastGone 53 = .ok (.iload_n 1, 1) := by decide +kernel
theorem dX0_lastGone_54 : decode cX0_lastGone 54 = .ok (.invokevirtual 64, 3) := by decide +kernel
theorem dX0_lastGone_57 : decode cX0_lastGone 57 = .ok (.iload_n 3, 1) := by decide +kernel
theorem dX0_lastGone_58 : decode cX0_lastGone 58 = .ok (.iload 4, 2) := by decide +kernel
theorem dX0_lastGone_60 : decode cX0_lastGone 60 = .ok (.invokevirtual 76, 3) := by decide +kernel
theorem dX0_lastGone_63 : decode cX0_lastGone 63 = .ok (.ireturn, 1) := by decide +kernel
theorem dX0_pushed_0 : decode cX0_pushed 0 = .ok (.iload_n 3, 1) := by decide +kernel
theorem dX0_pushed_1 : decode cX0_pushed 1 = .ok (.ifCond .gt 11, 3) := by decide +kernel
theorem dX0_pushed_4 : decode cX0_pushed 4 = .ok (.aload_n 0, 1) := by decide +kernel
theorem dX0_pushed_5 : decode cX0_pushed 5 = .ok (.iload_n 1, 1) := by decide +kernel
theorem dX0_pushed_6 : decode cX0_pushed 6 = .ok (.iconst 0, 1) := by decide +kernel
theorem dX0_pushed_7 : decode cX0_pushed 7 = .ok (.iconst 0, 1) := by decide +kernel
theorem dX0_pushed_8 : decode cX0_pushed 8 = .ok (.invokevirtual 76, 3) := by decide +kernel
theorem dX0_pushed_11 : decode cX0_pushed 11 = .ok (.ireturn, 1) := by decide +kernel
theorem dX0_pushed_12 : decode cX0_pushed 12 = .ok (.aload_n 0, 1) := by decide +kernel
theorem dX0_pushed_13 : decode cX0_pushed 13 = .ok (.iload_n 2, 1) := by decide +kernel
theorem dX0_pushed_14 : decode cX0_pushed 14 = .ok (.invokevirtual 64, 3) := by decide +kernel
theorem dX0_pushed_17 : decode cX0_pushed 17 = .ok (.istore 4, 2) := by decide +kernel
theorem dX0_pushed_19 : decode cX0_pushed 19 = .ok (.aload_n 0, 1) := by decide +kernel
theorem dX0_pushed_20 : decode cX0_pushed 20 = .ok (.iload_n 1, 1) := by decide +kernel
theorem dX0_pushed_21 : decode cX0_pushed 21 = .ok (.iload 4, 2) := by decide +kernel
theorem dX0_pushed_23 : decode cX0_pushed 23 = .ok (.invokestatic 93, 3) := by decide +kernel
theorem dX0_pushed_26 : decode cX0_pushed 26 = .ok (.aload_n 0, 1) := by decide +kernel
theorem dX0_pushed_27 : decode cX0_pushed 27 = .ok (.iload_n 2, 1) := by decide +kernel
theorem dX0_pushed_28 : decode cX0_pushed 28 = .ok (.invokevirtual 61, 3) := by decide +kernel
theorem dX0_pushed_31 : decode cX0_pushed 31 = .ok (.iload_n 3, 1) := by decide +kernel
theorem dX0_pushed_32 : decode cX0_pushed 32 = .ok (.invokestatic 136, 3) := by decide +kernel
theorem dX0_pushed_35 : decode cX0_pushed 35 = .ok (.invokestatic 106, 3) := by decide +kernel
theorem dX0_pushed_38 : decode cX0_pushed 38 = .ok (.istore 5, 2) := by decide +kernel
theorem dX0_pushed_40 : decode cX0_pushed 40 = .ok (.aload_n 0, 1) := by decide +kernel
theorem dX0_pushed_41 : decode cX0_pushed 41 = .ok (.iload_n 1, 1) := by decide +kernel
theorem dX0_pushed_42 : decode cX0_pushed 42 = .ok (.iload 4, 2) := by decide +kernel
theorem dX0_pushed_44 : decode cX0_pushed 44 = .ok (.invokestatic 139, 3) := by decide +kernel
theorem dX0_pushed_47 : decode cX0_pushed 47 = .ok (.iload 5, 2) := by decide +kernel
theorem dX0_pushed_49 : decode cX0_pushed 49 = .ok (.aload_n 0, 1) := by decide +kernel
theorem dX0_pushed_50 : decode cX0_pushed 50 = .ok (.iload_n 2, 1) := by decide +kernel
theorem dX0_pushed_51 : decode cX0_pushed 51 = .ok (.invokevirtual 57, 3) := by decide +kernel
theorem dX0_pushed_54 : decode cX0_pushed 54 = .ok (.invokevirtual 76, 3) := by decide +kernel
theorem dX0_pushed_57 : decode cX0_pushed 57 = .ok (.ireturn, 1) := by decide +kernel
theorem dX0_farLeftGone_0 : decode cX0_farLeftGone 0 = .ok (.iload_n 2, 1) := by decide +kernel
theorem dX0_farLeftGone_1 : decode cX0_farLeftGone 1 = .ok (.iconst 1, 1) := by decide +kernel
theorem dX0_farLeftGone_2 : decode cX0_farLeftGone 2 = .ok (.if_icmp .gt 5, 3) := by decide +kernel
theorem dX0_farLeftGone_5 : decode cX0_farLeftGone 5 = .ok (.iconst 0, 1) := by decide +kernel
theorem dX0_farLeftGone_6 : decode cX0_farLeftGone 6 = .ok (.ireturn, 1) := by decide +kernel
theorem dX0_farLeftGone_7 : decode cX0_farLeftGone 7 = .ok (.aload_n 0, 1) := by decide +kernel
theorem dX0_farLeftGone_8 : decode cX0_farLeftGone 8 = .ok (.aload_n 0, 1) := by decide +kernel
theorem dX0_farLeftGone_9 : decode cX0_farLeftGone 9 = .ok (.iload_n 1, 1) := by decide +kernel
theorem dX0_farLeftGone_10 : decode cX0_farLeftGone 10 = .ok (.invokevirtual 57, 3) := by decide +kernel
theorem dX0_farLeftGone_13 : decode cX0_farLeftGone 13 = .ok (.iload_n 2, 1) := by decide +kernel
theorem dX0_farLeftGone_14 : decode cX0_farLeftGone 14 = .ok (.invokestatic 126, 3) := by decide +kernel
theorem dX0_farLeftGone_17 : decode cX0_farLeftGone 17 = .ok (.invokestatic 129, 3) := by decide +kernel
theorem dX0_farLeftGone_20 : decode cX0_farLeftGone 20 = .ok (.istore_n 3, 1) := by decide +kernel
theorem dX0_farLeftGone_21 : decode cX0_farLeftGone 21 = .ok (.aload_n 0, 1) := by decide +kernel
theorem dX0_farLeftGone_22 : decode cX0_farLeftGone 22 = .ok (.aload_n 0, 1) := by decide +kernel
theorem dX0_farLeftGone_23 : decode cX0_farLeftGone 23 = .ok (.iload_n 1, 1) := by decide +kernel
theorem dX0_farLeftGone_24 : decode cX0_farLeftGone 24 = .ok (.invokevirtual 64, 3) := by decide +kernel
theorem dX0_farLeftGone_27 : decode cX0_farLeftGone 27 = .ok (.aload_n 0, 1) := by decide +kernel
theorem dX0_farLeftGone_28 : decode cX0_farLeftGone 28 = .ok (.iload_n 1, 1) := by decide +kernel
theorem dX0_farLeftGone_29 : decode cX0_farLeftGone 29 = .ok (.invokevirtual 61, 3) := by decide +kernel
theorem dX0_farLeftGone_32 : decode cX0_farLeftGone 32 = .ok (.iload_n 3, 1) := by decide +kernel
theorem dX0_farLeftGone_33 : decode cX0_farLeftGone 33 = .ok (.invokevirtual 76, 3) := by decide +kernel
theorem dX0_farLeftGone_36 : decode cX0_farLeftGone 36 = .ok (.ireturn, 1) := by decide +kernel
theorem dX0_sifted_0 : decode cX0_sifted 0 = .ok (.iload_n 2, 1) := by decide +kernel
theorem dX0_sifted_1 : decode cX0_sifted 1 = .ok (.ifCond .eq 12, 3) := by decide +kernel
theorem dX0_sifted_4 : decode cX0_sifted 4 = .ok (.iload_n 1, 1) := by decide +kernel
theorem dX0_sifted_5 : decode cX0_sifted 5 = .ok (.aload_n 0, 1) := by decide +kernel
theorem dX0_sifted_6 : decode cX0_sifted 6 = .ok (.iload_n 2, 1) := by decide +kernel
theorem dX0_sifted_7 : decode cX0_sifted 7 = .ok (.invokevirtual 64, 3) := by decide +kernel
theorem dX0_sifted_10 : decode cX0_sifted 10 = .ok (.if_icmp .gt 7, 3) := by decide +kernel
theorem dX0_sifted_13 : decode cX0_sifted 13 = .ok (.iconst 1, 1) := by decide +kernel
theorem dX0_sifted_14 : decode cX0_sifted 14 = .ok (.goto 4, 3) := by decide +kernel
theorem dX0_sifted_17 : decode cX0_sifted 17 = .ok (.iconst 0, 1) := by decide +kernel
theorem dX0_sifted_18 : decode cX0_sifted 18 = .ok (.istore 5, 2) := by decide +kernel
theorem dX0_sifted_20 : decode cX0_sifted 20 = .ok (.iload_n 3, 1) := by decide +kernel
theorem dX0_sifted_21 : decode cX0_sifted 21 = .ok (.ifCond .eq 12, 3) := by decide +kernel
theorem dX0_sifted_24 : decode cX0_sifted 24 = .ok (.iload_n 1, 1) := by decide +kernel
theorem dX0_sifted_25 : decode cX0_sifted 25 = .ok (.aload_n 0, 1) := by decide +kernel
theorem dX0_sifted_26 : decode cX0_sifted 26 = .ok (.iload_n 3, 1) := by decide +kernel
theorem dX0_sifted_27 : decode cX0_sifted 27 = .ok (.invokevirtual 64, 3) := by decide +kernel
theorem dX0_sifted_30 : decode cX0_sifted 30 = .ok (.if_icmp .gt 7, 3) := by decide +kernel
theorem dX0_sifted_33 : decode cX0_sifted 33 = .ok (.iconst 1, 1) := by decide +kernel
theorem dX0_sifted_34 : decode cX0_sifted 34 = .ok (.goto 4, 3) := by decide +kernel
theorem dX0_sifted_37 : decode cX0_sifted 37 = .ok (.iconst 0, 1) := by decide +kernel
theorem dX0_sifted_38 : decode cX0_sifted 38 = .ok (.istore 6, 2) := by decide +kernel
theorem dX0_sifted_40 : decode cX0_sifted 40 = .ok (.iload 4, 2) := by decide +kernel
theorem dX0_sifted_42 : decode cX0_sifted 42 = .ok (.ifCond .le 17, 3) := by decide +kernel
theorem dX0_sifted_45 : decode cX0_sifted 45 = .ok (.iload_n 2, 1) := by decide +kernel
theorem dX0_sifted_46 : decode cX0_sifted 46 = .ok (.ifCond .eq 13, 3) := by decide +kernel
theorem dX0_sifted_49 : decode cX0_sifted 49 = .ok (.iload 5, 2) := by decide +kernel
theorem dX0_sifted_51 : decode cX0_sifted 51 = .ok (.ifCond .eq 16, 3) := by decide +kernel
theorem dX0_sifted_54 : decode cX0_sifted 54 = .ok (.iload 6, 2) := by decide +kernel
theorem dX0_sifted_56 : decode cX0_sifted 56 = .ok (.ifCond .eq 11, 3) := by decide +kernel
theorem dX0_sifted_59 : decode cX0_sifted 59 = .ok (.aload_n 0, 1) := by decide +kernel
theorem dX0_sifted_60 : decode cX0_sifted 60 = .ok (.iload_n 1, 1) := by decide +kernel
theorem dX0_sifted_61 : decode cX0_sifted 61 = .ok (.iload_n 2, 1) := by decide +kernel
theorem dX0_sifted_62 : decode cX0_sifted 62 = .ok (.iload_n 3, 1) := by decide +kernel
theorem dX0_sifted_63 : decode cX0_sifted 63 = .ok (.invokevirtual 76, 3) := by decide +kernel
theorem dX0_sifted_66 : decode cX0_sifted 66 = .ok (.ireturn, 1) := by decide +kernel
theorem dX0_sifted_67 : decode cX0_sifted 67 = .ok (.iload_n 3, 1) := by decide +kernel
theorem dX0_sifted_68 : decode cX0_sifted 68 = .ok (.ifCond .eq 16, 3) := by decide +kernel
theorem dX0_sifted_71 : decode cX0_sifted 71 = .ok (.aload_n 0, 1) := by decide +kernel
theorem dX0_sifted_72 : decode cX0_sifted 72 = .ok (.iload_n 2, 1) := by decide +kernel
theorem dX0_sifted_73 : decode cX0_sifted 73 = .ok (.invokevirtual 64, 3) := by decide +kernel
theorem dX0_sifted_76 : decode cX0_sifted 76 = .ok (.aload_n 0, 1) := by decide +kernel
theorem dX0_sifted_77 : decode cX0_sifted 77 = .ok (.iload_n 3, 1) := by decide +kernel
theorem dX0_sifted_78 : decode cX0_sifted 78 = .ok (.invokevirtual 64, 3) := by decide +kernel
theorem dX0_sifted_81 : decode cX0_sifted 81 = .ok (.if_icmp .gt 37, 3) := by decide +kernel
theorem dX0_sifted_84 : decode cX0_sifted 84 = .ok (.aload_n 0, 1) := by decide +kernel
theorem dX0_sifted_85 : decode cX0_sifted 85 = .ok (.iload_n 1, 1) := by decide +kernel
theorem dX0_sifted_86 : decode cX0_sifted 86 = .ok (.aload_n 0, 1) := by decide +kernel
theorem dX0_sifted_87 : decode cX0_sifted 87 = .ok (.iload_n 2, 1) := by decide +kernel
theorem dX0_sifted_88 : decode cX0_sifted 88 = .ok (.invokevirtual 57, 3) := by decide +kernel
theorem dX0_sifted_91 : decode cX0_sifted 91 = .ok (.aload_n 0, 1) := by decide +kernel
theorem dX0_sifted_92 : decode cX0_sifted 92 = .ok (.iload_n 2, 1) := by decide +kernel
theorem dX0_sifted_93 : decode cX0_sifted 93 = .ok (.invokevirtual 61, 3) := by decide +kernel
theorem dX0_sifted_96 : decode cX0_sifted 96 = .ok (.iload 4, 2) := by decide +kernel
theorem dX0_sifted_98 : decode cX0_sifted 98 = .ok (.iconst 1, 1) := by decide +kernel
theorem dX0_sifted_99 : decode cX0_sifted 99 = .ok (.isub, 1) := by decide +kernel
theorem dX0_sifted_100 : decode cX0_sifted 100 = .ok (.invokestatic 132, 3) := by decide +kernel
theorem dX0_sifted_103 : decode cX0_sifted 103 = .ok (.istore 7, 2) := by decide +kernel
theorem dX0_sifted_105 : decode cX0_sifted 105 = .ok (.aload_n 0, 1) := by decide +kernel
theorem dX0_sifted_106 : decode cX0_sifted 106 = .ok (.aload_n 0, 1) := by decide +kernel
theorem dX0_sifted_107 : decode cX0_sifted 107 = .ok (.iload_n 2, 1) := by decide +kernel
theorem dX0_sifted_108 : decode cX0_sifted 108 = .ok (.invokevirtual 64, 3) := by decide +kernel
theorem dX0_sifted_111 : decode cX0_sifted 111 = .ok (.iload 7, 2) := by decide +kernel
theorem dX0_sifted_113 : decode cX0_sifted 113 = .ok (.iload_n 3, 1) := by decide +kernel
theorem dX0_sifted_114 : decode cX0_sifted 114 = .ok (.invokevirtual 76, 3) := by decide +kernel
theorem dX0_sifted_117 : decode cX0_sifted 117 = .ok (.ireturn, 1) := by decide +kernel
theorem dX0_sifted_118 : decode cX0_sifted 118 = .ok (.aload_n 0, 1) := by decide +kernel
theorem dX0_sifted_119 : decode cX0_sifted 119 = .ok (.iload_n 1, 1) := by decide +kernel
theorem dX0_sifted_120 : decode cX0_sifted 120 = .ok (.aload_n 0, 1) := by decide +kernel
theorem dX0_sifted_121 : decode cX0_sifted 121 = .ok (.iload_n 3, 1) := by decide +kernel
theorem dX0_sifted_122 : decode cX0_sifted 122 = .ok (.invokevirtual 57, 3) := by decide +kernel
theorem dX0_sifted_125 : decode cX0_sifted 125 = .ok (.aload_n 0, 1) := by decide +kernel
theorem dX0_sifted_126 : decode cX0_sifted 126 = .ok (.iload_n 3, 1) := by decide +kernel
theorem dX0_sifted_127 : decode cX0_sifted 127 = .ok (.invokevirtual 61, 3) := by decide +kernel
theorem dX0_sifted_130 : decode cX0_sifted 130 = .ok (.iload 4, 2) := by decide +kernel
theorem dX0_sifted_132 : decode cX0_sifted 132 = .ok (.iconst 1, 1) := by decide +kernel
theorem dX0_sifted_133 : decode cX0_sifted 133 = .ok (.isub, 1) := by decide +kernel
theorem dX0_sifted_134 : decode cX0_sifted 134 = .ok (.invokestatic 132, 3) := by decide +kernel
theorem dX0_sifted_137 : decode cX0_sifted 137 = .ok (.istore 7, 2) := by decide +kernel
theorem dX0_sifted_139 : decode cX0_sifted 139 = .ok (.aload_n 0, 1) := by decide +kernel
theorem dX0_sifted_140 : decode cX0_sifted 140 = .ok (.aload_n 0, 1) := by decide +kernel
theorem dX0_sifted_141 : decode cX0_sifted 141 = .ok (.iload_n 3, 1) := by decide +kernel
theorem dX0_sifted_142 : decode cX0_sifted 142 = .ok (.invokevirtual 64, 3) := by decide +kernel
theorem dX0_sifted_145 : decode cX0_sifted 145 = .ok (.iload_n 2, 1) := by decide +kernel
theorem dX0_sifted_146 : decode cX0_sifted 146 = .ok (.iload 7, 2) := by decide +kernel
theorem dX0_sifted_148 : decode cX0_sifted 148 = .ok (.invokevirtual 76, 3) := by decide +kernel
theorem dX0_sifted_151 : decode cX0_sifted 151 = .ok (.ireturn, 1) := by decide +kernel
theorem dX1_init_0 : decode cX1_init 0 = .ok (.aload_n 0, 1) := by decide +kernel
theorem dX1_init_1 : decode cX1_init 1 = .ok (.invokespecial 5, 3) := by decide +kernel
theorem dX1_init_4 : decode cX1_init 4 = .ok (.aload_n 0, 1) := by decide +kernel
theorem dX1_init_5 : decode cX1_init 5 = .ok (.new 1, 3) := by decide +kernel
theorem dX1_init_8 : decode cX1_init 8 = .ok (.dup, 1) := by decide +kernel
theorem dX1_init_9 : decode cX1_init 9 = .ok (.invokespecial 11, 3) := by decide +kernel
theorem dX1_init_12 : decode cX1_init 12 = .ok (.putfield 12, 3) := by decide +kernel
theorem dX1_init_15 : decode cX1_init 15 = .ok (.aload_n 0, 1) := by decide +kernel
theorem dX1_init_16 : decode cX1_init 16 = .ok (.bipush 100, 2) := by decide +kernel
theorem dX1_init_18 : decode cX1_init 18 = .ok (.newarray .int, 2) := by decide +kernel
theorem dX1_init_20 : decode cX1_init 20 = .ok (.putfield 18, 3) := by decide +kernel
theorem dX1_init_23 : decode cX1_init 23 = .ok (.aload_n 0, 1) := by decide +kernel
theorem dX1_init_24 : decode cX1_init 24 = .ok (.bipush 100, 2) := by decide +kernel
theorem dX1_init_26 : decode cX1_init 26 = .ok (.newarray .int, 2) := by decide +kernel
theorem dX1_init_28 : decode cX1_init 28 = .ok (.putfield 22, 3) := by decide +kernel
theorem dX1_init_31 : decode cX1_init 31 = .ok (.aload_n 0, 1) := by decide +kernel
theorem dX1_init_32 : decode cX1_init 32 = .ok (.bipush 100, 2) := by decide +kernel
theorem dX1_init_34 : decode cX1_init 34 = .ok (.newarray .int, 2) := by decide +kernel
theorem dX1_init_36 : decode cX1_init 36 = .ok (.putfield 25, 3) := by decide +kernel
theorem dX1_init_39 : decode cX1_init 39 = .ok (.aload_n 0, 1) := by decide +kernel
theorem dX1_init_40 : decode cX1_init 40 = .ok (.bipush 100, 2) := by decide +kernel
theorem dX1_init_42 : decode cX1_init 42 = .ok (.newarray .int, 2) := by decide +kernel
theorem dX1_init_44 : decode cX1_init 44 = .ok (.putfield 28, 3) := by decide +kernel
theorem dX1_init_47 : decode cX1_init 47 = .ok (.aload_n 0, 1) := by decide +kernel
theorem dX1_init_48 : decode cX1_init 48 = .ok (.bipush 100, 2) := by decide +kernel
theorem dX1_init_50 : decode cX1_init 50 = .ok (.newarray .int, 2) := by decide +kernel
theorem dX1_init_52 : decode cX1_init 52 = .ok (.putfield 31, 3) := by decide +kernel
theorem dX1_init_55 : decode cX1_init 55 = .ok (.aload_n 0, 1) := by decide +kernel
theorem dX1_init_56 : decode cX1_init 56 = .ok (.bipush 100, 2) := by decide +kernel
theorem dX1_init_58 : decode cX1_init 58 = .ok (.newarray .int, 2) := by decide +kernel
theorem dX1_init_60 : decode cX1_init 60 = .ok (.putfield 34, 3) := by decide +kernel
theorem dX1_init_63 : decode cX1_init 63 = .ok (.aload_n 0, 1) := by decide +kernel
theorem dX1_init_64 : decode cX1_init 64 = .ok (.bipush 100, 2) := by decide +kernel
theorem dX1_init_66 : decode cX1_init 66 = .ok (.newarray .int, 2) := by decide +kernel
theorem dX1_init_68 : decode cX1_init 68 = .ok (.putfield 37, 3) := by decide +kernel
theorem dX1_init_71 : decode cX1_init 71 = .ok (.aload_n 0, 1) := by decide +kernel
theorem dX1_init_72 : decode cX1_init 72 = .ok (.bipush 100, 2) := by decide +kernel
theorem dX1_init_74 : decode cX1_init 74 = .ok (.newarray .int, 2) := by decide +kernel
theorem dX1_init_76 : decode cX1_init 76 = .ok (.putfield 40, 3) := by decide +kernel
theorem dX1_init_79 : decode cX1_init 79 = .ok (.aload_n 0, 1) := by decide +kernel
theorem dX1_init_80 : decode cX1_init 80 = .ok (.iconst 0, 1) := by decide +kernel
theorem dX1_init_81 : decode cX1_init 81 = .ok (.putfield 43, 3) := by decide +kernel
theorem dX1_init_84 : decode cX1_init 84 = .ok (.aload_n 0, 1) := by decide +kernel
theorem dX1_init_85 : decode cX1_init 85 = .ok (.iconst 0, 1) := by decide +kernel
theorem dX1_init_86 : decode cX1_init 86 = .ok (.putfield 47, 3) := by decide +kernel
theorem dX1_init_89 : decode cX1_init 89 = .ok (.aload_n 0, 1) := by decide +kernel
theorem dX1_init_90 : decode cX1_init 90 = .ok (.iconst 0, 1) := by decide +kernel
theorem dX1_init_91 : decode cX1_init 91 = .ok (.putfield 50, 3) := by decide +kernel
theorem dX1_init_94 : decode cX1_init 94 = .ok (.aload_n 0, 1) := by decide +kernel
theorem dX1_init_95 : decode cX1_init 95 = .ok (.iconst (-1), 1) := by decide +kernel
theorem dX1_init_96 : decode cX1_init 96 = .ok (.putfield 53, 3) := by decide +kernel
theorem dX1_init_99 : decode cX1_init 99 = .ok (.aload_n 0, 1) := by decide +kernel
theorem dX1_init_100 : decode cX1_init 100 = .ok (.iconst 0, 1) := by decide +kernel
theorem dX1_init_101 : decode cX1_init 101 = .ok (.putfield 56, 3) := by decide +kernel
theorem dX1_init_104 : decode cX1_init 104 = .ok (.return_, 1) := by decide +kernel
theorem dX2_init_0 : decode cX2_init 0 = .ok (.aload_n 0, 1) := by decide +kernel
theorem dX2_init_1 : decode cX2_init 1 = .ok (.invokespecial 3, 3) := by decide +kernel
theorem dX2_init_4 : decode cX2_init 4 = .ok (.aload_n 0, 1) := by decide +kernel
theorem dX2_init_5 : decode cX2_init 5 = .ok (.bipush 16, 2) := by decide +kernel
theorem dX2_init_7 : decode cX2_init 7 = .ok (.newarray .long, 2) := by decide +kernel
theorem dX2_init_9 : decode cX2_init 9 = .ok (.putfield 9, 3) := by decide +kernel
theorem dX2_init_12 : decode cX2_init 12 = .ok (.aload_n 0, 1) := by decide +kernel
theorem dX2_init_13 : decode cX2_init 13 = .ok (.iconst 0, 1) := by decide +kernel
theorem dX2_init_14 : decode cX2_init 14 = .ok (.putfield 15, 3) := by decide +kernel
theorem dX2_init_17 : decode cX2_init 17 = .ok (.return_, 1) := by decide +kernel
theorem dX2_clear_0 : decode cX2_clear 0 = .ok (.aload_n 0, 1) := by decide +kernel
theorem dX2_clear_1 : decode cX2_clear 1 = .ok (.iconst 0, 1) := by decide +kernel
theorem dX2_clear_2 : decode cX2_clear 2 = .ok (.putfield 15, 3) := by decide +kernel
theorem dX2_clear_5 : decode cX2_clear 5 = .ok (.return_, 1) := by decide +kernel
theorem dX2_add_0 : decode cX2_add 0 = .ok (.aload_n 0, 1) := by decide +kernel
theorem dX2_add_1 : decode cX2_add 1 = .ok (.getfield 15, 3) := by decide +kernel
theorem dX2_add_4 : decode cX2_add 4 = .ok (.aload_n 0, 1) := by decide +kernel
theorem dX2_add_5 : decode cX2_add 5 = .ok (.getfield 9, 3) := by decide +kernel
theorem dX2_add_8 : decode cX2_add 8 = .ok (.arraylength, 1) := by decide +kernel
theorem dX2_add_9 : decode cX2_add 9 = .ok (.if_icmp .ge 23, 3) := by decide +kernel
theorem dX2_add_12 : decode cX2_add 12 = .ok (.aload_n 0, 1) := by decide +kernel
theorem dX2_add_13 : decode cX2_add 13 = .ok (.getfield 9, 3) := by decide +kernel
theorem dX2_add_16 : decode cX2_add 16 = .ok (.aload_n 0, 1) := by decide +kernel
theorem dX2_add_17 : decode cX2_add 17 = .ok (.getfield 15, 3) := by decide +kernel
theorem dX2_add_20 : decode cX2_add 20 = .ok (.lload_n 1, 1) := by decide +kernel
theorem dX2_add_21 : decode cX2_add 21 = .ok (.lastore, 1) := by decide +kernel
theorem dX2_add_22 : decode cX2_add 22 = .ok (.aload_n 0, 1) := by decide +kernel
theorem dX2_add_23 : decode cX2_add 23 = .ok (.dup, 1) := by decide +kernel
theorem dX2_add_24 : decode cX2_add 24 = .ok (.getfield 15, 3) := by decide +kernel
theorem dX2_add_27 : decode cX2_add 27 = .ok (.iconst 1, 1) := by decide +kernel
theorem dX2_add_28 : decode cX2_add 28 = .ok (.iadd, 1) := by decide +kernel
theorem dX2_add_29 : decode cX2_add 29 = .ok (.putfield 15, 3) := by decide +kernel
theorem dX2_add_32 : decode cX2_add 32 = .ok (.return_, 1) := by decide +kernel
theorem dX2_tell_0 : decode cX2_tell 0 = .ok (.aload_n 0, 1) := by decide +kernel
theorem dX2_tell_1 : decode cX2_tell 1 = .ok (.invokevirtual 19, 3) := by decide +kernel
theorem dX2_tell_4 : decode cX2_tell 4 = .ok (.aload_n 0, 1) := by decide +kernel
theorem dX2_tell_5 : decode cX2_tell 5 = .ok (.lload_n 1, 1) := by decide +kernel
theorem dX2_tell_6 : decode cX2_tell 6 = .ok (.invokevirtual 22, 3) := by decide +kernel
theorem dX2_tell_9 : decode cX2_tell 9 = .ok (.return_, 1) := by decide +kernel
theorem dX2_tell__0 : decode cX2_tell_ 0 = .ok (.aload_n 0, 1) := by decide +kernel
theorem dX2_tell__1 : decode cX2_tell_ 1 = .ok (.lload_n 1, 1) := by decide +kernel
theorem dX2_tell__2 : decode cX2_tell_ 2 = .ok (.invokevirtual 26, 3) := by decide +kernel
theorem dX2_tell__5 : decode cX2_tell_ 5 = .ok (.aload_n 0, 1) := by decide +kernel
theorem dX2_tell__6 : decode cX2_tell_ 6 = .ok (.lload_n 3, 1) := by decide +kernel
theorem dX2_tell__7 : decode cX2_tell_ 7 = .ok (.invokevirtual 22, 3) := by decide +kernel
theorem dX2_tell__10 : decode cX2_tell_ 10 = .ok (.return_, 1) := by decide +kernel
theorem dX3_leftSize_0 : decode cX3_leftSize 0 = .ok (.iload_n 0, 1) := by decide +kernel
theorem dX3_leftSize_1 : decode cX3_leftSize 1 = .ok (.iconst 2, 1) := by decide +kernel
theorem dX3_leftSize_2 : decode cX3_leftSize 2 = .ok (.idiv, 1) := by decide +kernel
theorem dX3_leftSize_3 : decode cX3_leftSize 3 = .ok (.ireturn, 1) := by decide +kernel
theorem dX3_rightSize_0 : decode cX3_rightSize 0 = .ok (.iload_n 0, 1) := by decide +kernel
theorem dX3_rightSize_1 : decode cX3_rightSize 1 = .ok (.iconst 2, 1) := by decide +kernel
theorem dX3_rightSize_2 : decode cX3_rightSize 2 = .ok (.if_icmp .ge 7, 3) := by decide +kernel
theorem dX3_rightSize_5 : decode cX3_rightSize 5 = .ok (.iconst 0, 1) := by decide +kernel
theorem dX3_rightSize_6 : decode cX3_rightSize 6 = .ok (.goto 8, 3) := by decide +kernel
theorem dX3_rightSize_9 : decode cX3_rightSize 9 = .ok (.iload_n 0, 1) := by decide +kernel
theorem dX3_rightSize_10 : decode cX3_rightSize 10 = .ok (.iconst 1, 1) := by decide +kernel
theorem dX3_rightSize_11 : decode cX3_rightSize 11 = .ok (.isub, 1) := by decide +kernel
theorem dX3_rightSize_12 : decode cX3_rightSize 12 = .ok (.iconst 2, 1) := by decide +kernel
theorem dX3_rightSize_13 : decode cX3_rightSize 13 = .ok (.idiv, 1) := by decide +kernel
theorem dX3_rightSize_14 : decode cX3_rightSize 14 = .ok (.ireturn, 1) := by decide +kernel
theorem dX3_stride_0 : decode cX3_stride 0 = .ok (.iload_n 0, 1) := by decide +kernel
theorem dX3_stride_1 : decode cX3_stride 1 = .ok (.iconst 1, 1) := by decide +kernel
theorem dX3_stride_2 : decode cX3_stride 2 = .ok (.iadd, 1) := by decide +kernel
theorem dX3_stride_3 : decode cX3_stride 3 = .ok (.istore_n 1, 1) := by decide +kernel
theorem dX3_stride_4 : decode cX3_stride 4 = .ok (.iload_n 1, 1) := by decide +kernel
theorem dX3_stride_5 : decode cX3_stride 5 = .ok (.iload_n 1, 1) := by decide +kernel
theorem dX3_stride_6 : decode cX3_stride 6 = .ok (.iconst 1, 1) := by decide +kernel
theorem dX3_stride_7 : decode cX3_stride 7 = .ok (.ishr, 1) := by decide +kernel
theorem dX3_stride_8 : decode cX3_stride 8 = .ok (.ior, 1) := by decide +kernel
theorem dX3_stride_9 : decode cX3_stride 9 = .ok (.istore_n 1, 1) := by decide +kernel
theorem dX3_stride_10 : decode cX3_stride 10 = .ok (.iload_n 1, 1) := by decide +kernel
theorem dX3_stride_11 : decode cX3_stride 11 = .ok (.iload_n 1, 1) := by decide +kernel
theorem dX3_stride_12 : decode cX3_stride 12 = .ok (.iconst 2, 1) := by decide +kernel
theorem dX3_stride_13 : decode cX3_stride 13 = .ok (.ishr, 1) := by decide +kernel
theorem dX3_stride_14 : decode cX3_stride 14 = .ok (.ior, 1) := by decide +kernel
theorem dX3_stride_15 : decode cX3_stride 15 = .ok (.istore_n 1, 1) := by decide +kernel
theorem dX3_stride_16 : decode cX3_stride 16 = .ok (.iload_n 1, 1) := by decide +kernel
theorem dX3_stride_17 : decode cX3_stride 17 = .ok (.iload_n 1, 1) := by decide +kernel
theorem dX3_stride_18 : decode cX3_stride 18 = .ok (.iconst 4, 1) := by decide +kernel
theorem dX3_stride_19 : decode cX3_stride 19 = .ok (.ishr, 1) := by decide +kernel
theorem dX3_stride_20 : decode cX3_stride 20 = .ok (.ior, 1) := by decide +kernel
theorem dX3_stride_21 : decode cX3_stride 21 = .ok (.istore_n 1, 1) := by decide +kernel
theorem dX3_stride_22 : decode cX3_stride 22 = .ok (.iload_n 1, 1) := by decide +kernel
theorem dX3_stride_23 : decode cX3_stride 23 = .ok (.iload_n 1, 1) := by decide +kernel
theorem dX3_stride_24 : decode cX3_stride 24 = .ok (.bipush 8, 2) := by decide +kernel
theorem dX3_stride_26 : decode cX3_stride 26 = .ok (.ishr, 1) := by decide +kernel
theorem dX3_stride_27 : decode cX3_stride 27 = .ok (.ior, 1) := by decide +kernel
theorem dX3_stride_28 : decode cX3_stride 28 = .ok (.istore_n 1, 1) := by decide +kernel
theorem dX3_stride_29 : decode cX3_stride 29 = .ok (.iload_n 1, 1) := by decide +kernel
theorem dX3_stride_30 : decode cX3_stride 30 = .ok (.iload_n 1, 1) := by decide +kernel
theorem dX3_stride_31 : decode cX3_stride 31 = .ok (.iconst 1, 1) := by decide +kernel
theorem dX3_stride_32 : decode cX3_stride 32 = .ok (.ishr, 1) := by decide +kernel
theorem dX3_stride_33 : decode cX3_stride 33 = .ok (.isub, 1) := by decide +kernel
theorem dX3_stride_34 : decode cX3_stride 34 = .ok (.ireturn, 1) := by decide +kernel
theorem dX3_depth_0 : decode cX3_depth 0 = .ok (.iload_n 0, 1) := by decide +kernel
theorem dX3_depth_1 : decode cX3_depth 1 = .ok (.invokestatic 9, 3) := by decide +kernel
theorem dX3_depth_4 : decode cX3_depth 4 = .ok (.iconst 1, 1) := by decide +kernel
theorem dX3_depth_5 : decode cX3_depth 5 = .ok (.isub, 1) := by decide +kernel
theorem dX3_depth_6 : decode cX3_depth 6 = .ok (.invokestatic 15, 3) := by decide +kernel
theorem dX3_depth_9 : decode cX3_depth 9 = .ok (.ireturn, 1) := by decide +kernel
theorem dX3_above_0 : decode cX3_above 0 = .ok (.iload_n 0, 1) := by decide +kernel
theorem dX3_above_1 : decode cX3_above 1 = .ok (.ifCond .gt 5, 3) := by decide +kernel
theorem dX3_above_4 : decode cX3_above 4 = .ok (.iconst (-1), 1) := by decide +kernel
theorem dX3_above_5 : decode cX3_above 5 = .ok (.ireturn, 1) := by decide +kernel
theorem dX3_above_6 : decode cX3_above 6 = .ok (.iload_n 0, 1) := by decide +kernel
theorem dX3_above_7 : decode cX3_above 7 = .ok (.invokestatic 9, 3) := by decide +kernel
theorem dX3_above_10 : decode cX3_above 10 = .ok (.iconst 2, 1) := by decide +kernel
theorem dX3_above_11 : decode cX3_above 11 = .ok (.idiv, 1) := by decide +kernel
theorem dX3_above_12 : decode cX3_above 12 = .ok (.istore_n 1, 1) := by decide +kernel
theorem dX3_above_13 : decode cX3_above 13 = .ok (.iload_n 1, 1) := by decide +kernel
theorem dX3_above_14 : decode cX3_above 14 = .ok (.iload_n 0, 1) := by decide +kernel
theorem dX3_above_15 : decode cX3_above 15 = .ok (.iconst 1, 1) := by decide +kernel
theorem dX3_above_16 : decode cX3_above 16 = .ok (.iadd, 1) := by decide +kernel
theorem dX3_above_17 : decode cX3_above 17 = .ok (.iload_n 1, 1) := by decide +kernel
theorem dX3_above_18 : decode cX3_above 18 = .ok (.iconst 1, 1) := by decide +kernel
theorem dX3_above_19 : decode cX3_above 19 = .ok (.isub, 1) := by decide +kernel
theorem dX3_above_20 : decode cX3_above 20 = .ok (.iand, 1) := by decide +kernel
theorem dX3_above_21 : decode cX3_above 21 = .ok (.iadd, 1) := by decide +kernel
theorem dX3_above_22 : decode cX3_above 22 = .ok (.iconst 1, 1) := by decide +kernel
theorem dX3_above_23 : decode cX3_above 23 = .ok (.isub, 1) := by decide +kernel
theorem dX3_above_24 : decode cX3_above 24 = .ok (.ireturn, 1) := by decide +kernel
theorem dX3_steps_0 : decode cX3_steps 0 = .ok (.iconst 1, 1) := by decide +kernel
theorem dX3_steps_1 : decode cX3_steps 1 = .ok (.istore_n 1, 1) := by decide +kernel
theorem dX3_steps_2 : decode cX3_steps 2 = .ok (.iload_n 0, 1) := by decide +kernel
theorem dX3_steps_3 : decode cX3_steps 3 = .ok (.istore_n 2, 1) := by decide +kernel
theorem dX3_steps_4 : decode cX3_steps 4 = .ok (.iload_n 2, 1) := by decide +kernel
theorem dX3_steps_5 : decode cX3_steps 5 = .ok (.ifCond .le 28, 3) := by decide +kernel
theorem dX3_steps_8 : decode cX3_steps 8 = .ok (.iload_n 1, 1) := by decide +kernel
theorem dX3_steps_9 : decode cX3_steps 9 = .ok (.iconst 1, 1) := by decide +kernel
theorem dX3_steps_10 : decode cX3_steps 10 = .ok (.iload_n 2, 1) := by decide +kernel
theorem dX3_steps_11 : decode cX3_steps 11 = .ok (.invokestatic 32, 3) := by decide +kernel
theorem dX3_steps_14 : decode cX3_steps 14 = .ok (.iload_n 2, 1) := by decide +kernel
theorem dX3_steps_15 : decode cX3_steps 15 = .ok (.invokestatic 35, 3) := by decide +kernel
theorem dX3_steps_18 : decode cX3_steps 18 = .ok (.invokestatic 38, 3) := by decide +kernel
theorem dX3_steps_21 : decode cX3_steps 21 = .ok (.iadd, 1) := by decide +kernel
theorem dX3_steps_22 : decode cX3_steps 22 = .ok (.iadd, 1) := by decide +kernel
theorem dX3_steps_23 : decode cX3_steps 23 = .ok (.istore_n 1, 1) := by decide +kernel
theorem dX3_steps_24 : decode cX3_steps 24 = .ok (.iload_n 2, 1) := by decide +kernel
theorem dX3_steps_25 : decode cX3_steps 25 = .ok (.iconst 1, 1) := by decide +kernel
theorem dX3_steps_26 : decode cX3_steps 26 = .ok (.isub, 1) := by decide +kernel
theorem dX3_steps_27 : decode cX3_steps 27 = .ok (.iconst 2, 1) := by decide +kernel
theorem dX3_steps_28 : decode cX3_steps 28 = .ok (.idiv, 1) := by decide +kernel
theorem dX3_steps_29 : decode cX3_steps 29 = .ok (.istore_n 2, 1) := by decide +kernel
theorem dX3_steps_30 : decode cX3_steps 30 = .ok (.goto (-26), 3) := by decide +kernel
theorem dX3_steps_33 : decode cX3_steps 33 = .ok (.iload_n 1, 1) := by decide +kernel
theorem dX3_steps_34 : decode cX3_steps 34 = .ok (.ireturn, 1) := by decide +kernel
theorem dX3_stepsOfMore_0 : decode cX3_stepsOfMore 0 = .ok (.iconst 1, 1) := by decide +kernel
theorem dX3_stepsOfMore_1 : decode cX3_stepsOfMore 1 = .ok (.istore_n 2, 1) := by decide +kernel
theorem dX3_stepsOfMore_2 : decode cX3_stepsOfMore 2 = .ok (.iload_n 0, 1) := by decide +kernel
theorem dX3_stepsOfMore_3 : decode cX3_stepsOfMore 3 = .ok (.istore_n 3, 1) := by decide +kernel
theorem dX3_stepsOfMore_4 : decode cX3_stepsOfMore 4 = .ok (.iload_n 1, 1) := by decide +kernel
theorem dX3_stepsOfMore_5 : decode cX3_stepsOfMore 5 = .ok (.istore 4, 2) := by decide +kernel
theorem dX3_stepsOfMore_7 : decode cX3_stepsOfMore 7 = .ok (.iload_n 3, 1) := by decide +kernel
theorem dX3_stepsOfMore_8 : decode cX3_stepsOfMore 8 = .ok (.ifCond .le 42, 3) := by decide +kernel
theorem dX3_stepsOfMore_11 : decode cX3_stepsOfMore 11 = .ok (.iload 4, 2) := by decide +kernel
theorem dX3_stepsOfMore_13 : decode cX3_stepsOfMore 13 = .ok (.ifCond .le 37, 3) := by decide +kernel
theorem dX3_stepsOfMore_16 : decode cX3_stepsOfMore 16 = .ok (.iload 4, 2) := by decide +kernel
theorem dX3_stepsOfMore_18 : decode cX3_stepsOfMore 18 = .ok (.iconst 2, 1) := by decide +kernel
theorem dX3_stepsOfMore_19 : decode cX3_stepsOfMore 19 = .ok (.irem, 1) := by decide +kernel
theorem dX3_stepsOfMore_20 : decode cX3_stepsOfMore 20 = .ok (.iconst 1, 1) := by decide +kernel
theorem dX3_stepsOfMore_21 : decode cX3_stepsOfMore 21 = .ok (.if_icmp .ne 10, 3) := by decide +kernel
theorem dX3_stepsOfMore_24 : decode cX3_stepsOfMore 24 = .ok (.iload_n 3, 1) := by decide +kernel
theorem dX3_stepsOfMore_25 : decode cX3_stepsOfMore 25 = .ok (.invokestatic 32, 3) := by decide +kernel
theorem dX3_stepsOfMore_28 : decode cX3_stepsOfMore 28 = .ok (.goto 7, 3) := by decide +kernel
theorem dX3_stepsOfMore_31 : decode cX3_stepsOfMore 31 = .ok (.iload_n 3, 1) := by decide +kernel
theorem dX3_stepsOfMore_32 : decode cX3_stepsOfMore 32 = .ok (.invokestatic 35, 3) := by decide +kernel
theorem dX3_stepsOfMore_35 : decode cX3_stepsOfMore 35 = .ok (.istore_n 3, 1) := by decide +kernel
theorem dX3_stepsOfMore_36 : decode cX3_stepsOfMore 36 = .ok (.iinc 2 1, 3) := by decide +kernel
theorem dX3_stepsOfMore_39 : decode cX3_stepsOfMore 39 = .ok (.iload 4, 2) := by decide +kernel
theorem dX3_stepsOfMore_41 : decode cX3_stepsOfMore 41 = .ok (.iconst 1, 1) := by decide +kernel
theorem dX3_stepsOfMore_42 : decode cX3_stepsOfMore 42 = .ok (.isub, 1) := by decide +kernel
theorem dX3_stepsOfMore_43 : decode cX3_stepsOfMore 43 = .ok (.iconst 2, 1) := by decide +kernel
theorem dX3_stepsOfMore_44 : decode cX3_stepsOfMore 44 = .ok (.idiv, 1) := by decide +kernel
theorem dX3_stepsOfMore_45 : decode cX3_stepsOfMore 45 = .ok (.istore 4, 2) := by decide +kernel
theorem dX3_stepsOfMore_47 : decode cX3_stepsOfMore 47 = .ok (.goto (-40), 3) := by decide +kernel
theorem dX3_stepsOfMore_50 : decode cX3_stepsOfMore 50 = .ok (.iload_n 2, 1) := by decide +kernel
theorem dX3_stepsOfMore_51 : decode cX3_stepsOfMore 51 = .ok (.ireturn, 1) := by decide +kernel
theorem dX4_init_0 : decode cX4_init 0 = .ok (.aload_n 0, 1) := by decide +kernel
theorem dX4_init_1 : decode cX4_init 1 = .ok (.invokespecial 3, 3) := by decide +kernel
theorem dX4_init_4 : decode cX4_init 4 = .ok (.aload_n 0, 1) := by decide +kernel
theorem dX4_init_5 : decode cX4_init 5 = .ok (.sipush 200, 3) := by decide +kernel
theorem dX4_init_8 : decode cX4_init 8 = .ok (.newarray .int, 2) := by decide +kernel
theorem dX4_init_10 : decode cX4_init 10 = .ok (.putfield 11, 3) := by decide +kernel
theorem dX4_init_13 : decode cX4_init 13 = .ok (.aload_n 0, 1) := by decide +kernel
theorem dX4_init_14 : decode cX4_init 14 = .ok (.iconst 0, 1) := by decide +kernel
theorem dX4_init_15 : decode cX4_init 15 = .ok (.putfield 15, 3) := by decide +kernel
theorem dX4_init_18 : decode cX4_init 18 = .ok (.return_, 1) := by decide +kernel
theorem dX5_init_0 : decode cX5_init 0 = .ok (.aload_n 0, 1) := by decide +kernel
theorem dX5_init_1 : decode cX5_init 1 = .ok (.invokespecial 3, 3) := by decide +kernel
theorem dX5_init_4 : decode cX5_init 4 = .ok (.aload_n 0, 1) := by decide +kernel
theorem dX5_init_5 : decode cX5_init 5 = .ok (.sipush 255, 3) := by decide +kernel
theorem dX5_init_8 : decode cX5_init 8 = .ok (.newarray .int, 2) := by decide +kernel
theorem dX5_init_10 : decode cX5_init 10 = .ok (.putfield 9, 3) := by decide +kernel
theorem dX5_init_13 : decode cX5_init 13 = .ok (.aload_n 0, 1) := by decide +kernel
theorem dX5_init_14 : decode cX5_init 14 = .ok (.iconst 0, 1) := by decide +kernel
theorem dX5_init_15 : decode cX5_init 15 = .ok (.putfield 15, 3) := by decide +kernel
theorem dX5_init_18 : decode cX5_init 18 = .ok (.return_, 1) := by decide +kernel
theorem dX5_clear_0 : decode cX5_clear 0 = .ok (.aload_n 0, 1) := by decide +kernel
theorem dX5_clear_1 : decode cX5_clear 1 = .ok (.getfield 9, 3) := by decide +kernel
theorem dX5_clear_4 : decode cX5_clear 4 = .ok (.iconst 0, 1) := by decide +kernel
theorem dX5_clear_5 : decode cX5_clear 5 = .ok (.invokestatic 19, 3) := by decide +kernel
theorem dX5_clear_8 : decode cX5_clear 8 = .ok (.aload_n 0, 1) := by decide +kernel
theorem dX5_clear_9 : decode cX5_clear 9 = .ok (.iconst 0, 1) := by decide +kernel
theorem dX5_clear_10 : decode cX5_clear 10 = .ok (.putfield 15, 3) := by decide +kernel
theorem dX5_clear_13 : decode cX5_clear 13 = .ok (.return_, 1) := by decide +kernel
theorem dX5_mark_0 : decode cX5_mark 0 = .ok (.iload_n 1, 1) := by decide +kernel
theorem dX5_mark_1 : decode cX5_mark 1 = .ok (.istore_n 2, 1) := by decide +kernel
theorem dX5_mark_2 : decode cX5_mark 2 = .ok (.iconst 0, 1) := by decide +kernel
theorem dX5_mark_3 : decode cX5_mark 3 = .ok (.istore_n 3, 1) := by decide +kernel
theorem dX5_mark_4 : decode cX5_mark 4 = .ok (.iload_n 3, 1) := by decide +kernel
theorem dX5_mark_5 : decode cX5_mark 5 = .ok (.bipush 8, 2) := by decide +kernel
theorem dX5_mark_7 : decode cX5_mark 7 = .ok (.if_icmp .ge 51, 3) := by decide +kernel
theorem dX5_mark_10 : decode cX5_mark 10 = .ok (.iload_n 2, 1) := by decide +kernel
theorem dX5_mark_11 : decode cX5_mark 11 = .ok (.ifCond .lt 47, 3) := by decide +kernel
theorem dX5_mark_14 : decode cX5_mark 14 = .ok (.iload_n 2, 1) := by decide +kernel
theorem dX5_mark_15 : decode cX5_mark 15 = .ok (.sipush 255, 3) := by decide +kernel
theorem dX5_mark_18 : decode cX5_mark 18 = .ok (.if_icmp .ge 40, 3) := by decide +kernel
theorem dX5_mark_21 : decode cX5_mark 21 = .ok (.aload_n 0, 1) := by decide +kernel
theorem dX5_mark_22 : decode cX5_mark 22 = .ok (.getfield 9, 3) := by decide +kernel
theorem dX5_mark_25 : decode cX5_mark 25 = .ok (.iload_n 2, 1) := by decide +kernel
theorem dX5_mark_26 : decode cX5_mark 26 = .ok (.iaload, 1) := by decide +kernel
theorem dX5_mark_27 : decode cX5_mark 27 = .ok (.ifCond .ne 31, 3) := by decide +kernel
theorem dX5_mark_30 : decode cX5_mark 30 = .ok (.aload_n 0, 1) := by decide +kernel
theorem dX5_mark_31 : decode cX5_mark 31 = .ok (.getfield 9, 3) := by decide +kernel
theorem dX5_mark_34 : decode cX5_mark 34 = .ok (.iload_n 2, 1) := by decide +kernel
theorem dX5_mark_35 : decode cX5_mark 35 = .ok (.iconst 1, 1) := by decide +kernel
theorem dX5_mark_36 : decode cX5_mark 36 = .ok (.iastore, 1) := by decide +kernel
theorem dX5_mark_37 : decode cX5_mark 37 = .ok (.aload_n 0, 1) := by decide +kernel
theorem dX5_mark_38 : decode cX5_mark 38 = .ok (.dup, 1) := by decide +kernel
theorem dX5_mark_39 : decode cX5_mark 39 = .ok (.getfield 15, 3) := by decide +kernel
theorem dX5_mark_42 : decode cX5_mark 42 = .ok (.iconst 1, 1) := by decide +kernel
theorem dX5_mark_43 : decode cX5_mark 43 = .ok (.iadd, 1) := by decide +kernel
theorem dX5_mark_44 : decode cX5_mark 44 = .ok (.putfield 15, 3) := by decide +kernel
theorem dX5_mark_47 : decode cX5_mark 47 = .ok (.iload_n 2, 1) := by decide +kernel
theorem dX5_mark_48 : decode cX5_mark 48 = .ok (.invokestatic 25, 3) := by decide +kernel
theorem dX5_mark_51 : decode cX5_mark 51 = .ok (.istore_n 2, 1) := by decide +kernel
theorem dX5_mark_52 : decode cX5_mark 52 = .ok (.iinc 3 1, 3) := by decide +kernel
theorem dX5_mark_55 : decode cX5_mark 55 = .ok (.goto (-51), 3) := by decide +kernel
theorem dX5_mark_58 : decode cX5_mark 58 = .ok (.return_, 1) := by decide +kernel
theorem dX5_has_0 : decode cX5_has 0 = .ok (.iload_n 1, 1) := by decide +kernel
theorem dX5_has_1 : decode cX5_has 1 = .ok (.ifCond .lt 23, 3) := by decide +kernel
theorem dX5_has_4 : decode cX5_has 4 = .ok (.iload_n 1, 1) := by decide +kernel
theorem dX5_has_5 : decode cX5_has 5 = .ok (.sipush 255, 3) := by decide +kernel
theorem dX5_has_8 : decode cX5_has 8 = .ok (.if_icmp .ge 16, 3) := by decide +kernel
theorem dX5_has_11 : decode cX5_has 11 = .ok (.aload_n 0, 1) := by decide +kernel
theorem dX5_has_12 : decode cX5_has 12 = .ok (.getfield 9, 3) := by decide +kernel
theorem dX5_has_15 : decode cX5_has 15 = .ok (.iload_n 1, 1) := by decide +kernel
theorem dX5_has_16 : decode cX5_has 16 = .ok (.iaload, 1) := by decide +kernel
theorem dX5_has_17 : decode cX5_has 17 = .ok (.ifCond .eq 7, 3) := by decide +kernel
theorem dX5_has_20 : decode cX5_has 20 = .ok (.iconst 1, 1) := by decide +kernel
theorem dX5_has_21 : decode cX5_has 21 = .ok (.goto 4, 3) := by decide +kernel
theorem dX5_has_24 : decode cX5_has 24 = .ok (.iconst 0, 1) := by decide +kernel
theorem dX5_has_25 : decode cX5_has 25 = .ok (.ireturn, 1) := by decide +kernel
theorem dX6_init_0 : decode cX6_init 0 = .ok (.aload_n 0, 1) := by decide +kernel
theorem dX6_init_1 : decode cX6_init 1 = .ok (.invokespecial 3, 3) := by decide +kernel
theorem dX6_init_4 : decode cX6_init 4 = .ok (.aload_n 0, 1) := by decide +kernel
theorem dX6_init_5 : decode cX6_init 5 = .ok (.iconst (-1), 1) := by decide +kernel
theorem dX6_init_6 : decode cX6_init 6 = .ok (.putfield 9, 3) := by decide +kernel
theorem dX6_init_9 : decode cX6_init 9 = .ok (.aload_n 0, 1) := by decide +kernel
theorem dX6_init_10 : decode cX6_init 10 = .ok (.iconst (-1), 1) := by decide +kernel
theorem dX6_init_11 : decode cX6_init 11 = .ok (.putfield 15, 3) := by decide +kernel
theorem dX6_init_14 : decode cX6_init 14 = .ok (.aload_n 0, 1) := by decide +kernel
theorem dX6_init_15 : decode cX6_init 15 = .ok (.iconst 0, 1) := by decide +kernel
theorem dX6_init_16 : decode cX6_init 16 = .ok (.putfield 18, 3) := by decide +kernel
theorem dX6_init_19 : decode cX6_init 19 = .ok (.return_, 1) := by decide +kernel
theorem dX7_init_0 : decode cX7_init 0 = .ok (.aload_n 0, 1) := by decide +kernel
theorem dX7_init_1 : decode cX7_init 1 = .ok (.invokespecial 1, 3) := by decide +kernel
theorem dX7_init_4 : decode cX7_init 4 = .ok (.aload_n 0, 1) := by decide +kernel
theorem dX7_init_5 : decode cX7_init 5 = .ok (.new 7, 3) := by decide +kernel
theorem dX7_init_8 : decode cX7_init 8 = .ok (.dup, 1) := by decide +kernel
theorem dX7_init_9 : decode cX7_init 9 = .ok (.invokespecial 9, 3) := by decide +kernel
theorem dX7_init_12 : decode cX7_init 12 = .ok (.putfield 10, 3) := by decide +kernel
theorem dX7_init_15 : decode cX7_init 15 = .ok (.aload_n 0, 1) := by decide +kernel
theorem dX7_init_16 : decode cX7_init 16 = .ok (.new 16, 3) := by decide +kernel
theorem dX7_init_19 : decode cX7_init 19 = .ok (.dup, 1) := by decide +kernel
theorem dX7_init_20 : decode cX7_init 20 = .ok (.invokespecial 18, 3) := by decide +kernel
theorem dX7_init_23 : decode cX7_init 23 = .ok (.putfield 19, 3) := by decide +kernel
theorem dX7_init_26 : decode cX7_init 26 = .ok (.aload_n 0, 1) := by decide +kernel
theorem dX7_init_27 : decode cX7_init 27 = .ok (.new 23, 3) := by decide +kernel
theorem dX7_init_30 : decode cX7_init 30 = .ok (.dup, 1) := by decide +kernel
theorem dX7_init_31 : decode cX7_init 31 = .ok (.invokespecial 25, 3) := by decide +kernel
theorem dX7_init_34 : decode cX7_init 34 = .ok (.putfield 26, 3) := by decide +kernel
theorem dX7_init_37 : decode cX7_init 37 = .ok (.aload_n 0, 1) := by decide +kernel
theorem dX7_init_38 : decode cX7_init 38 = .ok (.aload_n 0, 1) := by decide +kernel
theorem dX7_init_39 : decode cX7_init 39 = .ok (.getfield 26, 3) := by decide +kernel
theorem dX7_init_42 : decode cX7_init 42 = .ok (.getfield 30, 3) := by decide +kernel
theorem dX7_init_45 : decode cX7_init 45 = .ok (.putfield 34, 3) := by decide +kernel
theorem dX7_init_48 : decode cX7_init 48 = .ok (.aload_n 0, 1) := by decide +kernel
theorem dX7_init_49 : decode cX7_init 49 = .ok (.new 35, 3) := by decide +kernel
theorem dX7_init_52 : decode cX7_init 52 = .ok (.dup, 1) := by decide +kernel
theorem dX7_init_53 : decode cX7_init 53 = .ok (.invokespecial 37, 3) := by decide +kernel
theorem dX7_init_56 : decode cX7_init 56 = .ok (.putfield 38, 3) := by decide +kernel
theorem dX7_init_59 : decode cX7_init 59 = .ok (.aload_n 0, 1) := by decide +kernel
theorem dX7_init_60 : decode cX7_init 60 = .ok (.new 42, 3) := by decide +kernel
theorem dX7_init_63 : decode cX7_init 63 = .ok (.dup, 1) := by decide +kernel
theorem dX7_init_64 : decode cX7_init 64 = .ok (.invokespecial 44, 3) := by decide +kernel
theorem dX7_init_67 : decode cX7_init 67 = .ok (.putfield 45, 3) := by decide +kernel
theorem dX7_init_70 : decode cX7_init 70 = .ok (.aload_n 0, 1) := by decide +kernel
theorem dX7_init_71 : decode cX7_init 71 = .ok (.bipush 6, 2) := by decide +kernel
theorem dX7_init_73 : decode cX7_init 73 = .ok (.newarray .int, 2) := by decide +kernel
theorem dX7_init_75 : decode cX7_init 75 = .ok (.putfield 49, 3) := by decide +kernel
theorem dX7_init_78 : decode cX7_init 78 = .ok (.aload_n 0, 1) := by decide +kernel
theorem dX7_init_79 : decode cX7_init 79 = .ok (.bipush 6, 2) := by decide +kernel
theorem dX7_init_81 : decode cX7_init 81 = .ok (.newarray .int, 2) := by decide +kernel
theorem dX7_init_83 : decode cX7_init 83 = .ok (.putfield 53, 3) := by decide +kernel
theorem dX7_init_86 : decode cX7_init 86 = .ok (.aload_n 0, 1) := by decide +kernel
theorem dX7_init_87 : decode cX7_init 87 = .ok (.sipush 256, 3) := by decide +kernel
theorem dX7_init_90 : decode cX7_init 90 = .ok (.newarray .int, 2) := by decide +kernel
theorem dX7_init_92 : decode cX7_init 92 = .ok (.putfield 56, 3) := by decide +kernel
theorem dX7_init_95 : decode cX7_init 95 = .ok (.aload_n 0, 1) := by decide +kernel
theorem dX7_init_96 : decode cX7_init 96 = .ok (.sipush 256, 3) := by decide +kernel
theorem dX7_init_99 : decode cX7_init 99 = .ok (.newarray .int, 2) := by decide +kernel
theorem dX7_init_101 : decode cX7_init 101 = .ok (.putfield 59, 3) := by decide +kernel
theorem dX7_init_104 : decode cX7_init 104 = .ok (.aload_n 0, 1) := by decide +kernel
theorem dX7_init_105 : decode cX7_init 105 = .ok (.sipush 256, 3) := by decide +kernel
theorem dX7_init_108 : decode cX7_init 108 = .ok (.newarray .int, 2) := by decide +kernel
theorem dX7_init_110 : decode cX7_init 110 = .ok (.putfield 62, 3) := by decide +kernel
theorem dX7_init_113 : decode cX7_init 113 = .ok (.aload_n 0, 1) := by decide +kernel
theorem dX7_init_114 : decode cX7_init 114 = .ok (.sipush 1999, 3) := by decide +kernel
theorem dX7_init_117 : decode cX7_init 117 = .ok (.newarray .int, 2) := by decide +kernel
theorem dX7_init_119 : decode cX7_init 119 = .ok (.putfield 65, 3) := by decide +kernel
theorem dX7_init_122 : decode cX7_init 122 = .ok (.return_, 1) := by decide +kernel
theorem dX7_fills_0 : decode cX7_fills 0 = .ok (.iload_n 1, 1) := by decide +kernel
theorem dX7_fills_1 : decode cX7_fills 1 = .ok (.ifCond .lt 24, 3) := by decide +kernel
theorem dX7_fills_4 : decode cX7_fills 4 = .ok (.iload_n 1, 1) := by decide +kernel
theorem dX7_fills_5 : decode cX7_fills 5 = .ok (.sipush 255, 3) := by decide +kernel
theorem dX7_fills_8 : decode cX7_fills 8 = .ok (.if_icmp .gt 17, 3) := by decide +kernel
theorem dX7_fills_11 : decode cX7_fills 11 = .ok (.iload_n 2, 1) := by decide +kernel
theorem dX7_fills_12 : decode cX7_fills 12 = .ok (.invokestatic 117, 3) := by decide +kernel
theorem dX7_fills_15 : decode cX7_fills 15 = .ok (.ifCond .eq 10, 3) := by decide +kernel
theorem dX7_fills_18 : decode cX7_fills 18 = .ok (.iload_n 3, 1) := by decide +kernel
theorem dX7_fills_19 : decode cX7_fills 19 = .ok (.invokestatic 86, 3) := by decide +kernel
theorem dX7_fills_22 : decode cX7_fills 22 = .ok (.ifCond .ne 5, 3) := by decide +kernel
theorem dX7_fills_25 : decode cX7_fills 25 = .ok (.iconst (-1), 1) := by decide +kernel
theorem dX7_fills_26 : decode cX7_fills 26 = .ok (.ireturn, 1) := by decide +kernel
theorem dX7_fills_27 : decode cX7_fills 27 = .ok (.aload_n 0, 1) := by decide +kernel
theorem dX7_fills_28 : decode cX7_fills 28 = .ok (.invokevirtual 120, 3) := by decide +kernel
theorem dX7_fills_31 : decode cX7_fills 31 = .ok (.istore 4, 2) := by decide +kernel
theorem dX7_fills_33 : decode cX7_fills 33 = .ok (.aload_n 0, 1) := by decide +kernel
theorem dX7_fills_34 : decode cX7_fills 34 = .ok (.iload_n 3, 1) := by decide +kernel
theorem dX7_fills_35 : decode cX7_fills 35 = .ok (.aload_n 0, 1) := by decide +kernel
theorem dX7_fills_36 : decode cX7_fills 36 = .ok (.getfield 10, 3) := by decide +kernel
theorem dX7_fills_39 : decode cX7_fills 39 = .ok (.iload_n 1, 1) := by decide +kernel
theorem dX7_fills_40 : decode cX7_fills 40 = .ok (.iload_n 2, 1) := by decide +kernel
theorem dX7_fills_41 : decode cX7_fills 41 = .ok (.invokevirtual 123, 3) := by decide +kernel
theorem dX7_fills_44 : decode cX7_fills 44 = .ok (.iload_n 1, 1) := by decide +kernel
theorem dX7_fills_45 : decode cX7_fills 45 = .ok (.invokevirtual 126, 3) := by decide +kernel
theorem dX7_fills_48 : decode cX7_fills 48 = .ok (.pop, 1) := by decide +kernel
theorem dX7_fills_49 : decode cX7_fills 49 = .ok (.aload_n 0, 1) := by decide +kernel
theorem dX7_fills_50 : decode cX7_fills 50 = .ok (.getfield 10, 3) := by decide +kernel
theorem dX7_fills_53 : decode cX7_fills 53 = .ok (.getfield 130, 3) := by decide +kernel
theorem dX7_fills_56 : decode cX7_fills 56 = .ok (.iload 4, 2) := by decide +kernel
theorem dX7_fills_58 : decode cX7_fills 58 = .ok (.isub, 1) := by decide +kernel
theorem dX7_fills_59 : decode cX7_fills 59 = .ok (.ireturn, 1) := by decide +kernel
theorem dX7_sides_0 : decode cX7_sides 0 = .ok (.iload_n 1, 1) := by decide +kernel
theorem dX7_sides_1 : decode cX7_sides 1 = .ok (.invokestatic 86, 3) := by decide +kernel
theorem dX7_sides_4 : decode cX7_sides 4 = .ok (.ifCond .eq 19, 3) := by decide +kernel
theorem dX7_sides_7 : decode cX7_sides 7 = .ok (.iload_n 3, 1) := by decide +kernel
theorem dX7_sides_8 : decode cX7_sides 8 = .ok (.invokestatic 86, 3) := by decide +kernel
theorem dX7_sides_11 : decode cX7_sides 11 = .ok (.ifCond .eq 12, 3) := by decide +kernel
theorem dX7_sides_14 : decode cX7_sides 14 = .ok (.iload_n 2, 1) := by decide +kernel
theorem dX7_sides_15 : decode cX7_sides 15 = .ok (.ifCond .lt 8, 3) := by decide +kernel
theorem dX7_sides_18 : decode cX7_sides 18 = .ok (.iload_n 2, 1) := by decide +kernel
theorem dX7_sides_19 : decode cX7_sides 19 = .ok (.iconst 1, 1) := by decide +kernel
theorem dX7_sides_20 : decode cX7_sides 20 = .ok (.if_icmp .le 5, 3) := by decide +kernel
theorem dX7_sides_23 : decode cX7_sides 23 = .ok (.iconst (-1), 1) := by decide +kernel
theorem dX7_sides_24 : decode cX7_sides 24 = .ok (.ireturn, 1) := by decide +kernel
theorem dX7_sides_25 : decode cX7_sides 25 = .ok (.iload_n 2, 1) := by decide +kernel
theorem dX7_sides_26 : decode cX7_sides 26 = .ok (.ifCond .ne 15, 3) := by decide +kernel
theorem dX7_sides_29 : decode cX7_sides 29 = .ok (.aload_n 0, 1) := by decide +kernel
theorem dX7_sides_30 : decode cX7_sides 30 = .ok (.getfield 53, 3) := by decide +kernel
theorem dX7_sides_33 : decode cX7_sides 33 = .ok (.iload_n 1, 1) := by decide +kernel
theorem dX7_sides_34 : decode cX7_sides 34 = .ok (.iaload, 1) := by decide +kernel
theorem dX7_sides_35 : decode cX7_sides 35 = .ok (.invokestatic 133, 3) := by decide +kernel
theorem dX7_sides_38 : decode cX7_sides 38 = .ok (.goto 12, 3) := by decide +kernel
theorem dX7_sides_41 : decode cX7_sides 41 = .ok (.aload_n 0, 1) := by decide +kernel
theorem dX7_sides_42 : decode cX7_sides 42 = .ok (.getfield 53, 3) := by decide +kernel
theorem dX7_sides_45 : decode cX7_sides 45 = .ok (.iload_n 1, 1) := by decide +kernel
theorem dX7_sides_46 : decode cX7_sides 46 = .ok (.iaload, 1) := by decide +kernel
theorem dX7_sides_47 : decode cX7_sides 47 = .ok (.invokestatic 138, 3) := by decide +kernel
theorem dX7_sides_50 : decode cX7_sides 50 = .ok (.istore 4, 2) := by decide +kernel
theorem dX7_sides_52 : decode cX7_sides 52 = .ok (.iload 4, 2) := by decide +kernel
theorem dX7_sides_54 : decode cX7_sides 54 = .ok (.ifCond .ne 6, 3) := by decide +kernel
theorem dX7_sides_57 : decode cX7_sides 57 = .ok (.bipush (-2), 2) := by decide +kernel
theorem dX7_sides_59 : decode cX7_sides 59 = .ok (.ireturn, 1) := by decide +kernel
theorem dX7_sides_60 : decode cX7_sides 60 = .ok (.aload_n 0, 1) := by decide +kernel
theorem dX7_sides_61 : decode cX7_sides 61 = .ok (.iload_n 3, 1) := by decide +kernel
theorem dX7_sides_62 : decode cX7_sides 62 = .ok (.iload_n 2, 1) := by decide +kernel
theorem dX7_sides_63 : decode cX7_sides 63 = .ok (.ifCond .ne 19, 3) := by decide +kernel
theorem dX7_sides_66 : decode cX7_sides 66 = .ok (.aload_n 0, 1) := by decide +kernel
theorem dX7_sides_67 : decode cX7_sides 67 = .ok (.getfield 10, 3) := by decide +kernel
theorem dX7_sides_70 : decode cX7_sides 70 = .ok (.aload_n 0, 1) := by decide +kernel
theorem dX7_sides_71 : decode cX7_sides 71 = .ok (.getfield 49, 3) := by decide +kernel
theorem dX7_sides_74 : decode cX7_sides 74 = .ok (.iload_n 1, 1) := by decide +kernel
theorem dX7_sides_75 : decode cX7_sides 75 = .ok (.iaload, 1) := by decide +kernel
theorem dX7_sides_76 : decode cX7_sides 76 = .ok (.invokevirtual 141, 3) := by decide +kernel
theorem dX7_sides_79 : decode cX7_sides 79 = .ok (.goto 16, 3) := by decide +kernel
theorem dX7_sides_82 : decode cX7_sides 82 = .ok (.aload_n 0, 1) := by decide +kernel
theorem dX7_sides_83 : decode cX7_sides 83 = .ok (.getfield 10, 3) := by decide +kernel
theorem dX7_sides_86 : decode cX7_sides 86 = .ok (.aload_n 0, 1) := by decide +kernel
theorem dX7_sides_87 : decode cX7_sides 87 = .ok (.getfield 49, 3) := by decide +kernel
theorem dX7_sides_90 : decode cX7_sides 90 = .ok (.iload_n 1, 1) := by decide +kernel
theorem dX7_sides_91 : decode cX7_sides 91 = .ok (.iaload, 1) := by decide +kernel
theorem dX7_sides_92 : decode cX7_sides 92 = .ok (.invokevirtual 144, 3) := by decide +kernel
theorem dX7_sides_95 : decode cX7_sides 95 = .ok (.iload 4, 2) := by decide +kernel
theorem dX7_sides_97 : decode cX7_sides 97 = .ok (.invokevirtual 126, 3) := by decide +kernel
theorem dX7_sides_100 : decode cX7_sides 100 = .ok (.ireturn, 1) := by decide +kernel
theorem dX7_size_0 : decode cX7_size 0 = .ok (.iload_n 1, 1) := by decide +kernel
theorem dX7_size_1 : decode cX7_size 1 = .ok (.invokestatic 86, 3) := by decide +kernel
theorem dX7_size_4 : decode cX7_size 4 = .ok (.ifCond .ne 5, 3) := by decide +kernel
theorem dX7_size_7 : decode cX7_size 7 = .ok (.iconst (-1), 1) := by decide +kernel
theorem dX7_size_8 : decode cX7_size 8 = .ok (.ireturn, 1) := by decide +kernel
theorem dX7_size_9 : decode cX7_size 9 = .ok (.aload_n 0, 1) := by decide +kernel
theorem dX7_size_10 : decode cX7_size 10 = .ok (.getfield 53, 3) := by decide +kernel
theorem dX7_size_13 : decode cX7_size 13 = .ok (.iload_n 1, 1) := by decide +kernel
theorem dX7_size_14 : decode cX7_size 14 = .ok (.iaload, 1) := by decide +kernel
theorem dX7_size_15 : decode cX7_size 15 = .ok (.istore_n 2, 1) := by decide +kernel
theorem dX7_size_16 : decode cX7_size 16 = .ok (.aload_n 0, 1) := by decide +kernel
theorem dX7_size_17 : decode cX7_size 17 = .ok (.getfield 19, 3) := by decide +kernel
theorem dX7_size_20 : decode cX7_size 20 = .ok (.iload_n 2, 1) := by decide +kernel
theorem dX7_size_21 : decode cX7_size 21 = .ok (.invokestatic 154, 3) := by decide +kernel
theorem dX7_size_24 : decode cX7_size 24 = .ok (.i2l, 1) := by decide +kernel
theorem dX7_size_25 : decode cX7_size 25 = .ok (.iload_n 2, 1) := by decide +kernel
theorem dX7_size_26 : decode cX7_size 26 = .ok (.ifCond .ne 9, 3) := by decide +kernel
theorem dX7_size_29 : decode cX7_size 29 = .ok (.ldc2_w 157, 3) := by decide +kernel
theorem dX7_size_32 : decode cX7_size 32 = .ok (.goto 10, 3) := by decide +kernel
theorem dX7_size_35 : decode cX7_size 35 = .ok (.iload_n 2, 1) := by decide +kernel
theorem dX7_size_36 : decode cX7_size 36 = .ok (.iconst 1, 1) := by decide +kernel
theorem dX7_size_37 : decode cX7_size 37 = .ok (.isub, 1) := by decide +kernel
theorem dX7_size_38 : decode cX7_size 38 = .ok (.invokestatic 159, 3) := by decide +kernel
theorem dX7_size_41 : decode cX7_size 41 = .ok (.i2l, 1) := by decide +kernel
theorem dX7_size_42 : decode cX7_size 42 = .ok (.invokevirtual 162, 3) := by decide +kernel
theorem dX7_size_45 : decode cX7_size 45 = .ok (.iload_n 2, 1) := by decide +kernel
theorem dX7_size_46 : decode cX7_size 46 = .ok (.ireturn, 1) := by decide +kernel
theorem dX7_get_0 : decode cX7_get 0 = .ok (.aload_n 0, 1) := by decide +kernel
theorem dX7_get_1 : decode cX7_get 1 = .ok (.iload_n 1, 1) := by decide +kernel
theorem dX7_get_2 : decode cX7_get 2 = .ok (.iload_n 2, 1) := by decide +kernel
theorem dX7_get_3 : decode cX7_get 3 = .ok (.invokevirtual 165, 3) := by decide +kernel
theorem dX7_get_6 : decode cX7_get 6 = .ok (.ifCond .ne 7, 3) := by decide +kernel
theorem dX7_get_9 : decode cX7_get 9 = .ok (.sipush (-1000), 3) := by decide +kernel
theorem dX7_get_12 : decode cX7_get 12 = .ok (.ireturn, 1) := by decide +kernel
theorem dX7_get_13 : decode cX7_get 13 = .ok (.aload_n 0, 1) := by decide +kernel
theorem dX7_get_14 : decode cX7_get 14 = .ok (.getfield 10, 3) := by decide +kernel
theorem dX7_get_17 : decode cX7_get 17 = .ok (.aload_n 0, 1) := by decide +kernel
theorem dX7_get_18 : decode cX7_get 18 = .ok (.getfield 49, 3) := by decide +kernel
theorem dX7_get_21 : decode cX7_get 21 = .ok (.iload_n 1, 1) := by decide +kernel
theorem dX7_get_22 : decode cX7_get 22 = .ok (.iaload, 1) := by decide +kernel
theorem dX7_get_23 : decode cX7_get 23 = .ok (.iload_n 2, 1) := by decide +kernel
theorem dX7_get_24 : decode cX7_get 24 = .ok (.invokevirtual 168, 3) := by decide +kernel
theorem dX7_get_27 : decode cX7_get 27 = .ok (.ireturn, 1) := by decide +kernel
theorem dX7_sets_0 : decode cX7_sets 0 = .ok (.aload_n 0, 1) := by decide +kernel
theorem dX7_sets_1 : decode cX7_sets 1 = .ok (.iload_n 1, 1) := by decide +kernel
theorem dX7_sets_2 : decode cX7_sets 2 = .ok (.iload_n 2, 1) := by decide +kernel
theorem dX7_sets_3 : decode cX7_sets 3 = .ok (.invokevirtual 165, 3) := by decide +kernel
theorem dX7_sets_6 : decode cX7_sets 6 = .ok (.ifCond .eq 18, 3) := by decide +kernel
theorem dX7_sets_9 : decode cX7_sets 9 = .ok (.iload_n 3, 1) := by decide +kernel
theorem dX7_sets_10 : decode cX7_sets 10 = .ok (.invokestatic 117, 3) := by decide +kernel
theorem dX7_sets_13 : decode cX7_sets 13 = .ok (.ifCond .eq 11, 3) := by decide +kernel
theorem dX7_sets_16 : decode cX7_sets 16 = .ok (.iload 4, 2) := by decide +kernel
theorem dX7_sets_18 : decode cX7_sets 18 = .ok (.invokestatic 86, 3) := by decide +kernel
theorem dX7_sets_21 : decode cX7_sets 21 = .ok (.ifCond .ne 5, 3) := by decide +kernel
theorem dX7_sets_24 : decode cX7_sets 24 = .ok (.iconst (-1), 1) := by decide +kernel
theorem dX7_sets_25 : decode cX7_sets 25 = .ok (.ireturn, 1) := by decide +kernel
theorem dX7_sets_26 : decode cX7_sets 26 = .ok (.aload_n 0, 1) := by decide +kernel
theorem dX7_sets_27 : decode cX7_sets 27 = .ok (.iload_n 1, 1) := by decide +kernel
theorem dX7_sets_28 : decode cX7_sets 28 = .ok (.iload_n 1, 1) := by decide +kernel
theorem dX7_sets_29 : decode cX7_sets 29 = .ok (.invokevirtual 177, 3) := by decide +kernel
theorem dX7_sets_32 : decode cX7_sets 32 = .ok (.aload_n 0, 1) := by decide +kernel
theorem dX7_sets_33 : decode cX7_sets 33 = .ok (.getfield 56, 3) := by decide +kernel
theorem dX7_sets_36 : decode cX7_sets 36 = .ok (.iload_n 2, 1) := by decide +kernel
theorem dX7_sets_37 : decode cX7_sets 37 = .ok (.iload_n 3, 1) := by decide +kernel
theorem dX7_sets_38 : decode cX7_sets 38 = .ok (.iastore, 1) := by decide +kernel
theorem dX7_sets_39 : decode cX7_sets 39 = .ok (.aload_n 0, 1) := by decide +kernel
theorem dX7_sets_40 : decode cX7_sets 40 = .ok (.aload_n 0, 1) := by decide +kernel
theorem dX7_sets_41 : decode cX7_sets 41 = .ok (.getfield 53, 3) := by decide +kernel
theorem dX7_sets_44 : decode cX7_sets 44 = .ok (.iload_n 1, 1) := by decide +kernel
theorem dX7_sets_45 : decode cX7_sets 45 = .ok (.iaload, 1) := by decide +kernel
theorem dX7_sets_46 : decode cX7_sets 46 = .ok (.invokevirtual 181, 3) := by decide +kernel
theorem dX7_sets_49 : decode cX7_sets 49 = .ok (.pop, 1) := by decide +kernel
theorem dX7_sets_50 : decode cX7_sets 50 = .ok (.aload_n 0, 1) := by decide +kernel
theorem dX7_sets_51 : decode cX7_sets 51 = .ok (.iload_n 1, 1) := by decide +kernel
theorem dX7_sets_52 : decode cX7_sets 52 = .ok (.iload 4, 2) := by decide +kernel
theorem dX7_sets_54 : decode cX7_sets 54 = .ok (.invokevirtual 184, 3) := by decide +kernel
theorem dX7_sets_57 : decode cX7_sets 57 = .ok (.ireturn, 1) := by decide +kernel
theorem dX7_front_0 : decode cX7_front 0 = .ok (.aload_n 0, 1) := by decide +kernel
theorem dX7_front_1 : decode cX7_front 1 = .ok (.iload_n 1, 1) := by decide +kernel
theorem dX7_front_2 : decode cX7_front 2 = .ok (.iload_n 2, 1) := by decide +kernel
theorem dX7_front_3 : decode cX7_front 3 = .ok (.iload_n 3, 1) := by decide +kernel
theorem dX7_front_4 : decode cX7_front 4 = .ok (.iconst 0, 1) := by decide +kernel
theorem dX7_front_5 : decode cX7_front 5 = .ok (.invokevirtual 187, 3) := by decide +kernel
theorem dX7_front_8 : decode cX7_front 8 = .ok (.ireturn, 1) := by decide +kernel
theorem dX7_back_0 : decode cX7_back 0 = .ok (.aload_n 0, 1) := by decide +kernel
theorem dX7_back_1 : decode cX7_back 1 = .ok (.iload_n 1, 1) := by decide +kernel
theorem dX7_back_2 : decode cX7_back 2 = .ok (.iload_n 2, 1) := by decide +kernel
theorem dX7_back_3 : decode cX7_back 3 = .ok (.iload_n 3, 1) := by decide +kernel
theorem dX7_back_4 : decode cX7_back 4 = .ok (.iconst 1, 1) := by decide +kernel
theorem dX7_back_5 : decode cX7_back 5 = .ok (.invokevirtual 187, 3) := by decide +kernel
theorem dX7_back_8 : decode cX7_back 8 = .ok (.ireturn, 1) := by decide +kernel
theorem dX7_first_0 : decode cX7_first 0 = .ok (.iload_n 1, 1) := by decide +kernel
theorem dX7_first_1 : decode cX7_first 1 = .ok (.invokestatic 86, 3) := by decide +kernel
theorem dX7_first_4 : decode cX7_first 4 = .ok (.ifCond .eq 10, 3) := by decide +kernel
theorem dX7_first_7 : decode cX7_first 7 = .ok (.iload_n 2, 1) := by decide +kernel
theorem dX7_first_8 : decode cX7_first 8 = .ok (.invokestatic 86, 3) := by decide +kernel
theorem dX7_first_11 : decode cX7_first 11 = .ok (.ifCond .ne 5, 3) := by decide +kernel
theorem dX7_first_14 : decode cX7_first 14 = .ok (.iconst (-1), 1) := by decide +kernel
theorem dX7_first_15 : decode cX7_first 15 = .ok (.ireturn, 1) := by decide +kernel
theorem dX7_first_16 : decode cX7_first 16 = .ok (.aload_n 0, 1) := by decide +kernel
theorem dX7_first_17 : decode cX7_first 17 = .ok (.getfield 53, 3) := by decide +kernel
theorem dX7_first_20 : decode cX7_first 20 = .ok (.iload_n 1, 1) := by decide +kernel
theorem dX7_first_21 : decode cX7_first 21 = .ok (.iaload, 1) := by decide +kernel
theorem dX7_first_22 : decode cX7_first 22 = .ok (.ifCond .ne 8, 3) := by decide +kernel
theorem dX7_first_25 : decode cX7_first 25 = .ok (.bipush (-2), 2) := by decide +kernel
theorem dX7_first_27 : decode cX7_first 27 = .ok (.goto 11, 3) := by decide +kernel
theorem dX7_first_30 : decode cX7_first 30 = .ok (.aload_n 0, 1) := by decide +kernel
theorem dX7_first_31 : decode cX7_first 31 = .ok (.iload_n 1, 1) := by decide +kernel
theorem dX7_first_32 : decode cX7_first 32 = .ok (.iconst 0, 1) := by decide +kernel
theorem dX7_first_33 : decode cX7_first 33 = .ok (.iload_n 2, 1) := by decide +kernel
theorem dX7_first_34 : decode cX7_first 34 = .ok (.iconst 2, 1) := by decide +kernel
theorem dX7_first_35 : decode cX7_first 35 = .ok (.invokevirtual 191, 3) := by decide +kernel
theorem dX7_first_38 : decode cX7_first 38 = .ok (.ireturn, 1) := by decide +kernel
theorem dX7_last_0 : decode cX7_last 0 = .ok (.iload_n 1, 1) := by decide +kernel
theorem dX7_last_1 : decode cX7_last 1 = .ok (.invokestatic 86, 3) := by decide +kernel
theorem dX7_last_4 : decode cX7_last 4 = .ok (.ifCond .eq 10, 3) := by decide +kernel
theorem dX7_last_7 : decode cX7_last 7 = .ok (.iload_n 2, 1) := by decide +kernel
theorem dX7_last_8 : decode cX7_last 8 = .ok (.invokestatic 86, 3) := by decide +kernel
theorem dX7_last_11 : decode cX7_last 11 = .ok (.ifCond .ne 5, 3) := by decide +kernel
theorem dX7_last_14 : decode cX7_last 14 = .ok (.iconst (-1), 1) := by decide +kernel
theorem dX7_last_15 : decode cX7_last 15 = .ok (.ireturn, 1) := by decide +kernel
theorem dX7_last_16 : decode cX7_last 16 = .ok (.aload_n 0, 1) := by decide +kernel
theorem dX7_last_17 : decode cX7_last 17 = .ok (.getfield 53, 3) := by decide +kernel
theorem dX7_last_20 : decode cX7_last 20 = .ok (.iload_n 1, 1) := by decide +kernel
theorem dX7_last_21 : decode cX7_last 21 = .ok (.iaload, 1) := by decide +kernel
theorem dX7_last_22 : decode cX7_last 22 = .ok (.ifCond .ne 8, 3) := by decide +kernel
theorem dX7_last_25 : decode cX7_last 25 = .ok (.bipush (-2), 2) := by decide +kernel
theorem dX7_last_27 : decode cX7_last 27 = .ok (.goto 18, 3) := by decide +kernel
theorem dX7_last_30 : decode cX7_last 30 = .ok (.aload_n 0, 1) := by decide +kernel
theorem dX7_last_31 : decode cX7_last 31 = .ok (.iload_n 1, 1) := by decide +kernel
theorem dX7_last_32 : decode cX7_last 32 = .ok (.aload_n 0, 1) := by decide +kernel
theorem dX7_last_33 : decode cX7_last 33 = .ok (.getfield 53, 3) := by decide +kernel
theorem dX7_last_36 : decode cX7_last 36 = .ok (.iload_n 1, 1) := by decide +kernel
theorem dX7_last_37 : decode cX7_last 37 = .ok (.iaload, 1) := by decide +kernel
theorem dX7_last_38 : decode cX7_last 38 = .ok (.iconst 1, 1) := by decide +kernel
theorem dX7_last_39 : decode cX7_last 39 = .ok (.isub, 1) := by decide +kernel
theorem dX7_last_40 : decode cX7_last 40 = .ok (.iload_n 2, 1) := by decide +kernel
theorem dX7_last_41 : decode cX7_last 41 = .ok (.iconst 3, 1) := by decide +kernel
theorem dX7_last_42 : decode cX7_last 42 = .ok (.invokevirtual 191, 3) := by decide +kernel
theorem dX7_last_45 : decode cX7_last 45 = .ok (.ireturn, 1) := by decide +kernel
theorem dX7_adds_0 : decode cX7_adds 0 = .ok (.aload_n 0, 1) := by decide +kernel
theorem dX7_adds_1 : decode cX7_adds 1 = .ok (.iload_n 1, 1) := by decide +kernel
theorem dX7_adds_2 : decode cX7_adds 2 = .ok (.iload_n 2, 1) := by decide +kernel
theorem dX7_adds_3 : decode cX7_adds 3 = .ok (.iload_n 3, 1) := by decide +kernel
theorem dX7_adds_4 : decode cX7_adds 4 = .ok (.invokevirtual 194, 3) := by decide +kernel
theorem dX7_adds_7 : decode cX7_adds 7 = .ok (.ifCond .eq 27, 3) := by decide +kernel
theorem dX7_adds_10 : decode cX7_adds 10 = .ok (.iload 4, 2) := by decide +kernel
theorem dX7_adds_12 : decode cX7_adds 12 = .ok (.sipush (-999), 3) := by decide +kernel
theorem dX7_adds_15 : decode cX7_adds 15 = .ok (.if_icmp .lt 19, 3) := by decide +kernel
theorem dX7_adds_18 : decode cX7_adds 18 = .ok (.iload 4, 2) := by decide +kernel
theorem dX7_adds_20 : decode cX7_adds 20 = .ok (.sipush 999, 3) := by decide +kernel
theorem dX7_adds_23 : decode cX7_adds 23 = .ok (.if_icmp .gt 11, 3) := by decide +kernel
theorem dX7_adds_26 : decode cX7_adds 26 = .ok (.iload 5, 2) := by decide +kernel
theorem dX7_adds_28 : decode cX7_adds 28 = .ok (.invokestatic 86, 3) := by decide +kernel
theorem dX7_adds_31 : decode cX7_adds 31 = .ok (.ifCond .ne 5, 3) := by decide +kernel
theorem dX7_adds_34 : decode cX7_adds 34 = .ok (.iconst (-1), 1) := by decide +kernel
theorem dX7_adds_35 : decode cX7_adds 35 = .ok (.ireturn, 1) := by decide +kernel
theorem dX7_adds_36 : decode cX7_adds 36 = .ok (.aload_n 0, 1) := by decide +kernel
theorem dX7_adds_37 : decode cX7_adds 37 = .ok (.getfield 45, 3) := by decide +kernel
theorem dX7_adds_40 : decode cX7_adds 40 = .ok (.invokevirtual 198, 3) := by decide +kernel
theorem dX7_adds_43 : decode cX7_adds 43 = .ok (.aload_n 0, 1) := by decide +kernel
theorem dX7_adds_44 : decode cX7_adds 44 = .ok (.getfield 10, 3) := by decide +kernel
theorem dX7_adds_47 : decode cX7_adds 47 = .ok (.aload_n 0, 1) := by decide +kernel
theorem dX7_adds_48 : decode cX7_adds 48 = .ok (.getfield 49, 3) := by decide +kernel
theorem dX7_adds_51 : decode cX7_adds 51 = .ok (.iload_n 1, 1) := by decide +kernel
theorem dX7_adds_52 : decode cX7_adds 52 = .ok (.iaload, 1) := by decide +kernel
theorem dX7_adds_53 : decode cX7_adds 53 = .ok (.aload_n 0, 1) := by decide +kernel
theorem dX7_adds_54 : decode cX7_adds 54 = .ok (.getfield 53, 3) := by decide +kernel
theorem dX7_adds_57 : decode cX7_adds 57 = .ok (.iload_n 1, 1) := by decide +kernel
theorem dX7_adds_58 : decode cX7_adds 58 = .ok (.iaload, 1) := by decide +kernel
theorem dX7_adds_59 : decode cX7_adds 59 = .ok (.aload_n 0, 1) := by decide +kernel
theorem dX7_adds_60 : decode cX7_adds 60 = .ok (.getfield 56, 3) := by decide +kernel
theorem dX7_adds_63 : decode cX7_adds 63 = .ok (.invokevirtual 201, 3) := by decide +kernel
theorem dX7_adds_66 : decode cX7_adds 66 = .ok (.iload_n 2, 1) := by decide +kernel
theorem dX7_adds_67 : decode cX7_adds 67 = .ok (.istore 6, 2) := by decide +kernel
theorem dX7_adds_69 : decode cX7_adds 69 = .ok (.iload 6, 2) := by decide +kernel
theorem dX7_adds_71 : decode cX7_adds 71 = .ok (.iload_n 3, 1) := by decide +kernel
theorem dX7_adds_72 : decode cX7_adds 72 = .ok (.if_icmp .ge 43, 3) := by decide +kernel
theorem dX7_adds_75 : decode cX7_adds 75 = .ok (.iload 4, 2) := by decide +kernel
theorem dX7_adds_77 : decode cX7_adds 77 = .ok (.ifCond .eq 38, 3) := by decide +kernel
theorem dX7_adds_80 : decode cX7_adds 80 = .ok (.aload_n 0, 1) := by decide +kernel
theorem dX7_adds_81 : decode cX7_adds 81 = .ok (.getfield 56, 3) := by decide +kernel
theorem dX7_adds_84 : decode cX7_adds 84 = .ok (.iload 6, 2) := by decide +kernel
theorem dX7_adds_86 : decode cX7_adds 86 = .ok (.aload_n 0, 1) := by decide +kernel
theorem dX7_adds_87 : decode cX7_adds 87 = .ok (.getfield 56, 3) := by decide +kernel
theorem dX7_adds_90 : decode cX7_adds 90 = .ok (.iload 6, 2) := by decide +kernel
theorem dX7_adds_92 : decode cX7_adds 92 = .ok (.iaload, 1) := by decide +kernel
theorem dX7_adds_93 : decode cX7_adds 93 = .ok (.iload 4, 2) := by decide +kernel
theorem dX7_adds_95 : decode cX7_adds 95 = .ok (.iadd, 1) := by decide +kernel
theorem dX7_adds_96 : decode cX7_adds 96 = .ok (.invokestatic 205, 3) := by decide +kernel
theorem dX7_adds_99 : decode cX7_adds 99 = .ok (.iastore, 1) := by decide +kernel
theorem dX7_adds_100 : decode cX7_adds 100 = .ok (.aload_n 0, 1) := by decide +kernel
theorem dX7_adds_101 : decode cX7_adds 101 = .ok (.getfield 45, 3) := by decide +kernel
theorem dX7_adds_104 : decode cX7_adds 104 = .ok (.iload 6, 2) := by decide +kernel
theorem dX7_adds_106 : decode cX7_adds 106 = .ok (.invokevirtual 208, 3) := by decide +kernel
theorem dX7_adds_109 : decode cX7_adds 109 = .ok (.iinc 6 1, 3) := by decide +kernel
theorem dX7_adds_112 : decode cX7_adds 112 = .ok (.goto (-43), 3) := by decide +kernel
theorem dX7_adds_115 : decode cX7_adds 115 = .ok (.aload_n 0, 1) := by decide +kernel
theorem dX7_adds_116 : decode cX7_adds 116 = .ok (.iload_n 1, 1) := by decide +kernel
theorem dX7_adds_117 : decode cX7_adds 117 = .ok (.iload 5, 2) := by decide +kernel
theorem dX7_adds_119 : decode cX7_adds 119 = .ok (.invokevirtual 184, 3) := by decide +kernel
theorem dX7_adds_122 : decode cX7_adds 122 = .ok (.ireturn, 1) := by decide +kernel
theorem dX7_appends_0 : decode cX7_appends 0 = .ok (.iload_n 1, 1) := by decide +kernel
theorem dX7_appends_1 : decode cX7_appends 1 = .ok (.invokestatic 86, 3) := by decide +kernel
theorem dX7_appends_4 : decode cX7_appends 4 = .ok (.ifCond .eq 17, 3) := by decide +kernel
theorem dX7_appends_7 : decode cX7_appends 7 = .ok (.iload_n 2, 1) := by decide +kernel
theorem dX7_appends_8 : decode cX7_appends 8 = .ok (.invokestatic 86, 3) := by decide +kernel
theorem dX7_appends_11 : decode cX7_appends 11 = .ok (.ifCond .eq 10, 3) := by decide +kernel
theorem dX7_appends_14 : decode cX7_appends 14 = .ok (.iload_n 3, 1) := by decide +kernel
theorem dX7_appends_15 : decode cX7_appends 15 = .ok (.invokestatic 86, 3) := by decide +kernel
theorem dX7_appends_18 : decode cX7_appends 18 = .ok (.ifCond .ne 5, 3) := by decide +kernel
theorem dX7_appends_21 : decode cX7_appends 21 = .ok (.iconst (-1), 1) := by decide +kernel
theorem dX7_appends_22 : decode cX7_appends 22 = .ok (.ireturn, 1) := by decide +kernel
theorem dX7_appends_23 : decode cX7_appends 23 = .ok (.aload_n 0, 1) := by decide +kernel
theorem dX7_appends_24 : decode cX7_appends 24 = .ok (.getfield 53, 3) := by decide +kernel
theorem dX7_appends_27 : decode cX7_appends 27 = .ok (.iload_n 1, 1) := by decide +kernel
theorem dX7_appends_28 : decode cX7_appends 28 = .ok (.iaload, 1) := by decide +kernel
theorem dX7_appends_29 : decode cX7_appends 29 = .ok (.aload_n 0, 1) := by decide +kernel
theorem dX7_appends_30 : decode cX7_appends 30 = .ok (.getfield 53, 3) := by decide +kernel
theorem dX7_appends_33 : decode cX7_appends 33 = .ok (.iload_n 2, 1) := by decide +kernel
theorem dX7_appends_34 : decode cX7_appends 34 = .ok (.iaload, 1) := by decide +kernel
theorem dX7_appends_35 : decode cX7_appends 35 = .ok (.iadd, 1) := by decide +kernel
theorem dX7_appends_36 : decode cX7_appends 36 = .ok (.istore 4, 2) := by decide +kernel
theorem dX7_appends_38 : decode cX7_appends 38 = .ok (.iload 4, 2) := by decide +kernel
theorem dX7_appends_40 : decode cX7_appends 40 = .ok (.sipush 255, 3) := by decide +kernel
theorem dX7_appends_43 : decode cX7_appends 43 = .ok (.if_icmp .le 6, 3) := by decide +kernel
theorem dX7_appends_46 : decode cX7_appends 46 = .ok (.bipush (-2), 2) := by decide +kernel
theorem dX7_appends_48 : decode cX7_appends 48 = .ok (.ireturn, 1) := by decide +kernel
theorem dX7_appends_49 : decode cX7_appends 49 = .ok (.aload_n 0, 1) := by decide +kernel
theorem dX7_appends_50 : decode cX7_appends 50 = .ok (.invokevirtual 120, 3) := by decide +kernel
theorem dX7_appends_53 : decode cX7_appends 53 = .ok (.istore 5, 2) := by decide +kernel
theorem dX7_appends_55 : decode cX7_appends 55 = .ok (.aload_n 0, 1) := by decide +kernel
theorem dX7_appends_56 : decode cX7_appends 56 = .ok (.getfield 10, 3) := by decide +kernel
theorem dX7_appends_59 : decode cX7_appends 59 = .ok (.aload_n 0, 1) := by decide +kernel
theorem dX7_appends_60 : decode cX7_appends 60 = .ok (.getfield 49, 3) := by decide +kernel
theorem dX7_appends_63 : decode cX7_appends 63 = .ok (.iload_n 2, 1) := by decide +kernel
theorem dX7_appends_64 : decode cX7_appends 64 = .ok (.iaload, 1) := by decide +kernel
theorem dX7_appends_65 : decode cX7_appends 65 = .ok (.aload_n 0, 1) := by decide +kernel
theorem dX7_appends_66 : decode cX7_appends 66 = .ok (.getfield 53, 3) := by decide +kernel
theorem dX7_appends_69 : decode cX7_appends 69 = .ok (.iload_n 2, 1) := by decide +kernel
theorem dX7_appends_70 : decode cX7_appends 70 = .ok (.iaload, 1) := by decide +kernel
theorem dX7_appends_71 : decode cX7_appends 71 = .ok (.aload_n 0, 1) := by decide +kernel
theorem dX7_appends_72 : decode cX7_appends 72 = .ok (.getfield 59, 3) := by decide +kernel
theorem dX7_appends_75 : decode cX7_appends 75 = .ok (.invokevirtual 201, 3) := by decide +kernel
theorem dX7_appends_78 : decode cX7_appends 78 = .ok (.aload_n 0, 1) := by decide +kernel
theorem dX7_appends_79 : decode cX7_appends 79 = .ok (.iload_n 3, 1) := by decide +kernel
theorem dX7_appends_80 : decode cX7_appends 80 = .ok (.aload_n 0, 1) := by decide +kernel
theorem dX7_appends_81 : decode cX7_appends 81 = .ok (.getfield 10, 3) := by decide +kernel
theorem dX7_appends_84 : decode cX7_appends 84 = .ok (.aload_n 0, 1) := by decide +kernel
theorem dX7_appends_85 : decode cX7_appends 85 = .ok (.getfield 49, 3) := by decide +kernel
theorem dX7_appends_88 : decode cX7_appends 88 = .ok (.iload_n 1, 1) := by decide +kernel
theorem dX7_appends_89 : decode cX7_appends 89 = .ok (.iaload, 1) := by decide +kernel
theorem dX7_appends_90 : decode cX7_appends 90 = .ok (.aload_n 0, 1) := by decide +kernel
theorem dX7_appends_91 : decode cX7_appends 91 = .ok (.getfield 53, 3) := by decide +kernel
theorem dX7_appends_94 : decode cX7_appends 94 = .ok (.iload_n 1, 1) := by decide +kernel
theorem dX7_appends_95 : decode cX7_appends 95 = .ok (.iaload, 1) := by decide +kernel
theorem dX7_appends_96 : decode cX7_appends 96 = .ok (.aload_n 0, 1) := by decide +kernel
theorem dX7_appends_97 : decode cX7_appends 97 = .ok (.getfield 59, 3) := by decide +kernel
theorem dX7_appends_100 : decode cX7_appends 100 = .ok (.aload_n 0, 1) := by decide +kernel
theorem dX7_appends_101 : decode cX7_appends 101 = .ok (.getfield 53, 3) := by decide +kernel
theorem dX7_appends_104 : decode cX7_appends 104 = .ok (.iload_n 2, 1) := by decide +kernel
theorem dX7_appends_105 : decode cX7_appends 105 = .ok (.iaload, 1) := by decide +kernel
theorem dX7_appends_106 : decode cX7_appends 106 = .ok (.iconst 1, 1) := by decide +kernel
theorem dX7_appends_107 : decode cX7_appends 107 = .ok (.invokevirtual 212, 3) := by decide +kernel
theorem dX7_appends_110 : decode cX7_appends 110 = .ok (.iload 4, 2) := by decide +kernel
theorem dX7_appends_112 : decode cX7_appends 112 = .ok (.invokevirtual 126, 3) := by decide +kernel
theorem dX7_appends_115 : decode cX7_appends 115 = .ok (.pop, 1) := by decide +kernel
theorem dX7_appends_116 : decode cX7_appends 116 = .ok (.aload_n 0, 1) := by decide +kernel
theorem dX7_appends_117 : decode cX7_appends 117 = .ok (.getfield 10, 3) := by decide +kernel
theorem dX7_appends_120 : decode cX7_appends 120 = .ok (.getfield 130, 3) := by decide +kernel
theorem dX7_appends_123 : decode cX7_appends 123 = .ok (.iload 5, 2) := by decide +kernel
theorem dX7_appends_125 : decode cX7_appends 125 = .ok (.isub, 1) := by decide +kernel
theorem dX7_appends_126 : decode cX7_appends 126 = .ok (.ireturn, 1) := by decide +kernel
theorem dX7_turned_0 : decode cX7_turned 0 = .ok (.iload_n 1, 1) := by decide +kernel
theorem dX7_turned_1 : decode cX7_turned 1 = .ok (.invokestatic 86, 3) := by decide +kernel
theorem dX7_turned_4 : decode cX7_turned 4 = .ok (.ifCond .eq 21, 3) := by decide +kernel
theorem dX7_turned_7 : decode cX7_turned 7 = .ok (.iload_n 3, 1) := by decide +kernel
theorem dX7_turned_8 : decode cX7_turned 8 = .ok (.invokestatic 86, 3) := by decide +kernel
theorem dX7_turned_11 : decode cX7_turned 11 = .ok (.ifCond .eq 14, 3) := by decide +kernel
theorem dX7_turned_14 : decode cX7_turned 14 = .ok (.iload_n 2, 1) := by decide +kernel
theorem dX7_turned_15 : decode cX7_turned 15 = .ok (.ifCond .lt 10, 3) := by decide +kernel
theorem dX7_turned_18 : decode cX7_turned 18 = .ok (.iload_n 2, 1) := by decide +kernel
theorem dX7_turned_19 : decode cX7_turned 19 = .ok (.sipush 255, 3) := by decide +kernel
theorem dX7_turned_22 : decode cX7_turned 22 = .ok (.if_icmp .le 5, 3) := by decide +kernel
theorem dX7_turned_25 : decode cX7_turned 25 = .ok (.iconst (-1), 1) := by decide +kernel
theorem dX7_turned_26 : decode cX7_turned 26 = .ok (.ireturn, 1) := by decide +kernel
theorem dX7_turned_27 : decode cX7_turned 27 = .ok (.aload_n 0, 1) := by decide +kernel
theorem dX7_turned_28 : decode cX7_turned 28 = .ok (.getfield 53, 3) := by decide +kernel
theorem dX7_turned_31 : decode cX7_turned 31 = .ok (.iload_n 1, 1) := by decide +kernel
theorem dX7_turned_32 : decode cX7_turned 32 = .ok (.iaload, 1) := by decide +kernel
theorem dX7_turned_33 : decode cX7_turned 33 = .ok (.istore 4, 2) := by decide +kernel
theorem dX7_turned_35 : decode cX7_turned 35 = .ok (.iload 4, 2) := by decide +kernel
theorem dX7_turned_37 : decode cX7_turned 37 = .ok (.ifCond .ne 6, 3) := by decide +kernel
theorem dX7_turned_40 : decode cX7_turned 40 = .ok (.bipush (-2), 2) := by decide +kernel
theorem dX7_turned_42 : decode cX7_turned 42 = .ok (.ireturn, 1) := by decide +kernel
theorem dX7_turned_43 : decode cX7_turned 43 = .ok (.aload_n 0, 1) := by decide +kernel
theorem dX7_turned_44 : decode cX7_turned 44 = .ok (.invokevirtual 120, 3) := by decide +kernel
theorem dX7_turned_47 : decode cX7_turned 47 = .ok (.istore 5, 2) := by decide +kernel
theorem dX7_turned_49 : decode cX7_turned 49 = .ok (.aload_n 0, 1) := by decide +kernel
theorem dX7_turned_50 : decode cX7_turned 50 = .ok (.getfield 49, 3) := by decide +kernel
theorem dX7_turned_53 : decode cX7_turned 53 = .ok (.iload_n 1, 1) := by decide +kernel
theorem dX7_turned_54 : decode cX7_turned 54 = .ok (.iaload, 1) := by decide +kernel
theorem dX7_turned_55 : decode cX7_turned 55 = .ok (.istore 6, 2) := by decide +kernel
theorem dX7_turned_57 : decode cX7_turned 57 = .ok (.iconst 0, 1) := by decide +kernel
theorem dX7_turned_58 : decode cX7_turned 58 = .ok (.istore 7, 2) := by decide +kernel
theorem dX7_turned_60 : decode cX7_turned 60 = .ok (.iload 7, 2) := by decide +kernel
theorem dX7_turned_62 : decode cX7_turned 62 = .ok (.iload_n 2, 1) := by decide +kernel
theorem dX7_turned_63 : decode cX7_turned 63 = .ok (.if_icmp .ge 48, 3) := by decide +kernel
theorem dX7_turned_66 : decode cX7_turned 66 = .ok (.aload_n 0, 1) := by decide +kernel
theorem dX7_turned_67 : decode cX7_turned 67 = .ok (.getfield 10, 3) := by decide +kernel
theorem dX7_turned_70 : decode cX7_turned 70 = .ok (.iload 6, 2) := by decide +kernel
theorem dX7_turned_72 : decode cX7_turned 72 = .ok (.invokevirtual 216, 3) := by decide +kernel
theorem dX7_turned_75 : decode cX7_turned 75 = .ok (.istore 8, 2) := by decide +kernel
theorem dX7_turned_77 : decode cX7_turned 77 = .ok (.aload_n 0, 1) := by decide +kernel
theorem dX7_turned_78 : decode cX7_turned 78 = .ok (.getfield 10, 3) := by decide +kernel
theorem dX7_turned_81 : decode cX7_turned 81 = .ok (.iload 8, 2) := by decide +kernel
theorem dX7_turned_83 : decode cX7_turned 83 = .ok (.aload_n 0, 1) := by decide +kernel
theorem dX7_turned_84 : decode cX7_turned 84 = .ok (.getfield 10, 3) := by decide +kernel
theorem dX7_turned_87 : decode cX7_turned 87 = .ok (.iload 6, 2) := by decide +kernel
theorem dX7_turned_89 : decode cX7_turned 89 = .ok (.iload 4, 2) := by decide +kernel
theorem dX7_turned_91 : decode cX7_turned 91 = .ok (.iconst 2, 1) := by decide +kernel
theorem dX7_turned_92 : decode cX7_turned 92 = .ok (.invokevirtual 219, 3) := by decide +kernel
theorem dX7_turned_95 : decode cX7_turned 95 = .ok (.iload 4, 2) := by decide +kernel
theorem dX7_turned_97 : decode cX7_turned 97 = .ok (.iconst 1, 1) := by decide +kernel
theorem dX7_turned_98 : decode cX7_turned 98 = .ok (.isub, 1) := by decide +kernel
theorem dX7_turned_99 : decode cX7_turned 99 = .ok (.iconst 1, 1) := by decide +kernel
theorem dX7_turned_100 : decode cX7_turned 100 = .ok (.invokevirtual 222, 3) := by decide +kernel
theorem dX7_turned_103 : decode cX7_turned 103 = .ok (.istore 6, 2) := by decide +kernel
theorem dX7_turned_105 : decode cX7_turned 105 = .ok (.iinc 7 1, 3) := by decide +kernel
theorem dX7_turned_108 : decode cX7_turned 108 = .ok (.goto (-48), 3) := by decide +kernel
theorem dX7_turned_111 : decode cX7_turned 111 = .ok (.aload_n 0, 1) := by decide +kernel
theorem dX7_turned_112 : decode cX7_turned 112 = .ok (.iload_n 3, 1) := by decide +kernel
theorem dX7_turned_113 : decode cX7_turned 113 = .ok (.iload 6, 2) := by decide +kernel
theorem dX7_turned_115 : decode cX7_turned 115 = .ok (.iload 4, 2) := by decide +kernel
theorem dX7_turned_117 : decode cX7_turned 117 = .ok (.invokevirtual 126, 3) := by decide +kernel
theorem dX7_turned_120 : decode cX7_turned 120 = .ok (.pop, 1) := by decide +kernel
theorem dX7_turned_121 : decode cX7_turned 121 = .ok (.aload_n 0, 1) := by decide +kernel
theorem dX7_turned_122 : decode cX7_turned 122 = .ok (.getfield 10, 3) := by decide +kernel
theorem dX7_turned_125 : decode cX7_turned 125 = .ok (.getfield 130, 3) := by decide +kernel
theorem dX7_turned_128 : decode cX7_turned 128 = .ok (.iload 5, 2) := by decide +kernel
theorem dX7_turned_130 : decode cX7_turned 130 = .ok (.isub, 1) := by decide +kernel
theorem dX7_turned_131 : decode cX7_turned 131 = .ok (.ireturn, 1) := by decide +kernel
theorem dX7_keeps_0 : decode cX7_keeps 0 = .ok (.aload_n 0, 1) := by decide +kernel
theorem dX7_keeps_1 : decode cX7_keeps 1 = .ok (.iload_n 1, 1) := by decide +kernel
theorem dX7_keeps_2 : decode cX7_keeps 2 = .ok (.iconst 0, 1) := by decide +kernel
theorem dX7_keeps_3 : decode cX7_keeps 3 = .ok (.iload_n 2, 1) := by decide +kernel
theorem dX7_keeps_4 : decode cX7_keeps 4 = .ok (.invokevirtual 194, 3) := by decide +kernel
theorem dX7_keeps_7 : decode cX7_keeps 7 = .ok (.ifCond .eq 10, 3) := by decide +kernel
theorem dX7_keeps_10 : decode cX7_keeps 10 = .ok (.iload_n 3, 1) := by decide +kernel
theorem dX7_keeps_11 : decode cX7_keeps 11 = .ok (.invokestatic 86, 3) := by decide +kernel
theorem dX7_keeps_14 : decode cX7_keeps 14 = .ok (.ifCond .ne 5, 3) := by decide +kernel
theorem dX7_keeps_17 : decode cX7_keeps 17 = .ok (.iconst (-1), 1) := by decide +kernel
theorem dX7_keeps_18 : decode cX7_keeps 18 = .ok (.ireturn, 1) := by decide +kernel
theorem dX7_keeps_19 : decode cX7_keeps 19 = .ok (.aload_n 0, 1) := by decide +kernel
theorem dX7_keeps_20 : decode cX7_keeps 20 = .ok (.invokevirtual 120, 3) := by decide +kernel
theorem dX7_keeps_23 : decode cX7_keeps 23 = .ok (.istore 4, 2) := by decide +kernel
theorem dX7_keeps_25 : decode cX7_keeps 25 = .ok (.aload_n 0, 1) := by decide +kernel
theorem dX7_keeps_26 : decode cX7_keeps 26 = .ok (.iload_n 3, 1) := by decide +kernel
theorem dX7_keeps_27 : decode cX7_keeps 27 = .ok (.aload_n 0, 1) := by decide +kernel
theorem dX7_keeps_28 : decode cX7_keeps 28 = .ok (.getfield 10, 3) := by decide +kernel
theorem dX7_keeps_31 : decode cX7_keeps 31 = .ok (.aload_n 0, 1) := by decide +kernel
theorem dX7_keeps_32 : decode cX7_keeps 32 = .ok (.getfield 49, 3) := by decide +kernel
theorem dX7_keeps_35 : decode cX7_keeps 35 = .ok (.iload_n 1, 1) := by decide +kernel
theorem dX7_keeps_36 : decode cX7_keeps 36 = .ok (.iaload, 1) := by decide +kernel
theorem dX7_keeps_37 : decode cX7_keeps 37 = .ok (.aload_n 0, 1) := by decide +kernel
theorem dX7_keeps_38 : decode cX7_keeps 38 = .ok (.getfield 53, 3) := by decide +kernel
theorem dX7_keeps_41 : decode cX7_keeps 41 = .ok (.iload_n 1, 1) := by decide +kernel
theorem dX7_keeps_42 : decode cX7_keeps 42 = .ok (.iaload, 1) := by decide +kernel
theorem dX7_keeps_43 : decode cX7_keeps 43 = .ok (.aload_n 0, 1) := by decide +kernel
theorem dX7_keeps_44 : decode cX7_keeps 44 = .ok (.getfield 53, 3) := by decide +kernel
theorem dX7_keeps_47 : decode cX7_keeps 47 = .ok (.iload_n 1, 1) := by decide +kernel
theorem dX7_keeps_48 : decode cX7_keeps 48 = .ok (.iaload, 1) := by decide +kernel
theorem dX7_keeps_49 : decode cX7_keeps 49 = .ok (.iload_n 2, 1) := by decide +kernel
theorem dX7_keeps_50 : decode cX7_keeps 50 = .ok (.isub, 1) := by decide +kernel
theorem dX7_keeps_51 : decode cX7_keeps 51 = .ok (.iconst 3, 1) := by decide +kernel
theorem dX7_keeps_52 : decode cX7_keeps 52 = .ok (.invokevirtual 225, 3) := by decide +kernel
theorem dX7_keeps_55 : decode cX7_keeps 55 = .ok (.iload_n 2, 1) := by decide +kernel
theorem dX7_keeps_56 : decode cX7_keeps 56 = .ok (.invokevirtual 126, 3) := by decide +kernel
theorem dX7_keeps_59 : decode cX7_keeps 59 = .ok (.pop, 1) := by decide +kernel
theorem dX7_keeps_60 : decode cX7_keeps 60 = .ok (.aload_n 0, 1) := by decide +kernel
theorem dX7_keeps_61 : decode cX7_keeps 61 = .ok (.getfield 10, 3) := by decide +kernel
theorem dX7_keeps_64 : decode cX7_keeps 64 = .ok (.getfield 130, 3) := by decide +kernel
theorem dX7_keeps_67 : decode cX7_keeps 67 = .ok (.iload 4, 2) := by decide +kernel
theorem dX7_keeps_69 : decode cX7_keeps 69 = .ok (.isub, 1) := by decide +kernel
theorem dX7_keeps_70 : decode cX7_keeps 70 = .ok (.ireturn, 1) := by decide +kernel
theorem dX7_skips_0 : decode cX7_skips 0 = .ok (.aload_n 0, 1) := by decide +kernel
theorem dX7_skips_1 : decode cX7_skips 1 = .ok (.iload_n 1, 1) := by decide +kernel
theorem dX7_skips_2 : decode cX7_skips 2 = .ok (.iconst 0, 1) := by decide +kernel
theorem dX7_skips_3 : decode cX7_skips 3 = .ok (.iload_n 2, 1) := by decide +kernel
theorem dX7_skips_4 : decode cX7_skips 4 = .ok (.invokevirtual 194, 3) := by decide +kernel
theorem dX7_skips_7 : decode cX7_skips 7 = .ok (.ifCond .eq 10, 3) := by decide +kernel
theorem dX7_skips_10 : decode cX7_skips 10 = .ok (.iload_n 3, 1) := by decide +kernel
theorem dX7_skips_11 : decode cX7_skips 11 = .ok (.invokestatic 86, 3) := by decide +kernel
theorem dX7_skips_14 : decode cX7_skips 14 = .ok (.ifCond .ne 5, 3) := by decide +kernel
theorem dX7_skips_17 : decode cX7_skips 17 = .ok (.iconst (-1), 1) := by decide +kernel
theorem dX7_skips_18 : decode cX7_skips 18 = .ok (.ireturn, 1) := by decide +kernel
theorem dX7_skips_19 : decode cX7_skips 19 = .ok (.aload_n 0, 1) := by decide +kernel
theorem dX7_skips_20 : decode cX7_skips 20 = .ok (.invokevirtual 120, 3) := by decide +kernel
theorem dX7_skips_23 : decode cX7_skips 23 = .ok (.istore 4, 2) := by decide +kernel
theorem dX7_skips_25 : decode cX7_skips 25 = .ok (.aload_n 0, 1) := by decide +kernel
theorem dX7_skips_26 : decode cX7_skips 26 = .ok (.iload_n 3, 1) := by decide +kernel
theorem dX7_skips_27 : decode cX7_skips 27 = .ok (.aload_n 0, 1) := by decide +kernel
theorem dX7_skips_28 : decode cX7_skips 28 = .ok (.getfield 10, 3) := by decide +kernel
theorem dX7_skips_31 : decode cX7_skips 31 = .ok (.aload_n 0, 1) := by decide +kernel
theorem dX7_skips_32 : decode cX7_skips 32 = .ok (.getfield 49, 3) := by decide +kernel
theorem dX7_skips_35 : decode cX7_skips 35 = .ok (.iload_n 1, 1) := by decide +kernel
theorem dX7_skips_36 : decode cX7_skips 36 = .ok (.iaload, 1) := by decide +kernel
theorem dX7_skips_37 : decode cX7_skips 37 = .ok (.aload_n 0, 1) := by decide +kernel
theorem dX7_skips_38 : decode cX7_skips 38 = .ok (.getfield 53, 3) := by decide +kernel
theorem dX7_skips_41 : decode cX7_skips 41 = .ok (.iload_n 1, 1) := by decide +kernel
theorem dX7_skips_42 : decode cX7_skips 42 = .ok (.iaload, 1) := by decide +kernel
theorem dX7_skips_43 : decode cX7_skips 43 = .ok (.iload_n 2, 1) := by decide +kernel
theorem dX7_skips_44 : decode cX7_skips 44 = .ok (.iconst 2, 1) := by decide +kernel
theorem dX7_skips_45 : decode cX7_skips 45 = .ok (.invokevirtual 225, 3) := by decide +kernel
theorem dX7_skips_48 : decode cX7_skips 48 = .ok (.aload_n 0, 1) := by decide +kernel
theorem dX7_skips_49 : decode cX7_skips 49 = .ok (.getfield 53, 3) := by decide +kernel
theorem dX7_skips_52 : decode cX7_skips 52 = .ok (.iload_n 1, 1) := by decide +kernel
theorem dX7_skips_53 : decode cX7_skips 53 = .ok (.iaload, 1) := by decide +kernel
theorem dX7_skips_54 : decode cX7_skips 54 = .ok (.iload_n 2, 1) := by decide +kernel
theorem dX7_skips_55 : decode cX7_skips 55 = .ok (.isub, 1) := by decide +kernel
theorem dX7_skips_56 : decode cX7_skips 56 = .ok (.invokevirtual 126, 3) := by decide +kernel
theorem dX7_skips_59 : decode cX7_skips 59 = .ok (.pop, 1) := by decide +kernel
theorem dX7_skips_60 : decode cX7_skips 60 = .ok (.aload_n 0, 1) := by decide +kernel
theorem dX7_skips_61 : decode cX7_skips 61 = .ok (.getfield 10, 3) := by decide +kernel
theorem dX7_skips_64 : decode cX7_skips 64 = .ok (.getfield 130, 3) := by decide +kernel
theorem dX7_skips_67 : decode cX7_skips 67 = .ok (.iload 4, 2) := by decide +kernel
theorem dX7_skips_69 : decode cX7_skips 69 = .ok (.isub, 1) := by decide +kernel
theorem dX7_skips_70 : decode cX7_skips 70 = .ok (.ireturn, 1) := by decide +kernel
theorem dX7_heap_0 : decode cX7_heap 0 = .ok (.iload_n 1, 1) := by decide +kernel
theorem dX7_heap_1 : decode cX7_heap 1 = .ok (.invokestatic 86, 3) := by decide +kernel
theorem dX7_heap_4 : decode cX7_heap 4 = .ok (.ifCond .ne 5, 3) := by decide +kernel
theorem dX7_heap_7 : decode cX7_heap 7 = .ok (.iconst (-1), 1) := by decide +kernel
theorem dX7_heap_8 : decode cX7_heap 8 = .ok (.ireturn, 1) := by decide +kernel
theorem dX7_heap_9 : decode cX7_heap 9 = .ok (.aload_n 0, 1) := by decide +kernel
theorem dX7_heap_10 : decode cX7_heap 10 = .ok (.getfield 10, 3) := by decide +kernel
theorem dX7_heap_13 : decode cX7_heap 13 = .ok (.aload_n 0, 1) := by decide +kernel
theorem dX7_heap_14 : decode cX7_heap 14 = .ok (.getfield 49, 3) := by decide +kernel
theorem dX7_heap_17 : decode cX7_heap 17 = .ok (.iload_n 1, 1) := by decide +kernel
theorem dX7_heap_18 : decode cX7_heap 18 = .ok (.iaload, 1) := by decide +kernel
theorem dX7_heap_19 : decode cX7_heap 19 = .ok (.aload_n 0, 1) := by decide +kernel
theorem dX7_heap_20 : decode cX7_heap 20 = .ok (.getfield 53, 3) := by decide +kernel
theorem dX7_heap_23 : decode cX7_heap 23 = .ok (.iload_n 1, 1) := by decide +kernel
theorem dX7_heap_24 : decode cX7_heap 24 = .ok (.iaload, 1) := by decide +kernel
theorem dX7_heap_25 : decode cX7_heap 25 = .ok (.aload_n 0, 1) := by decide +kernel
theorem dX7_heap_26 : decode cX7_heap 26 = .ok (.getfield 56, 3) := by decide +kernel
theorem dX7_heap_29 : decode cX7_heap 29 = .ok (.invokevirtual 201, 3) := by decide +kernel
theorem dX7_heap_32 : decode cX7_heap 32 = .ok (.iconst (-1), 1) := by decide +kernel
theorem dX7_heap_33 : decode cX7_heap 33 = .ok (.istore_n 2, 1) := by decide +kernel
theorem dX7_heap_34 : decode cX7_heap 34 = .ok (.iconst 1, 1) := by decide +kernel
theorem dX7_heap_35 : decode cX7_heap 35 = .ok (.istore_n 3, 1) := by decide +kernel
theorem dX7_heap_36 : decode cX7_heap 36 = .ok (.iload_n 3, 1) := by decide +kernel
theorem dX7_heap_37 : decode cX7_heap 37 = .ok (.aload_n 0, 1) := by decide +kernel
theorem dX7_heap_38 : decode cX7_heap 38 = .ok (.getfield 53, 3) := by decide +kernel
theorem dX7_heap_41 : decode cX7_heap 41 = .ok (.iload_n 1, 1) := by decide +kernel
theorem dX7_heap_42 : decode cX7_heap 42 = .ok (.iaload, 1) := by decide +kernel
theorem dX7_heap_43 : decode cX7_heap 43 = .ok (.if_icmp .ge 34, 3) := by decide +kernel
theorem dX7_heap_46 : decode cX7_heap 46 = .ok (.iload_n 2, 1) := by decide +kernel
theorem dX7_heap_47 : decode cX7_heap 47 = .ok (.iconst (-1), 1) := by decide +kernel
theorem dX7_heap_48 : decode cX7_heap 48 = .ok (.if_icmp .ne 29, 3) := by decide +kernel
theorem dX7_heap_51 : decode cX7_heap 51 = .ok (.aload_n 0, 1) := by decide +kernel
theorem dX7_heap_52 : decode cX7_heap 52 = .ok (.getfield 56, 3) := by decide +kernel
theorem dX7_heap_55 : decode cX7_heap 55 = .ok (.iload_n 3, 1) := by decide +kernel
theorem dX7_heap_56 : decode cX7_heap 56 = .ok (.iaload, 1) := by decide +kernel
theorem dX7_heap_57 : decode cX7_heap 57 = .ok (.aload_n 0, 1) := by decide +kernel
theorem dX7_heap_58 : decode cX7_heap 58 = .ok (.getfield 56, 3) := by decide +kernel
theorem dX7_heap_61 : decode cX7_heap 61 = .ok (.iload_n 3, 1) := by decide +kernel
theorem dX7_heap_62 : decode cX7_heap 62 = .ok (.invokestatic 242, 3) := by decide +kernel
theorem dX7_heap_65 : decode cX7_heap 65 = .ok (.iaload, 1) := by decide +kernel
theorem dX7_heap_66 : decode cX7_heap 66 = .ok (.if_icmp .ge 5, 3) := by decide +kernel
theorem dX7_heap_69 : decode cX7_heap 69 = .ok (.iload_n 3, 1) := by decide +kernel
theorem dX7_heap_70 : decode cX7_heap 70 = .ok (.istore_n 2, 1) := by decide +kernel
theorem dX7_heap_71 : decode cX7_heap 71 = .ok (.iinc 3 1, 3) := by decide +kernel
theorem dX7_heap_74 : decode cX7_heap 74 = .ok (.goto (-38), 3) := by decide +kernel
theorem dX7_heap_77 : decode cX7_heap 77 = .ok (.aload_n 0, 1) := by decide +kernel
theorem dX7_heap_78 : decode cX7_heap 78 = .ok (.getfield 19, 3) := by decide +kernel
theorem dX7_heap_81 : decode cX7_heap 81 = .ok (.iload_n 2, 1) := by decide +kernel
theorem dX7_heap_82 : decode cX7_heap 82 = .ok (.i2l, 1) := by decide +kernel
theorem dX7_heap_83 : decode cX7_heap 83 = .ok (.invokevirtual 171, 3) := by decide +kernel
theorem dX7_heap_86 : decode cX7_heap 86 = .ok (.iload_n 2, 1) := by decide +kernel
theorem dX7_heap_87 : decode cX7_heap 87 = .ok (.iconst (-1), 1) := by decide +kernel
theorem dX7_heap_88 : decode cX7_heap 88 = .ok (.if_icmp .ne 7, 3) := by decide +kernel
theorem dX7_heap_91 : decode cX7_heap 91 = .ok (.iconst 1, 1) := by decide +kernel
theorem dX7_heap_92 : decode cX7_heap 92 = .ok (.goto 4, 3) := by decide +kernel
theorem dX7_heap_95 : decode cX7_heap 95 = .ok (.iconst 0, 1) := by decide +kernel
theorem dX7_heap_96 : decode cX7_heap 96 = .ok (.ireturn, 1) := by decide +kernel
theorem dX7_pop_0 : decode cX7_pop 0 = .ok (.iload_n 1, 1) := by decide +kernel
theorem dX7_pop_1 : decode cX7_pop 1 = .ok (.invokestatic 86, 3) := by decide +kernel
theorem dX7_pop_4 : decode cX7_pop 4 = .ok (.ifCond .eq 10, 3) := by decide +kernel
theorem dX7_pop_7 : decode cX7_pop 7 = .ok (.iload_n 2, 1) := by decide +kernel
theorem dX7_pop_8 : decode cX7_pop 8 = .ok (.invokestatic 86, 3) := by decide +kernel
theorem dX7_pop_11 : decode cX7_pop 11 = .ok (.ifCond .ne 5, 3) := by decide +kernel
theorem dX7_pop_14 : decode cX7_pop 14 = .ok (.iconst (-1), 1) := by decide +kernel
theorem dX7_pop_15 : decode cX7_pop 15 = .ok (.ireturn, 1) := by decide +kernel
theorem dX7_pop_16 : decode cX7_pop 16 = .ok (.aload_n 0, 1) := by decide +kernel
theorem dX7_pop_17 : decode cX7_pop 17 = .ok (.getfield 53, 3) := by decide +kernel
theorem dX7_pop_20 : decode cX7_pop 20 = .ok (.iload_n 1, 1) := by decide +kernel
theorem dX7_pop_21 : decode cX7_pop 21 = .ok (.iaload, 1) := by decide +kernel
theorem dX7_pop_22 : decode cX7_pop 22 = .ok (.istore_n 3, 1) := by decide +kernel
theorem dX7_pop_23 : decode cX7_pop 23 = .ok (.iload_n 3, 1) := by decide +kernel
theorem dX7_pop_24 : decode cX7_pop 24 = .ok (.ifCond .ne 6, 3) := by decide +kernel
theorem dX7_pop_27 : decode cX7_pop 27 = .ok (.bipush (-2), 2) := by decide +kernel
theorem dX7_pop_29 : decode cX7_pop 29 = .ok (.ireturn, 1) := by decide +kernel
theorem dX7_pop_30 : decode cX7_pop 30 = .ok (.aload_n 0, 1) := by decide +kernel
theorem dX7_pop_31 : decode cX7_pop 31 = .ok (.getfield 19, 3) := by decide +kernel
theorem dX7_pop_34 : decode cX7_pop 34 = .ok (.aload_n 0, 1) := by decide +kernel
theorem dX7_pop_35 : decode cX7_pop 35 = .ok (.getfield 10, 3) := by decide +kernel
theorem dX7_pop_38 : decode cX7_pop 38 = .ok (.aload_n 0, 1) := by decide +kernel
theorem dX7_pop_39 : decode cX7_pop 39 = .ok (.getfield 49, 3) := by decide +kernel
theorem dX7_pop_42 : decode cX7_pop 42 = .ok (.iload_n 1, 1) := by decide +kernel
theorem dX7_pop_43 : decode cX7_pop 43 = .ok (.iaload, 1) := by decide +kernel
theorem dX7_pop_44 : decode cX7_pop 44 = .ok (.invokevirtual 216, 3) := by decide +kernel
theorem dX7_pop_47 : decode cX7_pop 47 = .ok (.i2l, 1) := by decide +kernel
theorem dX7_pop_48 : decode cX7_pop 48 = .ok (.invokevirtual 171, 3) := by decide +kernel
theorem dX7_pop_51 : decode cX7_pop 51 = .ok (.aload_n 0, 1) := by decide +kernel
theorem dX7_pop_52 : decode cX7_pop 52 = .ok (.invokevirtual 120, 3) := by decide +kernel
theorem dX7_pop_55 : decode cX7_pop 55 = .ok (.istore 4, 2) := by decide +kernel
theorem dX7_pop_57 : decode cX7_pop 57 = .ok (.aload_n 0, 1) := by decide +kernel
theorem dX7_pop_58 : decode cX7_pop 58 = .ok (.iload_n 2, 1) := by decide +kernel
theorem dX7_pop_59 : decode cX7_pop 59 = .ok (.aload_n 0, 1) := by decide +kernel
theorem dX7_pop_60 : decode cX7_pop 60 = .ok (.getfield 10, 3) := by decide +kernel
theorem dX7_pop_63 : decode cX7_pop 63 = .ok (.aload_n 0, 1) := by decide +kernel
theorem dX7_pop_64 : decode cX7_pop 64 = .ok (.getfield 49, 3) := by decide +kernel
theorem dX7_pop_67 : decode cX7_pop 67 = .ok (.iload_n 1, 1) := by decide +kernel
theorem dX7_pop_68 : decode cX7_pop 68 = .ok (.iaload, 1) := by decide +kernel
theorem dX7_pop_69 : decode cX7_pop 69 = .ok (.iload_n 3, 1) := by decide +kernel
theorem dX7_pop_70 : decode cX7_pop 70 = .ok (.invokevirtual 245, 3) := by decide +kernel
theorem dX7_pop_73 : decode cX7_pop 73 = .ok (.iload_n 3, 1) := by decide +kernel
theorem dX7_pop_74 : decode cX7_pop 74 = .ok (.iconst 1, 1) := by decide +kernel
theorem dX7_pop_75 : decode cX7_pop 75 = .ok (.isub, 1) := by decide +kernel
theorem dX7_pop_76 : decode cX7_pop 76 = .ok (.invokevirtual 126, 3) := by decide +kernel
theorem dX7_pop_79 : decode cX7_pop 79 = .ok (.pop, 1) := by decide +kernel
theorem dX7_pop_80 : decode cX7_pop 80 = .ok (.aload_n 0, 1) := by decide +kernel
theorem dX7_pop_81 : decode cX7_pop 81 = .ok (.getfield 10, 3) := by decide +kernel
theorem dX7_pop_84 : decode cX7_pop 84 = .ok (.getfield 130, 3) := by decide +kernel
theorem dX7_pop_87 : decode cX7_pop 87 = .ok (.iload 4, 2) := by decide +kernel
theorem dX7_pop_89 : decode cX7_pop 89 = .ok (.isub, 1) := by decide +kernel
theorem dX7_pop_90 : decode cX7_pop 90 = .ok (.ireturn, 1) := by decide +kernel
theorem dX7_heaps_0 : decode cX7_heaps 0 = .ok (.iload_n 1, 1) := by decide +kernel
theorem dX7_heaps_1 : decode cX7_heaps 1 = .ok (.invokestatic 86, 3) := by decide +kernel
theorem dX7_heaps_4 : decode cX7_heaps 4 = .ok (.ifCond .eq 10, 3) := by decide +kernel
theorem dX7_heaps_7 : decode cX7_heaps 7 = .ok (.iload_n 2, 1) := by decide +kernel
theorem dX7_heaps_8 : decode cX7_heaps 8 = .ok (.invokestatic 86, 3) := by decide +kernel
theorem dX7_heaps_11 : decode cX7_heaps 11 = .ok (.ifCond .ne 5, 3) := by decide +kernel
theorem dX7_heaps_14 : decode cX7_heaps 14 = .ok (.iconst (-1), 1) := by decide +kernel
theorem dX7_heaps_15 : decode cX7_heaps 15 = .ok (.ireturn, 1) := by decide +kernel
theorem dX7_heaps_16 : decode cX7_heaps 16 = .ok (.aload_n 0, 1) := by decide +kernel
theorem dX7_heaps_17 : decode cX7_heaps 17 = .ok (.invokevirtual 120, 3) := by decide +kernel
theorem dX7_heaps_20 : decode cX7_heaps 20 = .ok (.istore_n 3, 1) := by decide +kernel
theorem dX7_heaps_21 : decode cX7_heaps 21 = .ok (.aload_n 0, 1) := by decide +kernel
theorem dX7_heaps_22 : decode cX7_heaps 22 = .ok (.getfield 10, 3) := by decide +kernel
theorem dX7_heaps_25 : decode cX7_heaps 25 = .ok (.aload_n 0, 1) := by decide +kernel
theorem dX7_heaps_26 : decode cX7_heaps 26 = .ok (.getfield 49, 3) := by decide +kernel
theorem dX7_heaps_29 : decode cX7_heaps 29 = .ok (.iload_n 1, 1) := by decide +kernel
theorem dX7_heaps_30 : decode cX7_heaps 30 = .ok (.iaload, 1) := by decide +kernel
theorem dX7_heaps_31 : decode cX7_heaps 31 = .ok (.aload_n 0, 1) := by decide +kernel
theorem dX7_heaps_32 : decode cX7_heaps 32 = .ok (.getfield 53, 3) := by decide +kernel
theorem dX7_heaps_35 : decode cX7_heaps 35 = .ok (.iload_n 1, 1) := by decide +kernel
theorem dX7_heaps_36 : decode cX7_heaps 36 = .ok (.iaload, 1) := by decide +kernel
theorem dX7_heaps_37 : decode cX7_heaps 37 = .ok (.aload_n 0, 1) := by decide +kernel
theorem dX7_heaps_38 : decode cX7_heaps 38 = .ok (.getfield 56, 3) := by decide +kernel
theorem dX7_heaps_41 : decode cX7_heaps 41 = .ok (.invokevirtual 201, 3) := by decide +kernel
theorem dX7_heaps_44 : decode cX7_heaps 44 = .ok (.aload_n 0, 1) := by decide +kernel
theorem dX7_heaps_45 : decode cX7_heaps 45 = .ok (.iload_n 2, 1) := by decide +kernel
theorem dX7_heaps_46 : decode cX7_heaps 46 = .ok (.aload_n 0, 1) := by decide +kernel
theorem dX7_heaps_47 : decode cX7_heaps 47 = .ok (.getfield 10, 3) := by decide +kernel
theorem dX7_heaps_50 : decode cX7_heaps 50 = .ok (.iconst 0, 1) := by decide +kernel
theorem dX7_heaps_51 : decode cX7_heaps 51 = .ok (.iconst 0, 1) := by decide +kernel
theorem dX7_heaps_52 : decode cX7_heaps 52 = .ok (.aload_n 0, 1) := by decide +kernel
theorem dX7_heaps_53 : decode cX7_heaps 53 = .ok (.getfield 56, 3) := by decide +kernel
theorem dX7_heaps_56 : decode cX7_heaps 56 = .ok (.aload_n 0, 1) := by decide +kernel
theorem dX7_heaps_57 : decode cX7_heaps 57 = .ok (.getfield 53, 3) := by decide +kernel
theorem dX7_heaps_60 : decode cX7_heaps 60 = .ok (.iload_n 1, 1) := by decide +kernel
theorem dX7_heaps_61 : decode cX7_heaps 61 = .ok (.iaload, 1) := by decide +kernel
theorem dX7_heaps_62 : decode cX7_heaps 62 = .ok (.iconst 4, 1) := by decide +kernel
theorem dX7_heaps_63 : decode cX7_heaps 63 = .ok (.invokevirtual 212, 3) := by decide +kernel
theorem dX7_heaps_66 : decode cX7_heaps 66 = .ok (.aload_n 0, 1) := by decide +kernel
theorem dX7_heaps_67 : decode cX7_heaps 67 = .ok (.getfield 53, 3) := by decide +kernel
theorem dX7_heaps_70 : decode cX7_heaps 70 = .ok (.iload_n 1, 1) := by decide +kernel
theorem dX7_heaps_71 : decode cX7_heaps 71 = .ok (.iaload, 1) := by decide +kernel
theorem dX7_heaps_72 : decode cX7_heaps 72 = .ok (.invokevirtual 126, 3) := by decide +kernel
theorem dX7_heaps_75 : decode cX7_heaps 75 = .ok (.pop, 1) := by decide +kernel
theorem dX7_heaps_76 : decode cX7_heaps 76 = .ok (.aload_n 0, 1) := by decide +kernel
theorem dX7_heaps_77 : decode cX7_heaps 77 = .ok (.getfield 10, 3) := by decide +kernel
theorem dX7_heaps_80 : decode cX7_heaps 80 = .ok (.getfield 130, 3) := by decide +kernel
theorem dX7_heaps_83 : decode cX7_heaps 83 = .ok (.iload_n 3, 1) := by decide +kernel
theorem dX7_heaps_84 : decode cX7_heaps 84 = .ok (.isub, 1) := by decide +kernel
theorem dX7_heaps_85 : decode cX7_heaps 85 = .ok (.ireturn, 1) := by decide +kernel
theorem dX7_sum_0 : decode cX7_sum 0 = .ok (.aload_n 0, 1) := by decide +kernel
theorem dX7_sum_1 : decode cX7_sum 1 = .ok (.iload_n 1, 1) := by decide +kernel
theorem dX7_sum_2 : decode cX7_sum 2 = .ok (.iload_n 2, 1) := by decide +kernel
theorem dX7_sum_3 : decode cX7_sum 3 = .ok (.iload_n 3, 1) := by decide +kernel
theorem dX7_sum_4 : decode cX7_sum 4 = .ok (.invokevirtual 194, 3) := by decide +kernel
theorem dX7_sum_7 : decode cX7_sum 7 = .ok (.ifCond .ne 6, 3) := by decide +kernel
theorem dX7_sum_10 : decode cX7_sum 10 = .ok (.ldc 252, 2) := by decide +kernel
theorem dX7_sum_12 : decode cX7_sum 12 = .ok (.ireturn, 1) := by decide +kernel
theorem dX7_sum_13 : decode cX7_sum 13 = .ok (.aload_n 0, 1) := by decide +kernel
theorem dX7_sum_14 : decode cX7_sum 14 = .ok (.getfield 10, 3) := by decide +kernel
theorem dX7_sum_17 : decode cX7_sum 17 = .ok (.aload_n 0, 1) := by decide +kernel
theorem dX7_sum_18 : decode cX7_sum 18 = .ok (.getfield 49, 3) := by decide +kernel
theorem dX7_sum_21 : decode cX7_sum 21 = .ok (.iload_n 1, 1) := by decide +kernel
theorem dX7_sum_22 : decode cX7_sum 22 = .ok (.iaload, 1) := by decide +kernel
theorem dX7_sum_23 : decode cX7_sum 23 = .ok (.aload_n 0, 1) := by decide +kernel
theorem dX7_sum_24 : decode cX7_sum 24 = .ok (.getfield 53, 3) := by decide +kernel
theorem dX7_sum_27 : decode cX7_sum 27 = .ok (.iload_n 1, 1) := by decide +kernel
theorem dX7_sum_28 : decode cX7_sum 28 = .ok (.iaload, 1) := by decide +kernel
theorem dX7_sum_29 : decode cX7_sum 29 = .ok (.aload_n 0, 1) := by decide +kernel
theorem dX7_sum_30 : decode cX7_sum 30 = .ok (.getfield 56, 3) := by decide +kernel
theorem dX7_sum_33 : decode cX7_sum 33 = .ok (.invokevirtual 201, 3) := by decide +kernel
theorem dX7_sum_36 : decode cX7_sum 36 = .ok (.aload_n 0, 1) := by decide +kernel
theorem dX7_sum_37 : decode cX7_sum 37 = .ok (.getfield 19, 3) := by decide +kernel
theorem dX7_sum_40 : decode cX7_sum 40 = .ok (.invokevirtual 248, 3) := by decide +kernel
theorem dX7_sum_43 : decode cX7_sum 43 = .ok (.iload_n 2, 1) := by decide +kernel
theorem dX7_sum_44 : decode cX7_sum 44 = .ok (.iload_n 3, 1) := by decide +kernel
theorem dX7_sum_45 : decode cX7_sum 45 = .ok (.if_icmp .ne 5, 3) := by decide +kernel
theorem dX7_sum_48 : decode cX7_sum 48 = .ok (.iconst 0, 1) := by decide +kernel
theorem dX7_sum_49 : decode cX7_sum 49 = .ok (.ireturn, 1) := by decide +kernel
theorem dX7_sum_50 : decode cX7_sum 50 = .ok (.iload_n 2, 1) := by decide +kernel
theorem dX7_sum_51 : decode cX7_sum 51 = .ok (.istore 4, 2) := by decide +kernel
theorem dX7_sum_53 : decode cX7_sum 53 = .ok (.iload_n 2, 1) := by decide +kernel
theorem dX7_sum_54 : decode cX7_sum 54 = .ok (.istore 5, 2) := by decide +kernel
theorem dX7_sum_56 : decode cX7_sum 56 = .ok (.iconst 0, 1) := by decide +kernel
theorem dX7_sum_57 : decode cX7_sum 57 = .ok (.istore 6, 2) := by decide +kernel
theorem dX7_sum_59 : decode cX7_sum 59 = .ok (.iload_n 2, 1) := by decide +kernel
theorem dX7_sum_60 : decode cX7_sum 60 = .ok (.istore 7, 2) := by decide +kernel
theorem dX7_sum_62 : decode cX7_sum 62 = .ok (.iload 7, 2) := by decide +kernel
theorem dX7_sum_64 : decode cX7_sum 64 = .ok (.iload_n 3, 1) := by decide +kernel
theorem dX7_sum_65 : decode cX7_sum 65 = .ok (.if_icmp .ge 73, 3) := by decide +kernel
theorem dX7_sum_68 : decode cX7_sum 68 = .ok (.iload 6, 2) := by decide +kernel
theorem dX7_sum_70 : decode cX7_sum 70 = .ok (.aload_n 0, 1) := by decide +kernel
theorem dX7_sum_71 : decode cX7_sum 71 = .ok (.getfield 56, 3) := by decide +kernel
theorem dX7_sum_74 : decode cX7_sum 74 = .ok (.iload 7, 2) := by decide +kernel
theorem dX7_sum_76 : decode cX7_sum 76 = .ok (.iaload, 1) := by decide +kernel
theorem dX7_sum_77 : decode cX7_sum 77 = .ok (.iadd, 1) := by decide +kernel
theorem dX7_sum_78 : decode cX7_sum 78 = .ok (.istore 6, 2) := by decide +kernel
theorem dX7_sum_80 : decode cX7_sum 80 = .ok (.aload_n 0, 1) := by decide +kernel
theorem dX7_sum_81 : decode cX7_sum 81 = .ok (.getfield 56, 3) := by decide +kernel
theorem dX7_sum_84 : decode cX7_sum 84 = .ok (.iload 7, 2) := by decide +kernel
theorem dX7_sum_86 : decode cX7_sum 86 = .ok (.iaload, 1) := by decide +kernel
theorem dX7_sum_87 : decode cX7_sum 87 = .ok (.aload_n 0, 1) := by decide +kernel
theorem dX7_sum_88 : decode cX7_sum 88 = .ok (.getfield 56, 3) := by decide +kernel
theorem dX7_sum_91 : decode cX7_sum 91 = .ok (.iload 4, 2) := by decide +kernel
theorem dX7_sum_93 : decode cX7_sum 93 = .ok (.iaload, 1) := by decide +kernel
theorem dX7_sum_94 : decode cX7_sum 94 = .ok (.if_icmp .ge 8, 3) := by decide +kernel
theorem dX7_sum_97 : decode cX7_sum 97 = .ok (.iload 7, 2) := by decide +kernel
theorem dX7_sum_99 : decode cX7_sum 99 = .ok (.goto 5, 3) := by decide +kernel
theorem dX7_sum_102 : decode cX7_sum 102 = .ok (.iload 4, 2) := by decide +kernel
theorem dX7_sum_104 : decode cX7_sum 104 = .ok (.istore 4, 2) := by decide +kernel
theorem dX7_sum_106 : decode cX7_sum 106 = .ok (.aload_n 0, 1) := by decide +kernel
theorem dX7_sum_107 : decode cX7_sum 107 = .ok (.getfield 56, 3) := by decide +kernel
theorem dX7_sum_110 : decode cX7_sum 110 = .ok (.iload 7, 2) := by decide +kernel
theorem dX7_sum_112 : decode cX7_sum 112 = .ok (.iaload, 1) := by decide +kernel
theorem dX7_sum_113 : decode cX7_sum 113 = .ok (.aload_n 0, 1) := by decide +kernel
theorem dX7_sum_114 : decode cX7_sum 114 = .ok (.getfield 56, 3) := by decide +kernel
theorem dX7_sum_117 : decode cX7_sum 117 = .ok (.iload 5, 2) := by decide +kernel
theorem dX7_sum_119 : decode cX7_sum 119 = .ok (.iaload, 1) := by decide +kernel
theorem dX7_sum_120 : decode cX7_sum 120 = .ok (.if_icmp .le 8, 3) := by decide +kernel
theorem dX7_sum_123 : decode cX7_sum 123 = .ok (.iload 7, 2) := by decide +kernel
theorem dX7_sum_125 : decode cX7_sum 125 = .ok (.goto 5, 3) := by decide +kernel
theorem dX7_sum_128 : decode cX7_sum 128 = .ok (.iload 5, 2) := by decide +kernel
theorem dX7_sum_130 : decode cX7_sum 130 = .ok (.istore 5, 2) := by decide +kernel
theorem dX7_sum_132 : decode cX7_sum 132 = .ok (.iinc 7 1, 3) := by decide +kernel
theorem dX7_sum_135 : decode cX7_sum 135 = .ok (.goto (-73), 3) := by decide +kernel
theorem dX7_sum_138 : decode cX7_sum 138 = .ok (.aload_n 0, 1) := by decide +kernel
theorem dX7_sum_139 : decode cX7_sum 139 = .ok (.getfield 19, 3) := by decide +kernel
theorem dX7_sum_142 : decode cX7_sum 142 = .ok (.aload_n 0, 1) := by decide +kernel
theorem dX7_sum_143 : decode cX7_sum 143 = .ok (.getfield 56, 3) := by decide +kernel
theorem dX7_sum_146 : decode cX7_sum 146 = .ok (.iload 4, 2) := by decide +kernel
theorem dX7_sum_148 : decode cX7_sum 148 = .ok (.iaload, 1) := by decide +kernel
theorem dX7_sum_149 : decode cX7_sum 149 = .ok (.i2l, 1) := by decide +kernel
theorem dX7_sum_150 : decode cX7_sum 150 = .ok (.aload_n 0, 1) := by decide +kernel
theorem dX7_sum_151 : decode cX7_sum 151 = .ok (.getfield 56, 3) := by decide +kernel
theorem dX7_sum_154 : decode cX7_sum 154 = .ok (.iload 5, 2) := by decide +kernel
theorem dX7_sum_156 : decode cX7_sum 156 = .ok (.iaload, 1) := by decide +kernel
theorem dX7_sum_157 : decode cX7_sum 157 = .ok (.i2l, 1) := by decide +kernel
theorem dX7_sum_158 : decode cX7_sum 158 = .ok (.invokevirtual 162, 3) := by decide +kernel
theorem dX7_sum_161 : decode cX7_sum 161 = .ok (.aload_n 0, 1) := by decide +kernel
theorem dX7_sum_162 : decode cX7_sum 162 = .ok (.getfield 19, 3) := by decide +kernel
theorem dX7_sum_165 : decode cX7_sum 165 = .ok (.iload 4, 2) := by decide +kernel
theorem dX7_sum_167 : decode cX7_sum 167 = .ok (.i2l, 1) := by decide +kernel
theorem dX7_sum_168 : decode cX7_sum 168 = .ok (.invokevirtual 249, 3) := by decide +kernel
theorem dX7_sum_171 : decode cX7_sum 171 = .ok (.aload_n 0, 1) := by decide +kernel
theorem dX7_sum_172 : decode cX7_sum 172 = .ok (.getfield 19, 3) := by decide +kernel
theorem dX7_sum_175 : decode cX7_sum 175 = .ok (.iload 5, 2) := by decide +kernel
theorem dX7_sum_177 : decode cX7_sum 177 = .ok (.i2l, 1) := by decide +kernel
theorem dX7_sum_178 : decode cX7_sum 178 = .ok (.invokevirtual 249, 3) := by decide +kernel
theorem dX7_sum_181 : decode cX7_sum 181 = .ok (.iload 6, 2) := by decide +kernel
theorem dX7_sum_183 : decode cX7_sum 183 = .ok (.ireturn, 1) := by decide +kernel
theorem dX7_same_0 : decode cX7_same 0 = .ok (.iload_n 1, 1) := by decide +kernel
theorem dX7_same_1 : decode cX7_same 1 = .ok (.invokestatic 86, 3) := by decide +kernel
theorem dX7_same_4 : decode cX7_same 4 = .ok (.ifCond .eq 10, 3) := by decide +kernel
theorem dX7_same_7 : decode cX7_same 7 = .ok (.iload_n 2, 1) := by decide +kernel
theorem dX7_same_8 : decode cX7_same 8 = .ok (.invokestatic 86, 3) := by decide +kernel
theorem dX7_same_11 : decode cX7_same 11 = .ok (.ifCond .ne 5, 3) := by decide +kernel
theorem dX7_same_14 : decode cX7_same 14 = .ok (.iconst (-1), 1) := by decide +kernel
theorem dX7_same_15 : decode cX7_same 15 = .ok (.ireturn, 1) := by decide +kernel
theorem dX7_same_16 : decode cX7_same 16 = .ok (.aload_n 0, 1) := by decide +kernel
theorem dX7_same_17 : decode cX7_same 17 = .ok (.iload_n 1, 1) := by decide +kernel
theorem dX7_same_18 : decode cX7_same 18 = .ok (.iload_n 2, 1) := by decide +kernel
theorem dX7_same_19 : decode cX7_same 19 = .ok (.invokevirtual 177, 3) := by decide +kernel
theorem dX7_same_22 : decode cX7_same 22 = .ok (.aload_n 0, 1) := by decide +kernel
theorem dX7_same_23 : decode cX7_same 23 = .ok (.getfield 53, 3) := by decide +kernel
theorem dX7_same_26 : decode cX7_same 26 = .ok (.iload_n 1, 1) := by decide +kernel
theorem dX7_same_27 : decode cX7_same 27 = .ok (.iaload, 1) := by decide +kernel
theorem dX7_same_28 : decode cX7_same 28 = .ok (.aload_n 0, 1) := by decide +kernel
theorem dX7_same_29 : decode cX7_same 29 = .ok (.getfield 53, 3) := by decide +kernel
theorem dX7_same_32 : decode cX7_same 32 = .ok (.iload_n 2, 1) := by decide +kernel
theorem dX7_same_33 : decode cX7_same 33 = .ok (.iaload, 1) := by decide +kernel
theorem dX7_same_34 : decode cX7_same 34 = .ok (.invokestatic 228, 3) := by decide +kernel
theorem dX7_same_37 : decode cX7_same 37 = .ok (.istore_n 3, 1) := by decide +kernel
theorem dX7_same_38 : decode cX7_same 38 = .ok (.iconst 0, 1) := by decide +kernel
theorem dX7_same_39 : decode cX7_same 39 = .ok (.istore 4, 2) := by decide +kernel
theorem dX7_same_41 : decode cX7_same 41 = .ok (.iload 4, 2) := by decide +kernel
theorem dX7_same_43 : decode cX7_same 43 = .ok (.iload_n 3, 1) := by decide +kernel
theorem dX7_same_44 : decode cX7_same 44 = .ok (.if_icmp .ge 26, 3) := by decide +kernel
theorem dX7_same_47 : decode cX7_same 47 = .ok (.aload_n 0, 1) := by decide +kernel
theorem dX7_same_48 : decode cX7_same 48 = .ok (.getfield 56, 3) := by decide +kernel
theorem dX7_same_51 : decode cX7_same 51 = .ok (.iload 4, 2) := by decide +kernel
theorem dX7_same_53 : decode cX7_same 53 = .ok (.iaload, 1) := by decide +kernel
theorem dX7_same_54 : decode cX7_same 54 = .ok (.aload_n 0, 1) := by decide +kernel
theorem dX7_same_55 : decode cX7_same 55 = .ok (.getfield 59, 3) := by decide +kernel
theorem dX7_same_58 : decode cX7_same 58 = .ok (.iload 4, 2) := by decide +kernel
theorem dX7_same_60 : decode cX7_same 60 = .ok (.iaload, 1) := by decide +kernel
theorem dX7_same_61 : decode cX7_same 61 = .ok (.if_icmp .ne 9, 3) := by decide +kernel
theorem dX7_same_64 : decode cX7_same 64 = .ok (.iinc 4 1, 3) := by decide +kernel
theorem dX7_same_67 : decode cX7_same 67 = .ok (.goto (-26), 3) := by decide +kernel
theorem dX7_same_70 : decode cX7_same 70 = .ok (.iload 4, 2) := by decide +kernel
theorem dX7_same_72 : decode cX7_same 72 = .ok (.aload_n 0, 1) := by decide +kernel
theorem dX7_same_73 : decode cX7_same 73 = .ok (.getfield 53, 3) := by decide +kernel
theorem dX7_same_76 : decode cX7_same 76 = .ok (.iload_n 1, 1) := by decide +kernel
theorem dX7_same_77 : decode cX7_same 77 = .ok (.iaload, 1) := by decide +kernel
theorem dX7_same_78 : decode cX7_same 78 = .ok (.if_icmp .ne 18, 3) := by decide +kernel
theorem dX7_same_81 : decode cX7_same 81 = .ok (.iload 4, 2) := by decide +kernel
theorem dX7_same_83 : decode cX7_same 83 = .ok (.aload_n 0, 1) := by decide +kernel
theorem dX7_same_84 : decode cX7_same 84 = .ok (.getfield 53, 3) := by decide +kernel
theorem dX7_same_87 : decode cX7_same 87 = .ok (.iload_n 2, 1) := by decide +kernel
theorem dX7_same_88 : decode cX7_same 88 = .ok (.iaload, 1) := by decide +kernel
theorem dX7_same_89 : decode cX7_same 89 = .ok (.if_icmp .ne 7, 3) := by decide +kernel
theorem dX7_same_92 : decode cX7_same 92 = .ok (.iconst 1, 1) := by decide +kernel
theorem dX7_same_93 : decode cX7_same 93 = .ok (.goto 4, 3) := by decide +kernel
theorem dX7_same_96 : decode cX7_same 96 = .ok (.iconst 0, 1) := by decide +kernel
theorem dX7_same_97 : decode cX7_same 97 = .ok (.istore 5, 2) := by decide +kernel
theorem dX7_same_99 : decode cX7_same 99 = .ok (.aload_n 0, 1) := by decide +kernel
theorem dX7_same_100 : decode cX7_same 100 = .ok (.getfield 19, 3) := by decide +kernel
theorem dX7_same_103 : decode cX7_same 103 = .ok (.iload 5, 2) := by decide +kernel
theorem dX7_same_105 : decode cX7_same 105 = .ok (.ifCond .eq 9, 3) := by decide +kernel
theorem dX7_same_108 : decode cX7_same 108 = .ok (.ldc2_w 157, 3) := by decide +kernel
theorem dX7_same_111 : decode cX7_same 111 = .ok (.goto 6, 3) := by decide +kernel
theorem dX7_same_114 : decode cX7_same 114 = .ok (.iload 4, 2) := by decide +kernel
theorem dX7_same_116 : decode cX7_same 116 = .ok (.i2l, 1) := by decide +kernel
theorem dX7_same_117 : decode cX7_same 117 = .ok (.aload_n 0, 1) := by decide +kernel
theorem dX7_same_118 : decode cX7_same 118 = .ok (.iload_n 1, 1) := by decide +kernel
theorem dX7_same_119 : decode cX7_same 119 = .ok (.iload_n 2, 1) := by decide +kernel
theorem dX7_same_120 : decode cX7_same 120 = .ok (.invokevirtual 253, 3) := by decide +kernel
theorem dX7_same_123 : decode cX7_same 123 = .ok (.i2l, 1) := by decide +kernel
theorem dX7_same_124 : decode cX7_same 124 = .ok (.invokevirtual 162, 3) := by decide +kernel
theorem dX7_same_127 : decode cX7_same 127 = .ok (.iload 5, 2) := by decide +kernel
theorem dX7_same_129 : decode cX7_same 129 = .ok (.ifCond .eq 7, 3) := by decide +kernel
theorem dX7_same_132 : decode cX7_same 132 = .ok (.iconst 1, 1) := by decide +kernel
theorem dX7_same_133 : decode cX7_same 133 = .ok (.goto 4, 3) := by decide +kernel
theorem dX7_same_136 : decode cX7_same 136 = .ok (.iconst 0, 1) := by decide +kernel
theorem dX7_same_137 : decode cX7_same 137 = .ok (.ireturn, 1) := by decide +kernel
theorem dX7_nodes_0 : decode cX7_nodes 0 = .ok (.aload_n 0, 1) := by decide +kernel
theorem dX7_nodes_1 : decode cX7_nodes 1 = .ok (.getfield 10, 3) := by decide +kernel
theorem dX7_nodes_4 : decode cX7_nodes 4 = .ok (.invokevirtual 277, 3) := by decide +kernel
theorem dX7_nodes_7 : decode cX7_nodes 7 = .ok (.iconst 0, 1) := by decide +kernel
theorem dX7_nodes_8 : decode cX7_nodes 8 = .ok (.istore_n 1, 1) := by decide +kernel
theorem dX7_nodes_9 : decode cX7_nodes 9 = .ok (.iconst 0, 1) := by decide +kernel
theorem dX7_nodes_10 : decode cX7_nodes 10 = .ok (.istore_n 2, 1) := by decide +kernel
theorem dX7_nodes_11 : decode cX7_nodes 11 = .ok (.iconst 0, 1) := by decide +kernel
theorem dX7_nodes_12 : decode cX7_nodes 12 = .ok (.istore_n 3, 1) := by decide +kernel
theorem dX7_nodes_13 : decode cX7_nodes 13 = .ok (.iconst 0, 1) := by decide +kernel
theorem dX7_nodes_14 : decode cX7_nodes 14 = .ok (.istore 4, 2) := by decide +kernel
theorem dX7_nodes_16 : decode cX7_nodes 16 = .ok (.iload 4, 2) := by decide +kernel
theorem dX7_nodes_18 : decode cX7_nodes 18 = .ok (.bipush 6, 2) := by decide +kernel
theorem dX7_nodes_20 : decode cX7_nodes 20 = .ok (.if_icmp .ge 116, 3) := by decide +kernel
theorem dX7_nodes_23 : decode cX7_nodes 23 = .ok (.aload_n 0, 1) := by decide +kernel
theorem dX7_nodes_24 : decode cX7_nodes 24 = .ok (.getfield 10, 3) := by decide +kernel
theorem dX7_nodes_27 : decode cX7_nodes 27 = .ok (.aload_n 0, 1) := by decide +kernel
theorem dX7_nodes_28 : decode cX7_nodes 28 = .ok (.getfield 49, 3) := by decide +kernel
theorem dX7_nodes_31 : decode cX7_nodes 31 = .ok (.iload 4, 2) := by decide +kernel
theorem dX7_nodes_33 : decode cX7_nodes 33 = .ok (.iaload, 1) := by decide +kernel
theorem dX7_nodes_34 : decode cX7_nodes 34 = .ok (.aload_n 0, 1) := by decide +kernel
theorem dX7_nodes_35 : decode cX7_nodes 35 = .ok (.getfield 53, 3) := by decide +kernel
theorem dX7_nodes_38 : decode cX7_nodes 38 = .ok (.iload 4, 2) := by decide +kernel
theorem dX7_nodes_40 : decode cX7_nodes 40 = .ok (.iaload, 1) := by decide +kernel
theorem dX7_nodes_41 : decode cX7_nodes 41 = .ok (.invokevirtual 280, 3) := by decide +kernel
theorem dX7_nodes_44 : decode cX7_nodes 44 = .ok (.iconst 0, 1) := by decide +kernel
theorem dX7_nodes_45 : decode cX7_nodes 45 = .ok (.istore 5, 2) := by decide +kernel
theorem dX7_nodes_47 : decode cX7_nodes 47 = .ok (.iload 5, 2) := by decide +kernel
theorem dX7_nodes_49 : decode cX7_nodes 49 = .ok (.aload_n 0, 1) := by decide +kernel
theorem dX7_nodes_50 : decode cX7_nodes 50 = .ok (.getfield 53, 3) := by decide +kernel
theorem dX7_nodes_53 : decode cX7_nodes 53 = .ok (.iload 4, 2) := by decide +kernel
theorem dX7_nodes_55 : decode cX7_nodes 55 = .ok (.iaload, 1) := by decide +kernel
theorem dX7_nodes_56 : decode cX7_nodes 56 = .ok (.if_icmp .ge 64, 3) := by decide +kernel
theorem dX7_nodes_59 : decode cX7_nodes 59 = .ok (.aload_n 0, 1) := by decide +kernel
theorem dX7_nodes_60 : decode cX7_nodes 60 = .ok (.getfield 10, 3) := by decide +kernel
theorem dX7_nodes_63 : decode cX7_nodes 63 = .ok (.iload 5, 2) := by decide +kernel
theorem dX7_nodes_65 : decode cX7_nodes 65 = .ok (.iconst 1, 1) := by decide +kernel
theorem dX7_nodes_66 : decode cX7_nodes 66 = .ok (.iload 4, 2) := by decide +kernel
theorem dX7_nodes_68 : decode cX7_nodes 68 = .ok (.ishl, 1) := by decide +kernel
theorem dX7_nodes_69 : decode cX7_nodes 69 = .ok (.invokevirtual 289, 3) := by decide +kernel
theorem dX7_nodes_72 : decode cX7_nodes 72 = .ok (.istore 6, 2) := by decide +kernel
theorem dX7_nodes_74 : decode cX7_nodes 74 = .ok (.iload_n 1, 1) := by decide +kernel
theorem dX7_nodes_75 : decode cX7_nodes 75 = .ok (.iload 6, 2) := by decide +kernel
theorem dX7_nodes_77 : decode cX7_nodes 77 = .ok (.ifCond .ne 7, 3) := by decide +kernel
theorem dX7_nodes_80 : decode cX7_nodes 80 = .ok (.iconst 1, 1) := by decide +kernel
theorem dX7_nodes_81 : decode cX7_nodes 81 = .ok (.goto 4, 3) := by decide +kernel
theorem dX7_nodes_84 : decode cX7_nodes 84 = .ok (.iconst 0, 1) := by decide +kernel
theorem dX7_nodes_85 : decode cX7_nodes 85 = .ok (.iadd, 1) := by decide +kernel
theorem dX7_nodes_86 : decode cX7_nodes 86 = .ok (.istore_n 1, 1) := by decide +kernel
theorem dX7_nodes_87 : decode cX7_nodes 87 = .ok (.iload_n 2, 1) := by decide +kernel
theorem dX7_nodes_88 : decode cX7_nodes 88 = .ok (.iload 6, 2) := by decide +kernel
theorem dX7_nodes_90 : decode cX7_nodes 90 = .ok (.iconst 1, 1) := by decide +kernel
theorem dX7_nodes_91 : decode cX7_nodes 91 = .ok (.iload 4, 2) := by decide +kernel
theorem dX7_nodes_93 : decode cX7_nodes 93 = .ok (.ishl, 1) := by decide +kernel
theorem dX7_nodes_94 : decode cX7_nodes 94 = .ok (.iand, 1) := by decide +kernel
theorem dX7_nodes_95 : decode cX7_nodes 95 = .ok (.ifCond .ne 16, 3) := by decide +kernel
theorem dX7_nodes_98 : decode cX7_nodes 98 = .ok (.iload 6, 2) := by decide +kernel
theorem dX7_nodes_100 : decode cX7_nodes 100 = .ok (.invokestatic 292, 3) := by decide +kernel
theorem dX7_nodes_103 : decode cX7_nodes 103 = .ok (.iconst 1, 1) := by decide +kernel
theorem dX7_nodes_104 : decode cX7_nodes 104 = .ok (.if_icmp .ne 7, 3) := by decide +kernel
theorem dX7_nodes_107 : decode cX7_nodes 107 = .ok (.iconst 1, 1) := by decide +kernel
theorem dX7_nodes_108 : decode cX7_nodes 108 = .ok (.goto 4, 3) := by decide +kernel
theorem dX7_nodes_111 : decode cX7_nodes 111 = .ok (.iconst 0, 1) := by decide +kernel
theorem dX7_nodes_112 : decode cX7_nodes 112 = .ok (.iadd, 1) := by decide +kernel
theorem dX7_nodes_113 : decode cX7_nodes 113 = .ok (.istore_n 2, 1) := by decide +kernel
theorem dX7_nodes_114 : decode cX7_nodes 114 = .ok (.iinc 5 1, 3) := by decide +kernel
theorem dX7_nodes_117 : decode cX7_nodes 117 = .ok (.goto (-70), 3) := by decide +kernel
theorem dX7_nodes_120 : decode cX7_nodes 120 = .ok (.iload_n 3, 1) := by decide +kernel
theorem dX7_nodes_121 : decode cX7_nodes 121 = .ok (.aload_n 0, 1) := by decide +kernel
theorem dX7_nodes_122 : decode cX7_nodes 122 = .ok (.getfield 53, 3) := by decide +kernel
theorem dX7_nodes_125 : decode cX7_nodes 125 = .ok (.iload 4, 2) := by decide +kernel
theorem dX7_nodes_127 : decode cX7_nodes 127 = .ok (.iaload, 1) := by decide +kernel
theorem dX7_nodes_128 : decode cX7_nodes 128 = .ok (.iadd, 1) := by decide +kernel
theorem dX7_nodes_129 : decode cX7_nodes 129 = .ok (.istore_n 3, 1) := by decide +kernel
theorem dX7_nodes_130 : decode cX7_nodes 130 = .ok (.iinc 4 1, 3) := by decide +kernel
theorem dX7_nodes_133 : decode cX7_nodes 133 = .ok (.goto (-117), 3) := by decide +kernel
theorem dX7_nodes_136 : decode cX7_nodes 136 = .ok (.aload_n 0, 1) := by decide +kernel
theorem dX7_nodes_137 : decode cX7_nodes 137 = .ok (.getfield 19, 3) := by decide +kernel
theorem dX7_nodes_140 : decode cX7_nodes 140 = .ok (.iload_n 2, 1) := by decide +kernel
theorem dX7_nodes_141 : decode cX7_nodes 141 = .ok (.i2l, 1) := by decide +kernel
theorem dX7_nodes_142 : decode cX7_nodes 142 = .ok (.iload_n 3, 1) := by decide +kernel
theorem dX7_nodes_143 : decode cX7_nodes 143 = .ok (.i2l, 1) := by decide +kernel
theorem dX7_nodes_144 : decode cX7_nodes 144 = .ok (.invokevirtual 162, 3) := by decide +kernel
theorem dX7_nodes_147 : decode cX7_nodes 147 = .ok (.iload_n 1, 1) := by decide +kernel
theorem dX7_nodes_148 : decode cX7_nodes 148 = .ok (.ireturn, 1) := by decide +kernel
theorem dX7_own_0 : decode cX7_own 0 = .ok (.iload_n 1, 1) := by decide +kernel
theorem dX7_own_1 : decode cX7_own 1 = .ok (.invokestatic 86, 3) := by decide +kernel
theorem dX7_own_4 : decode cX7_own 4 = .ok (.ifCond .ne 5, 3) := by decide +kernel
theorem dX7_own_7 : decode cX7_own 7 = .ok (.iconst (-1), 1) := by decide +kernel
theorem dX7_own_8 : decode cX7_own 8 = .ok (.ireturn, 1) := by decide +kernel
theorem dX7_own_9 : decode cX7_own 9 = .ok (.aload_n 0, 1) := by decide +kernel
theorem dX7_own_10 : decode cX7_own 10 = .ok (.getfield 10, 3) := by decide +kernel
theorem dX7_own_13 : decode cX7_own 13 = .ok (.invokevirtual 277, 3) := by decide +kernel
theorem dX7_own_16 : decode cX7_own 16 = .ok (.iconst 0, 1) := by decide +kernel
theorem dX7_own_17 : decode cX7_own 17 = .ok (.istore_n 2, 1) := by decide +kernel
theorem dX7_own_18 : decode cX7_own 18 = .ok (.iload_n 2, 1) := by decide +kernel
theorem dX7_own_19 : decode cX7_own 19 = .ok (.bipush 6, 2) := by decide +kernel
theorem dX7_own_21 : decode cX7_own 21 = .ok (.if_icmp .ge 20, 3) := by decide +kernel
theorem dX7_own_24 : decode cX7_own 24 = .ok (.iload_n 2, 1) := by decide +kernel
theorem dX7_own_25 : decode cX7_own 25 = .ok (.iload_n 1, 1) := by decide +kernel
theorem dX7_own_26 : decode cX7_own 26 = .ok (.if_icmp .eq 9, 3) := by decide +kernel
theorem dX7_own_29 : decode cX7_own 29 = .ok (.aload_n 0, 1) := by decide +kernel
theorem dX7_own_30 : decode cX7_own 30 = .ok (.iload_n 2, 1) := by decide +kernel
theorem dX7_own_31 : decode cX7_own 31 = .ok (.iconst 1, 1) := by decide +kernel
theorem dX7_own_32 : decode cX7_own 32 = .ok (.invokevirtual 297, 3) := by decide +kernel
theorem dX7_own_35 : decode cX7_own 35 = .ok (.iinc 2 1, 3) := by decide +kernel
theorem dX7_own_38 : decode cX7_own 38 = .ok (.goto (-20), 3) := by decide +kernel
theorem dX7_own_41 : decode cX7_own 41 = .ok (.aload_n 0, 1) := by decide +kernel
theorem dX7_own_42 : decode cX7_own 42 = .ok (.getfield 10, 3) := by decide +kernel
theorem dX7_own_45 : decode cX7_own 45 = .ok (.aload_n 0, 1) := by decide +kernel
theorem dX7_own_46 : decode cX7_own 46 = .ok (.getfield 49, 3) := by decide +kernel
theorem dX7_own_49 : decode cX7_own 49 = .ok (.iload_n 1, 1) := by decide +kernel
theorem dX7_own_50 : decode cX7_own 50 = .ok (.iaload, 1) := by decide +kernel
theorem dX7_own_51 : decode cX7_own 51 = .ok (.aload_n 0, 1) := by decide +kernel
theorem dX7_own_52 : decode cX7_own 52 = .ok (.getfield 53, 3) := by decide +kernel
theorem dX7_own_55 : decode cX7_own 55 = .ok (.iload_n 1, 1) := by decide +kernel
theorem dX7_own_56 : decode cX7_own 56 = .ok (.iaload, 1) := by decide +kernel
theorem dX7_own_57 : decode cX7_own 57 = .ok (.invokevirtual 280, 3) := by decide +kernel
theorem dX7_own_60 : decode cX7_own 60 = .ok (.iconst 0, 1) := by decide +kernel
theorem dX7_own_61 : decode cX7_own 61 = .ok (.istore_n 2, 1) := by decide +kernel
theorem dX7_own_62 : decode cX7_own 62 = .ok (.iconst 0, 1) := by decide +kernel
theorem dX7_own_63 : decode cX7_own 63 = .ok (.istore_n 3, 1) := by decide +kernel
theorem dX7_own_64 : decode cX7_own 64 = .ok (.iconst 0, 1) := by decide +kernel
theorem dX7_own_65 : decode cX7_own 65 = .ok (.istore 4, 2) := by decide +kernel
theorem dX7_own_67 : decode cX7_own 67 = .ok (.iload 4, 2) := by decide +kernel
theorem dX7_own_69 : decode cX7_own 69 = .ok (.aload_n 0, 1) := by decide +kernel
theorem dX7_own_70 : decode cX7_own 70 = .ok (.getfield 53, 3) := by decide +kernel
theorem dX7_own_73 : decode cX7_own 73 = .ok (.iload_n 1, 1) := by decide +kernel
theorem dX7_own_74 : decode cX7_own 74 = .ok (.iaload, 1) := by decide +kernel
theorem dX7_own_75 : decode cX7_own 75 = .ok (.if_icmp .ge 49, 3) := by decide +kernel
theorem dX7_own_78 : decode cX7_own 78 = .ok (.aload_n 0, 1) := by decide +kernel
theorem dX7_own_79 : decode cX7_own 79 = .ok (.getfield 10, 3) := by decide +kernel
theorem dX7_own_82 : decode cX7_own 82 = .ok (.iload 4, 2) := by decide +kernel
theorem dX7_own_84 : decode cX7_own 84 = .ok (.iconst 2, 1) := by decide +kernel
theorem dX7_own_85 : decode cX7_own 85 = .ok (.invokevirtual 289, 3) := by decide +kernel
theorem dX7_own_88 : decode cX7_own 88 = .ok (.istore 5, 2) := by decide +kernel
theorem dX7_own_90 : decode cX7_own 90 = .ok (.iload_n 2, 1) := by decide +kernel
theorem dX7_own_91 : decode cX7_own 91 = .ok (.iload 5, 2) := by decide +kernel
theorem dX7_own_93 : decode cX7_own 93 = .ok (.iconst 2, 1) := by decide +kernel
theorem dX7_own_94 : decode cX7_own 94 = .ok (.iand, 1) := by decide +kernel
theorem dX7_own_95 : decode cX7_own 95 = .ok (.ifCond .ne 7, 3) := by decide +kernel
theorem dX7_own_98 : decode cX7_own 98 = .ok (.iconst 1, 1) := by decide +kernel
theorem dX7_own_99 : decode cX7_own 99 = .ok (.goto 4, 3) := by decide +kernel
theorem dX7_own_102 : decode cX7_own 102 = .ok (.iconst 0, 1) := by decide +kernel
theorem dX7_own_103 : decode cX7_own 103 = .ok (.iadd, 1) := by decide +kernel
theorem dX7_own_104 : decode cX7_own 104 = .ok (.istore_n 2, 1) := by decide +kernel
theorem dX7_own_105 : decode cX7_own 105 = .ok (.iload_n 3, 1) := by decide +kernel
theorem dX7_own_106 : decode cX7_own 106 = .ok (.iload 5, 2) := by decide +kernel
theorem dX7_own_108 : decode cX7_own 108 = .ok (.ifCond .ne 7, 3) := by decide +kernel
theorem dX7_own_111 : decode cX7_own 111 = .ok (.iconst 1, 1) := by decide +kernel
theorem dX7_own_112 : decode cX7_own 112 = .ok (.goto 4, 3) := by decide +kernel
theorem dX7_own_115 : decode cX7_own 115 = .ok (.iconst 0, 1) := by decide +kernel
theorem dX7_own_116 : decode cX7_own 116 = .ok (.iadd, 1) := by decide +kernel
theorem dX7_own_117 : decode cX7_own 117 = .ok (.istore_n 3, 1) := by decide +kernel
theorem dX7_own_118 : decode cX7_own 118 = .ok (.iinc 4 1, 3) := by decide +kernel
theorem dX7_own_121 : decode cX7_own 121 = .ok (.goto (-54), 3) := by decide +kernel
theorem dX7_own_124 : decode cX7_own 124 = .ok (.aload_n 0, 1) := by decide +kernel
theorem dX7_own_125 : decode cX7_own 125 = .ok (.getfield 19, 3) := by decide +kernel
theorem dX7_own_128 : decode cX7_own 128 = .ok (.iload_n 3, 1) := by decide +kernel
theorem dX7_own_129 : decode cX7_own 129 = .ok (.i2l, 1) := by decide +kernel
theorem dX7_own_130 : decode cX7_own 130 = .ok (.invokevirtual 171, 3) := by decide +kernel
theorem dX7_own_133 : decode cX7_own 133 = .ok (.iload_n 2, 1) := by decide +kernel
theorem dX7_own_134 : decode cX7_own 134 = .ok (.ireturn, 1) := by decide +kernel
theorem dX7_count_0 : decode cX7_count 0 = .ok (.iload_n 1, 1) := by decide +kernel
theorem dX7_count_1 : decode cX7_count 1 = .ok (.tableswitch 66 0 4 #[35, 40, 48, 56, 64], 35) := by decide +kernel
theorem dX7_count_36 : decode cX7_count 36 = .ok (.aload_n 0, 1) := by decide +kernel
theorem dX7_count_37 : decode cX7_count 37 = .ok (.invokevirtual 300, 3) := by decide +kernel
theorem dX7_count_40 : decode cX7_count 40 = .ok (.ireturn, 1) := by decide +kernel
theorem dX7_count_41 : decode cX7_count 41 = .ok (.aload_n 0, 1) := by decide +kernel
theorem dX7_count_42 : decode cX7_count 42 = .ok (.getfield 10, 3) := by decide +kernel
theorem dX7_count_45 : decode cX7_count 45 = .ok (.getfield 130, 3) := by decide +kernel
theorem dX7_count_48 : decode cX7_count 48 = .ok (.ireturn, 1) := by decide +kernel
theorem dX7_count_49 : decode cX7_count 49 = .ok (.aload_n 0, 1) := by decide +kernel
theorem dX7_count_50 : decode cX7_count 50 = .ok (.getfield 19, 3) := by decide +kernel
theorem dX7_count_53 : decode cX7_count 53 = .ok (.getfield 303, 3) := by decide +kernel
theorem dX7_count_56 : decode cX7_count 56 = .ok (.ireturn, 1) := by decide +kernel
theorem dX7_count_57 : decode cX7_count 57 = .ok (.aload_n 0, 1) := by decide +kernel
theorem dX7_count_58 : decode cX7_count 58 = .ok (.getfield 34, 3) := by decide +kernel
theorem dX7_count_61 : decode cX7_count 61 = .ok (.getfield 306, 3) := by decide +kernel
theorem dX7_count_64 : decode cX7_count 64 = .ok (.ireturn, 1) := by decide +kernel
theorem dX7_count_65 : decode cX7_count 65 = .ok (.iconst 1, 1) := by decide +kernel
theorem dX7_count_66 : decode cX7_count 66 = .ok (.ireturn, 1) := by decide +kernel
theorem dX7_count_67 : decode cX7_count 67 = .ok (.iconst (-1), 1) := by decide +kernel
theorem dX7_count_68 : decode cX7_count 68 = .ok (.ireturn, 1) := by decide +kernel
theorem dX7_row_0 : decode cX7_row 0 = .ok (.iload_n 1, 1) := by decide +kernel
theorem dX7_row_1 : decode cX7_row 1 = .ok (.ifCond .lt 14, 3) := by decide +kernel
theorem dX7_row_4 : decode cX7_row 4 = .ok (.iload_n 1, 1) := by decide +kernel
theorem dX7_row_5 : decode cX7_row 5 = .ok (.aload_n 0, 1) := by decide +kernel
theorem dX7_row_6 : decode cX7_row 6 = .ok (.getfield 19, 3) := by decide +kernel
theorem dX7_row_9 : decode cX7_row 9 = .ok (.getfield 303, 3) := by decide +kernel
theorem dX7_row_12 : decode cX7_row 12 = .ok (.if_icmp .lt 14, 3) := by decide +kernel
theorem dX7_row_15 : decode cX7_row 15 = .ok (.new 307, 3) := by decide +kernel
theorem dX7_row_18 : decode cX7_row 18 = .ok (.dup, 1) := by decide +kernel
theorem dX7_row_19 : decode cX7_row 19 = .ok (.ldc_w 309, 3) := by decide +kernel
theorem dX7_row_22 : decode cX7_row 22 = .ok (.invokespecial 311, 3) := by decide +kernel
theorem dX7_row_25 : decode cX7_row 25 = .ok (.athrow, 1) := by decide +kernel
theorem dX7_row_26 : decode cX7_row 26 = .ok (.aload_n 0, 1) := by decide +kernel
theorem dX7_row_27 : decode cX7_row 27 = .ok (.getfield 19, 3) := by decide +kernel
theorem dX7_row_30 : decode cX7_row 30 = .ok (.getfield 314, 3) := by decide +kernel
theorem dX7_row_33 : decode cX7_row 33 = .ok (.iload_n 1, 1) := by decide +kernel
theorem dX7_row_34 : decode cX7_row 34 = .ok (.laload, 1) := by decide +kernel
theorem dX7_row_35 : decode cX7_row 35 = .ok (.lreturn, 1) := by decide +kernel
theorem dX7_isPlace_0 : decode cX7_isPlace 0 = .ok (.iload_n 0, 1) := by decide +kernel
theorem dX7_isPlace_1 : decode cX7_isPlace 1 = .ok (.ifCond .lt 13, 3) := by decide +kernel
theorem dX7_isPlace_4 : decode cX7_isPlace 4 = .ok (.iload_n 0, 1) := by decide +kernel
theorem dX7_isPlace_5 : decode cX7_isPlace 5 = .ok (.bipush 6, 2) := by decide +kernel
theorem dX7_isPlace_7 : decode cX7_isPlace 7 = .ok (.if_icmp .ge 7, 3) := by decide +kernel
theorem dX7_isPlace_10 : decode cX7_isPlace 10 = .ok (.iconst 1, 1) := by decide +kernel
theorem dX7_isPlace_11 : decode cX7_isPlace 11 = .ok (.goto 4, 3) := by decide +kernel
theorem dX7_isPlace_14 : decode cX7_isPlace 14 = .ok (.iconst 0, 1) := by decide +kernel
theorem dX7_isPlace_15 : decode cX7_isPlace 15 = .ok (.ireturn, 1) := by decide +kernel
theorem dX7_isNumber_0 : decode cX7_isNumber 0 = .ok (.iload_n 0, 1) := by decide +kernel
theorem dX7_isNumber_1 : decode cX7_isNumber 1 = .ok (.sipush (-999), 3) := by decide +kernel
theorem dX7_isNumber_4 : decode cX7_isNumber 4 = .ok (.if_icmp .lt 14, 3) := by decide +kernel
theorem dX7_isNumber_7 : decode cX7_isNumber 7 = .ok (.iload_n 0, 1) := by decide +kernel
theorem dX7_isNumber_8 : decode cX7_isNumber 8 = .ok (.sipush 999, 3) := by decide +kernel
theorem dX7_isNumber_11 : decode cX7_isNumber 11 = .ok (.if_icmp .gt 7, 3) := by decide +kernel
theorem dX7_isNumber_14 : decode cX7_isNumber 14 = .ok (.iconst 1, 1) := by decide +kernel
theorem dX7_isNumber_15 : decode cX7_isNumber 15 = .ok (.goto 4, 3) := by decide +kernel
theorem dX7_isNumber_18 : decode cX7_isNumber 18 = .ok (.iconst 0, 1) := by decide +kernel
theorem dX7_isNumber_19 : decode cX7_isNumber 19 = .ok (.ireturn, 1) := by decide +kernel
theorem dX7_isIndex_0 : decode cX7_isIndex 0 = .ok (.iload_n 1, 1) := by decide +kernel
theorem dX7_isIndex_1 : decode cX7_isIndex 1 = .ok (.invokestatic 86, 3) := by decide +kernel
theorem dX7_isIndex_4 : decode cX7_isIndex 4 = .ok (.ifCond .eq 21, 3) := by decide +kernel
theorem dX7_isIndex_7 : decode cX7_isIndex 7 = .ok (.iload_n 2, 1) := by decide +kernel
theorem dX7_isIndex_8 : decode cX7_isIndex 8 = .ok (.ifCond .lt 17, 3) := by decide +kernel
theorem dX7_isIndex_11 : decode cX7_isIndex 11 = .ok (.iload_n 2, 1) := by decide +kernel
theorem dX7_isIndex_12 : decode cX7_isIndex 12 = .ok (.aload_n 0, 1) := by decide +kernel
theorem dX7_isIndex_13 : decode cX7_isIndex 13 = .ok (.getfield 53, 3) := by decide +kernel
theorem dX7_isIndex_16 : decode cX7_isIndex 16 = .ok (.iload_n 1, 1) := by decide +kernel
theorem dX7_isIndex_17 : decode cX7_isIndex 17 = .ok (.iaload, 1) := by decide +kernel
theorem dX7_isIndex_18 : decode cX7_isIndex 18 = .ok (.if_icmp .ge 7, 3) := by decide +kernel
theorem dX7_isIndex_21 : decode cX7_isIndex 21 = .ok (.iconst 1, 1) := by decide +kernel
theorem dX7_isIndex_22 : decode cX7_isIndex 22 = .ok (.goto 4, 3) := by decide +kernel
theorem dX7_isIndex_25 : decode cX7_isIndex 25 = .ok (.iconst 0, 1) := by decide +kernel
theorem dX7_isIndex_26 : decode cX7_isIndex 26 = .ok (.ireturn, 1) := by decide +kernel
theorem dX7_isRange_0 : decode cX7_isRange 0 = .ok (.iload_n 1, 1) := by decide +kernel
theorem dX7_isRange_1 : decode cX7_isRange 1 = .ok (.invokestatic 86, 3) := by decide +kernel
theorem dX7_isRange_4 : decode cX7_isRange 4 = .ok (.ifCond .eq 26, 3) := by decide +kernel
theorem dX7_isRange_7 : decode cX7_isRange 7 = .ok (.iload_n 2, 1) := by decide +kernel
theorem dX7_isRange_8 : decode cX7_isRange 8 = .ok (.ifCond .lt 22, 3) := by decide +kernel
theorem dX7_isRange_11 : decode cX7_isRange 11 = .ok (.iload_n 3, 1) := by decide +kernel
theorem dX7_isRange_12 : decode cX7_isRange 12 = .ok (.iload_n 2, 1) := by decide +kernel
theorem dX7_isRange_13 : decode cX7_isRange 13 = .ok (.if_icmp .lt 17, 3) := by decide +kernel
theorem dX7_isRange_16 : decode cX7_isRange 16 = .ok (.iload_n 3, 1) := by decide +kernel
theorem dX7_isRange_17 : decode cX7_isRange 17 = .ok (.aload_n 0, 1) := by decide +kernel
theorem dX7_isRange_18 : decode cX7_isRange 18 = .ok (.getfield 53, 3) := by decide +kernel
theorem dX7_isRange_21 : decode cX7_isRange 21 = .ok (.iload_n 1, 1) := by decide +kernel
theorem dX7_isRange_22 : decode cX7_isRange 22 = .ok (.iaload, 1) := by decide +kernel
theorem dX7_isRange_23 : decode cX7_isRange 23 = .ok (.if_icmp .gt 7, 3) := by decide +kernel
theorem dX7_isRange_26 : decode cX7_isRange 26 = .ok (.iconst 1, 1) := by decide +kernel
theorem dX7_isRange_27 : decode cX7_isRange 27 = .ok (.goto 4, 3) := by decide +kernel
theorem dX7_isRange_30 : decode cX7_isRange 30 = .ok (.iconst 0, 1) := by decide +kernel
theorem dX7_isRange_31 : decode cX7_isRange 31 = .ok (.ireturn, 1) := by decide +kernel
theorem dX7_held_0 : decode cX7_held 0 = .ok (.sipush (-999), 3) := by decide +kernel
theorem dX7_held_3 : decode cX7_held 3 = .ok (.sipush 999, 3) := by decide +kernel
theorem dX7_held_6 : decode cX7_held 6 = .ok (.iload_n 0, 1) := by decide +kernel
theorem dX7_held_7 : decode cX7_held 7 = .ok (.invokestatic 228, 3) := by decide +kernel
theorem dX7_held_10 : decode cX7_held 10 = .ok (.invokestatic 286, 3) := by decide +kernel
theorem dX7_held_13 : decode cX7_held 13 = .ok (.ireturn, 1) := by decide +kernel
theorem dX7_begin_0 : decode cX7_begin 0 = .ok (.aload_n 0, 1) := by decide +kernel
theorem dX7_begin_1 : decode cX7_begin 1 = .ok (.getfield 10, 3) := by decide +kernel
theorem dX7_begin_4 : decode cX7_begin 4 = .ok (.invokevirtual 318, 3) := by decide +kernel
theorem dX7_begin_7 : decode cX7_begin 7 = .ok (.ifCond .ne 43, 3) := by decide +kernel
theorem dX7_begin_10 : decode cX7_begin 10 = .ok (.aload_n 0, 1) := by decide +kernel
theorem dX7_begin_11 : decode cX7_begin 11 = .ok (.getfield 10, 3) := by decide +kernel
theorem dX7_begin_14 : decode cX7_begin 14 = .ok (.invokevirtual 321, 3) := by decide +kernel
theorem dX7_begin_17 : decode cX7_begin 17 = .ok (.iconst 0, 1) := by decide +kernel
theorem dX7_begin_18 : decode cX7_begin 18 = .ok (.istore_n 1, 1) := by decide +kernel
theorem dX7_begin_19 : decode cX7_begin 19 = .ok (.iload_n 1, 1) := by decide +kernel
theorem dX7_begin_20 : decode cX7_begin 20 = .ok (.bipush 6, 2) := by decide +kernel
theorem dX7_begin_22 : decode cX7_begin 22 = .ok (.if_icmp .ge 28, 3) := by decide +kernel
theorem dX7_begin_25 : decode cX7_begin 25 = .ok (.aload_n 0, 1) := by decide +kernel
theorem dX7_begin_26 : decode cX7_begin 26 = .ok (.getfield 10, 3) := by decide +kernel
theorem dX7_begin_29 : decode cX7_begin 29 = .ok (.aload_n 0, 1) := by decide +kernel
theorem dX7_begin_30 : decode cX7_begin 30 = .ok (.getfield 49, 3) := by decide +kernel
theorem dX7_begin_33 : decode cX7_begin 33 = .ok (.iload_n 1, 1) := by decide +kernel
theorem dX7_begin_34 : decode cX7_begin 34 = .ok (.iaload, 1) := by decide +kernel
theorem dX7_begin_35 : decode cX7_begin 35 = .ok (.aload_n 0, 1) := by decide +kernel
theorem dX7_begin_36 : decode cX7_begin 36 = .ok (.getfield 53, 3) := by decide +kernel
theorem dX7_begin_39 : decode cX7_begin 39 = .ok (.iload_n 1, 1) := by decide +kernel
theorem dX7_begin_40 : decode cX7_begin 40 = .ok (.iaload, 1) := by decide +kernel
theorem dX7_begin_41 : decode cX7_begin 41 = .ok (.invokevirtual 324, 3) := by decide +kernel
theorem dX7_begin_44 : decode cX7_begin 44 = .ok (.iinc 1 1, 3) := by decide +kernel
theorem dX7_begin_47 : decode cX7_begin 47 = .ok (.goto (-28), 3) := by decide +kernel
theorem dX7_begin_50 : decode cX7_begin 50 = .ok (.aload_n 0, 1) := by decide +kernel
theorem dX7_begin_51 : decode cX7_begin 51 = .ok (.getfield 10, 3) := by decide +kernel
theorem dX7_begin_54 : decode cX7_begin 54 = .ok (.getfield 130, 3) := by decide +kernel
theorem dX7_begin_57 : decode cX7_begin 57 = .ok (.ireturn, 1) := by decide +kernel
theorem dX7_keep_0 : decode cX7_keep 0 = .ok (.aload_n 0, 1) := by decide +kernel
theorem dX7_keep_1 : decode cX7_keep 1 = .ok (.getfield 49, 3) := by decide +kernel
theorem dX7_keep_4 : decode cX7_keep 4 = .ok (.iload_n 1, 1) := by decide +kernel
theorem dX7_keep_5 : decode cX7_keep 5 = .ok (.iload_n 2, 1) := by decide +kernel
theorem dX7_keep_6 : decode cX7_keep 6 = .ok (.iastore, 1) := by decide +kernel
theorem dX7_keep_7 : decode cX7_keep 7 = .ok (.aload_n 0, 1) := by decide +kernel
theorem dX7_keep_8 : decode cX7_keep 8 = .ok (.getfield 53, 3) := by decide +kernel
theorem dX7_keep_11 : decode cX7_keep 11 = .ok (.iload_n 1, 1) := by decide +kernel
theorem dX7_keep_12 : decode cX7_keep 12 = .ok (.iload_n 3, 1) := by decide +kernel
theorem dX7_keep_13 : decode cX7_keep 13 = .ok (.iastore, 1) := by decide +kernel
theorem dX7_keep_14 : decode cX7_keep 14 = .ok (.iload_n 3, 1) := by decide +kernel
theorem dX7_keep_15 : decode cX7_keep 15 = .ok (.ireturn, 1) := by decide +kernel
theorem dX7_readBoth_0 : decode cX7_readBoth 0 = .ok (.aload_n 0, 1) := by decide +kernel
theorem dX7_readBoth_1 : decode cX7_readBoth 1 = .ok (.getfield 10, 3) := by decide +kernel
theorem dX7_readBoth_4 : decode cX7_readBoth 4 = .ok (.aload_n 0, 1) := by decide +kernel
theorem dX7_readBoth_5 : decode cX7_readBoth 5 = .ok (.getfield 49, 3) := by decide +kernel
theorem dX7_readBoth_8 : decode cX7_readBoth 8 = .ok (.iload_n 1, 1) := by decide +kernel
theorem dX7_readBoth_9 : decode cX7_readBoth 9 = .ok (.iaload, 1) := by decide +kernel
theorem dX7_readBoth_10 : decode cX7_readBoth 10 = .ok (.aload_n 0, 1) := by decide +kernel
theorem dX7_readBoth_11 : decode cX7_readBoth 11 = .ok (.getfield 53, 3) := by decide +kernel
theorem dX7_readBoth_14 : decode cX7_readBoth 14 = .ok (.iload_n 1, 1) := by decide +kernel
theorem dX7_readBoth_15 : decode cX7_readBoth 15 = .ok (.iaload, 1) := by decide +kernel
theorem dX7_readBoth_16 : decode cX7_readBoth 16 = .ok (.aload_n 0, 1) := by decide +kernel
theorem dX7_readBoth_17 : decode cX7_readBoth 17 = .ok (.getfield 56, 3) := by decide +kernel
theorem dX7_readBoth_20 : decode cX7_readBoth 20 = .ok (.invokevirtual 201, 3) := by decide +kernel
theorem dX7_readBoth_23 : decode cX7_readBoth 23 = .ok (.aload_n 0, 1) := by decide +kernel
theorem dX7_readBoth_24 : decode cX7_readBoth 24 = .ok (.getfield 10, 3) := by decide +kernel
theorem dX7_readBoth_27 : decode cX7_readBoth 27 = .ok (.aload_n 0, 1) := by decide +kernel
theorem dX7_readBoth_28 : decode cX7_readBoth 28 = .ok (.getfield 49, 3) := by decide +kernel
theorem dX7_readBoth_31 : decode cX7_readBoth 31 = .ok (.iload_n 2, 1) := by decide +kernel
theorem dX7_readBoth_32 : decode cX7_readBoth 32 = .ok (.iaload, 1) := by decide +kernel
theorem dX7_readBoth_33 : decode cX7_readBoth 33 = .ok (.aload_n 0, 1) := by decide +kernel
theorem dX7_readBoth_34 : decode cX7_readBoth 34 = .ok (.getfield 53, 3) := by decide +kernel
theorem dX7_readBoth_37 : decode cX7_readBoth 37 = .ok (.iload_n 2, 1) := by decide +kernel
theorem dX7_readBoth_38 : decode cX7_readBoth 38 = .ok (.iaload, 1) := by decide +kernel
theorem dX7_readBoth_39 : decode cX7_readBoth 39 = .ok (.aload_n 0, 1) := by decide +kernel
theorem dX7_readBoth_40 : decode cX7_readBoth 40 = .ok (.getfield 59, 3) := by decide +kernel
theorem dX7_readBoth_43 : decode cX7_readBoth 43 = .ok (.invokevirtual 201, 3) := by decide +kernel
theorem dX7_readBoth_46 : decode cX7_readBoth 46 = .ok (.return_, 1) := by decide +kernel
theorem dX7_putOne_0 : decode cX7_putOne 0 = .ok (.iload_n 1, 1) := by decide +kernel
theorem dX7_putOne_1 : decode cX7_putOne 1 = .ok (.invokestatic 86, 3) := by decide +kernel
theorem dX7_putOne_4 : decode cX7_putOne 4 = .ok (.ifCond .eq 17, 3) := by decide +kernel
theorem dX7_putOne_7 : decode cX7_putOne 7 = .ok (.iload_n 2, 1) := by decide +kernel
theorem dX7_putOne_8 : decode cX7_putOne 8 = .ok (.invokestatic 117, 3) := by decide +kernel
theorem dX7_putOne_11 : decode cX7_putOne 11 = .ok (.ifCond .eq 10, 3) := by decide +kernel
theorem dX7_putOne_14 : decode cX7_putOne 14 = .ok (.iload_n 3, 1) := by decide +kernel
theorem dX7_putOne_15 : decode cX7_putOne 15 = .ok (.invokestatic 86, 3) := by decide +kernel
theorem dX7_putOne_18 : decode cX7_putOne 18 = .ok (.ifCond .ne 5, 3) := by decide +kernel
theorem dX7_putOne_21 : decode cX7_putOne 21 = .ok (.iconst (-1), 1) := by decide +kernel
theorem dX7_putOne_22 : decode cX7_putOne 22 = .ok (.ireturn, 1) := by decide +kernel
theorem dX7_putOne_23 : decode cX7_putOne 23 = .ok (.aload_n 0, 1) := by decide +kernel
theorem dX7_putOne_24 : decode cX7_putOne 24 = .ok (.getfield 53, 3) := by decide +kernel
theorem dX7_putOne_27 : decode cX7_putOne 27 = .ok (.iload_n 1, 1) := by decide +kernel
theorem dX7_putOne_28 : decode cX7_putOne 28 = .ok (.iaload, 1) := by decide +kernel
theorem dX7_putOne_29 : decode cX7_putOne 29 = .ok (.sipush 255, 3) := by decide +kernel
theorem dX7_putOne_32 : decode cX7_putOne 32 = .ok (.if_icmp .ne 6, 3) := by decide +kernel
theorem dX7_putOne_35 : decode cX7_putOne 35 = .ok (.bipush (-2), 2) := by decide +kernel
theorem dX7_putOne_37 : decode cX7_putOne 37 = .ok (.ireturn, 1) := by decide +kernel
theorem dX7_putOne_38 : decode cX7_putOne 38 = .ok (.aload_n 0, 1) := by decide +kernel
theorem dX7_putOne_39 : decode cX7_putOne 39 = .ok (.invokevirtual 120, 3) := by decide +kernel
theorem dX7_putOne_42 : decode cX7_putOne 42 = .ok (.istore 5, 2) := by decide +kernel
theorem dX7_putOne_44 : decode cX7_putOne 44 = .ok (.aload_n 0, 1) := by decide +kernel
theorem dX7_putOne_45 : decode cX7_putOne 45 = .ok (.iload_n 3, 1) := by decide +kernel
theorem dX7_putOne_46 : decode cX7_putOne 46 = .ok (.aload_n 0, 1) := by decide +kernel
theorem dX7_putOne_47 : decode cX7_putOne 47 = .ok (.getfield 10, 3) := by decide +kernel
theorem dX7_putOne_50 : decode cX7_putOne 50 = .ok (.iload_n 2, 1) := by decide +kernel
theorem dX7_putOne_51 : decode cX7_putOne 51 = .ok (.aload_n 0, 1) := by decide +kernel
theorem dX7_putOne_52 : decode cX7_putOne 52 = .ok (.getfield 49, 3) := by decide +kernel
theorem dX7_putOne_55 : decode cX7_putOne 55 = .ok (.iload_n 1, 1) := by decide +kernel
theorem dX7_putOne_56 : decode cX7_putOne 56 = .ok (.iaload, 1) := by decide +kernel
theorem dX7_putOne_57 : decode cX7_putOne 57 = .ok (.aload_n 0, 1) := by decide +kernel
theorem dX7_putOne_58 : decode cX7_putOne 58 = .ok (.getfield 53, 3) := by decide +kernel
theorem dX7_putOne_61 : decode cX7_putOne 61 = .ok (.iload_n 1, 1) := by decide +kernel
theorem dX7_putOne_62 : decode cX7_putOne 62 = .ok (.iaload, 1) := by decide +kernel
theorem dX7_putOne_63 : decode cX7_putOne 63 = .ok (.iload 4, 2) := by decide +kernel
theorem dX7_putOne_65 : decode cX7_putOne 65 = .ok (.invokevirtual 222, 3) := by decide +kernel
theorem dX7_putOne_68 : decode cX7_putOne 68 = .ok (.aload_n 0, 1) := by decide +kernel
theorem dX7_putOne_69 : decode cX7_putOne 69 = .ok (.getfield 53, 3) := by decide +kernel
theorem dX7_putOne_72 : decode cX7_putOne 72 = .ok (.iload_n 1, 1) := by decide +kernel
theorem dX7_putOne_73 : decode cX7_putOne 73 = .ok (.iaload, 1) := by decide +kernel
theorem dX7_putOne_74 : decode cX7_putOne 74 = .ok (.iconst 1, 1) := by decide +kernel
theorem dX7_putOne_75 : decode cX7_putOne 75 = .ok (.iadd, 1) := by decide +kernel
theorem dX7_putOne_76 : decode cX7_putOne 76 = .ok (.invokevirtual 126, 3) := by decide +kernel
theorem dX7_putOne_79 : decode cX7_putOne 79 = .ok (.pop, 1) := by decide +kernel
theorem dX7_putOne_80 : decode cX7_putOne 80 = .ok (.aload_n 0, 1) := by decide +kernel
theorem dX7_putOne_81 : decode cX7_putOne 81 = .ok (.getfield 10, 3) := by decide +kernel
theorem dX7_putOne_84 : decode cX7_putOne 84 = .ok (.getfield 130, 3) := by decide +kernel
theorem dX7_putOne_87 : decode cX7_putOne 87 = .ok (.iload 5, 2) := by decide +kernel
theorem dX7_putOne_89 : decode cX7_putOne 89 = .ok (.isub, 1) := by decide +kernel
theorem dX7_putOne_90 : decode cX7_putOne 90 = .ok (.ireturn, 1) := by decide +kernel
theorem dX7_takeOne_0 : decode cX7_takeOne 0 = .ok (.aload_n 0, 1) := by decide +kernel
theorem dX7_takeOne_1 : decode cX7_takeOne 1 = .ok (.getfield 19, 3) := by decide +kernel
theorem dX7_takeOne_4 : decode cX7_takeOne 4 = .ok (.aload_n 0, 1) := by decide +kernel
theorem dX7_takeOne_5 : decode cX7_takeOne 5 = .ok (.getfield 10, 3) := by decide +kernel
theorem dX7_takeOne_8 : decode cX7_takeOne 8 = .ok (.aload_n 0, 1) := by decide +kernel
theorem dX7_takeOne_9 : decode cX7_takeOne 9 = .ok (.getfield 49, 3) := by decide +kernel
theorem dX7_takeOne_12 : decode cX7_takeOne 12 = .ok (.iload_n 1, 1) := by decide +kernel
theorem dX7_takeOne_13 : decode cX7_takeOne 13 = .ok (.iaload, 1) := by decide +kernel
theorem dX7_takeOne_14 : decode cX7_takeOne 14 = .ok (.iload_n 2, 1) := by decide +kernel
theorem dX7_takeOne_15 : decode cX7_takeOne 15 = .ok (.invokevirtual 168, 3) := by decide +kernel
theorem dX7_takeOne_18 : decode cX7_takeOne 18 = .ok (.i2l, 1) := by decide +kernel
theorem dX7_takeOne_19 : decode cX7_takeOne 19 = .ok (.invokevirtual 171, 3) := by decide +kernel
theorem dX7_takeOne_22 : decode cX7_takeOne 22 = .ok (.aload_n 0, 1) := by decide +kernel
theorem dX7_takeOne_23 : decode cX7_takeOne 23 = .ok (.invokevirtual 120, 3) := by decide +kernel
theorem dX7_takeOne_26 : decode cX7_takeOne 26 = .ok (.istore 5, 2) := by decide +kernel
theorem dX7_takeOne_28 : decode cX7_takeOne 28 = .ok (.aload_n 0, 1) := by decide +kernel
theorem dX7_takeOne_29 : decode cX7_takeOne 29 = .ok (.iload_n 3, 1) := by decide +kernel
theorem dX7_takeOne_30 : decode cX7_takeOne 30 = .ok (.aload_n 0, 1) := by decide +kernel
theorem dX7_takeOne_31 : decode cX7_takeOne 31 = .ok (.getfield 10, 3) := by decide +kernel
theorem dX7_takeOne_34 : decode cX7_takeOne 34 = .ok (.aload_n 0, 1) := by decide +kernel
theorem dX7_takeOne_35 : decode cX7_takeOne 35 = .ok (.getfield 49, 3) := by decide +kernel
theorem dX7_takeOne_38 : decode cX7_takeOne 38 = .ok (.iload_n 1, 1) := by decide +kernel
theorem dX7_takeOne_39 : decode cX7_takeOne 39 = .ok (.iaload, 1) := by decide +kernel
theorem dX7_takeOne_40 : decode cX7_takeOne 40 = .ok (.aload_n 0, 1) := by decide +kernel
theorem dX7_takeOne_41 : decode cX7_takeOne 41 = .ok (.getfield 53, 3) := by decide +kernel
theorem dX7_takeOne_44 : decode cX7_takeOne 44 = .ok (.iload_n 1, 1) := by decide +kernel
theorem dX7_takeOne_45 : decode cX7_takeOne 45 = .ok (.iaload, 1) := by decide +kernel
theorem dX7_takeOne_46 : decode cX7_takeOne 46 = .ok (.iload 4, 2) := by decide +kernel
theorem dX7_takeOne_48 : decode cX7_takeOne 48 = .ok (.invokevirtual 219, 3) := by decide +kernel
theorem dX7_takeOne_51 : decode cX7_takeOne 51 = .ok (.aload_n 0, 1) := by decide +kernel
theorem dX7_takeOne_52 : decode cX7_takeOne 52 = .ok (.getfield 53, 3) := by decide +kernel
theorem dX7_takeOne_55 : decode cX7_takeOne 55 = .ok (.iload_n 1, 1) := by decide +kernel
theorem dX7_takeOne_56 : decode cX7_takeOne 56 = .ok (.iaload, 1) := by decide +kernel
theorem dX7_takeOne_57 : decode cX7_takeOne 57 = .ok (.iconst 1, 1) := by decide +kernel
theorem dX7_takeOne_58 : decode cX7_takeOne 58 = .ok (.isub, 1) := by decide +kernel
theorem dX7_takeOne_59 : decode cX7_takeOne 59 = .ok (.invokevirtual 126, 3) := by decide +kernel
theorem dX7_takeOne_62 : decode cX7_takeOne 62 = .ok (.pop, 1) := by decide +kernel
theorem dX7_takeOne_63 : decode cX7_takeOne 63 = .ok (.aload_n 0, 1) := by decide +kernel
theorem dX7_takeOne_64 : decode cX7_takeOne 64 = .ok (.getfield 10, 3) := by decide +kernel
theorem dX7_takeOne_67 : decode cX7_takeOne 67 = .ok (.getfield 130, 3) := by decide +kernel
theorem dX7_takeOne_70 : decode cX7_takeOne 70 = .ok (.iload 5, 2) := by decide +kernel
theorem dX7_takeOne_72 : decode cX7_takeOne 72 = .ok (.isub, 1) := by decide +kernel
theorem dX7_takeOne_73 : decode cX7_takeOne 73 = .ok (.ireturn, 1) := by decide +kernel
theorem dX7_renew_0 : decode cX7_renew 0 = .ok (.aload_n 0, 1) := by decide +kernel
theorem dX7_renew_1 : decode cX7_renew 1 = .ok (.invokevirtual 120, 3) := by decide +kernel
theorem dX7_renew_4 : decode cX7_renew 4 = .ok (.istore_n 3, 1) := by decide +kernel
theorem dX7_renew_5 : decode cX7_renew 5 = .ok (.aload_n 0, 1) := by decide +kernel
theorem dX7_renew_6 : decode cX7_renew 6 = .ok (.iload_n 2, 1) := by decide +kernel
theorem dX7_renew_7 : decode cX7_renew 7 = .ok (.aload_n 0, 1) := by decide +kernel
theorem dX7_renew_8 : decode cX7_renew 8 = .ok (.getfield 10, 3) := by decide +kernel
theorem dX7_renew_11 : decode cX7_renew 11 = .ok (.aload_n 0, 1) := by decide +kernel
theorem dX7_renew_12 : decode cX7_renew 12 = .ok (.getfield 49, 3) := by decide +kernel
theorem dX7_renew_15 : decode cX7_renew 15 = .ok (.iload_n 1, 1) := by decide +kernel
theorem dX7_renew_16 : decode cX7_renew 16 = .ok (.iaload, 1) := by decide +kernel
theorem dX7_renew_17 : decode cX7_renew 17 = .ok (.aload_n 0, 1) := by decide +kernel
theorem dX7_renew_18 : decode cX7_renew 18 = .ok (.getfield 53, 3) := by decide +kernel
theorem dX7_renew_21 : decode cX7_renew 21 = .ok (.iload_n 1, 1) := by decide +kernel
theorem dX7_renew_22 : decode cX7_renew 22 = .ok (.iaload, 1) := by decide +kernel
theorem dX7_renew_23 : decode cX7_renew 23 = .ok (.aload_n 0, 1) := by decide +kernel
theorem dX7_renew_24 : decode cX7_renew 24 = .ok (.getfield 45, 3) := by decide +kernel
theorem dX7_renew_27 : decode cX7_renew 27 = .ok (.aload_n 0, 1) := by decide +kernel
theorem dX7_renew_28 : decode cX7_renew 28 = .ok (.getfield 56, 3) := by decide +kernel
theorem dX7_renew_31 : decode cX7_renew 31 = .ok (.invokevirtual 331, 3) := by decide +kernel
theorem dX7_renew_34 : decode cX7_renew 34 = .ok (.aload_n 0, 1) := by decide +kernel
theorem dX7_renew_35 : decode cX7_renew 35 = .ok (.getfield 53, 3) := by decide +kernel
theorem dX7_renew_38 : decode cX7_renew 38 = .ok (.iload_n 1, 1) := by decide +kernel
theorem dX7_renew_39 : decode cX7_renew 39 = .ok (.iaload, 1) := by decide +kernel
theorem dX7_renew_40 : decode cX7_renew 40 = .ok (.invokevirtual 126, 3) := by decide +kernel
theorem dX7_renew_43 : decode cX7_renew 43 = .ok (.pop, 1) := by decide +kernel
theorem dX7_renew_44 : decode cX7_renew 44 = .ok (.aload_n 0, 1) := by decide +kernel
theorem dX7_renew_45 : decode cX7_renew 45 = .ok (.getfield 10, 3) := by decide +kernel
theorem dX7_renew_48 : decode cX7_renew 48 = .ok (.getfield 130, 3) := by decide +kernel
theorem dX7_renew_51 : decode cX7_renew 51 = .ok (.iload_n 3, 1) := by decide +kernel
theorem dX7_renew_52 : decode cX7_renew 52 = .ok (.isub, 1) := by decide +kernel
theorem dX7_renew_53 : decode cX7_renew 53 = .ok (.ireturn, 1) := by decide +kernel
theorem dX7_markUnlike_0 : decode cX7_markUnlike 0 = .ok (.aload_n 0, 1) := by decide +kernel
theorem dX7_markUnlike_1 : decode cX7_markUnlike 1 = .ok (.getfield 45, 3) := by decide +kernel
theorem dX7_markUnlike_4 : decode cX7_markUnlike 4 = .ok (.invokevirtual 198, 3) := by decide +kernel
theorem dX7_markUnlike_7 : decode cX7_markUnlike 7 = .ok (.iconst 0, 1) := by decide +kernel
theorem dX7_markUnlike_8 : decode cX7_markUnlike 8 = .ok (.istore_n 2, 1) := by decide +kernel
theorem dX7_markUnlike_9 : decode cX7_markUnlike 9 = .ok (.iconst 0, 1) := by decide +kernel
theorem dX7_markUnlike_10 : decode cX7_markUnlike 10 = .ok (.istore_n 3, 1) := by decide +kernel
theorem dX7_markUnlike_11 : decode cX7_markUnlike 11 = .ok (.iload_n 3, 1) := by decide +kernel
theorem dX7_markUnlike_12 : decode cX7_markUnlike 12 = .ok (.iload_n 1, 1) := by decide +kernel
theorem dX7_markUnlike_13 : decode cX7_markUnlike 13 = .ok (.if_icmp .ge 35, 3) := by decide +kernel
theorem dX7_markUnlike_16 : decode cX7_markUnlike 16 = .ok (.aload_n 0, 1) := by decide +kernel
theorem dX7_markUnlike_17 : decode cX7_markUnlike 17 = .ok (.getfield 56, 3) := by decide +kernel
theorem dX7_markUnlike_20 : decode cX7_markUnlike 20 = .ok (.iload_n 3, 1) := by decide +kernel
theorem dX7_markUnlike_21 : decode cX7_markUnlike 21 = .ok (.iaload, 1) := by decide +kernel
theorem dX7_markUnlike_22 : decode cX7_markUnlike 22 = .ok (.aload_n 0, 1) := by decide +kernel
theorem dX7_markUnlike_23 : decode cX7_markUnlike 23 = .ok (.getfield 59, 3) := by decide +kernel
theorem dX7_markUnlike_26 : decode cX7_markUnlike 26 = .ok (.iload_n 3, 1) := by decide +kernel
theorem dX7_markUnlike_27 : decode cX7_markUnlike 27 = .ok (.iaload, 1) := by decide +kernel
theorem dX7_markUnlike_28 : decode cX7_markUnlike 28 = .ok (.if_icmp .eq 14, 3) := by decide +kernel
theorem dX7_markUnlike_31 : decode cX7_markUnlike 31 = .ok (.aload_n 0, 1) := by decide +kernel
theorem dX7_markUnlike_32 : decode cX7_markUnlike 32 = .ok (.getfield 45, 3) := by decide +kernel
theorem dX7_markUnlike_35 : decode cX7_markUnlike 35 = .ok (.iload_n 3, 1) := by decide +kernel
theorem dX7_markUnlike_36 : decode cX7_markUnlike 36 = .ok (.invokevirtual 208, 3) := by decide +kernel
theorem dX7_markUnlike_39 : decode cX7_markUnlike 39 = .ok (.iinc 2 1, 3) := by decide +kernel
theorem dX7_markUnlike_42 : decode cX7_markUnlike 42 = .ok (.iinc 3 1, 3) := by decide +kernel
theorem dX7_markUnlike_45 : decode cX7_markUnlike 45 = .ok (.goto (-34), 3) := by decide +kernel
theorem dX7_markUnlike_48 : decode cX7_markUnlike 48 = .ok (.iload_n 2, 1) := by decide +kernel
theorem dX7_markUnlike_49 : decode cX7_markUnlike 49 = .ok (.ireturn, 1) := by decide +kernel
theorem dX7_seeAll_0 : decode cX7_seeAll 0 = .ok (.aload_n 0, 1) := by decide +kernel
theorem dX7_seeAll_1 : decode cX7_seeAll 1 = .ok (.getfield 10, 3) := by decide +kernel
theorem dX7_seeAll_4 : decode cX7_seeAll 4 = .ok (.aload_n 0, 1) := by decide +kernel
theorem dX7_seeAll_5 : decode cX7_seeAll 5 = .ok (.getfield 49, 3) := by decide +kernel
theorem dX7_seeAll_8 : decode cX7_seeAll 8 = .ok (.iload_n 1, 1) := by decide +kernel
theorem dX7_seeAll_9 : decode cX7_seeAll 9 = .ok (.iaload, 1) := by decide +kernel
theorem dX7_seeAll_10 : decode cX7_seeAll 10 = .ok (.aload_n 0, 1) := by decide +kernel
theorem dX7_seeAll_11 : decode cX7_seeAll 11 = .ok (.getfield 53, 3) := by decide +kernel
theorem dX7_seeAll_14 : decode cX7_seeAll 14 = .ok (.iload_n 1, 1) := by decide +kernel
theorem dX7_seeAll_15 : decode cX7_seeAll 15 = .ok (.iaload, 1) := by decide +kernel
theorem dX7_seeAll_16 : decode cX7_seeAll 16 = .ok (.invokevirtual 280, 3) := by decide +kernel
theorem dX7_seeAll_19 : decode cX7_seeAll 19 = .ok (.iconst 0, 1) := by decide +kernel
theorem dX7_seeAll_20 : decode cX7_seeAll 20 = .ok (.istore_n 3, 1) := by decide +kernel
theorem dX7_seeAll_21 : decode cX7_seeAll 21 = .ok (.iload_n 3, 1) := by decide +kernel
theorem dX7_seeAll_22 : decode cX7_seeAll 22 = .ok (.aload_n 0, 1) := by decide +kernel
theorem dX7_seeAll_23 : decode cX7_seeAll 23 = .ok (.getfield 53, 3) := by decide +kernel
theorem dX7_seeAll_26 : decode cX7_seeAll 26 = .ok (.iload_n 1, 1) := by decide +kernel
theorem dX7_seeAll_27 : decode cX7_seeAll 27 = .ok (.iaload, 1) := by decide +kernel
theorem dX7_seeAll_28 : decode cX7_seeAll 28 = .ok (.if_icmp .ge 19, 3) := by decide +kernel
theorem dX7_seeAll_31 : decode cX7_seeAll 31 = .ok (.aload_n 0, 1) := by decide +kernel
theorem dX7_seeAll_32 : decode cX7_seeAll 32 = .ok (.getfield 10, 3) := by decide +kernel
theorem dX7_seeAll_35 : decode cX7_seeAll 35 = .ok (.iload_n 3, 1) := by decide +kernel
theorem dX7_seeAll_36 : decode cX7_seeAll 36 = .ok (.iload_n 2, 1) := by decide +kernel
theorem dX7_seeAll_37 : decode cX7_seeAll 37 = .ok (.invokevirtual 289, 3) := by decide +kernel
theorem dX7_seeAll_40 : decode cX7_seeAll 40 = .ok (.pop, 1) := by decide +kernel
theorem dX7_seeAll_41 : decode cX7_seeAll 41 = .ok (.iinc 3 1, 3) := by decide +kernel
theorem dX7_seeAll_44 : decode cX7_seeAll 44 = .ok (.goto (-23), 3) := by decide +kernel
theorem dX7_seeAll_47 : decode cX7_seeAll 47 = .ok (.return_, 1) := by decide +kernel
theorem dX7_nodesInBoth_0 : decode cX7_nodesInBoth 0 = .ok (.aload_n 0, 1) := by decide +kernel
theorem dX7_nodesInBoth_1 : decode cX7_nodesInBoth 1 = .ok (.getfield 10, 3) := by decide +kernel
theorem dX7_nodesInBoth_4 : decode cX7_nodesInBoth 4 = .ok (.invokevirtual 277, 3) := by decide +kernel
theorem dX7_nodesInBoth_7 : decode cX7_nodesInBoth 7 = .ok (.aload_n 0, 1) := by decide +kernel
theorem dX7_nodesInBoth_8 : decode cX7_nodesInBoth 8 = .ok (.iload_n 1, 1) := by decide +kernel
theorem dX7_nodesInBoth_9 : decode cX7_nodesInBoth 9 = .ok (.iconst 1, 1) := by decide +kernel
theorem dX7_nodesInBoth_10 : decode cX7_nodesInBoth 10 = .ok (.invokevirtual 297, 3) := by decide +kernel
theorem dX7_nodesInBoth_13 : decode cX7_nodesInBoth 13 = .ok (.aload_n 0, 1) := by decide +kernel
theorem dX7_nodesInBoth_14 : decode cX7_nodesInBoth 14 = .ok (.getfield 10, 3) := by decide +kernel
theorem dX7_nodesInBoth_17 : decode cX7_nodesInBoth 17 = .ok (.aload_n 0, 1) := by decide +kernel
theorem dX7_nodesInBoth_18 : decode cX7_nodesInBoth 18 = .ok (.getfield 49, 3) := by decide +kernel
theorem dX7_nodesInBoth_21 : decode cX7_nodesInBoth 21 = .ok (.iload_n 2, 1) := by decide +kernel
theorem dX7_nodesInBoth_22 : decode cX7_nodesInBoth 22 = .ok (.iaload, 1) := by decide +kernel
theorem dX7_nodesInBoth_23 : decode cX7_nodesInBoth 23 = .ok (.aload_n 0, 1) := by decide +kernel
theorem dX7_nodesInBoth_24 : decode cX7_nodesInBoth 24 = .ok (.getfield 53, 3) := by decide +kernel
theorem dX7_nodesInBoth_27 : decode cX7_nodesInBoth 27 = .ok (.iload_n 2, 1) := by decide +kernel
theorem dX7_nodesInBoth_28 : decode cX7_nodesInBoth 28 = .ok (.iaload, 1) := by decide +kernel
theorem dX7_nodesInBoth_29 : decode cX7_nodesInBoth 29 = .ok (.invokevirtual 280, 3) := by decide +kernel
theorem dX7_nodesInBoth_32 : decode cX7_nodesInBoth 32 = .ok (.iconst 0, 1) := by decide +kernel
theorem dX7_nodesInBoth_33 : decode cX7_nodesInBoth 33 = .ok (.istore_n 3, 1) := by decide +kernel
theorem dX7_nodesInBoth_34 : decode cX7_nodesInBoth 34 = .ok (.iconst 0, 1) := by decide +kernel
theorem dX7_nodesInBoth_35 : decode cX7_nodesInBoth 35 = .ok (.istore 4, 2) := by decide +kernel
theorem dX7_nodesInBoth_37 : decode cX7_nodesInBoth 37 = .ok (.iload 4, 2) := by decide +kernel
theorem dX7_nodesInBoth_39 : decode cX7_nodesInBoth 39 = .ok (.aload_n 0, 1) := by decide +kernel
theorem dX7_nodesInBoth_40 : decode cX7_nodesInBoth 40 = .ok (.getfield 53, 3) := by decide +kernel
theorem dX7_nodesInBoth_43 : decode cX7_nodesInBoth 43 = .ok (.iload_n 2, 1) := by decide +kernel
theorem dX7_nodesInBoth_44 : decode cX7_nodesInBoth 44 = .ok (.iaload, 1) := by decide +kernel
theorem dX7_nodesInBoth_45 : decode cX7_nodesInBoth 45 = .ok (.if_icmp .ge 31, 3) := by decide +kernel
theorem dX7_nodesInBoth_48 : decode cX7_nodesInBoth 48 = .ok (.iload_n 3, 1) := by decide +kernel
theorem dX7_nodesInBoth_49 : decode cX7_nodesInBoth 49 = .ok (.aload_n 0, 1) := by decide +kernel
theorem dX7_nodesInBoth_50 : decode cX7_nodesInBoth 50 = .ok (.getfield 10, 3) := by decide +kernel
theorem dX7_nodesInBoth_53 : decode cX7_nodesInBoth 53 = .ok (.iload 4, 2) := by decide +kernel
theorem dX7_nodesInBoth_55 : decode cX7_nodesInBoth 55 = .ok (.iconst 2, 1) := by decide +kernel
theorem dX7_nodesInBoth_56 : decode cX7_nodesInBoth 56 = .ok (.invokevirtual 289, 3) := by decide +kernel
theorem dX7_nodesInBoth_59 : decode cX7_nodesInBoth 59 = .ok (.iconst 1, 1) := by decide +kernel
theorem dX7_nodesInBoth_60 : decode cX7_nodesInBoth 60 = .ok (.if_icmp .ne 7, 3) := by decide +kernel
theorem dX7_nodesInBoth_63 : decode cX7_nodesInBoth 63 = .ok (.iconst 1, 1) := by decide +kernel
theorem dX7_nodesInBoth_64 : decode cX7_nodesInBoth 64 = .ok (.goto 4, 3) := by decide +kernel
theorem dX7_nodesInBoth_67 : decode cX7_nodesInBoth 67 = .ok (.iconst 0, 1) := by decide +kernel
theorem dX7_nodesInBoth_68 : decode cX7_nodesInBoth 68 = .ok (.iadd, 1) := by decide +kernel
theorem dX7_nodesInBoth_69 : decode cX7_nodesInBoth 69 = .ok (.istore_n 3, 1) := by decide +kernel
theorem dX7_nodesInBoth_70 : decode cX7_nodesInBoth 70 = .ok (.iinc 4 1, 3) := by decide +kernel
theorem dX7_nodesInBoth_73 : decode cX7_nodesInBoth 73 = .ok (.goto (-36), 3) := by decide +kernel
theorem dX7_nodesInBoth_76 : decode cX7_nodesInBoth 76 = .ok (.iload_n 3, 1) := by decide +kernel
theorem dX7_nodesInBoth_77 : decode cX7_nodesInBoth 77 = .ok (.ireturn, 1) := by decide +kernel
theorem dX7_placesInUse_0 : decode cX7_placesInUse 0 = .ok (.iconst 0, 1) := by decide +kernel
theorem dX7_placesInUse_1 : decode cX7_placesInUse 1 = .ok (.istore_n 1, 1) := by decide +kernel
theorem dX7_placesInUse_2 : decode cX7_placesInUse 2 = .ok (.iconst 0, 1) := by decide +kernel
theorem dX7_placesInUse_3 : decode cX7_placesInUse 3 = .ok (.istore_n 2, 1) := by decide +kernel
theorem dX7_placesInUse_4 : decode cX7_placesInUse 4 = .ok (.iload_n 2, 1) := by decide +kernel
theorem dX7_placesInUse_5 : decode cX7_placesInUse 5 = .ok (.bipush 6, 2) := by decide +kernel
theorem dX7_placesInUse_7 : decode cX7_placesInUse 7 = .ok (.if_icmp .ge 28, 3) := by decide +kernel
theorem dX7_placesInUse_10 : decode cX7_placesInUse 10 = .ok (.iload_n 1, 1) := by decide +kernel
theorem dX7_placesInUse_11 : decode cX7_placesInUse 11 = .ok (.aload_n 0, 1) := by decide +kernel
theorem dX7_placesInUse_12 : decode cX7_placesInUse 12 = .ok (.getfield 53, 3) := by decide +kernel
theorem dX7_placesInUse_15 : decode cX7_placesInUse 15 = .ok (.iload_n 2, 1) := by decide +kernel
theorem dX7_placesInUse_16 : decode cX7_placesInUse 16 = .ok (.iaload, 1) := by decide +kernel
theorem dX7_placesInUse_17 : decode cX7_placesInUse 17 = .ok (.ifCond .le 9, 3) := by decide +kernel
theorem dX7_placesInUse_20 : decode cX7_placesInUse 20 = .ok (.iconst 1, 1) := by decide +kernel
theorem dX7_placesInUse_21 : decode cX7_placesInUse 21 = .ok (.iload_n 2, 1) := by decide +kernel
theorem dX7_placesInUse_22 : decode cX7_placesInUse 22 = .ok (.ishl, 1) := by decide +kernel
theorem dX7_placesInUse_23 : decode cX7_placesInUse 23 = .ok (.goto 4, 3) := by decide +kernel
theorem dX7_placesInUse_26 : decode cX7_placesInUse 26 = .ok (.iconst 0, 1) := by decide +kernel
theorem dX7_placesInUse_27 : decode cX7_placesInUse 27 = .ok (.ior, 1) := by decide +kernel
theorem dX7_placesInUse_28 : decode cX7_placesInUse 28 = .ok (.istore_n 1, 1) := by decide +kernel
theorem dX7_placesInUse_29 : decode cX7_placesInUse 29 = .ok (.iinc 2 1, 3) := by decide +kernel
theorem dX7_placesInUse_32 : decode cX7_placesInUse 32 = .ok (.goto (-28), 3) := by decide +kernel
theorem dX7_placesInUse_35 : decode cX7_placesInUse 35 = .ok (.iload_n 1, 1) := by decide +kernel
theorem dX7_placesInUse_36 : decode cX7_placesInUse 36 = .ok (.ireturn, 1) := by decide +kernel
theorem dJ6_bitCount_0f7a4_0 : decode cJ6_bitCount_0f7a4 0 = .ok (.iload_n 0, 1) := by decide +kernel
theorem dJ6_bitCount_0f7a4_1 : decode cJ6_bitCount_0f7a4 1 = .ok (.iload_n 0, 1) := by decide +kernel
theorem dJ6_bitCount_0f7a4_2 : decode cJ6_bitCount_0f7a4 2 = .ok (.iconst 1, 1) := by decide +kernel
theorem dJ6_bitCount_0f7a4_3 : decode cJ6_bitCount_0f7a4 3 = .ok (.iushr, 1) := by decide +kernel
theorem dJ6_bitCount_0f7a4_4 : decode cJ6_bitCount_0f7a4 4 = .ok (.ldc_w 265, 3) := by decide +kernel
theorem dJ6_bitCount_0f7a4_7 : decode cJ6_bitCount_0f7a4 7 = .ok (.iand, 1) := by decide +kernel
theorem dJ6_bitCount_0f7a4_8 : decode cJ6_bitCount_0f7a4 8 = .ok (.isub, 1) := by decide +kernel
theorem dJ6_bitCount_0f7a4_9 : decode cJ6_bitCount_0f7a4 9 = .ok (.istore_n 0, 1) := by decide +kernel
theorem dJ6_bitCount_0f7a4_10 : decode cJ6_bitCount_0f7a4 10 = .ok (.iload_n 0, 1) := by decide +kernel
theorem dJ6_bitCount_0f7a4_11 : decode cJ6_bitCount_0f7a4 11 = .ok (.ldc_w 266, 3) := by decide +kernel
theorem dJ6_bitCount_0f7a4_14 : decode cJ6_bitCount_0f7a4 14 = .ok (.iand, 1) := by decide +kernel
theorem dJ6_bitCount_0f7a4_15 : decode cJ6_bitCount_0f7a4 15 = .ok (.iload_n 0, 1) := by decide +kernel
theorem dJ6_bitCount_0f7a4_16 : decode cJ6_bitCount_0f7a4 16 = .ok (.iconst 2, 1) := by decide +kernel
theorem dJ6_bitCount_0f7a4_17 : decode cJ6_bitCount_0f7a4 17 = .ok (.iushr, 1) := by decide +kernel
theorem dJ6_bitCount_0f7a4_18 : decode cJ6_bitCount_0f7a4 18 = .ok (.ldc_w 266, 3) := by decide +kernel
theorem dJ6_bitCount_0f7a4_21 : decode cJ6_bitCount_0f7a4 21 = .ok (.iand, 1) := by decide +kernel
theorem dJ6_bitCount_0f7a4_22 : decode cJ6_bitCount_0f7a4 22 = .ok (.iadd, 1) := by decide +kernel
theorem dJ6_bitCount_0f7a4_23 : decode cJ6_bitCount_0f7a4 23 = .ok (.istore_n 0, 1) := by decide +kernel
theorem dJ6_bitCount_0f7a4_24 : decode cJ6_bitCount_0f7a4 24 = .ok (.iload_n 0, 1) := by decide +kernel
theorem dJ6_bitCount_0f7a4_25 : decode cJ6_bitCount_0f7a4 25 = .ok (.iload_n 0, 1) := by decide +kernel
theorem dJ6_bitCount_0f7a4_26 : decode cJ6_bitCount_0f7a4 26 = .ok (.iconst 4, 1) := by decide +kernel
theorem dJ6_bitCount_0f7a4_27 : decode cJ6_bitCount_0f7a4 27 = .ok (.iushr, 1) := by decide +kernel
theorem dJ6_bitCount_0f7a4_28 : decode cJ6_bitCount_0f7a4 28 = .ok (.iadd, 1) := by decide +kernel
theorem dJ6_bitCount_0f7a4_29 : decode cJ6_bitCount_0f7a4 29 = .ok (.ldc_w 267, 3) := by decide +kernel
theorem dJ6_bitCount_0f7a4_32 : decode cJ6_bitCount_0f7a4 32 = .ok (.iand, 1) := by decide +kernel
theorem dJ6_bitCount_0f7a4_33 : decode cJ6_bitCount_0f7a4 33 = .ok (.istore_n 0, 1) := by decide +kernel
theorem dJ6_bitCount_0f7a4_34 : decode cJ6_bitCount_0f7a4 34 = .ok (.iload_n 0, 1) := by decide +kernel
theorem dJ6_bitCount_0f7a4_35 : decode cJ6_bitCount_0f7a4 35 = .ok (.iload_n 0, 1) := by decide +kernel
theorem dJ6_bitCount_0f7a4_36 : decode cJ6_bitCount_0f7a4 36 = .ok (.bipush 8, 2) := by decide +kernel
theorem dJ6_bitCount_0f7a4_38 : decode cJ6_bitCount_0f7a4 38 = .ok (.iushr, 1) := by decide +kernel
theorem dJ6_bitCount_0f7a4_39 : decode cJ6_bitCount_0f7a4 39 = .ok (.iadd, 1) := by decide +kernel
theorem dJ6_bitCount_0f7a4_40 : decode cJ6_bitCount_0f7a4 40 = .ok (.istore_n 0, 1) := by decide +kernel
theorem dJ6_bitCount_0f7a4_41 : decode cJ6_bitCount_0f7a4 41 = .ok (.iload_n 0, 1) := by decide +kernel
theorem dJ6_bitCount_0f7a4_42 : decode cJ6_bitCount_0f7a4 42 = .ok (.iload_n 0, 1) := by decide +kernel
theorem dJ6_bitCount_0f7a4_43 : decode cJ6_bitCount_0f7a4 43 = .ok (.bipush 16, 2) := by decide +kernel
theorem dJ6_bitCount_0f7a4_45 : decode cJ6_bitCount_0f7a4 45 = .ok (.iushr, 1) := by decide +kernel
theorem dJ6_bitCount_0f7a4_46 : decode cJ6_bitCount_0f7a4 46 = .ok (.iadd, 1) := by decide +kernel
theorem dJ6_bitCount_0f7a4_47 : decode cJ6_bitCount_0f7a4 47 = .ok (.istore_n 0, 1) := by decide +kernel
theorem dJ6_bitCount_0f7a4_48 : decode cJ6_bitCount_0f7a4 48 = .ok (.iload_n 0, 1) := by decide +kernel
theorem dJ6_bitCount_0f7a4_49 : decode cJ6_bitCount_0f7a4 49 = .ok (.bipush 63, 2) := by decide +kernel
theorem dJ6_bitCount_0f7a4_51 : decode cJ6_bitCount_0f7a4 51 = .ok (.iand, 1) := by decide +kernel
theorem dJ6_bitCount_0f7a4_52 : decode cJ6_bitCount_0f7a4 52 = .ok (.ireturn, 1) := by decide +kernel
theorem dJ9_max_7cf53_0 : decode cJ9_max_7cf53 0 = .ok (.iload_n 0, 1) := by decide +kernel
theorem dJ9_max_7cf53_1 : decode cJ9_max_7cf53 1 = .ok (.iload_n 1, 1) := by decide +kernel
theorem dJ9_max_7cf53_2 : decode cJ9_max_7cf53 2 = .ok (.if_icmp .lt 7, 3) := by decide +kernel
theorem dJ9_max_7cf53_5 : decode cJ9_max_7cf53 5 = .ok (.iload_n 0, 1) := by decide +kernel
theorem dJ9_max_7cf53_6 : decode cJ9_max_7cf53 6 = .ok (.goto 4, 3) := by decide +kernel
theorem dJ9_max_7cf53_9 : decode cJ9_max_7cf53 9 = .ok (.iload_n 1, 1) := by decide +kernel
theorem dJ9_max_7cf53_10 : decode cJ9_max_7cf53 10 = .ok (.ireturn, 1) := by decide +kernel
theorem dJ9_min_7cf53_0 : decode cJ9_min_7cf53 0 = .ok (.iload_n 0, 1) := by decide +kernel
theorem dJ9_min_7cf53_1 : decode cJ9_min_7cf53 1 = .ok (.iload_n 1, 1) := by decide +kernel
theorem dJ9_min_7cf53_2 : decode cJ9_min_7cf53 2 = .ok (.if_icmp .gt 7, 3) := by decide +kernel
theorem dJ9_min_7cf53_5 : decode cJ9_min_7cf53 5 = .ok (.iload_n 0, 1) := by decide +kernel
theorem dJ9_min_7cf53_6 : decode cJ9_min_7cf53 6 = .ok (.goto 4, 3) := by decide +kernel
theorem dJ9_min_7cf53_9 : decode cJ9_min_7cf53 9 = .ok (.iload_n 1, 1) := by decide +kernel
theorem dJ9_min_7cf53_10 : decode cJ9_min_7cf53 10 = .ok (.ireturn, 1) := by decide +kernel
theorem dJ7_fill_53178_0 : decode cJ7_fill_53178 0 = .ok (.iconst 0, 1) := by decide +kernel
theorem dJ7_fill_53178_1 : decode cJ7_fill_53178 1 = .ok (.istore_n 2, 1) := by decide +kernel
theorem dJ7_fill_53178_2 : decode cJ7_fill_53178 2 = .ok (.aload_n 0, 1) := by decide +kernel
theorem dJ7_fill_53178_3 : decode cJ7_fill_53178 3 = .ok (.arraylength, 1) := by decide +kernel
theorem dJ7_fill_53178_4 : decode cJ7_fill_53178 4 = .ok (.istore_n 3, 1) := by decide +kernel
theorem dJ7_fill_53178_5 : decode cJ7_fill_53178 5 = .ok (.iload_n 2, 1) := by decide +kernel
theorem dJ7_fill_53178_6 : decode cJ7_fill_53178 6 = .ok (.iload_n 3, 1) := by decide +kernel
theorem dJ7_fill_53178_7 : decode cJ7_fill_53178 7 = .ok (.if_icmp .ge 13, 3) := by decide +kernel
theorem dJ7_fill_53178_10 : decode cJ7_fill_53178 10 = .ok (.aload_n 0, 1) := by decide +kernel
theorem dJ7_fill_53178_11 : decode cJ7_fill_53178 11 = .ok (.iload_n 2, 1) := by decide +kernel
theorem dJ7_fill_53178_12 : decode cJ7_fill_53178 12 = .ok (.iload_n 1, 1) := by decide +kernel
theorem dJ7_fill_53178_13 : decode cJ7_fill_53178 13 = .ok (.iastore, 1) := by decide +kernel
theorem dJ7_fill_53178_14 : decode cJ7_fill_53178 14 = .ok (.iinc 2 1, 3) := by decide +kernel
theorem dJ7_fill_53178_17 : decode cJ7_fill_53178 17 = .ok (.goto (-12), 3) := by decide +kernel
theorem dJ7_fill_53178_20 : decode cJ7_fill_53178 20 = .ok (.return_, 1) := by decide +kernel
theorem dL_cell_0 : decode cL_cell 0 = .ok (.iload_n 1, 1) := by decide +kernel
theorem dL_cell_1 : decode cL_cell 1 = .ok (.aload_n 0, 1) := by decide +kernel
theorem dL_cell_2 : decode cL_cell 2 = .ok (.arraylength, 1) := by decide +kernel
theorem dL_cell_3 : decode cL_cell 3 = .ok (.if_icmp .ge 9, 3) := by decide +kernel
theorem dL_cell_6 : decode cL_cell 6 = .ok (.aload_n 0, 1) := by decide +kernel
theorem dL_cell_7 : decode cL_cell 7 = .ok (.iload_n 1, 1) := by decide +kernel
theorem dL_cell_8 : decode cL_cell 8 = .ok (.iaload, 1) := by decide +kernel
theorem dL_cell_9 : decode cL_cell 9 = .ok (.goto 4, 3) := by decide +kernel
theorem dL_cell_12 : decode cL_cell 12 = .ok (.iconst 0, 1) := by decide +kernel
theorem dL_cell_13 : decode cL_cell 13 = .ok (.ireturn, 1) := by decide +kernel
theorem dL_held_0 : decode cL_held 0 = .ok (.iload_n 0, 1) := by decide +kernel
theorem dL_held_1 : decode cL_held 1 = .ok (.sipush 999, 3) := by decide +kernel
theorem dL_held_4 : decode cL_held 4 = .ok (.if_icmp .le 9, 3) := by decide +kernel
theorem dL_held_7 : decode cL_held 7 = .ok (.sipush 999, 3) := by decide +kernel
theorem dL_held_10 : decode cL_held 10 = .ok (.goto 17, 3) := by decide +kernel
theorem dL_held_13 : decode cL_held 13 = .ok (.iload_n 0, 1) := by decide +kernel
theorem dL_held_14 : decode cL_held 14 = .ok (.sipush (-999), 3) := by decide +kernel
theorem dL_held_17 : decode cL_held 17 = .ok (.if_icmp .ge 9, 3) := by decide +kernel
theorem dL_held_20 : decode cL_held 20 = .ok (.sipush (-999), 3) := by decide +kernel
theorem dL_held_23 : decode cL_held 23 = .ok (.goto 4, 3) := by decide +kernel
theorem dL_held_26 : decode cL_held 26 = .ok (.iload_n 0, 1) := by decide +kernel
theorem dL_held_27 : decode cL_held 27 = .ok (.ireturn, 1) := by decide +kernel
theorem dL_is_0 : decode cL_is 0 = .ok (.aload_n 0, 1) := by decide +kernel
theorem dL_is_1 : decode cL_is 1 = .ok (.iload_n 1, 1) := by decide +kernel
theorem dL_is_2 : decode cL_is 2 = .ok (.invokevirtual 7, 3) := by decide +kernel
theorem dL_is_5 : decode cL_is 5 = .ok (.iload_n 3, 1) := by decide +kernel
theorem dL_is_6 : decode cL_is 6 = .ok (.if_icmp .eq 5, 3) := by decide +kernel
theorem dL_is_9 : decode cL_is 9 = .ok (.iconst 0, 1) := by decide +kernel
theorem dL_is_10 : decode cL_is 10 = .ok (.ireturn, 1) := by decide +kernel
theorem dL_is_11 : decode cL_is 11 = .ok (.iconst 0, 1) := by decide +kernel
theorem dL_is_12 : decode cL_is 12 = .ok (.istore 4, 2) := by decide +kernel
theorem dL_is_14 : decode cL_is 14 = .ok (.iload 4, 2) := by decide +kernel
theorem dL_is_16 : decode cL_is 16 = .ok (.iload_n 3, 1) := by decide +kernel
theorem dL_is_17 : decode cL_is 17 = .ok (.if_icmp .ge 25, 3) := by decide +kernel
theorem dL_is_20 : decode cL_is 20 = .ok (.aload_n 0, 1) := by decide +kernel
theorem dL_is_21 : decode cL_is 21 = .ok (.iload_n 1, 1) := by decide +kernel
theorem dL_is_22 : decode cL_is 22 = .ok (.iload 4, 2) := by decide +kernel
theorem dL_is_24 : decode cL_is 24 = .ok (.invokevirtual 13, 3) := by decide +kernel
theorem dL_is_27 : decode cL_is 27 = .ok (.aload_n 2, 1) := by decide +kernel
theorem dL_is_28 : decode cL_is 28 = .ok (.iload 4, 2) := by decide +kernel
theorem dL_is_30 : decode cL_is 30 = .ok (.iaload, 1) := by decide +kernel
theorem dL_is_31 : decode cL_is 31 = .ok (.if_icmp .eq 5, 3) := by decide +kernel
theorem dL_is_34 : decode cL_is 34 = .ok (.iconst 0, 1) := by decide +kernel
theorem dL_is_35 : decode cL_is 35 = .ok (.ireturn, 1) := by decide +kernel
theorem dL_is_36 : decode cL_is 36 = .ok (.iinc 4 1, 3) := by decide +kernel
theorem dL_is_39 : decode cL_is 39 = .ok (.goto (-25), 3) := by decide +kernel
theorem dL_is_42 : decode cL_is 42 = .ok (.aload_n 0, 1) := by decide +kernel
theorem dL_is_43 : decode cL_is 43 = .ok (.iload_n 1, 1) := by decide +kernel
theorem dL_is_44 : decode cL_is 44 = .ok (.iload_n 3, 1) := by decide +kernel
theorem dL_is_45 : decode cL_is 45 = .ok (.invokevirtual 13, 3) := by decide +kernel
theorem dL_is_48 : decode cL_is 48 = .ok (.sipush (-1000), 3) := by decide +kernel
theorem dL_is_51 : decode cL_is 51 = .ok (.if_icmp .ne 16, 3) := by decide +kernel
theorem dL_is_54 : decode cL_is 54 = .ok (.aload_n 0, 1) := by decide +kernel
theorem dL_is_55 : decode cL_is 55 = .ok (.iload_n 1, 1) := by decide +kernel
theorem dL_is_56 : decode cL_is 56 = .ok (.invokevirtual 17, 3) := by decide +kernel
theorem dL_is_59 : decode cL_is 59 = .ok (.iload_n 3, 1) := by decide +kernel
theorem dL_is_60 : decode cL_is 60 = .ok (.if_icmp .gt 7, 3) := by decide +kernel
theorem dL_is_63 : decode cL_is 63 = .ok (.iconst 1, 1) := by decide +kernel
theorem dL_is_64 : decode cL_is 64 = .ok (.goto 4, 3) := by decide +kernel
theorem dL_is_67 : decode cL_is 67 = .ok (.iconst 0, 1) := by decide +kernel
theorem dL_is_68 : decode cL_is 68 = .ok (.ireturn, 1) := by decide +kernel
theorem dL_law_0 : decode cL_law 0 = .ok (.new 8, 3) := by decide +kernel
theorem dL_law_3 : decode cL_law 3 = .ok (.dup, 1) := by decide +kernel
theorem dL_law_4 : decode cL_law 4 = .ok (.invokespecial 20, 3) := by decide +kernel
theorem dL_law_7 : decode cL_law 7 = .ok (.astore_n 1, 1) := by decide +kernel
theorem dL_law_8 : decode cL_law 8 = .ok (.bipush 6, 2) := by decide +kernel
theorem dL_law_10 : decode cL_law 10 = .ok (.bipush 64, 2) := by decide +kernel
theorem dL_law_12 : decode cL_law 12 = .ok (.multianewarray 21 2, 4) := by decide +kernel
theorem dL_law_16 : decode cL_law 16 = .ok (.astore_n 2, 1) := by decide +kernel
theorem dL_law_17 : decode cL_law 17 = .ok (.bipush 6, 2) := by decide +kernel
theorem dL_law_19 : decode cL_law 19 = .ok (.newarray .int, 2) := by decide +kernel
theorem dL_law_21 : decode cL_law 21 = .ok (.astore_n 3, 1) := by decide +kernel
theorem dL_law_22 : decode cL_law 22 = .ok (.iconst 0, 1) := by decide +kernel
theorem dL_law_23 : decode cL_law 23 = .ok (.istore 4, 2) := by decide +kernel
theorem dL_law_25 : decode cL_law 25 = .ok (.iload 4, 2) := by decide +kernel
theorem dL_law_27 : decode cL_law 27 = .ok (.bipush 20, 2) := by decide +kernel
theorem dL_law_29 : decode cL_law 29 = .ok (.if_icmp .ge 1378, 3) := by decide +kernel
theorem dL_law_32 : decode cL_law 32 = .ok (.aload_n 0, 1) := by decide +kernel
theorem dL_law_33 : decode cL_law 33 = .ok (.iload 4, 2) := by decide +kernel
theorem dL_law_35 : decode cL_law 35 = .ok (.invokestatic 23, 3) := by decide +kernel
theorem dL_law_38 : decode cL_law 38 = .ok (.istore 5, 2) := by decide +kernel
theorem dL_law_40 : decode cL_law 40 = .ok (.iload 5, 2) := by decide +kernel
theorem dL_law_42 : decode cL_law 42 = .ok (.iconst 4, 1) := by decide +kernel
theorem dL_law_43 : decode cL_law 43 = .ok (.iushr, 1) := by decide +kernel
theorem dL_law_44 : decode cL_law 44 = .ok (.bipush 15, 2) := by decide +kernel
theorem dL_law_46 : decode cL_law 46 = .ok (.iand, 1) := by decide +kernel
theorem dL_law_47 : decode cL_law 47 = .ok (.bipush 6, 2) := by decide +kernel
theorem dL_law_49 : decode cL_law 49 = .ok (.irem, 1) := by decide +kernel
theorem dL_law_50 : decode cL_law 50 = .ok (.istore 6, 2) := by decide +kernel
theorem dL_law_52 : decode cL_law 52 = .ok (.iload 5, 2) := by decide +kernel
theorem dL_law_54 : decode cL_law 54 = .ok (.bipush 8, 2) := by decide +kernel
theorem dL_law_56 : decode cL_law 56 = .ok (.iushr, 1) := by decide +kernel
theorem dL_law_57 : decode cL_law 57 = .ok (.bipush 15, 2) := by decide +kernel
theorem dL_law_59 : decode cL_law 59 = .ok (.iand, 1) := by decide +kernel
theorem dL_law_60 : decode cL_law 60 = .ok (.bipush 6, 2) := by decide +kernel
theorem dL_law_62 : decode cL_law 62 = .ok (.irem, 1) := by decide +kernel
theorem dL_law_63 : decode cL_law 63 = .ok (.istore 7, 2) := by decide +kernel
theorem dL_law_65 : decode cL_law 65 = .ok (.iload 5, 2) := by decide +kernel
theorem dL_law_67 : decode cL_law 67 = .ok (.bipush 12, 2) := by decide +kernel
theorem dL_law_69 : decode cL_law 69 = .ok (.iushr, 1) := by decide +kernel
theorem dL_law_70 : decode cL_law 70 = .ok (.bipush 15, 2) := by decide +kernel
theorem dL_law_72 : decode cL_law 72 = .ok (.iand, 1) := by decide +kernel
theorem dL_law_73 : decode cL_law 73 = .ok (.bipush 6, 2) := by decide +kernel
theorem dL_law_75 : decode cL_law 75 = .ok (.irem, 1) := by decide +kernel
theorem dL_law_76 : decode cL_law 76 = .ok (.istore 8, 2) := by decide +kernel
theorem dL_law_78 : decode cL_law 78 = .ok (.iload 5, 2) := by decide +kernel
theorem dL_law_80 : decode cL_law 80 = .ok (.bipush 16, 2) := by decide +kernel
theorem dL_law_82 : decode cL_law 82 = .ok (.iushr, 1) := by decide +kernel
theorem dL_law_83 : decode cL_law 83 = .ok (.sipush 2047, 3) := by decide +kernel
theorem dL_law_86 : decode cL_law 86 = .ok (.iand, 1) := by decide +kernel
theorem dL_law_87 : decode cL_law 87 = .ok (.sipush 1999, 3) := by decide +kernel
theorem dL_law_90 : decode cL_law 90 = .ok (.irem, 1) := by decide +kernel
theorem dL_law_91 : decode cL_law 91 = .ok (.sipush 999, 3) := by decide +kernel
theorem dL_law_94 : decode cL_law 94 = .ok (.isub, 1) := by decide +kernel
theorem dL_law_95 : decode cL_law 95 = .ok (.istore 9, 2) := by decide +kernel
theorem dL_law_97 : decode cL_law 97 = .ok (.aload_n 3, 1) := by decide +kernel
theorem dL_law_98 : decode cL_law 98 = .ok (.iload 6, 2) := by decide +kernel
theorem dL_law_100 : decode cL_law 100 = .ok (.iaload, 1) := by decide +kernel
theorem dL_law_101 : decode cL_law 101 = .ok (.istore 10, 2) := by decide +kernel
theorem dL_law_103 : decode cL_law 103 = .ok (.aload_n 2, 1) := by decide +kernel
theorem dL_law_104 : decode cL_law 104 = .ok (.iload 6, 2) := by decide +kernel
theorem dL_law_106 : decode cL_law 106 = .ok (.aaload, 1) := by decide +kernel
theorem dL_law_107 : decode cL_law 107 = .ok (.astore 11, 2) := by decide +kernel
theorem dL_law_109 : decode cL_law 109 = .ok (.aload_n 1, 1) := by decide +kernel
theorem dL_law_110 : decode cL_law 110 = .ok (.iconst 1, 1) := by decide +kernel
theorem dL_law_111 : decode cL_law 111 = .ok (.invokevirtual 29, 3) := by decide +kernel
theorem dL_law_114 : decode cL_law 114 = .ok (.istore 12, 2) := by decide +kernel
theorem dL_law_116 : decode cL_law 116 = .ok (.bipush 64, 2) := by decide +kernel
theorem dL_law_118 : decode cL_law 118 = .ok (.newarray .int, 2) := by decide +kernel
theorem dL_law_120 : decode cL_law 120 = .ok (.astore 14, 2) := by decide +kernel
theorem dL_law_122 : decode cL_law 122 = .ok (.iload 10, 2) := by decide +kernel
theorem dL_law_124 : decode cL_law 124 = .ok (.istore 15, 2) := by decide +kernel
theorem dL_law_126 : decode cL_law 126 = .ok (.iconst 0, 1) := by decide +kernel
theorem dL_law_127 : decode cL_law 127 = .ok (.istore 16, 2) := by decide +kernel
theorem dL_law_129 : decode cL_law 129 = .ok (.iload 16, 2) := by decide +kernel
theorem dL_law_131 : decode cL_law 131 = .ok (.iload 10, 2) := by decide +kernel
theorem dL_law_133 : decode cL_law 133 = .ok (.if_icmp .ge 19, 3) := by decide +kernel
theorem dL_law_136 : decode cL_law 136 = .ok (.aload 14, 2) := by decide +kernel
theorem dL_law_138 : decode cL_law 138 = .ok (.iload 16, 2) := by decide +kernel
theorem dL_law_140 : decode cL_law 140 = .ok (.aload 11, 2) := by decide +kernel
theorem dL_law_142 : decode cL_law 142 = .ok (.iload 16, 2) := by decide +kernel
theorem dL_law_144 : decode cL_law 144 = .ok (.iaload, 1) := by decide +kernel
theorem dL_law_145 : decode cL_law 145 = .ok (.iastore, 1) := by decide +kernel
theorem dL_law_146 : decode cL_law 146 = .ok (.iinc 16 1, 3) := by decide +kernel
theorem dL_law_149 : decode cL_law 149 = .ok (.goto (-20), 3) := by decide +kernel
theorem dL_law_152 : decode cL_law 152 = .ok (.iconst 1, 1) := by decide +kernel
theorem dL_law_153 : decode cL_law 153 = .ok (.istore 16, 2) := by decide +kernel
theorem dL_law_155 : decode cL_law 155 = .ok (.iload 5, 2) := by decide +kernel
theorem dL_law_157 : decode cL_law 157 = .ok (.bipush 15, 2) := by decide +kernel
theorem dL_law_159 : decode cL_law 159 = .ok (.iand, 1) := by decide +kernel
theorem dL_law_160 : decode cL_law 160 = .ok (.tableswitch 991 0 14 #[76, 76, 137, 137, 172, 246, 295, 373, 437, 468, 531, 603, 652, 814, 882], 76) := by decide +kernel
theorem dL_law_236 : decode cL_law 236 = .ok (.iload 10, 2) := by decide +kernel
theorem dL_law_238 : decode cL_law 238 = .ok (.bipush 63, 2) := by decide +kernel
theorem dL_law_240 : decode cL_law 240 = .ok (.if_icmp .ne 6, 3) := by decide +kernel
theorem dL_law_243 : decode cL_law 243 = .ok (.goto 1158, 3) := by decide +kernel
theorem dL_law_246 : decode cL_law 246 = .ok (.aload_n 1, 1) := by decide +kernel
theorem dL_law_247 : decode cL_law 247 = .ok (.iload 6, 2) := by decide +kernel
theorem dL_law_249 : decode cL_law 249 = .ok (.iload 9, 2) := by decide +kernel
theorem dL_law_251 : decode cL_law 251 = .ok (.iload 8, 2) := by decide +kernel
theorem dL_law_253 : decode cL_law 253 = .ok (.invokevirtual 32, 3) := by decide +kernel
theorem dL_law_256 : decode cL_law 256 = .ok (.istore 13, 2) := by decide +kernel
theorem dL_law_258 : decode cL_law 258 = .ok (.iload 10, 2) := by decide +kernel
theorem dL_law_260 : decode cL_law 260 = .ok (.istore 17, 2) := by decide +kernel
theorem dL_law_262 : decode cL_law 262 = .ok (.iload 17, 2) := by decide +kernel
theorem dL_law_264 : decode cL_law 264 = .ok (.ifCond .le 21, 3) := by decide +kernel
theorem dL_law_267 : decode cL_law 267 = .ok (.aload 14, 2) := by decide +kernel
theorem dL_law_269 : decode cL_law 269 = .ok (.iload 17, 2) := by decide +kernel
theorem dL_law_271 : decode cL_law 271 = .ok (.aload 11, 2) := by decide +kernel
theorem dL_law_273 : decode cL_law 273 = .ok (.iload 17, 2) := by decide +kernel
theorem dL_law_275 : decode cL_law 275 = .ok (.iconst 1, 1) := by decide +kernel
theorem dL_law_276 : decode cL_law 276 = .ok (.isub, 1) := by decide +kernel
theorem dL_law_277 : decode cL_law 277 = .ok (.iaload, 1) := by decide +kernel
theorem dL_law_278 : decode cL_law 278 = .ok (.iastore, 1) := by decide +kernel
theorem dL_law_279 : decode cL_law 279 = .ok (.iinc 17 (-1), 3) := by decide +kernel
theorem dL_law_282 : decode cL_law 282 = .ok (.goto (-20), 3) := by decide +kernel
theorem dL_law_285 : decode cL_law 285 = .ok (.aload 14, 2) := by decide +kernel
theorem dL_law_287 : decode cL_law 287 = .ok (.iconst 0, 1) := by decide +kernel
theorem dL_law_288 : decode cL_law 288 = .ok (.iload 9, 2) := by decide +kernel
theorem dL_law_290 : decode cL_law 290 = .ok (.iastore, 1) := by decide +kernel
theorem dL_law_291 : decode cL_law 291 = .ok (.iinc 15 1, 3) := by decide +kernel
theorem dL_law_294 : decode cL_law 294 = .ok (.goto 979, 3) := by decide +kernel
theorem dL_law_297 : decode cL_law 297 = .ok (.iload 10, 2) := by decide +kernel
theorem dL_law_299 : decode cL_law 299 = .ok (.bipush 63, 2) := by decide +kernel
theorem dL_law_301 : decode cL_law 301 = .ok (.if_icmp .ne 6, 3) := by decide +kernel
theorem dL_law_304 : decode cL_law 304 = .ok (.goto 1097, 3) := by decide +kernel
theorem dL_law_307 : decode cL_law 307 = .ok (.aload_n 1, 1) := by decide +kernel
theorem dL_law_308 : decode cL_law 308 = .ok (.iload 6, 2) := by decide +kernel
theorem dL_law_310 : decode cL_law 310 = .ok (.iload 9, 2) := by decide +kernel
theorem dL_law_312 : decode cL_law 312 = .ok (.iload 8, 2) := by decide +kernel
theorem dL_law_314 : decode cL_law 314 = .ok (.invokevirtual 36, 3) := by decide +kernel
theorem dL_law_317 : decode cL_law 317 = .ok (.istore 13, 2) := by decide +kernel
theorem dL_law_319 : decode cL_law 319 = .ok (.aload 14, 2) := by decide +kernel
theorem dL_law_321 : decode cL_law 321 = .ok (.iload 10, 2) := by decide +kernel
theorem dL_law_323 : decode cL_law 323 = .ok (.iload 9, 2) := by decide +kernel
theorem dL_law_325 : decode cL_law 325 = .ok (.iastore, 1) := by decide +kernel
theorem dL_law_326 : decode cL_law 326 = .ok (.iinc 15 1, 3) := by decide +kernel
theorem dL_law_329 : decode cL_law 329 = .ok (.goto 944, 3) := by decide +kernel
theorem dL_law_332 : decode cL_law 332 = .ok (.aload_n 1, 1) := by decide +kernel
theorem dL_law_333 : decode cL_law 333 = .ok (.iload 6, 2) := by decide +kernel
theorem dL_law_335 : decode cL_law 335 = .ok (.iload 8, 2) := by decide +kernel
theorem dL_law_337 : decode cL_law 337 = .ok (.invokevirtual 39, 3) := by decide +kernel
theorem dL_law_340 : decode cL_law 340 = .ok (.istore 13, 2) := by decide +kernel
theorem dL_law_342 : decode cL_law 342 = .ok (.iload 10, 2) := by decide +kernel
theorem dL_law_344 : decode cL_law 344 = .ok (.ifCond .ne 12, 3) := by decide +kernel
theorem dL_law_347 : decode cL_law 347 = .ok (.iload 13, 2) := by decide +kernel
theorem dL_law_349 : decode cL_law 349 = .ok (.bipush (-2), 2) := by decide +kernel
theorem dL_law_351 : decode cL_law 351 = .ok (.if_icmp .eq 1050, 3) := by decide +kernel
theorem dL_law_354 : decode cL_law 354 = .ok (.iconst 0, 1) := by decide +kernel
theorem dL_law_355 : decode cL_law 355 = .ok (.ireturn, 1) := by decide +kernel
theorem dL_law_356 : decode cL_law 356 = .ok (.aload_n 1, 1) := by decide +kernel
theorem dL_law_357 : decode cL_law 357 = .ok (.iconst 0, 1) := by decide +kernel
theorem dL_law_358 : decode cL_law 358 = .ok (.invokevirtual 42, 3) := by decide +kernel
theorem dL_law_361 : decode cL_law 361 = .ok (.aload 11, 2) := by decide +kernel
theorem dL_law_363 : decode cL_law 363 = .ok (.iconst 0, 1) := by decide +kernel
theorem dL_law_364 : decode cL_law 364 = .ok (.iaload, 1) := by decide +kernel
theorem dL_law_365 : decode cL_law 365 = .ok (.i2l, 1) := by decide +kernel
theorem dL_law_366 : decode cL_law 366 = .ok (.lcmp, 1) := by decide +kernel
theorem dL_law_367 : decode cL_law 367 = .ok (.ifCond .eq 5, 3) := by decide +kernel
theorem dL_law_370 : decode cL_law 370 = .ok (.iconst 0, 1) := by decide +kernel
theorem dL_law_371 : decode cL_law 371 = .ok (.ireturn, 1) := by decide +kernel
theorem dL_law_372 : decode cL_law 372 = .ok (.iinc 15 (-1), 3) := by decide +kernel
theorem dL_law_375 : decode cL_law 375 = .ok (.iconst 0, 1) := by decide +kernel
theorem dL_law_376 : decode cL_law 376 = .ok (.istore 17, 2) := by decide +kernel
theorem dL_law_378 : decode cL_law 378 = .ok (.iload 17, 2) := by decide +kernel
theorem dL_law_380 : decode cL_law 380 = .ok (.iload 15, 2) := by decide +kernel
theorem dL_law_382 : decode cL_law 382 = .ok (.if_icmp .ge 21, 3) := by decide +kernel
theorem dL_law_385 : decode cL_law 385 = .ok (.aload 14, 2) := by decide +kernel
theorem dL_law_387 : decode cL_law 387 = .ok (.iload 17, 2) := by decide +kernel
theorem dL_law_389 : decode cL_law 389 = .ok (.aload 11, 2) := by decide +kernel
theorem dL_law_391 : decode cL_law 391 = .ok (.iload 17, 2) := by decide +kernel
theorem dL_law_393 : decode cL_law 393 = .ok (.iconst 1, 1) := by decide +kernel
theorem dL_law_394 : decode cL_law 394 = .ok (.iadd, 1) := by decide +kernel
theorem dL_law_395 : decode cL_law 395 = .ok (.iaload, 1) := by decide +kernel
theorem dL_law_396 : decode cL_law 396 = .ok (.iastore, 1) := by decide +kernel
theorem dL_law_397 : decode cL_law 397 = .ok (.iinc 17 1, 3) := by decide +kernel
theorem dL_law_400 : decode cL_law 400 = .ok (.goto (-22), 3) := by decide +kernel
theorem dL_law_403 : decode cL_law 403 = .ok (.goto 870, 3) := by decide +kernel
theorem dL_law_406 : decode cL_law 406 = .ok (.aload_n 1, 1) := by decide +kernel
theorem dL_law_407 : decode cL_law 407 = .ok (.iload 6, 2) := by decide +kernel
theorem dL_law_409 : decode cL_law 409 = .ok (.iload 8, 2) := by decide +kernel
theorem dL_law_411 : decode cL_law 411 = .ok (.invokevirtual 46, 3) := by decide +kernel
theorem dL_law_414 : decode cL_law 414 = .ok (.istore 13, 2) := by decide +kernel
theorem dL_law_416 : decode cL_law 416 = .ok (.iload 10, 2) := by decide +kernel
theorem dL_law_418 : decode cL_law 418 = .ok (.ifCond .ne 12, 3) := by decide +kernel
theorem dL_law_421 : decode cL_law 421 = .ok (.iload 13, 2) := by decide +kernel
theorem dL_law_423 : decode cL_law 423 = .ok (.bipush (-2), 2) := by decide +kernel
theorem dL_law_425 : decode cL_law 425 = .ok (.if_icmp .eq 976, 3) := by decide +kernel
theorem dL_law_428 : decode cL_law 428 = .ok (.iconst 0, 1) := by decide +kernel
theorem dL_law_429 : decode cL_law 429 = .ok (.ireturn, 1) := by decide +kernel
theorem dL_law_430 : decode cL_law 430 = .ok (.aload_n 1, 1) := by decide +kernel
theorem dL_law_431 : decode cL_law 431 = .ok (.iconst 0, 1) := by decide +kernel
theorem dL_law_432 : decode cL_law 432 = .ok (.invokevirtual 42, 3) := by decide +kernel
theorem dL_law_435 : decode cL_law 435 = .ok (.aload 11, 2) := by decide +kernel
theorem dL_law_437 : decode cL_law 437 = .ok (.iload 10, 2) := by decide +kernel
theorem dL_law_439 : decode cL_law 439 = .ok (.iconst 1, 1) := by decide +kernel
theorem dL_law_440 : decode cL_law 440 = .ok (.isub, 1) := by decide +kernel
theorem dL_law_441 : decode cL_law 441 = .ok (.iaload, 1) := by decide +kernel
theorem dL_law_442 : decode cL_law 442 = .ok (.i2l, 1) := by decide +kernel
theorem dL_law_443 : decode cL_law 443 = .ok (.lcmp, 1) := by decide +kernel
theorem dL_law_444 : decode cL_law 444 = .ok (.ifCond .eq 5, 3) := by decide +kernel
theorem dL_law_447 : decode cL_law 447 = .ok (.iconst 0, 1) := by decide +kernel
theorem dL_law_448 : decode cL_law 448 = .ok (.ireturn, 1) := by decide +kernel
theorem dL_law_449 : decode cL_law 449 = .ok (.iinc 15 (-1), 3) := by decide +kernel
theorem dL_law_452 : decode cL_law 452 = .ok (.goto 821, 3) := by decide +kernel
theorem dL_law_455 : decode cL_law 455 = .ok (.iload 5, 2) := by decide +kernel
theorem dL_law_457 : decode cL_law 457 = .ok (.bipush 27, 2) := by decide +kernel
theorem dL_law_459 : decode cL_law 459 = .ok (.iushr, 1) := by decide +kernel
theorem dL_law_460 : decode cL_law 460 = .ok (.iload 10, 2) := by decide +kernel
theorem dL_law_462 : decode cL_law 462 = .ok (.iconst 1, 1) := by decide +kernel
theorem dL_law_463 : decode cL_law 463 = .ok (.iadd, 1) := by decide +kernel
theorem dL_law_464 : decode cL_law 464 = .ok (.irem, 1) := by decide +kernel
theorem dL_law_465 : decode cL_law 465 = .ok (.istore 17, 2) := by decide +kernel
theorem dL_law_467 : decode cL_law 467 = .ok (.aload_n 1, 1) := by decide +kernel
theorem dL_law_468 : decode cL_law 468 = .ok (.iload 6, 2) := by decide +kernel
theorem dL_law_470 : decode cL_law 470 = .ok (.iload 17, 2) := by decide +kernel
theorem dL_law_472 : decode cL_law 472 = .ok (.iload 9, 2) := by decide +kernel
theorem dL_law_474 : decode cL_law 474 = .ok (.iload 8, 2) := by decide +kernel
theorem dL_law_476 : decode cL_law 476 = .ok (.invokevirtual 49, 3) := by decide +kernel
theorem dL_law_479 : decode cL_law 479 = .ok (.istore 13, 2) := by decide +kernel
theorem dL_law_481 : decode cL_law 481 = .ok (.iload 17, 2) := by decide +kernel
theorem dL_law_483 : decode cL_law 483 = .ok (.iload 10, 2) := by decide +kernel
theorem dL_law_485 : decode cL_law 485 = .ok (.if_icmp .ne 11, 3) := by decide +kernel
theorem dL_law_488 : decode cL_law 488 = .ok (.iload 13, 2) := by decide +kernel
theorem dL_law_490 : decode cL_law 490 = .ok (.iconst (-1), 1) := by decide +kernel
theorem dL_law_491 : decode cL_law 491 = .ok (.if_icmp .eq 910, 3) := by decide +kernel
theorem dL_law_494 : decode cL_law 494 = .ok (.iconst 0, 1) := by decide +kernel
theorem dL_law_495 : decode cL_law 495 = .ok (.ireturn, 1) := by decide +kernel
theorem dL_law_496 : decode cL_law 496 = .ok (.aload 14, 2) := by decide +kernel
theorem dL_law_498 : decode cL_law 498 = .ok (.iload 17, 2) := by decide +kernel
theorem dL_law_500 : decode cL_law 500 = .ok (.iload 9, 2) := by decide +kernel
theorem dL_law_502 : decode cL_law 502 = .ok (.iastore, 1) := by decide +kernel
theorem dL_law_503 : decode cL_law 503 = .ok (.iload 13, 2) := by decide +kernel
theorem dL_law_505 : decode cL_law 505 = .ok (.ifCond .le 7, 3) := by decide +kernel
theorem dL_law_508 : decode cL_law 508 = .ok (.iconst 1, 1) := by decide +kernel
theorem dL_law_509 : decode cL_law 509 = .ok (.goto 4, 3) := by decide +kernel
theorem dL_law_512 : decode cL_law 512 = .ok (.iconst 0, 1) := by decide +kernel
theorem dL_law_513 : decode cL_law 513 = .ok (.aload 11, 2) := by decide +kernel
theorem dL_law_515 : decode cL_law 515 = .ok (.iload 17, 2) := by decide +kernel
theorem dL_law_517 : decode cL_law 517 = .ok (.iaload, 1) := by decide +kernel
theorem dL_law_518 : decode cL_law 518 = .ok (.iload 9, 2) := by decide +kernel
theorem dL_law_520 : decode cL_law 520 = .ok (.if_icmp .eq 7, 3) := by decide +kernel
theorem dL_law_523 : decode cL_law 523 = .ok (.iconst 1, 1) := by decide +kernel
theorem dL_law_524 : decode cL_law 524 = .ok (.goto 4, 3) := by decide +kernel
theorem dL_law_527 : decode cL_law 527 = .ok (.iconst 0, 1) := by decide +kernel
theorem dL_law_528 : decode cL_law 528 = .ok (.if_icmp .eq 745, 3) := by decide +kernel
theorem dL_law_531 : decode cL_law 531 = .ok (.iconst 0, 1) := by decide +kernel
theorem dL_law_532 : decode cL_law 532 = .ok (.ireturn, 1) := by decide +kernel
theorem dL_law_533 : decode cL_law 533 = .ok (.iload 5, 2) := by decide +kernel
theorem dL_law_535 : decode cL_law 535 = .ok (.bipush 27, 2) := by decide +kernel
theorem dL_law_537 : decode cL_law 537 = .ok (.iushr, 1) := by decide +kernel
theorem dL_law_538 : decode cL_law 538 = .ok (.iload 10, 2) := by decide +kernel
theorem dL_law_540 : decode cL_law 540 = .ok (.iconst 1, 1) := by decide +kernel
theorem dL_law_541 : decode cL_law 541 = .ok (.iadd, 1) := by decide +kernel
theorem dL_law_542 : decode cL_law 542 = .ok (.irem, 1) := by decide +kernel
theorem dL_law_543 : decode cL_law 543 = .ok (.istore 17, 2) := by decide +kernel
theorem dL_law_545 : decode cL_law 545 = .ok (.aload_n 1, 1) := by decide +kernel
theorem dL_law_546 : decode cL_law 546 = .ok (.iload 6, 2) := by decide +kernel
theorem dL_law_548 : decode cL_law 548 = .ok (.iload 17, 2) := by decide +kernel
theorem dL_law_550 : decode cL_law 550 = .ok (.iload 10, 2) := by decide +kernel
theorem dL_law_552 : decode cL_law 552 = .ok (.iload 9, 2) := by decide +kernel
theorem dL_law_554 : decode cL_law 554 = .ok (.iload 8, 2) := by decide +kernel
theorem dL_law_556 : decode cL_law 556 = .ok (.invokevirtual 53, 3) := by decide +kernel
theorem dL_law_559 : decode cL_law 559 = .ok (.istore 13, 2) := by decide +kernel
theorem dL_law_561 : decode cL_law 561 = .ok (.iload 17, 2) := by decide +kernel
theorem dL_law_563 : decode cL_law 563 = .ok (.istore 18, 2) := by decide +kernel
theorem dL_law_565 : decode cL_law 565 = .ok (.iload 18, 2) := by decide +kernel
theorem dL_law_567 : decode cL_law 567 = .ok (.iload 10, 2) := by decide +kernel
theorem dL_law_569 : decode cL_law 569 = .ok (.if_icmp .ge 25, 3) := by decide +kernel
theorem dL_law_572 : decode cL_law 572 = .ok (.aload 14, 2) := by decide +kernel
theorem dL_law_574 : decode cL_law 574 = .ok (.iload 18, 2) := by decide +kernel
theorem dL_law_576 : decode cL_law 576 = .ok (.aload 14, 2) := by decide +kernel
theorem dL_law_578 : decode cL_law 578 = .ok (.iload 18, 2) := by decide +kernel
theorem dL_law_580 : decode cL_law 580 = .ok (.iaload, 1) := by decide +kernel
theorem dL_law_581 : decode cL_law 581 = .ok (.iload 9, 2) := by decide +kernel
theorem dL_law_583 : decode cL_law 583 = .ok (.iadd, 1) := by decide +kernel
theorem dL_law_584 : decode cL_law 584 = .ok (.invokestatic 57, 3) := by decide +kernel
theorem dL_law_587 : decode cL_law 587 = .ok (.iastore, 1) := by decide +kernel
theorem dL_law_588 : decode cL_law 588 = .ok (.iinc 18 1, 3) := by decide +kernel
theorem dL_law_591 : decode cL_law 591 = .ok (.goto (-26), 3) := by decide +kernel
theorem dL_law_594 : decode cL_law 594 = .ok (.goto 679, 3) := by decide +kernel
theorem dL_law_597 : decode cL_law 597 = .ok (.iload 5, 2) := by decide +kernel
theorem dL_law_599 : decode cL_law 599 = .ok (.bipush 27, 2) := by decide +kernel
theorem dL_law_601 : decode cL_law 601 = .ok (.iushr, 1) := by decide +kernel
theorem dL_law_602 : decode cL_law 602 = .ok (.iload 10, 2) := by decide +kernel
theorem dL_law_604 : decode cL_law 604 = .ok (.iconst 1, 1) := by decide +kernel
theorem dL_law_605 : decode cL_law 605 = .ok (.iadd, 1) := by decide +kernel
theorem dL_law_606 : decode cL_law 606 = .ok (.irem, 1) := by decide +kernel
theorem dL_law_607 : decode cL_law 607 = .ok (.istore 17, 2) := by decide +kernel
theorem dL_law_609 : decode cL_law 609 = .ok (.aload_n 1, 1) := by decide +kernel
theorem dL_law_610 : decode cL_law 610 = .ok (.iload 6, 2) := by decide +kernel
theorem dL_law_612 : decode cL_law 612 = .ok (.iload 17, 2) := by decide +kernel
theorem dL_law_614 : decode cL_law 614 = .ok (.iload 8, 2) := by decide +kernel
theorem dL_law_616 : decode cL_law 616 = .ok (.invokevirtual 60, 3) := by decide +kernel
theorem dL_law_619 : decode cL_law 619 = .ok (.istore 13, 2) := by decide +kernel
theorem dL_law_621 : decode cL_law 621 = .ok (.iload 17, 2) := by decide +kernel
theorem dL_law_623 : decode cL_law 623 = .ok (.istore 15, 2) := by decide +kernel
theorem dL_law_625 : decode cL_law 625 = .ok (.goto 648, 3) := by decide +kernel
theorem dL_law_628 : decode cL_law 628 = .ok (.iload 5, 2) := by decide +kernel
theorem dL_law_630 : decode cL_law 630 = .ok (.bipush 27, 2) := by decide +kernel
theorem dL_law_632 : decode cL_law 632 = .ok (.iushr, 1) := by decide +kernel
theorem dL_law_633 : decode cL_law 633 = .ok (.iload 10, 2) := by decide +kernel
theorem dL_law_635 : decode cL_law 635 = .ok (.iconst 1, 1) := by decide +kernel
theorem dL_law_636 : decode cL_law 636 = .ok (.iadd, 1) := by decide +kernel
theorem dL_law_637 : decode cL_law 637 = .ok (.irem, 1) := by decide +kernel
theorem dL_law_638 : decode cL_law 638 = .ok (.istore 17, 2) := by decide +kernel
theorem dL_law_640 : decode cL_law 640 = .ok (.aload_n 1, 1) := by decide +kernel
theorem dL_law_641 : decode cL_law 641 = .ok (.iload 6, 2) := by decide +kernel
theorem dL_law_643 : decode cL_law 643 = .ok (.iload 17, 2) := by decide +kernel
theorem dL_law_645 : decode cL_law 645 = .ok (.iload 8, 2) := by decide +kernel
theorem dL_law_647 : decode cL_law 647 = .ok (.invokevirtual 63, 3) := by decide +kernel
theorem dL_law_650 : decode cL_law 650 = .ok (.istore 13, 2) := by decide +kernel
theorem dL_law_652 : decode cL_law 652 = .ok (.iload 10, 2) := by decide +kernel
theorem dL_law_654 : decode cL_law 654 = .ok (.iload 17, 2) := by decide +kernel
theorem dL_law_656 : decode cL_law 656 = .ok (.isub, 1) := by decide +kernel
theorem dL_law_657 : decode cL_law 657 = .ok (.istore 15, 2) := by decide +kernel
theorem dL_law_659 : decode cL_law 659 = .ok (.iconst 0, 1) := by decide +kernel
theorem dL_law_660 : decode cL_law 660 = .ok (.istore 18, 2) := by decide +kernel
theorem dL_law_662 : decode cL_law 662 = .ok (.iload 18, 2) := by decide +kernel
theorem dL_law_664 : decode cL_law 664 = .ok (.iload 15, 2) := by decide +kernel
theorem dL_law_666 : decode cL_law 666 = .ok (.if_icmp .ge 22, 3) := by decide +kernel
theorem dL_law_669 : decode cL_law 669 = .ok (.aload 14, 2) := by decide +kernel
theorem dL_law_671 : decode cL_law 671 = .ok (.iload 18, 2) := by decide +kernel
theorem dL_law_673 : decode cL_law 673 = .ok (.aload 11, 2) := by decide +kernel
theorem dL_law_675 : decode cL_law 675 = .ok (.iload 18, 2) := by decide +kernel
theorem dL_law_677 : decode cL_law 677 = .ok (.iload 17, 2) := by decide +kernel
theorem dL_law_679 : decode cL_law 679 = .ok (.iadd, 1) := by decide +kernel
theorem dL_law_680 : decode cL_law 680 = .ok (.iaload, 1) := by decide +kernel
theorem dL_law_681 : decode cL_law 681 = .ok (.iastore, 1) := by decide +kernel
theorem dL_law_682 : decode cL_law 682 = .ok (.iinc 18 1, 3) := by decide +kernel
theorem dL_law_685 : decode cL_law 685 = .ok (.goto (-23), 3) := by decide +kernel
theorem dL_law_688 : decode cL_law 688 = .ok (.goto 585, 3) := by decide +kernel
theorem dL_law_691 : decode cL_law 691 = .ok (.iload 10, 2) := by decide +kernel
theorem dL_law_693 : decode cL_law 693 = .ok (.aload_n 3, 1) := by decide +kernel
theorem dL_law_694 : decode cL_law 694 = .ok (.iload 7, 2) := by decide +kernel
theorem dL_law_696 : decode cL_law 696 = .ok (.iaload, 1) := by decide +kernel
theorem dL_law_697 : decode cL_law 697 = .ok (.iadd, 1) := by decide +kernel
theorem dL_law_698 : decode cL_law 698 = .ok (.bipush 63, 2) := by decide +kernel
theorem dL_law_700 : decode cL_law 700 = .ok (.if_icmp .le 6, 3) := by decide +kernel
theorem dL_law_703 : decode cL_law 703 = .ok (.goto 698, 3) := by decide +kernel
theorem dL_law_706 : decode cL_law 706 = .ok (.aload_n 1, 1) := by decide +kernel
theorem dL_law_707 : decode cL_law 707 = .ok (.iload 6, 2) := by decide +kernel
theorem dL_law_709 : decode cL_law 709 = .ok (.iload 7, 2) := by decide +kernel
theorem dL_law_711 : decode cL_law 711 = .ok (.iload 8, 2) := by decide +kernel
theorem dL_law_713 : decode cL_law 713 = .ok (.invokevirtual 66, 3) := by decide +kernel
theorem dL_law_716 : decode cL_law 716 = .ok (.istore 13, 2) := by decide +kernel
theorem dL_law_718 : decode cL_law 718 = .ok (.iconst 0, 1) := by decide +kernel
theorem dL_law_719 : decode cL_law 719 = .ok (.istore 17, 2) := by decide +kernel
theorem dL_law_721 : decode cL_law 721 = .ok (.iload 17, 2) := by decide +kernel
theorem dL_law_723 : decode cL_law 723 = .ok (.aload_n 3, 1) := by decide +kernel
theorem dL_law_724 : decode cL_law 724 = .ok (.iload 7, 2) := by decide +kernel
theorem dL_law_726 : decode cL_law 726 = .ok (.iaload, 1) := by decide +kernel
theorem dL_law_727 : decode cL_law 727 = .ok (.if_icmp .ge 24, 3) := by decide +kernel
theorem dL_law_730 : decode cL_law 730 = .ok (.aload 14, 2) := by decide +kernel
theorem dL_law_732 : decode cL_law 732 = .ok (.iload 10, 2) := by decide +kernel
theorem dL_law_734 : decode cL_law 734 = .ok (.iload 17, 2) := by decide +kernel
theorem dL_law_736 : decode cL_law 736 = .ok (.iadd, 1) := by decide +kernel
theorem dL_law_737 : decode cL_law 737 = .ok (.aload_n 2, 1) := by decide +kernel
theorem dL_law_738 : decode cL_law 738 = .ok (.iload 7, 2) := by decide +kernel
theorem dL_law_740 : decode cL_law 740 = .ok (.aaload, 1) := by decide +kernel
theorem dL_law_741 : decode cL_law 741 = .ok (.iload 17, 2) := by decide +kernel
theorem dL_law_743 : decode cL_law 743 = .ok (.iaload, 1) := by decide +kernel
theorem dL_law_744 : decode cL_law 744 = .ok (.iastore, 1) := by decide +kernel
theorem dL_law_745 : decode cL_law 745 = .ok (.iinc 17 1, 3) := by decide +kernel
theorem dL_law_748 : decode cL_law 748 = .ok (.goto (-27), 3) := by decide +kernel
theorem dL_law_751 : decode cL_law 751 = .ok (.iload 10, 2) := by decide +kernel
theorem dL_law_753 : decode cL_law 753 = .ok (.aload_n 3, 1) := by decide +kernel
theorem dL_law_754 : decode cL_law 754 = .ok (.iload 7, 2) := by decide +kernel
theorem dL_law_756 : decode cL_law 756 = .ok (.iaload, 1) := by decide +kernel
theorem dL_law_757 : decode cL_law 757 = .ok (.iadd, 1) := by decide +kernel
theorem dL_law_758 : decode cL_law 758 = .ok (.istore 15, 2) := by decide +kernel
theorem dL_law_760 : decode cL_law 760 = .ok (.goto 513, 3) := by decide +kernel
theorem dL_law_763 : decode cL_law 763 = .ok (.iload 5, 2) := by decide +kernel
theorem dL_law_765 : decode cL_law 765 = .ok (.bipush 27, 2) := by decide +kernel
theorem dL_law_767 : decode cL_law 767 = .ok (.iushr, 1) := by decide +kernel
theorem dL_law_768 : decode cL_law 768 = .ok (.istore 17, 2) := by decide +kernel
theorem dL_law_770 : decode cL_law 770 = .ok (.aload_n 1, 1) := by decide +kernel
theorem dL_law_771 : decode cL_law 771 = .ok (.iload 17, 2) := by decide +kernel
theorem dL_law_773 : decode cL_law 773 = .ok (.iload 9, 2) := by decide +kernel
theorem dL_law_775 : decode cL_law 775 = .ok (.iload 8, 2) := by decide +kernel
theorem dL_law_777 : decode cL_law 777 = .ok (.invokevirtual 69, 3) := by decide +kernel
theorem dL_law_780 : decode cL_law 780 = .ok (.istore 13, 2) := by decide +kernel
theorem dL_law_782 : decode cL_law 782 = .ok (.iload 17, 2) := by decide +kernel
theorem dL_law_784 : decode cL_law 784 = .ok (.istore 15, 2) := by decide +kernel
theorem dL_law_786 : decode cL_law 786 = .ok (.iconst 0, 1) := by decide +kernel
theorem dL_law_787 : decode cL_law 787 = .ok (.istore 18, 2) := by decide +kernel
theorem dL_law_789 : decode cL_law 789 = .ok (.iload 18, 2) := by decide +kernel
theorem dL_law_791 : decode cL_law 791 = .ok (.iload 15, 2) := by decide +kernel
theorem dL_law_793 : decode cL_law 793 = .ok (.if_icmp .ge 16, 3) := by decide +kernel
theorem dL_law_796 : decode cL_law 796 = .ok (.aload 14, 2) := by decide +kernel
theorem dL_law_798 : decode cL_law 798 = .ok (.iload 18, 2) := by decide +kernel
theorem dL_law_800 : decode cL_law 800 = .ok (.iload 9, 2) := by decide +kernel
theorem dL_law_802 : decode cL_law 802 = .ok (.iastore, 1) := by decide +kernel
theorem dL_law_803 : decode cL_law 803 = .ok (.iinc 18 1, 3) := by decide +kernel
theorem dL_law_806 : decode cL_law 806 = .ok (.goto (-17), 3) := by decide +kernel
theorem dL_law_809 : decode cL_law 809 = .ok (.goto 464, 3) := by decide +kernel
theorem dL_law_812 : decode cL_law 812 = .ok (.aload_n 1, 1) := by decide +kernel
theorem dL_law_813 : decode cL_law 813 = .ok (.iload 6, 2) := by decide +kernel
theorem dL_law_815 : decode cL_law 815 = .ok (.iload 8, 2) := by decide +kernel
theorem dL_law_817 : decode cL_law 817 = .ok (.invokevirtual 72, 3) := by decide +kernel
theorem dL_law_820 : decode cL_law 820 = .ok (.istore 13, 2) := by decide +kernel
theorem dL_law_822 : decode cL_law 822 = .ok (.aload_n 1, 1) := by decide +kernel
theorem dL_law_823 : decode cL_law 823 = .ok (.iload 8, 2) := by decide +kernel
theorem dL_law_825 : decode cL_law 825 = .ok (.invokevirtual 75, 3) := by decide +kernel
theorem dL_law_828 : decode cL_law 828 = .ok (.iconst 1, 1) := by decide +kernel
theorem dL_law_829 : decode cL_law 829 = .ok (.if_icmp .eq 5, 3) := by decide +kernel
theorem dL_law_832 : decode cL_law 832 = .ok (.iconst 0, 1) := by decide +kernel
theorem dL_law_833 : decode cL_law 833 = .ok (.ireturn, 1) := by decide +kernel
theorem dL_law_834 : decode cL_law 834 = .ok (.sipush 999, 3) := by decide +kernel
theorem dL_law_837 : decode cL_law 837 = .ok (.istore 17, 2) := by decide +kernel
theorem dL_law_839 : decode cL_law 839 = .ok (.iconst 0, 1) := by decide +kernel
theorem dL_law_840 : decode cL_law 840 = .ok (.istore 18, 2) := by decide +kernel
theorem dL_law_842 : decode cL_law 842 = .ok (.iload 18, 2) := by decide +kernel
theorem dL_law_844 : decode cL_law 844 = .ok (.iload 10, 2) := by decide +kernel
theorem dL_law_846 : decode cL_law 846 = .ok (.if_icmp .ge 34, 3) := by decide +kernel
theorem dL_law_849 : decode cL_law 849 = .ok (.aload 14, 2) := by decide +kernel
theorem dL_law_851 : decode cL_law 851 = .ok (.iload 18, 2) := by decide +kernel
theorem dL_law_853 : decode cL_law 853 = .ok (.aload_n 1, 1) := by decide +kernel
theorem dL_law_854 : decode cL_law 854 = .ok (.iload 8, 2) := by decide +kernel
theorem dL_law_856 : decode cL_law 856 = .ok (.iload 18, 2) := by decide +kernel
theorem dL_law_858 : decode cL_law 858 = .ok (.invokevirtual 13, 3) := by decide +kernel
theorem dL_law_861 : decode cL_law 861 = .ok (.iastore, 1) := by decide +kernel
theorem dL_law_862 : decode cL_law 862 = .ok (.iload 17, 2) := by decide +kernel
theorem dL_law_864 : decode cL_law 864 = .ok (.aload 11, 2) := by decide +kernel
theorem dL_law_866 : decode cL_law 866 = .ok (.iload 18, 2) := by decide +kernel
theorem dL_law_868 : decode cL_law 868 = .ok (.iaload, 1) := by decide +kernel
theorem dL_law_869 : decode cL_law 869 = .ok (.invokestatic 78, 3) := by decide +kernel
theorem dL_law_872 : decode cL_law 872 = .ok (.istore 17, 2) := by decide +kernel
theorem dL_law_874 : decode cL_law 874 = .ok (.iinc 18 1, 3) := by decide +kernel
theorem dL_law_877 : decode cL_law 877 = .ok (.goto (-35), 3) := by decide +kernel
theorem dL_law_880 : decode cL_law 880 = .ok (.iload 10, 2) := by decide +kernel
theorem dL_law_882 : decode cL_law 882 = .ok (.ifCond .le 12, 3) := by decide +kernel
theorem dL_law_885 : decode cL_law 885 = .ok (.aload 14, 2) := by decide +kernel
theorem dL_law_887 : decode cL_law 887 = .ok (.iconst 0, 1) := by decide +kernel
theorem dL_law_888 : decode cL_law 888 = .ok (.iaload, 1) := by decide +kernel
theorem dL_law_889 : decode cL_law 889 = .ok (.iload 17, 2) := by decide +kernel
theorem dL_law_891 : decode cL_law 891 = .ok (.if_icmp .ne 39, 3) := by decide +kernel
theorem dL_law_894 : decode cL_law 894 = .ok (.aload_n 1, 1) := by decide +kernel
theorem dL_law_895 : decode cL_law 895 = .ok (.iload 8, 2) := by decide +kernel
theorem dL_law_897 : decode cL_law 897 = .ok (.iconst 0, 1) := by decide +kernel
theorem dL_law_898 : decode cL_law 898 = .ok (.iload 10, 2) := by decide +kernel
theorem dL_law_900 : decode cL_law 900 = .ok (.invokevirtual 83, 3) := by decide +kernel
theorem dL_law_903 : decode cL_law 903 = .ok (.aload_n 1, 1) := by decide +kernel
theorem dL_law_904 : decode cL_law 904 = .ok (.iload 8, 2) := by decide +kernel
theorem dL_law_906 : decode cL_law 906 = .ok (.iconst 0, 1) := by decide +kernel
theorem dL_law_907 : decode cL_law 907 = .ok (.iload 10, 2) := by decide +kernel
theorem dL_law_909 : decode cL_law 909 = .ok (.iconst 2, 1) := by decide +kernel
theorem dL_law_910 : decode cL_law 910 = .ok (.idiv, 1) := by decide +kernel
theorem dL_law_911 : decode cL_law 911 = .ok (.invokevirtual 83, 3) := by decide +kernel
theorem dL_law_914 : decode cL_law 914 = .ok (.aload_n 1, 1) := by decide +kernel
theorem dL_law_915 : decode cL_law 915 = .ok (.iload 8, 2) := by decide +kernel
theorem dL_law_917 : decode cL_law 917 = .ok (.iload 10, 2) := by decide +kernel
theorem dL_law_919 : decode cL_law 919 = .ok (.iconst 2, 1) := by decide +kernel
theorem dL_law_920 : decode cL_law 920 = .ok (.idiv, 1) := by decide +kernel
theorem dL_law_921 : decode cL_law 921 = .ok (.iload 10, 2) := by decide +kernel
theorem dL_law_923 : decode cL_law 923 = .ok (.invokevirtual 83, 3) := by decide +kernel
theorem dL_law_926 : decode cL_law 926 = .ok (.iadd, 1) := by decide +kernel
theorem dL_law_927 : decode cL_law 927 = .ok (.if_icmp .eq 5, 3) := by decide +kernel
theorem dL_law_930 : decode cL_law 930 = .ok (.iconst 0, 1) := by decide +kernel
theorem dL_law_931 : decode cL_law 931 = .ok (.ireturn, 1) := by decide +kernel
theorem dL_law_932 : decode cL_law 932 = .ok (.iconst 0, 1) := by decide +kernel
theorem dL_law_933 : decode cL_law 933 = .ok (.istore 18, 2) := by decide +kernel
theorem dL_law_935 : decode cL_law 935 = .ok (.iconst 0, 1) := by decide +kernel
theorem dL_law_936 : decode cL_law 936 = .ok (.istore 19, 2) := by decide +kernel
theorem dL_law_938 : decode cL_law 938 = .ok (.iload 19, 2) := by decide +kernel
theorem dL_law_940 : decode cL_law 940 = .ok (.iload 10, 2) := by decide +kernel
theorem dL_law_942 : decode cL_law 942 = .ok (.if_icmp .ge 25, 3) := by decide +kernel
theorem dL_law_945 : decode cL_law 945 = .ok (.iload 18, 2) := by decide +kernel
theorem dL_law_947 : decode cL_law 947 = .ok (.aload 11, 2) := by decide +kernel
theorem dL_law_949 : decode cL_law 949 = .ok (.iload 19, 2) := by decide +kernel
theorem dL_law_951 : decode cL_law 951 = .ok (.iaload, 1) := by decide +kernel
theorem dL_law_952 : decode cL_law 952 = .ok (.aload 14, 2) := by decide +kernel
theorem dL_law_954 : decode cL_law 954 = .ok (.iload 19, 2) := by decide +kernel
theorem dL_law_956 : decode cL_law 956 = .ok (.iaload, 1) := by decide +kernel
theorem dL_law_957 : decode cL_law 957 = .ok (.isub, 1) := by decide +kernel
theorem dL_law_958 : decode cL_law 958 = .ok (.iadd, 1) := by decide +kernel
theorem dL_law_959 : decode cL_law 959 = .ok (.istore 18, 2) := by decide +kernel
theorem dL_law_961 : decode cL_law 961 = .ok (.iinc 19 1, 3) := by decide +kernel
theorem dL_law_964 : decode cL_law 964 = .ok (.goto (-26), 3) := by decide +kernel
theorem dL_law_967 : decode cL_law 967 = .ok (.iload 18, 2) := by decide +kernel
theorem dL_law_969 : decode cL_law 969 = .ok (.ifCond .eq 304, 3) := by decide +kernel
theorem dL_law_972 : decode cL_law 972 = .ok (.iconst 0, 1) := by decide +kernel
theorem dL_law_973 : decode cL_law 973 = .ok (.ireturn, 1) := by decide +kernel
theorem dL_law_974 : decode cL_law 974 = .ok (.iload 5, 2) := by decide +kernel
theorem dL_law_976 : decode cL_law 976 = .ok (.bipush 27, 2) := by decide +kernel
theorem dL_law_978 : decode cL_law 978 = .ok (.iushr, 1) := by decide +kernel
theorem dL_law_979 : decode cL_law 979 = .ok (.istore 17, 2) := by decide +kernel
theorem dL_law_981 : decode cL_law 981 = .ok (.aload_n 1, 1) := by decide +kernel
theorem dL_law_982 : decode cL_law 982 = .ok (.iload 6, 2) := by decide +kernel
theorem dL_law_984 : decode cL_law 984 = .ok (.iload 17, 2) := by decide +kernel
theorem dL_law_986 : decode cL_law 986 = .ok (.iload 8, 2) := by decide +kernel
theorem dL_law_988 : decode cL_law 988 = .ok (.invokevirtual 86, 3) := by decide +kernel
theorem dL_law_991 : decode cL_law 991 = .ok (.istore 13, 2) := by decide +kernel
theorem dL_law_993 : decode cL_law 993 = .ok (.iload 10, 2) := by decide +kernel
theorem dL_law_995 : decode cL_law 995 = .ok (.ifCond .ne 12, 3) := by decide +kernel
theorem dL_law_998 : decode cL_law 998 = .ok (.iload 13, 2) := by decide +kernel
theorem dL_law_1000 : decode cL_law 1000 = .ok (.bipush (-2), 2) := by decide +kernel
theorem dL_law_1002 : decode cL_law 1002 = .ok (.if_icmp .eq 399, 3) := by decide +kernel
theorem dL_law_1005 : decode cL_law 1005 = .ok (.iconst 0, 1) := by decide +kernel
theorem dL_law_1006 : decode cL_law 1006 = .ok (.ireturn, 1) := by decide +kernel
theorem dL_law_1007 : decode cL_law 1007 = .ok (.iconst 0, 1) := by decide +kernel
theorem dL_law_1008 : decode cL_law 1008 = .ok (.istore 18, 2) := by decide +kernel
theorem dL_law_1010 : decode cL_law 1010 = .ok (.iload 18, 2) := by decide +kernel
theorem dL_law_1012 : decode cL_law 1012 = .ok (.iload 10, 2) := by decide +kernel
theorem dL_law_1014 : decode cL_law 1014 = .ok (.if_icmp .ge 25, 3) := by decide +kernel
theorem dL_law_1017 : decode cL_law 1017 = .ok (.aload 14, 2) := by decide +kernel
theorem dL_law_1019 : decode cL_law 1019 = .ok (.iload 18, 2) := by decide +kernel
theorem dL_law_1021 : decode cL_law 1021 = .ok (.aload 11, 2) := by decide +kernel
theorem dL_law_1023 : decode cL_law 1023 = .ok (.iload 18, 2) := by decide +kernel
theorem dL_law_1025 : decode cL_law 1025 = .ok (.iload 17, 2) := by decide +kernel
theorem dL_law_1027 : decode cL_law 1027 = .ok (.iadd, 1) := by decide +kernel
theorem dL_law_1028 : decode cL_law 1028 = .ok (.iload 10, 2) := by decide +kernel
theorem dL_law_1030 : decode cL_law 1030 = .ok (.irem, 1) := by decide +kernel
theorem dL_law_1031 : decode cL_law 1031 = .ok (.iaload, 1) := by decide +kernel
theorem dL_law_1032 : decode cL_law 1032 = .ok (.iastore, 1) := by decide +kernel
theorem dL_law_1033 : decode cL_law 1033 = .ok (.iinc 18 1, 3) := by decide +kernel
theorem dL_law_1036 : decode cL_law 1036 = .ok (.goto (-26), 3) := by decide +kernel
theorem dL_law_1039 : decode cL_law 1039 = .ok (.goto 234, 3) := by decide +kernel
theorem dL_law_1042 : decode cL_law 1042 = .ok (.aload_n 1, 1) := by decide +kernel
theorem dL_law_1043 : decode cL_law 1043 = .ok (.iload 6, 2) := by decide +kernel
theorem dL_law_1045 : decode cL_law 1045 = .ok (.iload 9, 2) := by decide +kernel
theorem dL_law_1047 : decode cL_law 1047 = .ok (.iconst 1, 1) := by decide +kernel
theorem dL_law_1048 : decode cL_law 1048 = .ok (.iand, 1) := by decide +kernel
theorem dL_law_1049 : decode cL_law 1049 = .ok (.iload 8, 2) := by decide +kernel
theorem dL_law_1051 : decode cL_law 1051 = .ok (.invokevirtual 89, 3) := by decide +kernel
theorem dL_law_1054 : decode cL_law 1054 = .ok (.istore 13, 2) := by decide +kernel
theorem dL_law_1056 : decode cL_law 1056 = .ok (.iload 10, 2) := by decide +kernel
theorem dL_law_1058 : decode cL_law 1058 = .ok (.ifCond .ne 7, 3) := by decide +kernel
theorem dL_law_1061 : decode cL_law 1061 = .ok (.iconst 0, 1) := by decide +kernel
theorem dL_law_1062 : decode cL_law 1062 = .ok (.goto 23, 3) := by decide +kernel
theorem dL_law_1065 : decode cL_law 1065 = .ok (.iload 9, 2) := by decide +kernel
theorem dL_law_1067 : decode cL_law 1067 = .ok (.iconst 1, 1) := by decide +kernel
theorem dL_law_1068 : decode cL_law 1068 = .ok (.iand, 1) := by decide +kernel
theorem dL_law_1069 : decode cL_law 1069 = .ok (.ifCond .ne 10, 3) := by decide +kernel
theorem dL_law_1072 : decode cL_law 1072 = .ok (.iload 10, 2) := by decide +kernel
theorem dL_law_1074 : decode cL_law 1074 = .ok (.iconst 2, 1) := by decide +kernel
theorem dL_law_1075 : decode cL_law 1075 = .ok (.idiv, 1) := by decide +kernel
theorem dL_law_1076 : decode cL_law 1076 = .ok (.goto 9, 3) := by decide +kernel
theorem dL_law_1079 : decode cL_law 1079 = .ok (.iload 10, 2) := by decide +kernel
theorem dL_law_1081 : decode cL_law 1081 = .ok (.iconst 1, 1) := by decide +kernel
theorem dL_law_1082 : decode cL_law 1082 = .ok (.isub, 1) := by decide +kernel
theorem dL_law_1083 : decode cL_law 1083 = .ok (.iconst 2, 1) := by decide +kernel
theorem dL_law_1084 : decode cL_law 1084 = .ok (.idiv, 1) := by decide +kernel
theorem dL_law_1085 : decode cL_law 1085 = .ok (.istore 15, 2) := by decide +kernel
theorem dL_law_1087 : decode cL_law 1087 = .ok (.iload 15, 2) := by decide +kernel
theorem dL_law_1089 : decode cL_law 1089 = .ok (.ifCond .ne 12, 3) := by decide +kernel
theorem dL_law_1092 : decode cL_law 1092 = .ok (.iload 13, 2) := by decide +kernel
theorem dL_law_1094 : decode cL_law 1094 = .ok (.bipush (-2), 2) := by decide +kernel
theorem dL_law_1096 : decode cL_law 1096 = .ok (.if_icmp .eq 305, 3) := by decide +kernel
theorem dL_law_1099 : decode cL_law 1099 = .ok (.iconst 0, 1) := by decide +kernel
theorem dL_law_1100 : decode cL_law 1100 = .ok (.ireturn, 1) := by decide +kernel
theorem dL_law_1101 : decode cL_law 1101 = .ok (.iload 13, 2) := by decide +kernel
theorem dL_law_1103 : decode cL_law 1103 = .ok (.iload 15, 2) := by decide +kernel
theorem dL_law_1105 : decode cL_law 1105 = .ok (.if_icmp .eq 5, 3) := by decide +kernel
theorem dL_law_1108 : decode cL_law 1108 = .ok (.iconst 0, 1) := by decide +kernel
theorem dL_law_1109 : decode cL_law 1109 = .ok (.ireturn, 1) := by decide +kernel
theorem dL_law_1110 : decode cL_law 1110 = .ok (.iconst 0, 1) := by decide +kernel
theorem dL_law_1111 : decode cL_law 1111 = .ok (.istore 17, 2) := by decide +kernel
theorem dL_law_1113 : decode cL_law 1113 = .ok (.iload 17, 2) := by decide +kernel
theorem dL_law_1115 : decode cL_law 1115 = .ok (.iload 15, 2) := by decide +kernel
theorem dL_law_1117 : decode cL_law 1117 = .ok (.if_icmp .ge 28, 3) := by decide +kernel
theorem dL_law_1120 : decode cL_law 1120 = .ok (.aload 14, 2) := by decide +kernel
theorem dL_law_1122 : decode cL_law 1122 = .ok (.iload 17, 2) := by decide +kernel
theorem dL_law_1124 : decode cL_law 1124 = .ok (.aload 11, 2) := by decide +kernel
theorem dL_law_1126 : decode cL_law 1126 = .ok (.iconst 1, 1) := by decide +kernel
theorem dL_law_1127 : decode cL_law 1127 = .ok (.iload 9, 2) := by decide +kernel
theorem dL_law_1129 : decode cL_law 1129 = .ok (.iconst 1, 1) := by decide +kernel
theorem dL_law_1130 : decode cL_law 1130 = .ok (.iand, 1) := by decide +kernel
theorem dL_law_1131 : decode cL_law 1131 = .ok (.iadd, 1) := by decide +kernel
theorem dL_law_1132 : decode cL_law 1132 = .ok (.iconst 2, 1) := by decide +kernel
theorem dL_law_1133 : decode cL_law 1133 = .ok (.iload 17, 2) := by decide +kernel
theorem dL_law_1135 : decode cL_law 1135 = .ok (.imul, 1) := by decide +kernel
theorem dL_law_1136 : decode cL_law 1136 = .ok (.iadd, 1) := by decide +kernel
theorem dL_law_1137 : decode cL_law 1137 = .ok (.iaload, 1) := by decide +kernel
theorem dL_law_1138 : decode cL_law 1138 = .ok (.iastore, 1) := by decide +kernel
theorem dL_law_1139 : decode cL_law 1139 = .ok (.iinc 17 1, 3) := by decide +kernel
theorem dL_law_1142 : decode cL_law 1142 = .ok (.goto (-29), 3) := by decide +kernel
theorem dL_law_1145 : decode cL_law 1145 = .ok (.iconst 0, 1) := by decide +kernel
theorem dL_law_1146 : decode cL_law 1146 = .ok (.istore 13, 2) := by decide +kernel
theorem dL_law_1148 : decode cL_law 1148 = .ok (.goto 125, 3) := by decide +kernel
theorem dL_law_1151 : decode cL_law 1151 = .ok (.aload_n 1, 1) := by decide +kernel
theorem dL_law_1152 : decode cL_law 1152 = .ok (.iload 6, 2) := by decide +kernel
theorem dL_law_1154 : decode cL_law 1154 = .ok (.iload 8, 2) := by decide +kernel
theorem dL_law_1156 : decode cL_law 1156 = .ok (.invokevirtual 92, 3) := by decide +kernel
theorem dL_law_1159 : decode cL_law 1159 = .ok (.istore 13, 2) := by decide +kernel
theorem dL_law_1161 : decode cL_law 1161 = .ok (.iload 10, 2) := by decide +kernel
theorem dL_law_1163 : decode cL_law 1163 = .ok (.ifCond .ne 12, 3) := by decide +kernel
theorem dL_law_1166 : decode cL_law 1166 = .ok (.iload 13, 2) := by decide +kernel
theorem dL_law_1168 : decode cL_law 1168 = .ok (.bipush (-2), 2) := by decide +kernel
theorem dL_law_1170 : decode cL_law 1170 = .ok (.if_icmp .eq 231, 3) := by decide +kernel
theorem dL_law_1173 : decode cL_law 1173 = .ok (.iconst 0, 1) := by decide +kernel
theorem dL_law_1174 : decode cL_law 1174 = .ok (.ireturn, 1) := by decide +kernel
theorem dL_law_1175 : decode cL_law 1175 = .ok (.aload_n 1, 1) := by decide +kernel
theorem dL_law_1176 : decode cL_law 1176 = .ok (.iconst 0, 1) := by decide +kernel
theorem dL_law_1177 : decode cL_law 1177 = .ok (.invokevirtual 42, 3) := by decide +kernel
theorem dL_law_1180 : decode cL_law 1180 = .ok (.aload 11, 2) := by decide +kernel
theorem dL_law_1182 : decode cL_law 1182 = .ok (.iconst 0, 1) := by decide +kernel
theorem dL_law_1183 : decode cL_law 1183 = .ok (.iaload, 1) := by decide +kernel
theorem dL_law_1184 : decode cL_law 1184 = .ok (.i2l, 1) := by decide +kernel
theorem dL_law_1185 : decode cL_law 1185 = .ok (.lcmp, 1) := by decide +kernel
theorem dL_law_1186 : decode cL_law 1186 = .ok (.ifCond .eq 5, 3) := by decide +kernel
theorem dL_law_1189 : decode cL_law 1189 = .ok (.iconst 0, 1) := by decide +kernel
theorem dL_law_1190 : decode cL_law 1190 = .ok (.ireturn, 1) := by decide +kernel
theorem dL_law_1191 : decode cL_law 1191 = .ok (.iinc 15 (-1), 3) := by decide +kernel
theorem dL_law_1194 : decode cL_law 1194 = .ok (.aload 11, 2) := by decide +kernel
theorem dL_law_1196 : decode cL_law 1196 = .ok (.iconst 0, 1) := by decide +kernel
theorem dL_law_1197 : decode cL_law 1197 = .ok (.iaload, 1) := by decide +kernel
theorem dL_law_1198 : decode cL_law 1198 = .ok (.ineg, 1) := by decide +kernel
theorem dL_law_1199 : decode cL_law 1199 = .ok (.istore 17, 2) := by decide +kernel
theorem dL_law_1201 : decode cL_law 1201 = .ok (.iconst 0, 1) := by decide +kernel
theorem dL_law_1202 : decode cL_law 1202 = .ok (.istore 18, 2) := by decide +kernel
theorem dL_law_1204 : decode cL_law 1204 = .ok (.iload 18, 2) := by decide +kernel
theorem dL_law_1206 : decode cL_law 1206 = .ok (.iload 10, 2) := by decide +kernel
theorem dL_law_1208 : decode cL_law 1208 = .ok (.if_icmp .ge 19, 3) := by decide +kernel
theorem dL_law_1211 : decode cL_law 1211 = .ok (.iload 17, 2) := by decide +kernel
theorem dL_law_1213 : decode cL_law 1213 = .ok (.aload 11, 2) := by decide +kernel
theorem dL_law_1215 : decode cL_law 1215 = .ok (.iload 18, 2) := by decide +kernel
theorem dL_law_1217 : decode cL_law 1217 = .ok (.iaload, 1) := by decide +kernel
theorem dL_law_1218 : decode cL_law 1218 = .ok (.iadd, 1) := by decide +kernel
theorem dL_law_1219 : decode cL_law 1219 = .ok (.istore 17, 2) := by decide +kernel
theorem dL_law_1221 : decode cL_law 1221 = .ok (.iinc 18 1, 3) := by decide +kernel
theorem dL_law_1224 : decode cL_law 1224 = .ok (.goto (-20), 3) := by decide +kernel
theorem dL_law_1227 : decode cL_law 1227 = .ok (.iconst 0, 1) := by decide +kernel
theorem dL_law_1228 : decode cL_law 1228 = .ok (.istore 18, 2) := by decide +kernel
theorem dL_law_1230 : decode cL_law 1230 = .ok (.iload 18, 2) := by decide +kernel
theorem dL_law_1232 : decode cL_law 1232 = .ok (.iload 15, 2) := by decide +kernel
theorem dL_law_1234 : decode cL_law 1234 = .ok (.if_icmp .ge 32, 3) := by decide +kernel
theorem dL_law_1237 : decode cL_law 1237 = .ok (.aload 14, 2) := by decide +kernel
theorem dL_law_1239 : decode cL_law 1239 = .ok (.iload 18, 2) := by decide +kernel
theorem dL_law_1241 : decode cL_law 1241 = .ok (.aload_n 1, 1) := by decide +kernel
theorem dL_law_1242 : decode cL_law 1242 = .ok (.iload 8, 2) := by decide +kernel
theorem dL_law_1244 : decode cL_law 1244 = .ok (.iload 18, 2) := by decide +kernel
theorem dL_law_1246 : decode cL_law 1246 = .ok (.invokevirtual 13, 3) := by decide +kernel
theorem dL_law_1249 : decode cL_law 1249 = .ok (.iastore, 1) := by decide +kernel
theorem dL_law_1250 : decode cL_law 1250 = .ok (.iload 17, 2) := by decide +kernel
theorem dL_law_1252 : decode cL_law 1252 = .ok (.aload 14, 2) := by decide +kernel
theorem dL_law_1254 : decode cL_law 1254 = .ok (.iload 18, 2) := by decide +kernel
theorem dL_law_1256 : decode cL_law 1256 = .ok (.iaload, 1) := by decide +kernel
theorem dL_law_1257 : decode cL_law 1257 = .ok (.isub, 1) := by decide +kernel
theorem dL_law_1258 : decode cL_law 1258 = .ok (.istore 17, 2) := by decide +kernel
theorem dL_law_1260 : decode cL_law 1260 = .ok (.iinc 18 1, 3) := by decide +kernel
theorem dL_law_1263 : decode cL_law 1263 = .ok (.goto (-33), 3) := by decide +kernel
theorem dL_law_1266 : decode cL_law 1266 = .ok (.iload 17, 2) := by decide +kernel
theorem dL_law_1268 : decode cL_law 1268 = .ok (.ifCond .eq 5, 3) := by decide +kernel
theorem dL_law_1271 : decode cL_law 1271 = .ok (.iconst 0, 1) := by decide +kernel
theorem dL_law_1272 : decode cL_law 1272 = .ok (.ireturn, 1) := by decide +kernel
theorem dL_law_1273 : decode cL_law 1273 = .ok (.iload 13, 2) := by decide +kernel
theorem dL_law_1275 : decode cL_law 1275 = .ok (.ifCond .lt 16, 3) := by decide +kernel
theorem dL_law_1278 : decode cL_law 1278 = .ok (.aload_n 1, 1) := by decide +kernel
theorem dL_law_1279 : decode cL_law 1279 = .ok (.iconst 1, 1) := by decide +kernel
theorem dL_law_1280 : decode cL_law 1280 = .ok (.invokevirtual 29, 3) := by decide +kernel
theorem dL_law_1283 : decode cL_law 1283 = .ok (.iload 12, 2) := by decide +kernel
theorem dL_law_1285 : decode cL_law 1285 = .ok (.iload 13, 2) := by decide +kernel
theorem dL_law_1287 : decode cL_law 1287 = .ok (.iadd, 1) := by decide +kernel
theorem dL_law_1288 : decode cL_law 1288 = .ok (.if_icmp .eq 5, 3) := by decide +kernel
theorem dL_law_1291 : decode cL_law 1291 = .ok (.iconst 0, 1) := by decide +kernel
theorem dL_law_1292 : decode cL_law 1292 = .ok (.ireturn, 1) := by decide +kernel
theorem dL_law_1293 : decode cL_law 1293 = .ok (.aload_n 2, 1) := by decide +kernel
theorem dL_law_1294 : decode cL_law 1294 = .ok (.iload 8, 2) := by decide +kernel
theorem dL_law_1296 : decode cL_law 1296 = .ok (.aload 14, 2) := by decide +kernel
theorem dL_law_1298 : decode cL_law 1298 = .ok (.aastore, 1) := by decide +kernel
theorem dL_law_1299 : decode cL_law 1299 = .ok (.aload_n 3, 1) := by decide +kernel
theorem dL_law_1300 : decode cL_law 1300 = .ok (.iload 8, 2) := by decide +kernel
theorem dL_law_1302 : decode cL_law 1302 = .ok (.iload 15, 2) := by decide +kernel
theorem dL_law_1304 : decode cL_law 1304 = .ok (.iastore, 1) := by decide +kernel
theorem dL_law_1305 : decode cL_law 1305 = .ok (.iconst 0, 1) := by decide +kernel
theorem dL_law_1306 : decode cL_law 1306 = .ok (.istore 17, 2) := by decide +kernel
theorem dL_law_1308 : decode cL_law 1308 = .ok (.iconst 0, 1) := by decide +kernel
theorem dL_law_1309 : decode cL_law 1309 = .ok (.istore 18, 2) := by decide +kernel
theorem dL_law_1311 : decode cL_law 1311 = .ok (.iload 18, 2) := by decide +kernel
theorem dL_law_1313 : decode cL_law 1313 = .ok (.bipush 6, 2) := by decide +kernel
theorem dL_law_1315 : decode cL_law 1315 = .ok (.if_icmp .ge 37, 3) := by decide +kernel
theorem dL_law_1318 : decode cL_law 1318 = .ok (.aload_n 1, 1) := by decide +kernel
theorem dL_law_1319 : decode cL_law 1319 = .ok (.iload 18, 2) := by decide +kernel
theorem dL_law_1321 : decode cL_law 1321 = .ok (.aload_n 2, 1) := by decide +kernel
theorem dL_law_1322 : decode cL_law 1322 = .ok (.iload 18, 2) := by decide +kernel
theorem dL_law_1324 : decode cL_law 1324 = .ok (.aaload, 1) := by decide +kernel
theorem dL_law_1325 : decode cL_law 1325 = .ok (.aload_n 3, 1) := by decide +kernel
theorem dL_law_1326 : decode cL_law 1326 = .ok (.iload 18, 2) := by decide +kernel
theorem dL_law_1328 : decode cL_law 1328 = .ok (.iaload, 1) := by decide +kernel
theorem dL_law_1329 : decode cL_law 1329 = .ok (.invokestatic 95, 3) := by decide +kernel
theorem dL_law_1332 : decode cL_law 1332 = .ok (.ifCond .ne 5, 3) := by decide +kernel
theorem dL_law_1335 : decode cL_law 1335 = .ok (.iconst 0, 1) := by decide +kernel
theorem dL_law_1336 : decode cL_law 1336 = .ok (.ireturn, 1) := by decide +kernel
theorem dL_law_1337 : decode cL_law 1337 = .ok (.iload 17, 2) := by decide +kernel
theorem dL_law_1339 : decode cL_law 1339 = .ok (.aload_n 3, 1) := by decide +kernel
theorem dL_law_1340 : decode cL_law 1340 = .ok (.iload 18, 2) := by decide +kernel
theorem dL_law_1342 : decode cL_law 1342 = .ok (.iaload, 1) := by decide +kernel
theorem dL_law_1343 : decode cL_law 1343 = .ok (.iadd, 1) := by decide +kernel
theorem dL_law_1344 : decode cL_law 1344 = .ok (.istore 17, 2) := by decide +kernel
theorem dL_law_1346 : decode cL_law 1346 = .ok (.iinc 18 1, 3) := by decide +kernel
theorem dL_law_1349 : decode cL_law 1349 = .ok (.goto (-38), 3) := by decide +kernel
theorem dL_law_1352 : decode cL_law 1352 = .ok (.aload_n 1, 1) := by decide +kernel
theorem dL_law_1353 : decode cL_law 1353 = .ok (.invokevirtual 99, 3) := by decide +kernel
theorem dL_law_1356 : decode cL_law 1356 = .ok (.iload 17, 2) := by decide +kernel
theorem dL_law_1358 : decode cL_law 1358 = .ok (.if_icmp .gt 41, 3) := by decide +kernel
theorem dL_law_1361 : decode cL_law 1361 = .ok (.aload_n 1, 1) := by decide +kernel
theorem dL_law_1362 : decode cL_law 1362 = .ok (.iconst 1, 1) := by decide +kernel
theorem dL_law_1363 : decode cL_law 1363 = .ok (.invokevirtual 42, 3) := by decide +kernel
theorem dL_law_1366 : decode cL_law 1366 = .ok (.iload 17, 2) := by decide +kernel
theorem dL_law_1368 : decode cL_law 1368 = .ok (.i2l, 1) := by decide +kernel
theorem dL_law_1369 : decode cL_law 1369 = .ok (.lcmp, 1) := by decide +kernel
theorem dL_law_1370 : decode cL_law 1370 = .ok (.ifCond .ne 29, 3) := by decide +kernel
theorem dL_law_1373 : decode cL_law 1373 = .ok (.aload_n 1, 1) := by decide +kernel
theorem dL_law_1374 : decode cL_law 1374 = .ok (.iload 8, 2) := by decide +kernel
theorem dL_law_1376 : decode cL_law 1376 = .ok (.iload 8, 2) := by decide +kernel
theorem dL_law_1378 : decode cL_law 1378 = .ok (.invokevirtual 103, 3) := by decide +kernel
theorem dL_law_1381 : decode cL_law 1381 = .ok (.iconst 1, 1) := by decide +kernel
theorem dL_law_1382 : decode cL_law 1382 = .ok (.if_icmp .ne 17, 3) := by decide +kernel
theorem dL_law_1385 : decode cL_law 1385 = .ok (.aload_n 1, 1) := by decide +kernel
theorem dL_law_1386 : decode cL_law 1386 = .ok (.iconst 1, 1) := by decide +kernel
theorem dL_law_1387 : decode cL_law 1387 = .ok (.invokevirtual 42, 3) := by decide +kernel
theorem dL_law_1390 : decode cL_law 1390 = .ok (.aload_n 3, 1) := by decide +kernel
theorem dL_law_1391 : decode cL_law 1391 = .ok (.iload 8, 2) := by decide +kernel
theorem dL_law_1393 : decode cL_law 1393 = .ok (.iaload, 1) := by decide +kernel
theorem dL_law_1394 : decode cL_law 1394 = .ok (.i2l, 1) := by decide +kernel
theorem dL_law_1395 : decode cL_law 1395 = .ok (.lcmp, 1) := by decide +kernel
theorem dL_law_1396 : decode cL_law 1396 = .ok (.ifCond .le 5, 3) := by decide +kernel
theorem dL_law_1399 : decode cL_law 1399 = .ok (.iconst 0, 1) := by decide +kernel
theorem dL_law_1400 : decode cL_law 1400 = .ok (.ireturn, 1) := by decide +kernel
theorem dL_law_1401 : decode cL_law 1401 = .ok (.iinc 4 1, 3) := by decide +kernel
theorem dL_law_1404 : decode cL_law 1404 = .ok (.goto (-1379), 3) := by decide +kernel
theorem dL_law_1407 : decode cL_law 1407 = .ok (.iconst 1, 1) := by decide +kernel
theorem dL_law_1408 : decode cL_law 1408 = .ok (.ireturn, 1) := by decide +kernel
