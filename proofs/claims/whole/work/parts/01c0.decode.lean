theorem dX0_init_0 : decode cX0_init 0 = .ok (.aload_n 0, 1) := by decide +kernel
theorem dX0_init_1 : decode cX0_init 1 = .ok (.invokespecial 3, 3) := by decide +kernel
theorem dX0_init_4 : decode cX0_init 4 = .ok (.aload_n 0, 1) := by decide +kernel
theorem dX0_init_5 : decode cX0_init 5 = .ok (.sipush 6144, 3) := by decide +kernel
theorem dX0_init_8 : decode cX0_init 8 = .ok (.newarray .int, 2) := by decide +kernel
theorem dX0_init_10 : decode cX0_init 10 = .ok (.putfield 11, 3) := by decide +kernel
theorem dX0_init_13 : decode cX0_init 13 = .ok (.aload_n 0, 1) := by decide +kernel
theorem dX0_init_14 : decode cX0_init 14 = .ok (.sipush 6144, 3) := by decide +kernel
theorem dX0_init_17 : decode cX0_init 17 = .ok (.newarray .int, 2) := by decide +kernel
theorem dX0_init_19 : decode cX0_init 19 = .ok (.putfield 15, 3) := by decide +kernel
theorem dX0_init_22 : decode cX0_init 22 = .ok (.aload_n 0, 1) := by decide +kernel
theorem dX0_init_23 : decode cX0_init 23 = .ok (.sipush 6144, 3) := by decide +kernel
theorem dX0_init_26 : decode cX0_init 26 = .ok (.newarray .int, 2) := by decide +kernel
theorem dX0_init_28 : decode cX0_init 28 = .ok (.putfield 18, 3) := by decide +kernel
theorem dX0_init_31 : decode cX0_init 31 = .ok (.aload_n 0, 1) := by decide +kernel
theorem dX0_init_32 : decode cX0_init 32 = .ok (.sipush 6144, 3) := by decide +kernel
theorem dX0_init_35 : decode cX0_init 35 = .ok (.newarray .int, 2) := by decide +kernel
theorem dX0_init_37 : decode cX0_init 37 = .ok (.putfield 21, 3) := by decide +kernel
theorem dX0_init_40 : decode cX0_init 40 = .ok (.aload_n 0, 1) := by decide +kernel
theorem dX0_init_41 : decode cX0_init 41 = .ok (.sipush 6144, 3) := by decide +kernel
theorem dX0_init_44 : decode cX0_init 44 = .ok (.newarray .int, 2) := by decide +kernel
theorem dX0_init_46 : decode cX0_init 46 = .ok (.putfield 24, 3) := by decide +kernel
theorem dX0_init_49 : decode cX0_init 49 = .ok (.aload_n 0, 1) := by decide +kernel
theorem dX0_init_50 : decode cX0_init 50 = .ok (.sipush 256, 3) := by decide +kernel
theorem dX0_init_53 : decode cX0_init 53 = .ok (.newarray .int, 2) := by decide +kernel
theorem dX0_init_55 : decode cX0_init 55 = .ok (.putfield 27, 3) := by decide +kernel
theorem dX0_init_58 : decode cX0_init 58 = .ok (.aload_n 0, 1) := by decide +kernel
theorem dX0_init_59 : decode cX0_init 59 = .ok (.iconst 1, 1) := by decide +kernel
theorem dX0_init_60 : decode cX0_init 60 = .ok (.putfield 30, 3) := by decide +kernel
theorem dX0_init_63 : decode cX0_init 63 = .ok (.aload_n 0, 1) := by decide +kernel
theorem dX0_init_64 : decode cX0_init 64 = .ok (.sipush 6143, 3) := by decide +kernel
theorem dX0_init_67 : decode cX0_init 67 = .ok (.putfield 34, 3) := by decide +kernel
theorem dX0_init_70 : decode cX0_init 70 = .ok (.aload_n 0, 1) := by decide +kernel
theorem dX0_init_71 : decode cX0_init 71 = .ok (.iconst 0, 1) := by decide +kernel
theorem dX0_init_72 : decode cX0_init 72 = .ok (.putfield 37, 3) := by decide +kernel
theorem dX0_init_75 : decode cX0_init 75 = .ok (.aload_n 0, 1) := by decide +kernel
theorem dX0_init_76 : decode cX0_init 76 = .ok (.iconst 0, 1) := by decide +kernel
theorem dX0_init_77 : decode cX0_init 77 = .ok (.putfield 40, 3) := by decide +kernel
theorem dX0_init_80 : decode cX0_init 80 = .ok (.return_, 1) := by decide +kernel
theorem dX0_hasRoom_0 : decode cX0_hasRoom 0 = .ok (.aload_n 0, 1) := by decide +kernel
theorem dX0_hasRoom_1 : decode cX0_hasRoom 1 = .ok (.getfield 34, 3) := by decide +kernel
theorem dX0_hasRoom_4 : decode cX0_hasRoom 4 = .ok (.sipush 4096, 3) := by decide +kernel
theorem dX0_hasRoom_7 : decode cX0_hasRoom 7 = .ok (.if_icmp .lt 7, 3) := by decide +kernel
theorem dX0_hasRoom_10 : decode cX0_hasRoom 10 = .ok (.iconst 1, 1) := by decide +kernel
theorem dX0_hasRoom_11 : decode cX0_hasRoom 11 = .ok (.goto 4, 3) := by decide +kernel
theorem dX0_hasRoom_14 : decode cX0_hasRoom 14 = .ok (.iconst 0, 1) := by decide +kernel
theorem dX0_hasRoom_15 : decode cX0_hasRoom 15 = .ok (.ireturn, 1) := by decide +kernel
theorem dX0_forgetKept_0 : decode cX0_forgetKept 0 = .ok (.aload_n 0, 1) := by decide +kernel
theorem dX0_forgetKept_1 : decode cX0_forgetKept 1 = .ok (.getfield 21, 3) := by decide +kernel
theorem dX0_forgetKept_4 : decode cX0_forgetKept 4 = .ok (.iconst 0, 1) := by decide +kernel
theorem dX0_forgetKept_5 : decode cX0_forgetKept 5 = .ok (.invokestatic 43, 3) := by decide +kernel
theorem dX0_forgetKept_8 : decode cX0_forgetKept 8 = .ok (.aload_n 0, 1) := by decide +kernel
theorem dX0_forgetKept_9 : decode cX0_forgetKept 9 = .ok (.getfield 21, 3) := by decide +kernel
theorem dX0_forgetKept_12 : decode cX0_forgetKept 12 = .ok (.iconst 0, 1) := by decide +kernel
theorem dX0_forgetKept_13 : decode cX0_forgetKept 13 = .ok (.iconst 1, 1) := by decide +kernel
theorem dX0_forgetKept_14 : decode cX0_forgetKept 14 = .ok (.iastore, 1) := by decide +kernel
theorem dX0_forgetKept_15 : decode cX0_forgetKept 15 = .ok (.aload_n 0, 1) := by decide +kernel
theorem dX0_forgetKept_16 : decode cX0_forgetKept 16 = .ok (.sipush 6143, 3) := by decide +kernel
theorem dX0_forgetKept_19 : decode cX0_forgetKept 19 = .ok (.putfield 34, 3) := by decide +kernel
theorem dX0_forgetKept_22 : decode cX0_forgetKept 22 = .ok (.aload_n 0, 1) := by decide +kernel
theorem dX0_forgetKept_23 : decode cX0_forgetKept 23 = .ok (.iconst 1, 1) := by decide +kernel
theorem dX0_forgetKept_24 : decode cX0_forgetKept 24 = .ok (.putfield 30, 3) := by decide +kernel
theorem dX0_forgetKept_27 : decode cX0_forgetKept 27 = .ok (.return_, 1) := by decide +kernel
theorem dX0_keepAll_0 : decode cX0_keepAll 0 = .ok (.aload_n 0, 1) := by decide +kernel
theorem dX0_keepAll_1 : decode cX0_keepAll 1 = .ok (.iload_n 1, 1) := by decide +kernel
theorem dX0_keepAll_2 : decode cX0_keepAll 2 = .ok (.iload_n 2, 1) := by decide +kernel
theorem dX0_keepAll_3 : decode cX0_keepAll 3 = .ok (.invokevirtual 49, 3) := by decide +kernel
theorem dX0_keepAll_6 : decode cX0_keepAll 6 = .ok (.iconst 0, 1) := by decide +kernel
theorem dX0_keepAll_7 : decode cX0_keepAll 7 = .ok (.istore_n 3, 1) := by decide +kernel
theorem dX0_keepAll_8 : decode cX0_keepAll 8 = .ok (.iload_n 3, 1) := by decide +kernel
theorem dX0_keepAll_9 : decode cX0_keepAll 9 = .ok (.iload_n 2, 1) := by decide +kernel
theorem dX0_keepAll_10 : decode cX0_keepAll 10 = .ok (.if_icmp .ge 57, 3) := by decide +kernel
theorem dX0_keepAll_13 : decode cX0_keepAll 13 = .ok (.aload_n 0, 1) := by decide +kernel
theorem dX0_keepAll_14 : decode cX0_keepAll 14 = .ok (.getfield 27, 3) := by decide +kernel
theorem dX0_keepAll_17 : decode cX0_keepAll 17 = .ok (.iload_n 3, 1) := by decide +kernel
theorem dX0_keepAll_18 : decode cX0_keepAll 18 = .ok (.iaload, 1) := by decide +kernel
theorem dX0_keepAll_19 : decode cX0_keepAll 19 = .ok (.invokestatic 53, 3) := by decide +kernel
theorem dX0_keepAll_22 : decode cX0_keepAll 22 = .ok (.ifCond .eq 39, 3) := by decide +kernel
theorem dX0_keepAll_25 : decode cX0_keepAll 25 = .ok (.aload_n 0, 1) := by decide +kernel
theorem dX0_keepAll_26 : decode cX0_keepAll 26 = .ok (.getfield 21, 3) := by decide +kernel
theorem dX0_keepAll_29 : decode cX0_keepAll 29 = .ok (.aload_n 0, 1) := by decide +kernel
theorem dX0_keepAll_30 : decode cX0_keepAll 30 = .ok (.getfield 27, 3) := by decide +kernel
theorem dX0_keepAll_33 : decode cX0_keepAll 33 = .ok (.iload_n 3, 1) := by decide +kernel
theorem dX0_keepAll_34 : decode cX0_keepAll 34 = .ok (.iaload, 1) := by decide +kernel
theorem dX0_keepAll_35 : decode cX0_keepAll 35 = .ok (.iaload, 1) := by decide +kernel
theorem dX0_keepAll_36 : decode cX0_keepAll 36 = .ok (.ifCond .ne 25, 3) := by decide +kernel
theorem dX0_keepAll_39 : decode cX0_keepAll 39 = .ok (.aload_n 0, 1) := by decide +kernel
theorem dX0_keepAll_40 : decode cX0_keepAll 40 = .ok (.getfield 21, 3) := by decide +kernel
theorem dX0_keepAll_43 : decode cX0_keepAll 43 = .ok (.aload_n 0, 1) := by decide +kernel
theorem dX0_keepAll_44 : decode cX0_keepAll 44 = .ok (.getfield 27, 3) := by decide +kernel
theorem dX0_keepAll_47 : decode cX0_keepAll 47 = .ok (.iload_n 3, 1) := by decide +kernel
theorem dX0_keepAll_48 : decode cX0_keepAll 48 = .ok (.iaload, 1) := by decide +kernel
theorem dX0_keepAll_49 : decode cX0_keepAll 49 = .ok (.iconst 1, 1) := by decide +kernel
theorem dX0_keepAll_50 : decode cX0_keepAll 50 = .ok (.iastore, 1) := by decide +kernel
theorem dX0_keepAll_51 : decode cX0_keepAll 51 = .ok (.aload_n 0, 1) := by decide +kernel
theorem dX0_keepAll_52 : decode cX0_keepAll 52 = .ok (.dup, 1) := by decide +kernel
theorem dX0_keepAll_53 : decode cX0_keepAll 53 = .ok (.getfield 34, 3) := by decide +kernel
theorem dX0_keepAll_56 : decode cX0_keepAll 56 = .ok (.iconst 1, 1) := by decide +kernel
theorem dX0_keepAll_57 : decode cX0_keepAll 57 = .ok (.isub, 1) := by decide +kernel
theorem dX0_keepAll_58 : decode cX0_keepAll 58 = .ok (.putfield 34, 3) := by decide +kernel
theorem dX0_keepAll_61 : decode cX0_keepAll 61 = .ok (.iinc 3 1, 3) := by decide +kernel
theorem dX0_keepAll_64 : decode cX0_keepAll 64 = .ok (.goto (-56), 3) := by decide +kernel
theorem dX0_keepAll_67 : decode cX0_keepAll 67 = .ok (.return_, 1) := by decide +kernel
theorem dX0_make_0 : decode cX0_make 0 = .ok (.aload_n 0, 1) := by decide +kernel
theorem dX0_make_1 : decode cX0_make 1 = .ok (.getfield 30, 3) := by decide +kernel
theorem dX0_make_4 : decode cX0_make 4 = .ok (.sipush 6144, 3) := by decide +kernel
theorem dX0_make_7 : decode cX0_make 7 = .ok (.if_icmp .ge 28, 3) := by decide +kernel
theorem dX0_make_10 : decode cX0_make 10 = .ok (.aload_n 0, 1) := by decide +kernel
theorem dX0_make_11 : decode cX0_make 11 = .ok (.getfield 21, 3) := by decide +kernel
theorem dX0_make_14 : decode cX0_make 14 = .ok (.aload_n 0, 1) := by decide +kernel
theorem dX0_make_15 : decode cX0_make 15 = .ok (.getfield 30, 3) := by decide +kernel
theorem dX0_make_18 : decode cX0_make 18 = .ok (.iaload, 1) := by decide +kernel
theorem dX0_make_19 : decode cX0_make 19 = .ok (.ifCond .eq 16, 3) := by decide +kernel
theorem dX0_make_22 : decode cX0_make 22 = .ok (.aload_n 0, 1) := by decide +kernel
theorem dX0_make_23 : decode cX0_make 23 = .ok (.dup, 1) := by decide +kernel
theorem dX0_make_24 : decode cX0_make 24 = .ok (.getfield 30, 3) := by decide +kernel
theorem dX0_make_27 : decode cX0_make 27 = .ok (.iconst 1, 1) := by decide +kernel
theorem dX0_make_28 : decode cX0_make 28 = .ok (.iadd, 1) := by decide +kernel
theorem dX0_make_29 : decode cX0_make 29 = .ok (.putfield 30, 3) := by decide +kernel
theorem dX0_make_32 : decode cX0_make 32 = .ok (.goto (-32), 3) := by decide +kernel
theorem dX0_make_35 : decode cX0_make 35 = .ok (.aload_n 0, 1) := by decide +kernel
theorem dX0_make_36 : decode cX0_make 36 = .ok (.getfield 30, 3) := by decide +kernel
theorem dX0_make_39 : decode cX0_make 39 = .ok (.sipush 6144, 3) := by decide +kernel
theorem dX0_make_42 : decode cX0_make 42 = .ok (.if_icmp .lt 5, 3) := by decide +kernel
theorem dX0_make_45 : decode cX0_make 45 = .ok (.iconst 0, 1) := by decide +kernel
theorem dX0_make_46 : decode cX0_make 46 = .ok (.ireturn, 1) := by decide +kernel
theorem dX0_make_47 : decode cX0_make 47 = .ok (.aload_n 0, 1) := by decide +kernel
theorem dX0_make_48 : decode cX0_make 48 = .ok (.getfield 30, 3) := by decide +kernel
theorem dX0_make_51 : decode cX0_make 51 = .ok (.istore 4, 2) := by decide +kernel
theorem dX0_make_53 : decode cX0_make 53 = .ok (.aload_n 0, 1) := by decide +kernel
theorem dX0_make_54 : decode cX0_make 54 = .ok (.getfield 11, 3) := by decide +kernel
theorem dX0_make_57 : decode cX0_make 57 = .ok (.iload 4, 2) := by decide +kernel
theorem dX0_make_59 : decode cX0_make 59 = .ok (.iload_n 1, 1) := by decide +kernel
theorem dX0_make_60 : decode cX0_make 60 = .ok (.iastore, 1) := by decide +kernel
theorem dX0_make_61 : decode cX0_make 61 = .ok (.aload_n 0, 1) := by decide +kernel
theorem dX0_make_62 : decode cX0_make 62 = .ok (.getfield 15, 3) := by decide +kernel
theorem dX0_make_65 : decode cX0_make 65 = .ok (.iload 4, 2) := by decide +kernel
theorem dX0_make_67 : decode cX0_make 67 = .ok (.iload_n 2, 1) := by decide +kernel
theorem dX0_make_68 : decode cX0_make 68 = .ok (.iastore, 1) := by decide +kernel
theorem dX0_make_69 : decode cX0_make 69 = .ok (.aload_n 0, 1) := by decide +kernel
theorem dX0_make_70 : decode cX0_make 70 = .ok (.getfield 18, 3) := by decide +kernel
theorem dX0_make_73 : decode cX0_make 73 = .ok (.iload 4, 2) := by decide +kernel
theorem dX0_make_75 : decode cX0_make 75 = .ok (.iload_n 3, 1) := by decide +kernel
theorem dX0_make_76 : decode cX0_make 76 = .ok (.iastore, 1) := by decide +kernel
theorem dX0_make_77 : decode cX0_make 77 = .ok (.aload_n 0, 1) := by decide +kernel
theorem dX0_make_78 : decode cX0_make 78 = .ok (.dup, 1) := by decide +kernel
theorem dX0_make_79 : decode cX0_make 79 = .ok (.getfield 30, 3) := by decide +kernel
theorem dX0_make_82 : decode cX0_make 82 = .ok (.iconst 1, 1) := by decide +kernel
theorem dX0_make_83 : decode cX0_make 83 = .ok (.iadd, 1) := by decide +kernel
theorem dX0_make_84 : decode cX0_make 84 = .ok (.putfield 30, 3) := by decide +kernel
theorem dX0_make_87 : decode cX0_make 87 = .ok (.aload_n 0, 1) := by decide +kernel
theorem dX0_make_88 : decode cX0_make 88 = .ok (.dup, 1) := by decide +kernel
theorem dX0_make_89 : decode cX0_make 89 = .ok (.getfield 34, 3) := by decide +kernel
theorem dX0_make_92 : decode cX0_make 92 = .ok (.iconst 1, 1) := by decide +kernel
theorem dX0_make_93 : decode cX0_make 93 = .ok (.isub, 1) := by decide +kernel
theorem dX0_make_94 : decode cX0_make 94 = .ok (.putfield 34, 3) := by decide +kernel
theorem dX0_make_97 : decode cX0_make 97 = .ok (.aload_n 0, 1) := by decide +kernel
theorem dX0_make_98 : decode cX0_make 98 = .ok (.dup, 1) := by decide +kernel
theorem dX0_make_99 : decode cX0_make 99 = .ok (.getfield 37, 3) := by decide +kernel
theorem dX0_make_102 : decode cX0_make 102 = .ok (.iconst 1, 1) := by decide +kernel
theorem dX0_make_103 : decode cX0_make 103 = .ok (.iadd, 1) := by decide +kernel
theorem dX0_make_104 : decode cX0_make 104 = .ok (.putfield 37, 3) := by decide +kernel
theorem dX0_make_107 : decode cX0_make 107 = .ok (.iload 4, 2) := by decide +kernel
theorem dX0_make_109 : decode cX0_make 109 = .ok (.ireturn, 1) := by decide +kernel
theorem dX0_isNode_0 : decode cX0_isNode 0 = .ok (.iload_n 0, 1) := by decide +kernel
theorem dX0_isNode_1 : decode cX0_isNode 1 = .ok (.ifCond .le 14, 3) := by decide +kernel
theorem dX0_isNode_4 : decode cX0_isNode 4 = .ok (.iload_n 0, 1) := by decide +kernel
theorem dX0_isNode_5 : decode cX0_isNode 5 = .ok (.sipush 6144, 3) := by decide +kernel
theorem dX0_isNode_8 : decode cX0_isNode 8 = .ok (.if_icmp .ge 7, 3) := by decide +kernel
theorem dX0_isNode_11 : decode cX0_isNode 11 = .ok (.iconst 1, 1) := by decide +kernel
theorem dX0_isNode_12 : decode cX0_isNode 12 = .ok (.goto 4, 3) := by decide +kernel
theorem dX0_isNode_15 : decode cX0_isNode 15 = .ok (.iconst 0, 1) := by decide +kernel
theorem dX0_isNode_16 : decode cX0_isNode 16 = .ok (.ireturn, 1) := by decide +kernel
theorem dX0_numberOf_0 : decode cX0_numberOf 0 = .ok (.iload_n 1, 1) := by decide +kernel
theorem dX0_numberOf_1 : decode cX0_numberOf 1 = .ok (.invokestatic 53, 3) := by decide +kernel
theorem dX0_numberOf_4 : decode cX0_numberOf 4 = .ok (.ifCond .eq 12, 3) := by decide +kernel
theorem dX0_numberOf_7 : decode cX0_numberOf 7 = .ok (.aload_n 0, 1) := by decide +kernel
theorem dX0_numberOf_8 : decode cX0_numberOf 8 = .ok (.getfield 11, 3) := by decide +kernel
theorem dX0_numberOf_11 : decode cX0_numberOf 11 = .ok (.iload_n 1, 1) := by decide +kernel
theorem dX0_numberOf_12 : decode cX0_numberOf 12 = .ok (.iaload, 1) := by decide +kernel
theorem dX0_numberOf_13 : decode cX0_numberOf 13 = .ok (.goto 4, 3) := by decide +kernel
theorem dX0_numberOf_16 : decode cX0_numberOf 16 = .ok (.iconst 0, 1) := by decide +kernel
theorem dX0_numberOf_17 : decode cX0_numberOf 17 = .ok (.ireturn, 1) := by decide +kernel
theorem dX0_leftOf_0 : decode cX0_leftOf 0 = .ok (.iload_n 1, 1) := by decide +kernel
theorem dX0_leftOf_1 : decode cX0_leftOf 1 = .ok (.invokestatic 53, 3) := by decide +kernel
theorem dX0_leftOf_4 : decode cX0_leftOf 4 = .ok (.ifCond .eq 12, 3) := by decide +kernel
theorem dX0_leftOf_7 : decode cX0_leftOf 7 = .ok (.aload_n 0, 1) := by decide +kernel
theorem dX0_leftOf_8 : decode cX0_leftOf 8 = .ok (.getfield 15, 3) := by decide +kernel
theorem dX0_leftOf_11 : decode cX0_leftOf 11 = .ok (.iload_n 1, 1) := by decide +kernel
theorem dX0_leftOf_12 : decode cX0_leftOf 12 = .ok (.iaload, 1) := by decide +kernel
theorem dX0_leftOf_13 : decode cX0_leftOf 13 = .ok (.goto 4, 3) := by decide +kernel
theorem dX0_leftOf_16 : decode cX0_leftOf 16 = .ok (.iconst 0, 1) := by decide +kernel
theorem dX0_leftOf_17 : decode cX0_leftOf 17 = .ok (.ireturn, 1) := by decide +kernel
theorem dX0_rightOf_0 : decode cX0_rightOf 0 = .ok (.iload_n 1, 1) := by decide +kernel
theorem dX0_rightOf_1 : decode cX0_rightOf 1 = .ok (.invokestatic 53, 3) := by decide +kernel
theorem dX0_rightOf_4 : decode cX0_rightOf 4 = .ok (.ifCond .eq 12, 3) := by decide +kernel
theorem dX0_rightOf_7 : decode cX0_rightOf 7 = .ok (.aload_n 0, 1) := by decide +kernel
theorem dX0_rightOf_8 : decode cX0_rightOf 8 = .ok (.getfield 18, 3) := by decide +kernel
theorem dX0_rightOf_11 : decode cX0_rightOf 11 = .ok (.iload_n 1, 1) := by decide +kernel
theorem dX0_rightOf_12 : decode cX0_rightOf 12 = .ok (.iaload, 1) := by decide +kernel
theorem dX0_rightOf_13 : decode cX0_rightOf 13 = .ok (.goto 4, 3) := by decide +kernel
theorem dX0_rightOf_16 : decode cX0_rightOf 16 = .ok (.iconst 0, 1) := by decide +kernel
theorem dX0_rightOf_17 : decode cX0_rightOf 17 = .ok (.ireturn, 1) := by decide +kernel
theorem dX0_numberAt_0 : decode cX0_numberAt 0 = .ok (.iload_n 1, 1) := by decide +kernel
theorem dX0_numberAt_1 : decode cX0_numberAt 1 = .ok (.istore_n 3, 1) := by decide +kernel
theorem dX0_numberAt_2 : decode cX0_numberAt 2 = .ok (.iload_n 2, 1) := by decide +kernel
theorem dX0_numberAt_3 : decode cX0_numberAt 3 = .ok (.istore 4, 2) := by decide +kernel
theorem dX0_numberAt_5 : decode cX0_numberAt 5 = .ok (.iload 4, 2) := by decide +kernel
theorem dX0_numberAt_7 : decode cX0_numberAt 7 = .ok (.ifCond .le 36, 3) := by decide +kernel
theorem dX0_numberAt_10 : decode cX0_numberAt 10 = .ok (.iload 4, 2) := by decide +kernel
theorem dX0_numberAt_12 : decode cX0_numberAt 12 = .ok (.iconst 2, 1) := by decide +kernel
theorem dX0_numberAt_13 : decode cX0_numberAt 13 = .ok (.irem, 1) := by decide +kernel
theorem dX0_numberAt_14 : decode cX0_numberAt 14 = .ok (.iconst 1, 1) := by decide +kernel
theorem dX0_numberAt_15 : decode cX0_numberAt 15 = .ok (.if_icmp .ne 11, 3) := by decide +kernel
theorem dX0_numberAt_18 : decode cX0_numberAt 18 = .ok (.aload_n 0, 1) := by decide +kernel
theorem dX0_numberAt_19 : decode cX0_numberAt 19 = .ok (.iload_n 3, 1) := by decide +kernel
theorem dX0_numberAt_20 : decode cX0_numberAt 20 = .ok (.invokevirtual 57, 3) := by decide +kernel
theorem dX0_numberAt_23 : decode cX0_numberAt 23 = .ok (.goto 8, 3) := by decide +kernel
theorem dX0_numberAt_26 : decode cX0_numberAt 26 = .ok (.aload_n 0, 1) := by decide +kernel
theorem dX0_numberAt_27 : decode cX0_numberAt 27 = .ok (.iload_n 3, 1) := by decide +kernel
theorem dX0_numberAt_28 : decode cX0_numberAt 28 = .ok (.invokevirtual 61, 3) := by decide +kernel
theorem dX0_numberAt_31 : decode cX0_numberAt 31 = .ok (.istore_n 3, 1) := by decide +kernel
theorem dX0_numberAt_32 : decode cX0_numberAt 32 = .ok (.iload 4, 2) := by decide +kernel
theorem dX0_numberAt_34 : decode cX0_numberAt 34 = .ok (.iconst 1, 1) := by decide +kernel
theorem dX0_numberAt_35 : decode cX0_numberAt 35 = .ok (.isub, 1) := by decide +kernel
theorem dX0_numberAt_36 : decode cX0_numberAt 36 = .ok (.iconst 2, 1) := by decide +kernel
theorem dX0_numberAt_37 : decode cX0_numberAt 37 = .ok (.idiv, 1) := by decide +kernel
theorem dX0_numberAt_38 : decode cX0_numberAt 38 = .ok (.istore 4, 2) := by decide +kernel
theorem dX0_numberAt_40 : decode cX0_numberAt 40 = .ok (.goto (-35), 3) := by decide +kernel
theorem dX0_numberAt_43 : decode cX0_numberAt 43 = .ok (.aload_n 0, 1) := by decide +kernel
theorem dX0_numberAt_44 : decode cX0_numberAt 44 = .ok (.iload_n 3, 1) := by decide +kernel
theorem dX0_numberAt_45 : decode cX0_numberAt 45 = .ok (.invokevirtual 64, 3) := by decide +kernel
theorem dX0_numberAt_48 : decode cX0_numberAt 48 = .ok (.ireturn, 1) := by decide +kernel
theorem dX0_spread_0 : decode cX0_spread 0 = .ok (.aload_n 0, 1) := by decide +kernel
theorem dX0_spread_1 : decode cX0_spread 1 = .ok (.getfield 27, 3) := by decide +kernel
theorem dX0_spread_4 : decode cX0_spread 4 = .ok (.iconst 0, 1) := by decide +kernel
theorem dX0_spread_5 : decode cX0_spread 5 = .ok (.iload_n 1, 1) := by decide +kernel
theorem dX0_spread_6 : decode cX0_spread 6 = .ok (.iastore, 1) := by decide +kernel
theorem dX0_spread_7 : decode cX0_spread 7 = .ok (.iconst 0, 1) := by decide +kernel
theorem dX0_spread_8 : decode cX0_spread 8 = .ok (.istore_n 3, 1) := by decide +kernel
theorem dX0_spread_9 : decode cX0_spread 9 = .ok (.iload_n 3, 1) := by decide +kernel
theorem dX0_spread_10 : decode cX0_spread 10 = .ok (.iload_n 2, 1) := by decide +kernel
theorem dX0_spread_11 : decode cX0_spread 11 = .ok (.if_icmp .ge 73, 3) := by decide +kernel
theorem dX0_spread_14 : decode cX0_spread 14 = .ok (.iload_n 3, 1) := by decide +kernel
theorem dX0_spread_15 : decode cX0_spread 15 = .ok (.invokestatic 67, 3) := by decide +kernel
theorem dX0_spread_18 : decode cX0_spread 18 = .ok (.istore 4, 2) := by decide +kernel
theorem dX0_spread_20 : decode cX0_spread 20 = .ok (.iload_n 3, 1) := by decide +kernel
theorem dX0_spread_21 : decode cX0_spread 21 = .ok (.iload 4, 2) := by decide +kernel
theorem dX0_spread_23 : decode cX0_spread 23 = .ok (.iadd, 1) := by decide +kernel
theorem dX0_spread_24 : decode cX0_spread 24 = .ok (.iload_n 2, 1) := by decide +kernel
theorem dX0_spread_25 : decode cX0_spread 25 = .ok (.if_icmp .ge 22, 3) := by decide +kernel
theorem dX0_spread_28 : decode cX0_spread 28 = .ok (.aload_n 0, 1) := by decide +kernel
theorem dX0_spread_29 : decode cX0_spread 29 = .ok (.getfield 27, 3) := by decide +kernel
theorem dX0_spread_32 : decode cX0_spread 32 = .ok (.iload_n 3, 1) := by decide +kernel
theorem dX0_spread_33 : decode cX0_spread 33 = .ok (.iload 4, 2) := by decide +kernel
theorem dX0_spread_35 : decode cX0_spread 35 = .ok (.iadd, 1) := by decide +kernel
theorem dX0_spread_36 : decode cX0_spread 36 = .ok (.aload_n 0, 1) := by decide +kernel
theorem dX0_spread_37 : decode cX0_spread 37 = .ok (.aload_n 0, 1) := by decide +kernel
theorem dX0_spread_38 : decode cX0_spread 38 = .ok (.getfield 27, 3) := by decide +kernel
theorem dX0_spread_41 : decode cX0_spread 41 = .ok (.iload_n 3, 1) := by decide +kernel
theorem dX0_spread_42 : decode cX0_spread 42 = .ok (.iaload, 1) := by decide +kernel
theorem dX0_spread_43 : decode cX0_spread 43 = .ok (.invokevirtual 57, 3) := by decide +kernel
theorem dX0_spread_46 : decode cX0_spread 46 = .ok (.iastore, 1) := by decide +kernel
theorem dX0_spread_47 : decode cX0_spread 47 = .ok (.iload_n 3, 1) := by decide +kernel
theorem dX0_spread_48 : decode cX0_spread 48 = .ok (.iconst 2, 1) := by decide +kernel
theorem dX0_spread_49 : decode cX0_spread 49 = .ok (.iload 4, 2) := by decide +kernel
theorem dX0_spread_51 : decode cX0_spread 51 = .ok (.imul, 1) := by decide +kernel
theorem dX0_spread_52 : decode cX0_spread 52 = .ok (.iadd, 1) := by decide +kernel
theorem dX0_spread_53 : decode cX0_spread 53 = .ok (.iload_n 2, 1) := by decide +kernel
theorem dX0_spread_54 : decode cX0_spread 54 = .ok (.if_icmp .ge 24, 3) := by decide +kernel
theorem dX0_spread_57 : decode cX0_spread 57 = .ok (.aload_n 0, 1) := by decide +kernel
theorem dX0_spread_58 : decode cX0_spread 58 = .ok (.getfield 27, 3) := by decide +kernel
theorem dX0_spread_61 : decode cX0_spread 61 = .ok (.iload_n 3, 1) := by decide +kernel
theorem dX0_spread_62 : decode cX0_spread 62 = .ok (.iconst 2, 1) := by decide +kernel
theorem dX0_spread_63 : decode cX0_spread 63 = .ok (.iload 4, 2) := by decide +kernel
theorem dX0_spread_65 : decode cX0_spread 65 = .ok (.imul, 1) := by decide +kernel
theorem dX0_spread_66 : decode cX0_spread 66 = .ok (.iadd, 1) := by decide +kernel
theorem dX0_spread_67 : decode cX0_spread 67 = .ok (.aload_n 0, 1) := by decide +kernel
theorem dX0_spread_68 : decode cX0_spread 68 = .ok (.aload_n 0, 1) := by decide +kernel
theorem dX0_spread_69 : decode cX0_spread 69 = .ok (.getfield 27, 3) := by decide +kernel
theorem dX0_spread_72 : decode cX0_spread 72 = .ok (.iload_n 3, 1) := by decide +kernel
theorem dX0_spread_73 : decode cX0_spread 73 = .ok (.iaload, 1) := by decide +kernel
theorem dX0_spread_74 : decode cX0_spread 74 = .ok (.invokevirtual 61, 3) := by decide +kernel
theorem dX0_spread_77 : decode cX0_spread 77 = .ok (.iastore, 1) := by decide +kernel
theorem dX0_spread_78 : decode cX0_spread 78 = .ok (.iinc 3 1, 3) := by decide +kernel
theorem dX0_spread_81 : decode cX0_spread 81 = .ok (.goto (-72), 3) := by decide +kernel
theorem dX0_spread_84 : decode cX0_spread 84 = .ok (.return_, 1) := by decide +kernel
theorem dX0_read_0 : decode cX0_read 0 = .ok (.aload_n 0, 1) := by decide +kernel
theorem dX0_read_1 : decode cX0_read 1 = .ok (.iload_n 1, 1) := by decide +kernel
theorem dX0_read_2 : decode cX0_read 2 = .ok (.iload_n 2, 1) := by decide +kernel
theorem dX0_read_3 : decode cX0_read 3 = .ok (.invokevirtual 49, 3) := by decide +kernel
theorem dX0_read_6 : decode cX0_read 6 = .ok (.iconst 0, 1) := by decide +kernel
theorem dX0_read_7 : decode cX0_read 7 = .ok (.istore 4, 2) := by decide +kernel
theorem dX0_read_9 : decode cX0_read 9 = .ok (.iload 4, 2) := by decide +kernel
theorem dX0_read_11 : decode cX0_read 11 = .ok (.iload_n 2, 1) := by decide +kernel
theorem dX0_read_12 : decode cX0_read 12 = .ok (.if_icmp .ge 24, 3) := by decide +kernel
theorem dX0_read_15 : decode cX0_read 15 = .ok (.aload_n 3, 1) := by decide +kernel
theorem dX0_read_16 : decode cX0_read 16 = .ok (.iload 4, 2) := by decide +kernel
theorem dX0_read_18 : decode cX0_read 18 = .ok (.aload_n 0, 1) := by decide +kernel
theorem dX0_read_19 : decode cX0_read 19 = .ok (.aload_n 0, 1) := by decide +kernel
theorem dX0_read_20 : decode cX0_read 20 = .ok (.getfield 27, 3) := by decide +kernel
theorem dX0_read_23 : decode cX0_read 23 = .ok (.iload 4, 2) := by decide +kernel
theorem dX0_read_25 : decode cX0_read 25 = .ok (.iaload, 1) := by decide +kernel
theorem dX0_read_26 : decode cX0_read 26 = .ok (.invokevirtual 64, 3) := by decide +kernel
theorem dX0_read_29 : decode cX0_read 29 = .ok (.iastore, 1) := by decide +kernel
theorem dX0_read_30 : decode cX0_read 30 = .ok (.iinc 4 1, 3) := by decide +kernel
theorem dX0_read_33 : decode cX0_read 33 = .ok (.goto (-24), 3) := by decide +kernel
theorem dX0_read_36 : decode cX0_read 36 = .ok (.return_, 1) := by decide +kernel
theorem dX0_below_0 : decode cX0_below 0 = .ok (.iload_n 1, 1) := by decide +kernel
theorem dX0_below_1 : decode cX0_below 1 = .ok (.iload_n 2, 1) := by decide +kernel
theorem dX0_below_2 : decode cX0_below 2 = .ok (.iload_n 1, 1) := by decide +kernel
theorem dX0_below_3 : decode cX0_below 3 = .ok (.invokestatic 67, 3) := by decide +kernel
theorem dX0_below_6 : decode cX0_below 6 = .ok (.imul, 1) := by decide +kernel
theorem dX0_below_7 : decode cX0_below 7 = .ok (.iadd, 1) := by decide +kernel
theorem dX0_below_8 : decode cX0_below 8 = .ok (.istore 4, 2) := by decide +kernel
theorem dX0_below_10 : decode cX0_below 10 = .ok (.iload 4, 2) := by decide +kernel
theorem dX0_below_12 : decode cX0_below 12 = .ok (.iload_n 3, 1) := by decide +kernel
theorem dX0_below_13 : decode cX0_below 13 = .ok (.if_icmp .ge 13, 3) := by decide +kernel
theorem dX0_below_16 : decode cX0_below 16 = .ok (.aload_n 0, 1) := by decide +kernel
theorem dX0_below_17 : decode cX0_below 17 = .ok (.getfield 27, 3) := by decide +kernel
theorem dX0_below_20 : decode cX0_below 20 = .ok (.iload 4, 2) := by decide +kernel
theorem dX0_below_22 : decode cX0_below 22 = .ok (.iaload, 1) := by decide +kernel
theorem dX0_below_23 : decode cX0_below 23 = .ok (.goto 4, 3) := by decide +kernel
theorem dX0_below_26 : decode cX0_below 26 = .ok (.iconst 0, 1) := by decide +kernel
theorem dX0_below_27 : decode cX0_below 27 = .ok (.ireturn, 1) := by decide +kernel
theorem dX0_rootOf_0 : decode cX0_rootOf 0 = .ok (.iload_n 1, 1) := by decide +kernel
theorem dX0_rootOf_1 : decode cX0_rootOf 1 = .ok (.ifCond .le 12, 3) := by decide +kernel
theorem dX0_rootOf_4 : decode cX0_rootOf 4 = .ok (.aload_n 0, 1) := by decide +kernel
theorem dX0_rootOf_5 : decode cX0_rootOf 5 = .ok (.getfield 27, 3) := by decide +kernel
theorem dX0_rootOf_8 : decode cX0_rootOf 8 = .ok (.iconst 0, 1) := by decide +kernel
theorem dX0_rootOf_9 : decode cX0_rootOf 9 = .ok (.iaload, 1) := by decide +kernel
theorem dX0_rootOf_10 : decode cX0_rootOf 10 = .ok (.goto 4, 3) := by decide +kernel
theorem dX0_rootOf_13 : decode cX0_rootOf 13 = .ok (.iconst 0, 1) := by decide +kernel
theorem dX0_rootOf_14 : decode cX0_rootOf 14 = .ok (.ireturn, 1) := by decide +kernel
theorem dX0_built_0 : decode cX0_built 0 = .ok (.iload_n 2, 1) := by decide +kernel
theorem dX0_built_1 : decode cX0_built 1 = .ok (.iconst 1, 1) := by decide +kernel
theorem dX0_built_2 : decode cX0_built 2 = .ok (.isub, 1) := by decide +kernel
theorem dX0_built_3 : decode cX0_built 3 = .ok (.istore_n 3, 1) := by decide +kernel
theorem dX0_built_4 : decode cX0_built 4 = .ok (.iload_n 3, 1) := by decide +kernel
theorem dX0_built_5 : decode cX0_built 5 = .ok (.ifCond .lt 36, 3) := by decide +kernel
theorem dX0_built_8 : decode cX0_built 8 = .ok (.aload_n 0, 1) := by decide +kernel
theorem dX0_built_9 : decode cX0_built 9 = .ok (.getfield 27, 3) := by decide +kernel
theorem dX0_built_12 : decode cX0_built 12 = .ok (.iload_n 3, 1) := by decide +kernel
theorem dX0_built_13 : decode cX0_built 13 = .ok (.aload_n 0, 1) := by decide +kernel
theorem dX0_built_14 : decode cX0_built 14 = .ok (.aload_n 1, 1) := by decide +kernel
theorem dX0_built_15 : decode cX0_built 15 = .ok (.iload_n 3, 1) := by decide +kernel
theorem dX0_built_16 : decode cX0_built 16 = .ok (.iaload, 1) := by decide +kernel
theorem dX0_built_17 : decode cX0_built 17 = .ok (.aload_n 0, 1) := by decide +kernel
theorem dX0_built_18 : decode cX0_built 18 = .ok (.iload_n 3, 1) := by decide +kernel
theorem dX0_built_19 : decode cX0_built 19 = .ok (.iconst 1, 1) := by decide +kernel
theorem dX0_built_20 : decode cX0_built 20 = .ok (.iload_n 2, 1) := by decide +kernel
theorem dX0_built_21 : decode cX0_built 21 = .ok (.invokevirtual 72, 3) := by decide +kernel
theorem dX0_built_24 : decode cX0_built 24 = .ok (.aload_n 0, 1) := by decide +kernel
theorem dX0_built_25 : decode cX0_built 25 = .ok (.iload_n 3, 1) := by decide +kernel
theorem dX0_built_26 : decode cX0_built 26 = .ok (.iconst 2, 1) := by decide +kernel
theorem dX0_built_27 : decode cX0_built 27 = .ok (.iload_n 2, 1) := by decide +kernel
theorem dX0_built_28 : decode cX0_built 28 = .ok (.invokevirtual 72, 3) := by decide +kernel
theorem dX0_built_31 : decode cX0_built 31 = .ok (.invokevirtual 76, 3) := by decide +kernel
theorem dX0_built_34 : decode cX0_built 34 = .ok (.iastore, 1) := by decide +kernel
theorem dX0_built_35 : decode cX0_built 35 = .ok (.iinc 3 (-1), 3) := by decide +kernel
theorem dX0_built_38 : decode cX0_built 38 = .ok (.goto (-34), 3) := by decide +kernel
theorem dX0_built_41 : decode cX0_built 41 = .ok (.aload_n 0, 1) := by decide +kernel
theorem dX0_built_42 : decode cX0_built 42 = .ok (.iload_n 2, 1) := by decide +kernel
theorem dX0_built_43 : decode cX0_built 43 = .ok (.invokevirtual 79, 3) := by decide +kernel
theorem dX0_built_46 : decode cX0_built 46 = .ok (.ireturn, 1) := by decide +kernel
theorem dX0_changed_0 : decode cX0_changed 0 = .ok (.aload_n 0, 1) := by decide +kernel
theorem dX0_changed_1 : decode cX0_changed 1 = .ok (.iload_n 1, 1) := by decide +kernel
theorem dX0_changed_2 : decode cX0_changed 2 = .ok (.iload_n 2, 1) := by decide +kernel
theorem dX0_changed_3 : decode cX0_changed 3 = .ok (.invokevirtual 49, 3) := by decide +kernel
theorem dX0_changed_6 : decode cX0_changed 6 = .ok (.iload_n 2, 1) := by decide +kernel
theorem dX0_changed_7 : decode cX0_changed 7 = .ok (.iconst 1, 1) := by decide +kernel
theorem dX0_changed_8 : decode cX0_changed 8 = .ok (.isub, 1) := by decide +kernel
theorem dX0_changed_9 : decode cX0_changed 9 = .ok (.istore 5, 2) := by decide +kernel
theorem dX0_changed_11 : decode cX0_changed 11 = .ok (.iload 5, 2) := by decide +kernel
theorem dX0_changed_13 : decode cX0_changed 13 = .ok (.ifCond .lt 50, 3) := by decide +kernel
theorem dX0_changed_16 : decode cX0_changed 16 = .ok (.aload_n 3, 1) := by decide +kernel
theorem dX0_changed_17 : decode cX0_changed 17 = .ok (.iload 5, 2) := by decide +kernel
theorem dX0_changed_19 : decode cX0_changed 19 = .ok (.invokevirtual 82, 3) := by decide +kernel
theorem dX0_changed_22 : decode cX0_changed 22 = .ok (.ifCond .eq 35, 3) := by decide +kernel
theorem dX0_changed_25 : decode cX0_changed 25 = .ok (.aload_n 0, 1) := by decide +kernel
theorem dX0_changed_26 : decode cX0_changed 26 = .ok (.getfield 27, 3) := by decide +kernel
theorem dX0_changed_29 : decode cX0_changed 29 = .ok (.iload 5, 2) := by decide +kernel
theorem dX0_changed_31 : decode cX0_changed 31 = .ok (.aload_n 0, 1) := by decide +kernel
theorem dX0_changed_32 : decode cX0_changed 32 = .ok (.aload 4, 2) := by decide +kernel
theorem dX0_changed_34 : decode cX0_changed 34 = .ok (.iload 5, 2) := by decide +kernel
theorem dX0_changed_36 : decode cX0_changed 36 = .ok (.iaload, 1) := by decide +kernel
theorem dX0_changed_37 : decode cX0_changed 37 = .ok (.aload_n 0, 1) := by decide +kernel
theorem dX0_changed_38 : decode cX0_changed 38 = .ok (.iload 5, 2) := by decide +kernel
theorem dX0_changed_40 : decode cX0_changed 40 = .ok (.iconst 1, 1) := by decide +kernel
theorem dX0_changed_41 : decode cX0_changed 41 = .ok (.iload_n 2, 1) := by decide +kernel
theorem dX0_changed_42 : decode cX0_changed 42 = .ok (.invokevirtual 72, 3) := by decide +kernel
theorem dX0_changed_45 : decode cX0_changed 45 = .ok (.aload_n 0, 1) := by decide +kernel
theorem dX0_changed_46 : decode cX0_changed 46 = .ok (.iload 5, 2) := by decide +kernel
theorem dX0_changed_48 : decode cX0_changed 48 = .ok (.iconst 2, 1) := by decide +kernel
theorem dX0_changed_49 : decode cX0_changed 49 = .ok (.iload_n 2, 1) := by decide +kernel
theorem dX0_changed_50 : decode cX0_changed 50 = .ok (.invokevirtual 72, 3) := by decide +kernel
theorem dX0_changed_53 : decode cX0_changed 53 = .ok (.invokevirtual 76, 3) := by decide +kernel
theorem dX0_changed_56 : decode cX0_changed 56 = .ok (.iastore, 1) := by decide +kernel
theorem dX0_changed_57 : decode cX0_changed 57 = .ok (.iinc 5 (-1), 3) := by decide +kernel
theorem dX0_changed_60 : decode cX0_changed 60 = .ok (.goto (-49), 3) := by decide +kernel
theorem dX0_changed_63 : decode cX0_changed 63 = .ok (.aload_n 0, 1) := by decide +kernel
theorem dX0_changed_64 : decode cX0_changed 64 = .ok (.iload_n 2, 1) := by decide +kernel
theorem dX0_changed_65 : decode cX0_changed 65 = .ok (.invokevirtual 79, 3) := by decide +kernel
theorem dX0_changed_68 : decode cX0_changed 68 = .ok (.ireturn, 1) := by decide +kernel
theorem dX0_mirrored_0 : decode cX0_mirrored 0 = .ok (.aload_n 0, 1) := by decide +kernel
theorem dX0_mirrored_1 : decode cX0_mirrored 1 = .ok (.iload_n 1, 1) := by decide +kernel
theorem dX0_mirrored_2 : decode cX0_mirrored 2 = .ok (.iload_n 2, 1) := by decide +kernel
theorem dX0_mirrored_3 : decode cX0_mirrored 3 = .ok (.invokevirtual 49, 3) := by decide +kernel
theorem dX0_mirrored_6 : decode cX0_mirrored 6 = .ok (.iload_n 2, 1) := by decide +kernel
theorem dX0_mirrored_7 : decode cX0_mirrored 7 = .ok (.iconst 1, 1) := by decide +kernel
theorem dX0_mirrored_8 : decode cX0_mirrored 8 = .ok (.isub, 1) := by decide +kernel
theorem dX0_mirrored_9 : decode cX0_mirrored 9 = .ok (.istore_n 3, 1) := by decide +kernel
theorem dX0_mirrored_10 : decode cX0_mirrored 10 = .ok (.iload_n 3, 1) := by decide +kernel
theorem dX0_mirrored_11 : decode cX0_mirrored 11 = .ok (.ifCond .lt 43, 3) := by decide +kernel
theorem dX0_mirrored_14 : decode cX0_mirrored 14 = .ok (.aload_n 0, 1) := by decide +kernel
theorem dX0_mirrored_15 : decode cX0_mirrored 15 = .ok (.getfield 27, 3) := by decide +kernel
theorem dX0_mirrored_18 : decode cX0_mirrored 18 = .ok (.iload_n 3, 1) := by decide +kernel
theorem dX0_mirrored_19 : decode cX0_mirrored 19 = .ok (.aload_n 0, 1) := by decide +kernel
theorem dX0_mirrored_20 : decode cX0_mirrored 20 = .ok (.aload_n 0, 1) := by decide +kernel
theorem dX0_mirrored_21 : decode cX0_mirrored 21 = .ok (.aload_n 0, 1) := by decide +kernel
theorem dX0_mirrored_22 : decode cX0_mirrored 22 = .ok (.getfield 27, 3) := by decide +kernel
theorem dX0_mirrored_25 : decode cX0_mirrored 25 = .ok (.iload_n 3, 1) := by decide +kernel
theorem dX0_mirrored_26 : decode cX0_mirrored 26 = .ok (.iaload, 1) := by decide +kernel
theorem dX0_mirrored_27 : decode cX0_mirrored 27 = .ok (.invokevirtual 64, 3) := by decide +kernel
theorem dX0_mirrored_30 : decode cX0_mirrored 30 = .ok (.aload_n 0, 1) := by decide +kernel
theorem dX0_mirrored_31 : decode cX0_mirrored 31 = .ok (.iload_n 3, 1) := by decide +kernel
theorem dX0_mirrored_32 : decode cX0_mirrored 32 = .ok (.iconst 2, 1) := by decide +kernel
theorem dX0_mirrored_33 : decode cX0_mirrored 33 = .ok (.iload_n 2, 1) := by decide +kernel
theorem dX0_mirrored_34 : decode cX0_mirrored 34 = .ok (.invokevirtual 72, 3) := by decide +kernel
theorem dX0_mirrored_37 : decode cX0_mirrored 37 = .ok (.aload_n 0, 1) := by decide +kernel
theorem dX0_mirrored_38 : decode cX0_mirrored 38 = .ok (.iload_n 3, 1) := by decide +kernel
theorem dX0_mirrored_39 : decode cX0_mirrored 39 = .ok (.iconst 1, 1) := by decide +kernel
theorem dX0_mirrored_40 : decode cX0_mirrored 40 = .ok (.iload_n 2, 1) := by decide +kernel
theorem dX0_mirrored_41 : decode cX0_mirrored 41 = .ok (.invokevirtual 72, 3) := by decide +kernel
theorem dX0_mirrored_44 : decode cX0_mirrored 44 = .ok (.invokevirtual 76, 3) := by decide +kernel
theorem dX0_mirrored_47 : decode cX0_mirrored 47 = .ok (.iastore, 1) := by decide +kernel
theorem dX0_mirrored_48 : decode cX0_mirrored 48 = .ok (.iinc 3 (-1), 3) := by decide +kernel
theorem dX0_mirrored_51 : decode cX0_mirrored 51 = .ok (.goto (-41), 3) := by decide +kernel
theorem dX0_mirrored_54 : decode cX0_mirrored 54 = .ok (.aload_n 0, 1) := by decide +kernel
theorem dX0_mirrored_55 : decode cX0_mirrored 55 = .ok (.iload_n 2, 1) := by decide +kernel
theorem dX0_mirrored_56 : decode cX0_mirrored 56 = .ok (.invokevirtual 79, 3) := by decide +kernel
theorem dX0_mirrored_59 : decode cX0_mirrored 59 = .ok (.ireturn, 1) := by decide +kernel
theorem dX0_alike_0 : decode cX0_alike 0 = .ok (.iconst 0, 1) := by decide +kernel
theorem dX0_alike_1 : decode cX0_alike 1 = .ok (.istore_n 3, 1) := by decide +kernel
theorem dX0_alike_2 : decode cX0_alike 2 = .ok (.aload_n 0, 1) := by decide +kernel
theorem dX0_alike_3 : decode cX0_alike 3 = .ok (.iload_n 2, 1) := by decide +kernel
theorem dX0_alike_4 : decode cX0_alike 4 = .ok (.iconst 0, 1) := by decide +kernel
theorem dX0_alike_5 : decode cX0_alike 5 = .ok (.iconst 0, 1) := by decide +kernel
theorem dX0_alike_6 : decode cX0_alike 6 = .ok (.invokevirtual 76, 3) := by decide +kernel
theorem dX0_alike_9 : decode cX0_alike 9 = .ok (.istore 4, 2) := by decide +kernel
theorem dX0_alike_11 : decode cX0_alike 11 = .ok (.iload_n 1, 1) := by decide +kernel
theorem dX0_alike_12 : decode cX0_alike 12 = .ok (.invokestatic 87, 3) := by decide +kernel
theorem dX0_alike_15 : decode cX0_alike 15 = .ok (.iconst 1, 1) := by decide +kernel
theorem dX0_alike_16 : decode cX0_alike 16 = .ok (.isub, 1) := by decide +kernel
theorem dX0_alike_17 : decode cX0_alike 17 = .ok (.istore 5, 2) := by decide +kernel
theorem dX0_alike_19 : decode cX0_alike 19 = .ok (.iload 5, 2) := by decide +kernel
theorem dX0_alike_21 : decode cX0_alike 21 = .ok (.ifCond .lt 82, 3) := by decide +kernel
theorem dX0_alike_24 : decode cX0_alike 24 = .ok (.iload_n 1, 1) := by decide +kernel
theorem dX0_alike_25 : decode cX0_alike 25 = .ok (.iconst 1, 1) := by decide +kernel
theorem dX0_alike_26 : decode cX0_alike 26 = .ok (.iadd, 1) := by decide +kernel
theorem dX0_alike_27 : decode cX0_alike 27 = .ok (.iload 5, 2) := by decide +kernel
theorem dX0_alike_29 : decode cX0_alike 29 = .ok (.ishr, 1) := by decide +kernel
theorem dX0_alike_30 : decode cX0_alike 30 = .ok (.iconst 2, 1) := by decide +kernel
theorem dX0_alike_31 : decode cX0_alike 31 = .ok (.irem, 1) := by decide +kernel
theorem dX0_alike_32 : decode cX0_alike 32 = .ok (.ifCond .ne 7, 3) := by decide +kernel
theorem dX0_alike_35 : decode cX0_alike 35 = .ok (.iconst 1, 1) := by decide +kernel
theorem dX0_alike_36 : decode cX0_alike 36 = .ok (.goto 4, 3) := by decide +kernel
theorem dX0_alike_39 : decode cX0_alike 39 = .ok (.iconst 0, 1) := by decide +kernel
theorem dX0_alike_40 : decode cX0_alike 40 = .ok (.istore 6, 2) := by decide +kernel
theorem dX0_alike_42 : decode cX0_alike 42 = .ok (.iload 6, 2) := by decide +kernel
theorem dX0_alike_44 : decode cX0_alike 44 = .ok (.ifCond .eq 13, 3) := by decide +kernel
theorem dX0_alike_47 : decode cX0_alike 47 = .ok (.aload_n 0, 1) := by decide +kernel
theorem dX0_alike_48 : decode cX0_alike 48 = .ok (.iload_n 2, 1) := by decide +kernel
theorem dX0_alike_49 : decode cX0_alike 49 = .ok (.iload_n 3, 1) := by decide +kernel
theorem dX0_alike_50 : decode cX0_alike 50 = .ok (.iload_n 3, 1) := by decide +kernel
theorem dX0_alike_51 : decode cX0_alike 51 = .ok (.invokevirtual 76, 3) := by decide +kernel
theorem dX0_alike_54 : decode cX0_alike 54 = .ok (.goto 11, 3) := by decide +kernel
theorem dX0_alike_57 : decode cX0_alike 57 = .ok (.aload_n 0, 1) := by decide +kernel
theorem dX0_alike_58 : decode cX0_alike 58 = .ok (.iload_n 2, 1) := by decide +kernel
theorem dX0_alike_59 : decode cX0_alike 59 = .ok (.iload 4, 2) := by decide +kernel
theorem dX0_alike_61 : decode cX0_alike 61 = .ok (.iload_n 3, 1) := by decide +kernel
theorem dX0_alike_62 : decode cX0_alike 62 = .ok (.invokevirtual 76, 3) := by decide +kernel
theorem dX0_alike_65 : decode cX0_alike 65 = .ok (.istore 7, 2) := by decide +kernel
theorem dX0_alike_67 : decode cX0_alike 67 = .ok (.iload 6, 2) := by decide +kernel
theorem dX0_alike_69 : decode cX0_alike 69 = .ok (.ifCond .eq 14, 3) := by decide +kernel
theorem dX0_alike_72 : decode cX0_alike 72 = .ok (.aload_n 0, 1) := by decide +kernel
theorem dX0_alike_73 : decode cX0_alike 73 = .ok (.iload_n 2, 1) := by decide +kernel
theorem dX0_alike_74 : decode cX0_alike 74 = .ok (.iload 4, 2) := by decide +kernel
theorem dX0_alike_76 : decode cX0_alike 76 = .ok (.iload_n 3, 1) := by decide +kernel
theorem dX0_alike_77 : decode cX0_alike 77 = .ok (.invokevirtual 76, 3) := by decide +kernel
theorem dX0_alike_80 : decode cX0_alike 80 = .ok (.goto 12, 3) := by decide +kernel
theorem dX0_alike_83 : decode cX0_alike 83 = .ok (.aload_n 0, 1) := by decide +kernel
theorem dX0_alike_84 : decode cX0_alike 84 = .ok (.iload_n 2, 1) := by decide +kernel
theorem dX0_alike_85 : decode cX0_alike 85 = .ok (.iload 4, 2) := by decide +kernel
theorem dX0_alike_87 : decode cX0_alike 87 = .ok (.iload 4, 2) := by decide +kernel
theorem dX0_alike_89 : decode cX0_alike 89 = .ok (.invokevirtual 76, 3) := by decide +kernel
theorem dX0_alike_92 : decode cX0_alike 92 = .ok (.istore 4, 2) := by decide +kernel
theorem dX0_alike_94 : decode cX0_alike 94 = .ok (.iload 7, 2) := by decide +kernel
theorem dX0_alike_96 : decode cX0_alike 96 = .ok (.istore_n 3, 1) := by decide +kernel
theorem dX0_alike_97 : decode cX0_alike 97 = .ok (.iinc 5 (-1), 3) := by decide +kernel
theorem dX0_alike_100 : decode cX0_alike 100 = .ok (.goto (-81), 3) := by decide +kernel
theorem dX0_alike_103 : decode cX0_alike 103 = .ok (.iload_n 3, 1) := by decide +kernel
theorem dX0_alike_104 : decode cX0_alike 104 = .ok (.ireturn, 1) := by decide +kernel
theorem dX0_forget_0 : decode cX0_forget 0 = .ok (.aload_n 0, 1) := by decide +kernel
theorem dX0_forget_1 : decode cX0_forget 1 = .ok (.dup, 1) := by decide +kernel
theorem dX0_forget_2 : decode cX0_forget 2 = .ok (.getfield 40, 3) := by decide +kernel
theorem dX0_forget_5 : decode cX0_forget 5 = .ok (.sipush 256, 3) := by decide +kernel
theorem dX0_forget_8 : decode cX0_forget 8 = .ok (.iadd, 1) := by decide +kernel
theorem dX0_forget_9 : decode cX0_forget 9 = .ok (.putfield 40, 3) := by decide +kernel
theorem dX0_forget_12 : decode cX0_forget 12 = .ok (.return_, 1) := by decide +kernel
theorem dX0_seeAt_0 : decode cX0_seeAt 0 = .ok (.aload_n 0, 1) := by decide +kernel
theorem dX0_seeAt_1 : decode cX0_seeAt 1 = .ok (.getfield 27, 3) := by decide +kernel
theorem dX0_seeAt_4 : decode cX0_seeAt 4 = .ok (.iload_n 1, 1) := by decide +kernel
theorem dX0_seeAt_5 : decode cX0_seeAt 5 = .ok (.iaload, 1) := by decide +kernel
theorem dX0_seeAt_6 : decode cX0_seeAt 6 = .ok (.istore_n 3, 1) := by decide +kernel
theorem dX0_seeAt_7 : decode cX0_seeAt 7 = .ok (.iload_n 3, 1) := by decide +kernel
theorem dX0_seeAt_8 : decode cX0_seeAt 8 = .ok (.invokestatic 53, 3) := by decide +kernel
theorem dX0_seeAt_11 : decode cX0_seeAt 11 = .ok (.ifCond .ne 5, 3) := by decide +kernel
theorem dX0_seeAt_14 : decode cX0_seeAt 14 = .ok (.iconst 0, 1) := by decide +kernel
theorem dX0_seeAt_15 : decode cX0_seeAt 15 = .ok (.ireturn, 1) := by decide +kernel
theorem dX0_seeAt_16 : decode cX0_seeAt 16 = .ok (.aload_n 0, 1) := by decide +kernel
theorem dX0_seeAt_17 : decode cX0_seeAt 17 = .ok (.iload_n 3, 1) := by decide +kernel
theorem dX0_seeAt_18 : decode cX0_seeAt 18 = .ok (.invokevirtual 90, 3) := by decide +kernel
theorem dX0_seeAt_21 : decode cX0_seeAt 21 = .ok (.istore 4, 2) := by decide +kernel
theorem dX0_seeAt_23 : decode cX0_seeAt 23 = .ok (.aload_n 0, 1) := by decide +kernel
theorem dX0_seeAt_24 : decode cX0_seeAt 24 = .ok (.getfield 24, 3) := by decide +kernel
theorem dX0_seeAt_27 : decode cX0_seeAt 27 = .ok (.iload_n 3, 1) := by decide +kernel
theorem dX0_seeAt_28 : decode cX0_seeAt 28 = .ok (.aload_n 0, 1) := by decide +kernel
theorem dX0_seeAt_29 : decode cX0_seeAt 29 = .ok (.getfield 40, 3) := by decide +kernel
theorem dX0_seeAt_32 : decode cX0_seeAt 32 = .ok (.iload 4, 2) := by decide +kernel
theorem dX0_seeAt_34 : decode cX0_seeAt 34 = .ok (.iload_n 2, 1) := by decide +kernel
theorem dX0_seeAt_35 : decode cX0_seeAt 35 = .ok (.ior, 1) := by decide +kernel
theorem dX0_seeAt_36 : decode cX0_seeAt 36 = .ok (.iadd, 1) := by decide +kernel
theorem dX0_seeAt_37 : decode cX0_seeAt 37 = .ok (.iastore, 1) := by decide +kernel
theorem dX0_seeAt_38 : decode cX0_seeAt 38 = .ok (.iload 4, 2) := by decide +kernel
theorem dX0_seeAt_40 : decode cX0_seeAt 40 = .ok (.ireturn, 1) := by decide +kernel
theorem dX0_countAt_0 : decode cX0_countAt 0 = .ok (.aload_n 0, 1) := by decide +kernel
theorem dX0_countAt_1 : decode cX0_countAt 1 = .ok (.getfield 27, 3) := by decide +kernel
theorem dX0_countAt_4 : decode cX0_countAt 4 = .ok (.iload_n 1, 1) := by decide +kernel
theorem dX0_countAt_5 : decode cX0_countAt 5 = .ok (.iaload, 1) := by decide +kernel
theorem dX0_countAt_6 : decode cX0_countAt 6 = .ok (.istore_n 2, 1) := by decide +kernel
theorem dX0_countAt_7 : decode cX0_countAt 7 = .ok (.iload_n 2, 1) := by decide +kernel
theorem dX0_countAt_8 : decode cX0_countAt 8 = .ok (.invokestatic 53, 3) := by decide +kernel
theorem dX0_countAt_11 : decode cX0_countAt 11 = .ok (.ifCond .ne 5, 3) := by decide +kernel
theorem dX0_countAt_14 : decode cX0_countAt 14 = .ok (.iconst 0, 1) := by decide +kernel
theorem dX0_countAt_15 : decode cX0_countAt 15 = .ok (.ireturn, 1) := by decide +kernel
theorem dX0_countAt_16 : decode cX0_countAt 16 = .ok (.aload_n 0, 1) := by decide +kernel
theorem dX0_countAt_17 : decode cX0_countAt 17 = .ok (.iload_n 2, 1) := by decide +kernel
theorem dX0_countAt_18 : decode cX0_countAt 18 = .ok (.invokevirtual 90, 3) := by decide +kernel
theorem dX0_countAt_21 : decode cX0_countAt 21 = .ok (.iconst 1, 1) := by decide +kernel
theorem dX0_countAt_22 : decode cX0_countAt 22 = .ok (.iadd, 1) := by decide +kernel
theorem dX0_countAt_23 : decode cX0_countAt 23 = .ok (.istore_n 3, 1) := by decide +kernel
theorem dX0_countAt_24 : decode cX0_countAt 24 = .ok (.aload_n 0, 1) := by decide +kernel
theorem dX0_countAt_25 : decode cX0_countAt 25 = .ok (.getfield 24, 3) := by decide +kernel
theorem dX0_countAt_28 : decode cX0_countAt 28 = .ok (.iload_n 2, 1) := by decide +kernel
theorem dX0_countAt_29 : decode cX0_countAt 29 = .ok (.aload_n 0, 1) := by decide +kernel
theorem dX0_countAt_30 : decode cX0_countAt 30 = .ok (.getfield 40, 3) := by decide +kernel
theorem dX0_countAt_33 : decode cX0_countAt 33 = .ok (.iload_n 3, 1) := by decide +kernel
theorem dX0_countAt_34 : decode cX0_countAt 34 = .ok (.iadd, 1) := by decide +kernel
theorem dX0_countAt_35 : decode cX0_countAt 35 = .ok (.iastore, 1) := by decide +kernel
theorem dX0_countAt_36 : decode cX0_countAt 36 = .ok (.iload_n 3, 1) := by decide +kernel
theorem dX0_countAt_37 : decode cX0_countAt 37 = .ok (.ireturn, 1) := by decide +kernel
theorem dX0_seenOf_0 : decode cX0_seenOf 0 = .ok (.iconst 0, 1) := by decide +kernel
theorem dX0_seenOf_1 : decode cX0_seenOf 1 = .ok (.aload_n 0, 1) := by decide +kernel
theorem dX0_seenOf_2 : decode cX0_seenOf 2 = .ok (.getfield 24, 3) := by decide +kernel
theorem dX0_seenOf_5 : decode cX0_seenOf 5 = .ok (.iload_n 1, 1) := by decide +kernel
theorem dX0_seenOf_6 : decode cX0_seenOf 6 = .ok (.iaload, 1) := by decide +kernel
theorem dX0_seenOf_7 : decode cX0_seenOf 7 = .ok (.aload_n 0, 1) := by decide +kernel
theorem dX0_seenOf_8 : decode cX0_seenOf 8 = .ok (.getfield 40, 3) := by decide +kernel
theorem dX0_seenOf_11 : decode cX0_seenOf 11 = .ok (.isub, 1) := by decide +kernel
theorem dX0_seenOf_12 : decode cX0_seenOf 12 = .ok (.invokestatic 93, 3) := by decide +kernel
theorem dX0_seenOf_15 : decode cX0_seenOf 15 = .ok (.ireturn, 1) := by decide +kernel
theorem dX0_put_0 : decode cX0_put 0 = .ok (.iload 4, 2) := by decide +kernel
theorem dX0_put_2 : decode cX0_put 2 = .ok (.lookupswitch 42 #[(0, 26), (1, 34)], 26) := by decide +kernel
theorem dX0_put_28 : decode cX0_put 28 = .ok (.aload_n 0, 1) := by decide +kernel
theorem dX0_put_29 : decode cX0_put 29 = .ok (.iload_n 1, 1) := by decide +kernel
theorem dX0_put_30 : decode cX0_put 30 = .ok (.iload_n 2, 1) := by decide +kernel
theorem dX0_put_31 : decode cX0_put 31 = .ok (.iload_n 3, 1) := by decide +kernel
theorem dX0_put_32 : decode cX0_put 32 = .ok (.invokestatic 99, 3) := by decide +kernel
theorem dX0_put_35 : decode cX0_put 35 = .ok (.ireturn, 1) := by decide +kernel
theorem dX0_put_36 : decode cX0_put 36 = .ok (.aload_n 0, 1) := by decide +kernel
theorem dX0_put_37 : decode cX0_put 37 = .ok (.iload_n 1, 1) := by decide +kernel
theorem dX0_put_38 : decode cX0_put 38 = .ok (.iload_n 2, 1) := by decide +kernel
theorem dX0_put_39 : decode cX0_put 39 = .ok (.iload_n 3, 1) := by decide +kernel
theorem dX0_put_40 : decode cX0_put 40 = .ok (.invokestatic 103, 3) := by decide +kernel
theorem dX0_put_43 : decode cX0_put 43 = .ok (.ireturn, 1) := by decide +kernel
theorem dX0_put_44 : decode cX0_put 44 = .ok (.aload_n 0, 1) := by decide +kernel
theorem dX0_put_45 : decode cX0_put 45 = .ok (.iload_n 1, 1) := by decide +kernel
theorem dX0_put_46 : decode cX0_put 46 = .ok (.iload_n 2, 1) := by decide +kernel
theorem dX0_put_47 : decode cX0_put 47 = .ok (.iload_n 3, 1) := by decide +kernel
theorem dX0_put_48 : decode cX0_put 48 = .ok (.invokestatic 106, 3) := by decide +kernel
theorem dX0_put_51 : decode cX0_put 51 = .ok (.ireturn, 1) := by decide +kernel
theorem dX0_putAll_0 : decode cX0_putAll 0 = .ok (.iload_n 1, 1) := by decide +kernel
theorem dX0_putAll_1 : decode cX0_putAll 1 = .ok (.istore 6, 2) := by decide +kernel
theorem dX0_putAll_3 : decode cX0_putAll 3 = .ok (.iconst 0, 1) := by decide +kernel
theorem dX0_putAll_4 : decode cX0_putAll 4 = .ok (.istore 7, 2) := by decide +kernel
theorem dX0_putAll_6 : decode cX0_putAll 6 = .ok (.iload 7, 2) := by decide +kernel
theorem dX0_putAll_8 : decode cX0_putAll 8 = .ok (.iload 4, 2) := by decide +kernel
theorem dX0_putAll_10 : decode cX0_putAll 10 = .ok (.if_icmp .ge 27, 3) := by decide +kernel
theorem dX0_putAll_13 : decode cX0_putAll 13 = .ok (.aload_n 0, 1) := by decide +kernel
theorem dX0_putAll_14 : decode cX0_putAll 14 = .ok (.aload_n 3, 1) := by decide +kernel
theorem dX0_putAll_15 : decode cX0_putAll 15 = .ok (.iload 7, 2) := by decide +kernel
theorem dX0_putAll_17 : decode cX0_putAll 17 = .ok (.iaload, 1) := by decide +kernel
theorem dX0_putAll_18 : decode cX0_putAll 18 = .ok (.iload 6, 2) := by decide +kernel
theorem dX0_putAll_20 : decode cX0_putAll 20 = .ok (.iload_n 2, 1) := by decide +kernel
theorem dX0_putAll_21 : decode cX0_putAll 21 = .ok (.iload 7, 2) := by decide +kernel
theorem dX0_putAll_23 : decode cX0_putAll 23 = .ok (.iadd, 1) := by decide +kernel
theorem dX0_putAll_24 : decode cX0_putAll 24 = .ok (.iload 5, 2) := by decide +kernel
theorem dX0_putAll_26 : decode cX0_putAll 26 = .ok (.invokevirtual 109, 3) := by decide +kernel
theorem dX0_putAll_29 : decode cX0_putAll 29 = .ok (.istore 6, 2) := by decide +kernel
theorem dX0_putAll_31 : decode cX0_putAll 31 = .ok (.iinc 7 1, 3) := by decide +kernel
theorem dX0_putAll_34 : decode cX0_putAll 34 = .ok (.goto (-28), 3) := by decide +kernel
theorem dX0_putAll_37 : decode cX0_putAll 37 = .ok (.iload 6, 2) := by decide +kernel
theorem dX0_putAll_39 : decode cX0_putAll 39 = .ok (.ireturn, 1) := by decide +kernel
theorem dX0_take_0 : decode cX0_take 0 = .ok (.iload_n 3, 1) := by decide +kernel
theorem dX0_take_1 : decode cX0_take 1 = .ok (.iconst 2, 1) := by decide +kernel
theorem dX0_take_2 : decode cX0_take 2 = .ok (.if_icmp .ne 12, 3) := by decide +kernel
theorem dX0_take_5 : decode cX0_take 5 = .ok (.aload_n 0, 1) := by decide +kernel
theorem dX0_take_6 : decode cX0_take 6 = .ok (.iload_n 1, 1) := by decide +kernel
theorem dX0_take_7 : decode cX0_take 7 = .ok (.iload_n 2, 1) := by decide +kernel
theorem dX0_take_8 : decode cX0_take 8 = .ok (.invokestatic 113, 3) := by decide +kernel
theorem dX0_take_11 : decode cX0_take 11 = .ok (.goto 9, 3) := by decide +kernel
theorem dX0_take_14 : decode cX0_take 14 = .ok (.aload_n 0, 1) := by decide +kernel
theorem dX0_take_15 : decode cX0_take 15 = .ok (.iload_n 1, 1) := by decide +kernel
theorem dX0_take_16 : decode cX0_take 16 = .ok (.iload_n 2, 1) := by decide +kernel
theorem dX0_take_17 : decode cX0_take 17 = .ok (.invokestatic 117, 3) := by decide +kernel
theorem dX0_take_20 : decode cX0_take 20 = .ok (.ireturn, 1) := by decide +kernel
theorem dX0_takeMany_0 : decode cX0_takeMany 0 = .ok (.iload_n 1, 1) := by decide +kernel
theorem dX0_takeMany_1 : decode cX0_takeMany 1 = .ok (.istore 5, 2) := by decide +kernel
theorem dX0_takeMany_3 : decode cX0_takeMany 3 = .ok (.iconst 0, 1) := by decide +kernel
theorem dX0_takeMany_4 : decode cX0_takeMany 4 = .ok (.istore 6, 2) := by decide +kernel
theorem dX0_takeMany_6 : decode cX0_takeMany 6 = .ok (.iload 6, 2) := by decide +kernel
theorem dX0_takeMany_8 : decode cX0_takeMany 8 = .ok (.iload_n 3, 1) := by decide +kernel
theorem dX0_takeMany_9 : decode cX0_takeMany 9 = .ok (.if_icmp .ge 23, 3) := by decide +kernel
theorem dX0_takeMany_12 : decode cX0_takeMany 12 = .ok (.aload_n 0, 1) := by decide +kernel
theorem dX0_takeMany_13 : decode cX0_takeMany 13 = .ok (.iload 5, 2) := by decide +kernel
theorem dX0_takeMany_15 : decode cX0_takeMany 15 = .ok (.iload_n 2, 1) := by decide +kernel
theorem dX0_takeMany_16 : decode cX0_takeMany 16 = .ok (.iload 6, 2) := by decide +kernel
theorem dX0_takeMany_18 : decode cX0_takeMany 18 = .ok (.isub, 1) := by decide +kernel
theorem dX0_takeMany_19 : decode cX0_takeMany 19 = .ok (.iload 4, 2) := by decide +kernel
theorem dX0_takeMany_21 : decode cX0_takeMany 21 = .ok (.invokevirtual 120, 3) := by decide +kernel
theorem dX0_takeMany_24 : decode cX0_takeMany 24 = .ok (.istore 5, 2) := by decide +kernel
theorem dX0_takeMany_26 : decode cX0_takeMany 26 = .ok (.iinc 6 1, 3) := by decide +kernel
theorem dX0_takeMany_29 : decode cX0_takeMany 29 = .ok (.goto (-23), 3) := by decide +kernel
theorem dX0_takeMany_32 : decode cX0_takeMany 32 = .ok (.iload 5, 2) := by decide +kernel
theorem dX0_takeMany_34 : decode cX0_takeMany 34 = .ok (.ireturn, 1) := by decide +kernel
theorem dX0_popped_0 : decode cX0_popped 0 = .ok (.iload_n 2, 1) := by decide +kernel
theorem dX0_popped_1 : decode cX0_popped 1 = .ok (.iconst 1, 1) := by decide +kernel
theorem dX0_popped_2 : decode cX0_popped 2 = .ok (.if_icmp .gt 5, 3) := by decide +kernel
theorem dX0_popped_5 : decode cX0_popped 5 = .ok (.iconst 0, 1) := by decide +kernel
theorem dX0_popped_6 : decode cX0_popped 6 = .ok (.ireturn, 1) := by decide +kernel
theorem dX0_popped_7 : decode cX0_popped 7 = .ok (.aload_n 0, 1) := by decide +kernel
theorem dX0_popped_8 : decode cX0_popped 8 = .ok (.iload_n 1, 1) := by decide +kernel
theorem dX0_popped_9 : decode cX0_popped 9 = .ok (.invokevirtual 57, 3) := by decide +kernel
theorem dX0_popped_12 : decode cX0_popped 12 = .ok (.istore_n 3, 1) := by decide +kernel
theorem dX0_popped_13 : decode cX0_popped 13 = .ok (.aload_n 0, 1) := by decide +kernel
theorem dX0_popped_14 : decode cX0_popped 14 = .ok (.iload_n 3, 1) := by decide +kernel
theorem dX0_popped_15 : decode cX0_popped 15 = .ok (.invokevirtual 123, 3) := by decide +kernel
theorem dX0_popped_18 : decode cX0_popped 18 = .ok (.istore 4, 2) := by decide +kernel
theorem dX0_popped_20 : decode cX0_popped 20 = .ok (.aload_n 0, 1) := by decide +kernel
theorem dX0_popped_21 : decode cX0_popped 21 = .ok (.iload_n 3, 1) := by decide +kernel
theorem dX0_popped_22 : decode cX0_popped 22 = .ok (.iload_n 2, 1) := by decide +kernel
theorem dX0_popped_23 : decode cX0_popped 23 = .ok (.invokestatic 126, 3) := by decide +kernel
theorem dX0_popped_26 : decode cX0_popped 26 = .ok (.invokestatic 129, 3) := by decide +kernel
theorem dX0_popped_29 : decode cX0_popped 29 = .ok (.istore 5, 2) := by decide +kernel
theorem dX0_popped_31 : decode cX0_popped 31 = .ok (.aload_n 0, 1) := by decide +kernel
theorem dX0_popped_32 : decode cX0_popped 32 = .ok (.iload 4, 2) := by decide +kernel
theorem dX0_popped_34 : decode cX0_popped 34 = .ok (.aload_n 0, 1) := by decide +kernel
theorem dX0_popped_35 : decode cX0_popped 35 = .ok (.iload_n 1, 1) := by decide +kernel
theorem dX0_popped_36 : decode cX0_popped 36 = .ok (.invokevirtual 61, 3) := by decide +kernel
theorem dX0_popped_39 : decode cX0_popped 39 = .ok (.iload 5, 2) := by decide +kernel
theorem dX0_popped_41 : decode cX0_popped 41 = .ok (.bipush 8, 2) := by decide +kernel
theorem dX0_popped_43 : decode cX0_popped 43 = .ok (.invokestatic 132, 3) := by decide +kernel
theorem dX0_popped_46 : decode cX0_popped 46 = .ok (.ireturn, 1) := by decide +kernel
theorem dX0_farLeft_0 : decode cX0_farLeft 0 = .ok (.iload_n 1, 1) := by decide +kernel
theorem dX0_farLeft_1 : decode cX0_farLeft 1 = .ok (.istore_n 2, 1) := by decide +kernel
theorem dX0_farLeft_2 : decode cX0_farLeft 2 = .ok (.iconst 0, 1) := by decide +kernel
theorem dX0_farLeft_3 : decode cX0_farLeft 3 = .ok (.istore_n 3, 1) := by decide +kernel
theorem dX0_farLeft_4 : decode cX0_farLeft 4 = .ok (.iload_n 3, 1) := by decide +kernel
theorem dX0_farLeft_5 : decode cX0_farLeft 5 = .ok (.bipush 8, 2) := by decide +kernel
theorem dX0_farLeft_7 : decode cX0_farLeft 7 = .ok (.if_icmp .ge 23, 3) := by decide +kernel
theorem dX0_farLeft_10 : decode cX0_farLeft 10 = .ok (.aload_n 0, 1) := by decide +kernel
theorem dX0_farLeft_11 : decode cX0_farLeft 11 = .ok (.iload_n 2, 1) := by decide +kernel
theorem dX0_farLeft_12 : decode cX0_farLeft 12 = .ok (.invokevirtual 57, 3) := by decide +kernel
theorem dX0_farLeft_15 : decode cX0_farLeft 15 = .ok (.ifCond .eq 15, 3) := by decide +kernel
theorem dX0_farLeft_18 : decode cX0_farLeft 18 = .ok (.aload_n 0, 1) := by decide +kernel
theorem dX0_farLeft_19 : decode cX0_farLeft 19 = .ok (.iload_n 2, 1) := by decide +kernel
theorem dX0_farLeft_20 : decode cX0_farLeft 20 = .ok (.invokevirtual 57, 3) := by decide +kernel
theorem dX0_farLeft_23 : decode cX0_farLeft 23 = .ok (.istore_n 2, 1) := by decide +kernel
theorem dX0_farLeft_24 : decode cX0_farLeft 24 = .ok (.iinc 3 1, 3) := by decide +kernel
theorem dX0_farLeft_27 : decode cX0_farLeft 27 = .ok (.goto (-23), 3) := by decide +kernel
theorem dX0_farLeft_30 : decode cX0_farLeft 30 = .ok (.aload_n 0, 1) := by decide +kernel
theorem dX0_farLeft_31 : decode cX0_farLeft 31 = .ok (.iload_n 2, 1) := by decide +kernel
theorem dX0_farLeft_32 : decode cX0_farLeft 32 = .ok (.invokevirtual 64, 3) := by decide +kernel
theorem dX0_farLeft_35 : decode cX0_farLeft 35 = .ok (.ireturn, 1) := by decide +kernel
theorem dX0_fronted_0 : decode cX0_fronted 0 = .ok (.iload_n 3, 1) := by decide +kernel
theorem dX0_fronted_1 : decode cX0_fronted 1 = .ok (.ifCond .gt 11, 3) := by decide +kernel
theorem dX0_fronted_4 : decode cX0_fronted 4 = .ok (.aload_n 0, 1) := by decide +kernel
theorem dX0_fronted_5 : decode cX0_fronted 5 = .ok (.iload_n 1, 1) := by decide +kernel
theorem dX0_fronted_6 : decode cX0_fronted 6 = .ok (.iconst 0, 1) := by decide +kernel
theorem dX0_fronted_7 : decode cX0_fronted 7 = .ok (.iconst 0, 1) := by decide +kernel
theorem dX0_fronted_8 : decode cX0_fronted 8 = .ok (.invokevirtual 76, 3) := by decide +kernel
theorem dX0_fronted_11 : decode cX0_fronted 11 = .ok (.ireturn, 1) := by decide +kernel
theorem dX0_fronted_12 : decode cX0_fronted 12 = .ok (.aload_n 0, 1) := by decide +kernel
theorem dX0_fronted_13 : decode cX0_fronted 13 = .ok (.aload_n 0, 1) := by decide +kernel
theorem dX0_fronted_14 : decode cX0_fronted 14 = .ok (.iload_n 2, 1) := by decide +kernel
theorem dX0_fronted_15 : decode cX0_fronted 15 = .ok (.invokevirtual 64, 3) := by decide +kernel
theorem dX0_fronted_18 : decode cX0_fronted 18 = .ok (.aload_n 0, 1) := by decide +kernel
theorem dX0_fronted_19 : decode cX0_fronted 19 = .ok (.iload_n 2, 1) := by decide +kernel
theorem dX0_fronted_20 : decode cX0_fronted 20 = .ok (.invokevirtual 61, 3) := by decide +kernel
theorem dX0_fronted_23 : decode cX0_fronted 23 = .ok (.iload_n 3, 1) := by decide +kernel
theorem dX0_fronted_24 : decode cX0_fronted 24 = .ok (.invokestatic 136, 3) := by decide +kernel
theorem dX0_fronted_27 : decode cX0_fronted 27 = .ok (.invokestatic 99, 3) := by decide +kernel
theorem dX0_fronted_30 : decode cX0_fronted 30 = .ok (.istore 4, 2) := by decide +kernel
theorem dX0_fronted_32 : decode cX0_fronted 32 = .ok (.aload_n 0, 1) := by decide +kernel
theorem dX0_fronted_33 : decode cX0_fronted 33 = .ok (.iload_n 1, 1) := by decide +kernel
theorem dX0_fronted_34 : decode cX0_fronted 34 = .ok (.iload 4, 2) := by decide +kernel
theorem dX0_fronted_36 : decode cX0_fronted 36 = .ok (.aload_n 0, 1) := by decide +kernel
theorem dX0_fronted_37 : decode cX0_fronted 37 = .ok (.iload_n 2, 1) := by decide +kernel
theorem dX0_fronted_38 : decode cX0_fronted 38 = .ok (.invokevirtual 57, 3) := by decide +kernel
theorem dX0_fronted_41 : decode cX0_fronted 41 = .ok (.invokevirtual 76, 3) := by decide +kernel
theorem dX0_fronted_44 : decode cX0_fronted 44 = .ok (.ireturn, 1) := by decide +kernel
theorem dX0_backed_0 : decode cX0_backed 0 = .ok (.iload_n 3, 1) := by decide +kernel
theorem dX0_backed_1 : decode cX0_backed 1 = .ok (.ifCond .gt 11, 3) := by decide +kernel
theorem dX0_backed_4 : decode cX0_backed 4 = .ok (.aload_n 0, 1) := by decide +kernel
theorem dX0_backed_5 : decode cX0_backed 5 = .ok (.iload_n 1, 1) := by decide +kernel
theorem dX0_backed_6 : decode cX0_backed 6 = .ok (.iconst 0, 1) := by decide +kernel
theorem dX0_backed_7 : decode cX0_backed 7 = .ok (.iconst 0, 1) := by decide +kernel
theorem dX0_backed_8 : decode cX0_backed 8 = .ok (.invokevirtual 76, 3) := by decide +kernel
theorem dX0_backed_11 : decode cX0_backed 11 = .ok (.ireturn, 1) := by decide +kernel
theorem dX0_backed_12 : decode cX0_backed 12 = .ok (.aload_n 0, 1) := by decide +kernel
theorem dX0_backed_13 : decode cX0_backed 13 = .ok (.iload_n 2, 1) := by decide +kernel
theorem dX0_backed_14 : decode cX0_backed 14 = .ok (.invokevirtual 57, 3) := by decide +kernel
theorem dX0_backed_17 : decode cX0_backed 17 = .ok (.istore 4, 2) := by decide +kernel
theorem dX0_backed_19 : decode cX0_backed 19 = .ok (.aload_n 0, 1) := by decide +kernel
theorem dX0_backed_20 : decode cX0_backed 20 = .ok (.iload_n 2, 1) := by decide +kernel
theorem dX0_backed_21 : decode cX0_backed 21 = .ok (.invokevirtual 61, 3) := by decide +kernel
theorem dX0_backed_24 : decode cX0_backed 24 = .ok (.istore 5, 2) := by decide +kernel
theorem dX0_backed_26 : decode cX0_backed 26 = .ok (.iload_n 3, 1) := by decide +kernel
theorem dX0_backed_27 : decode cX0_backed 27 = .ok (.iconst 2, 1) := by decide +kernel
theorem dX0_backed_28 : decode cX0_backed 28 = .ok (.irem, 1) := by decide +kernel
theorem dX0_backed_29 : decode cX0_backed 29 = .ok (.iconst 1, 1) := by decide +kernel
theorem dX0_backed_30 : decode cX0_backed 30 = .ok (.if_icmp .ne 19, 3) := by decide +kernel
theorem dX0_backed_33 : decode cX0_backed 33 = .ok (.aload_n 0, 1) := by decide +kernel
theorem dX0_backed_34 : decode cX0_backed 34 = .ok (.iload_n 1, 1) := by decide +kernel
theorem dX0_backed_35 : decode cX0_backed 35 = .ok (.iload 4, 2) := by decide +kernel
theorem dX0_backed_37 : decode cX0_backed 37 = .ok (.iload_n 3, 1) := by decide +kernel
theorem dX0_backed_38 : decode cX0_backed 38 = .ok (.invokestatic 126, 3) := by decide +kernel
theorem dX0_backed_41 : decode cX0_backed 41 = .ok (.invokestatic 103, 3) := by decide +kernel
theorem dX0_backed_44 : decode cX0_backed 44 = .ok (.istore 4, 2) := by decide +kernel
theorem dX0_backed_46 : decode cX0_backed 46 = .ok (.goto 16, 3) := by decide +kernel
theorem dX0_backed_49 : decode cX0_backed 49 = .ok (.aload_n 0, 1) := by decide +kernel
theorem dX0_backed_50 : decode cX0_backed 50 = .ok (.iload_n 1, 1) := by decide +kernel
theorem dX0_backed_51 : decode cX0_backed 51 = .ok (.iload 5, 2) := by decide +kernel
theorem dX0_backed_53 : decode cX0_backed 53 = .ok (.iload_n 3, 1) := by decide +kernel
theorem dX0_backed_54 : decode cX0_backed 54 = .ok (.invokestatic 136, 3) := by decide +kernel
theorem dX0_backed_57 : decode cX0_backed 57 = .ok (.invokestatic 103, 3) := by decide +kernel
theorem dX0_backed_60 : decode cX0_backed 60 = .ok (.istore 5, 2) := by decide +kernel
theorem dX0_backed_62 : decode cX0_backed 62 = .ok (.aload_n 0, 1) := by decide +kernel
theorem dX0_backed_63 : decode cX0_backed 63 = .ok (.aload_n 0, 1) := by decide +kernel
theorem dX0_backed_64 : decode cX0_backed 64 = .ok (.iload_n 2, 1) := by decide +kernel
theorem dX0_backed_65 : decode cX0_backed 65 = .ok (.invokevirtual 64, 3) := by decide +kernel
theorem dX0_backed_68 : decode cX0_backed 68 = .ok (.iload 4, 2) := by decide +kernel
theorem dX0_backed_70 : decode cX0_backed 70 = .ok (.iload 5, 2) := by decide +kernel
theorem dX0_backed_72 : decode cX0_backed 72 = .ok (.invokevirtual 76, 3) := by decide +kernel
theorem dX0_backed_75 : decode cX0_backed 75 = .ok (.ireturn, 1) := by decide +kernel
theorem dX0_firstGone_0 : decode cX0_firstGone 0 = .ok (.iload_n 2, 1) := by decide +kernel
theorem dX0_firstGone_1 : decode cX0_firstGone 1 = .ok (.iconst 1, 1) := by decide +kernel
theorem dX0_firstGone_2 : decode cX0_firstGone 2 = .ok (.if_icmp .gt 5, 3) := by decide +kernel
theorem dX0_firstGone_5 : decode cX0_firstGone 5 = .ok (.iconst 0, 1) := by decide +kernel
theorem dX0_firstGone_6 : decode cX0_firstGone 6 = .ok (.ireturn, 1) := by decide +kernel
theorem dX0_firstGone_7 : decode cX0_firstGone 7 = .ok (.aload_n 0, 1) := by decide +kernel
theorem dX0_firstGone_8 : decode cX0_firstGone 8 = .ok (.iload_n 1, 1) := by decide +kernel
theorem dX0_firstGone_9 : decode cX0_firstGone 9 = .ok (.invokevirtual 57, 3) := by decide +kernel
theorem dX0_firstGone_12 : decode cX0_firstGone 12 = .ok (.istore_n 3, 1) := by decide +kernel
theorem dX0_firstGone_13 : decode cX0_firstGone 13 = .ok (.aload_n 0, 1) := by decide +kernel
theorem dX0_firstGone_14 : decode cX0_firstGone 14 = .ok (.iload_n 3, 1) := by decide +kernel
theorem dX0_firstGone_15 : decode cX0_firstGone 15 = .ok (.iload_n 2, 1) := by decide +kernel
theorem dX0_firstGone_16 : decode cX0_firstGone 16 = .ok (.invokestatic 126, 3) := by decide +kernel
theorem dX0_firstGone_19 : decode cX0_firstGone 19 = .ok (.invokestatic 113, 3) := by decide +kernel
theorem dX0_firstGone_22 : decode cX0_firstGone 22 = .ok (.istore 4, 2) := by decide +kernel
theorem dX0_firstGone_24 : decode cX0_firstGone 24 = .ok (.aload_n 0, 1) := by decide +kernel
theorem dX0_firstGone_25 : decode cX0_firstGone 25 = .ok (.aload_n 0, 1) := by decide +kernel
theorem dX0_firstGone_26 : decode cX0_firstGone 26 = .ok (.iload_n 3, 1) := by decide +kernel
theorem dX0_firstGone_27 : decode cX0_firstGone 27 = .ok (.invokevirtual 64, 3) := by decide +kernel
theorem dX0_firstGone_30 : decode cX0_firstGone 30 = .ok (.aload_n 0, 1) := by decide +kernel
theorem dX0_firstGone_31 : decode cX0_firstGone 31 = .ok (.iload_n 1, 1) := by decide +kernel
theorem dX0_firstGone_32 : decode cX0_firstGone 32 = .ok (.invokevirtual 61, 3) := by decide +kernel
theorem dX0_firstGone_35 : decode cX0_firstGone 35 = .ok (.iload 4, 2) := by decide +kernel
theorem dX0_firstGone_37 : decode cX0_firstGone 37 = .ok (.invokevirtual 76, 3) := by decide +kernel
theorem dX0_firstGone_40 : decode cX0_firstGone 40 = .ok (.ireturn, 1) := by decide +kernel
theorem dX0_lastGone_0 : decode cX0_lastGone 0 = .ok (.iload_n 2, 1) := by decide +kernel
theorem dX0_lastGone_1 : decode cX0_lastGone 1 = .ok (.iconst 1, 1) := by decide +kernel
theorem dX0_lastGone_2 : decode cX0_lastGone 2 = .ok (.if_icmp .gt 5, 3) := by decide +kernel
theorem dX0_lastGone_5 : decode cX0_lastGone 5 = .ok (.iconst 0, 1) := by decide +kernel
theorem dX0_lastGone_6 : decode cX0_lastGone 6 = .ok (.ireturn, 1) := by decide +kernel
theorem dX0_lastGone_7 : decode cX0_lastGone 7 = .ok (.aload_n 0, 1) := by decide +kernel
theorem dX0_lastGone_8 : decode cX0_lastGone 8 = .ok (.iload_n 1, 1) := by decide +kernel
theorem dX0_lastGone_9 : decode cX0_lastGone 9 = .ok (.invokevirtual 57, 3) := by decide +kernel
theorem dX0_lastGone_12 : decode cX0_lastGone 12 = .ok (.istore_n 3, 1) := by decide +kernel
theorem dX0_lastGone_13 : decode cX0_lastGone 13 = .ok (.aload_n 0, 1) := by decide +kernel
theorem dX0_lastGone_14 : decode cX0_lastGone 14 = .ok (.iload_n 1, 1) := by decide +kernel
theorem dX0_lastGone_15 : decode cX0_lastGone 15 = .ok (.invokevirtual 61, 3) := by decide +kernel
theorem dX0_lastGone_18 : decode cX0_lastGone 18 = .ok (.istore 4, 2) := by decide +kernel
theorem dX0_lastGone_20 : decode cX0_lastGone 20 = .ok (.iload_n 2, 1) := by decide +kernel
theorem dX0_lastGone_21 : decode cX0_lastGone 21 = .ok (.iconst 2, 1) := by decide +kernel
theorem dX0_lastGone_22 : decode cX0_lastGone 22 = .ok (.irem, 1) := by decide +kernel
theorem dX0_lastGone_23 : decode cX0_lastGone 23 = .ok (.ifCond .ne 16, 3) := by decide +kernel
theorem dX0_lastGone_26 : decode cX0_lastGone 26 = .ok (.aload_n 0, 1) := by decide +kernel
theorem dX0_lastGone_27 : decode cX0_lastGone 27 = .ok (.iload_n 3, 1) := by decide +kernel
theorem dX0_lastGone_28 : decode cX0_lastGone 28 = .ok (.iload_n 2, 1) := by decide +kernel
theorem dX0_lastGone_29 : decode cX0_lastGone 29 = .ok (.invokestatic 126, 3) := by decide +kernel
theorem dX0_lastGone_32 : decode cX0_lastGone 32 = .ok (.invokestatic 117, 3) := by decide +kernel
theorem dX0_lastGone_35 : decode cX0_lastGone 35 = .ok (.istore_n 3, 1) := by decide +kernel
theorem dX0_lastGone_36 : decode cX0_lastGone 36 = .ok (.goto 15, 3) := by decide +kernel
theorem dX0_lastGone_39 : decode cX0_lastGone 39 = .ok (.aload_n 0, 1) := by decide +kernel
theorem dX0_lastGone_40 : decode cX0_lastGone 40 = .ok (.iload 4, 2) := by decide +kernel
theorem dX0_lastGone_42 : decode cX0_lastGone 42 = .ok (.iload_n 2, 1) := by decide +kernel
theorem dX0_lastGone_43 : decode cX0_lastGone 43 = .ok (.invokestatic 136, 3) := by decide +kernel
theorem dX0_lastGone_46 : decode cX0_lastGone 46 = .ok (.invokestatic 117, 3) := by decide +kernel
theorem dX0_lastGone_49 : decode cX0_lastGone 49 = .ok (.istore 4, 2) := by decide +kernel
theorem dX0_lastGone_51 : decode cX0_lastGone 51 = .ok (.aload_n 0, 1) := by decide +kernel
theorem dX0_lastGone_52 : decode cX0_lastGone 52 = .ok (.aload_n 0, 1) := by decide +kernel
theorem dX0_lastGone_53 : decode cX0_lastGone 53 = .ok (.iload_n 1, 1) := by decide +kernel
theorem dX0_lastGone_54 : decode cX0_lastGone 54 = .ok (.invokevirtual 64, 3) := by decide +kernel
theorem dX0_lastGone_57 : decode cX0_lastGone 57 = .ok (.iload_n 3, 1) := by decide +kernel
theorem dX0_lastGone_58 : decode cX0_lastGone 58 = .ok (.iload 4, 2) := by decide +kernel
theorem dX0_lastGone_60 : decode cX0_lastGone 60 = .ok (.invokevirtual 76, 3) := by decide +kernel
theorem dX0_lastGone_63 : decode cX0_lastGone 63 = .ok (.ireturn, 1) := by decide +kernel
theorem dX0_pushed_0 : decode cX0_pushed 0 = .ok (.iload_n 3, 1) := by decide +kernel
theorem dX0_pushed_1 : decode cX0_pushed 1 = .ok (.ifCond .gt 11, 3) := by decide +kernel
theorem dX0_pushed_4 : decode cX0_pushed 4 = .ok (.aload_n 0, 1) := by decide +kernel
theorem dX0_pushed_5 : decode cX0_pushed 5 = .ok (.iload_n 1, 1) := by decide +kernel
theorem dX0_pushed_6 : decode cX0_pushed 6 = .ok (.iconst 0, 1) := by decide +kernel
theorem dX0_pushed_7 : decode cX0_pushed 7 = .ok (.iconst 0, 1) := by decide +kernel
theorem dX0_pushed_8 : decode cX0_pushed 8 = .ok (.invokevirtual 76, 3) := by decide +kernel
theorem dX0_pushed_11 : decode cX0_pushed 11 = .ok (.ireturn, 1) := by decide +kernel
theorem dX0_pushed_12 : decode cX0_pushed 12 = .ok (.aload_n 0, 1) := by decide +kernel
theorem dX0_pushed_13 : decode cX0_pushed 13 = .ok (.iload_n 2, 1) := by decide +kernel
theorem dX0_pushed_14 : decode cX0_pushed 14 = .ok (.invokevirtual 64, 3) := by decide +kernel
theorem dX0_pushed_17 : decode cX0_pushed 17 = .ok (.istore 4, 2) := by decide +kernel
theorem dX0_pushed_19 : decode cX0_pushed 19 = .ok (.aload_n 0, 1) := by decide +kernel
theorem dX0_pushed_20 : decode cX0_pushed 20 = .ok (.iload_n 1, 1) := by decide +kernel
theorem dX0_pushed_21 : decode cX0_pushed 21 = .ok (.iload 4, 2) := by decide +kernel
theorem dX0_pushed_23 : decode cX0_pushed 23 = .ok (.invokestatic 93, 3) := by decide +kernel
theorem dX0_pushed_26 : decode cX0_pushed 26 = .ok (.aload_n 0, 1) := by decide +kernel
theorem dX0_pushed_27 : decode cX0_pushed 27 = .ok (.iload_n 2, 1) := by decide +kernel
theorem dX0_pushed_28 : decode cX0_pushed 28 = .ok (.invokevirtual 61, 3) := by decide +kernel
theorem dX0_pushed_31 : decode cX0_pushed 31 = .ok (.iload_n 3, 1) := by decide +kernel
theorem dX0_pushed_32 : decode cX0_pushed 32 = .ok (.invokestatic 136, 3) := by decide +kernel
theorem dX0_pushed_35 : decode cX0_pushed 35 = .ok (.invokestatic 106, 3) := by decide +kernel
theorem dX0_pushed_38 : decode cX0_pushed 38 = .ok (.istore 5, 2) := by decide +kernel
theorem dX0_pushed_40 : decode cX0_pushed 40 = .ok (.aload_n 0, 1) := by decide +kernel
theorem dX0_pushed_41 : decode cX0_pushed 41 = .ok (.iload_n 1, 1) := by decide +kernel
theorem dX0_pushed_42 : decode cX0_pushed 42 = .ok (.iload 4, 2) := by decide +kernel
theorem dX0_pushed_44 : decode cX0_pushed 44 = .ok (.invokestatic 139, 3) := by decide +kernel
theorem dX0_pushed_47 : decode cX0_pushed 47 = .ok (.iload 5, 2) := by decide +kernel
theorem dX0_pushed_49 : decode cX0_pushed 49 = .ok (.aload_n 0, 1) := by decide +kernel
theorem dX0_pushed_50 : decode cX0_pushed 50 = .ok (.iload_n 2, 1) := by decide +kernel
theorem dX0_pushed_51 : decode cX0_pushed 51 = .ok (.invokevirtual 57, 3) := by decide +kernel
theorem dX0_pushed_54 : decode cX0_pushed 54 = .ok (.invokevirtual 76, 3) := by decide +kernel
theorem dX0_pushed_57 : decode cX0_pushed 57 = .ok (.ireturn, 1) := by decide +kernel
theorem dX0_farLeftGone_0 : decode cX0_farLeftGone 0 = .ok (.iload_n 2, 1) := by decide +kernel
theorem dX0_farLeftGone_1 : decode cX0_farLeftGone 1 = .ok (.iconst 1, 1) := by decide +kernel
theorem dX0_farLeftGone_2 : decode cX0_farLeftGone 2 = .ok (.if_icmp .gt 5, 3) := by decide +kernel
theorem dX0_farLeftGone_5 : decode cX0_farLeftGone 5 = .ok (.iconst 0, 1) := by decide +kernel
theorem dX0_farLeftGone_6 : decode cX0_farLeftGone 6 = .ok (.ireturn, 1) := by decide +kernel
theorem dX0_farLeftGone_7 : decode cX0_farLeftGone 7 = .ok (.aload_n 0, 1) := by decide +kernel
theorem dX0_farLeftGone_8 : decode cX0_farLeftGone 8 = .ok (.aload_n 0, 1) := by decide +kernel
theorem dX0_farLeftGone_9 : decode cX0_farLeftGone 9 = .ok (.iload_n 1, 1) := by decide +kernel
theorem dX0_farLeftGone_10 : decode cX0_farLeftGone 10 = .ok (.invokevirtual 57, 3) := by decide +kernel
theorem dX0_farLeftGone_13 : decode cX0_farLeftGone 13 = .ok (.iload_n 2, 1) := by decide +kernel
theorem dX0_farLeftGone_14 : decode cX0_farLeftGone 14 = .ok (.invokestatic 126, 3) := by decide +kernel
theorem dX0_farLeftGone_17 : decode cX0_farLeftGone 17 = .ok (.invokestatic 129, 3) := by decide +kernel
theorem dX0_farLeftGone_20 : decode cX0_farLeftGone 20 = .ok (.istore_n 3, 1) := by decide +kernel
theorem dX0_farLeftGone_21 : decode cX0_farLeftGone 21 = .ok (.aload_n 0, 1) := by decide +kernel
theorem dX0_farLeftGone_22 : decode cX0_farLeftGone 22 = .ok (.aload_n 0, 1) := by decide +kernel
theorem dX0_farLeftGone_23 : decode cX0_farLeftGone 23 = .ok (.iload_n 1, 1) := by decide +kernel
theorem dX0_farLeftGone_24 : decode cX0_farLeftGone 24 = .ok (.invokevirtual 64, 3) := by decide +kernel
theorem dX0_farLeftGone_27 : decode cX0_farLeftGone 27 = .ok (.aload_n 0, 1) := by decide +kernel
theorem dX0_farLeftGone_28 : decode cX0_farLeftGone 28 = .ok (.iload_n 1, 1) := by decide +kernel
theorem dX0_farLeftGone_29 : decode cX0_farLeftGone 29 = .ok (.invokevirtual 61, 3) := by decide +kernel
theorem dX0_farLeftGone_32 : decode cX0_farLeftGone 32 = .ok (.iload_n 3, 1) := by decide +kernel
theorem dX0_farLeftGone_33 : decode cX0_farLeftGone 33 = .ok (.invokevirtual 76, 3) := by decide +kernel
theorem dX0_farLeftGone_36 : decode cX0_farLeftGone 36 = .ok (.ireturn, 1) := by decide +kernel
theorem dX0_sifted_0 : decode cX0_sifted 0 = .ok (.iload_n 2, 1) := by decide +kernel
theorem dX0_sifted_1 : decode cX0_sifted 1 = .ok (.ifCond .eq 12, 3) := by decide +kernel
theorem dX0_sifted_4 : decode cX0_sifted 4 = .ok (.iload_n 1, 1) := by decide +kernel
theorem dX0_sifted_5 : decode cX0_sifted 5 = .ok (.aload_n 0, 1) := by decide +kernel
theorem dX0_sifted_6 : decode cX0_sifted 6 = .ok (.iload_n 2, 1) := by decide +kernel
theorem dX0_sifted_7 : decode cX0_sifted 7 = .ok (.invokevirtual 64, 3) := by decide +kernel
theorem dX0_sifted_10 : decode cX0_sifted 10 = .ok (.if_icmp .gt 7, 3) := by decide +kernel
theorem dX0_sifted_13 : decode cX0_sifted 13 = .ok (.iconst 1, 1) := by decide +kernel
theorem dX0_sifted_14 : decode cX0_sifted 14 = .ok (.goto 4, 3) := by decide +kernel
theorem dX0_sifted_17 : decode cX0_sifted 17 = .ok (.iconst 0, 1) := by decide +kernel
theorem dX0_sifted_18 : decode cX0_sifted 18 = .ok (.istore 5, 2) := by decide +kernel
theorem dX0_sifted_20 : decode cX0_sifted 20 = .ok (.iload_n 3, 1) := by decide +kernel
theorem dX0_sifted_21 : decode cX0_sifted 21 = .ok (.ifCond .eq 12, 3) := by decide +kernel
theorem dX0_sifted_24 : decode cX0_sifted 24 = .ok (.iload_n 1, 1) := by decide +kernel
theorem dX0_sifted_25 : decode cX0_sifted 25 = .ok (.aload_n 0, 1) := by decide +kernel
theorem dX0_sifted_26 : decode cX0_sifted 26 = .ok (.iload_n 3, 1) := by decide +kernel
theorem dX0_sifted_27 : decode cX0_sifted 27 = .ok (.invokevirtual 64, 3) := by decide +kernel
theorem dX0_sifted_30 : decode cX0_sifted 30 = .ok (.if_icmp .gt 7, 3) := by decide +kernel
theorem dX0_sifted_33 : decode cX0_sifted 33 = .ok (.iconst 1, 1) := by decide +kernel
theorem dX0_sifted_34 : decode cX0_sifted 34 = .ok (.goto 4, 3) := by decide +kernel
theorem dX0_sifted_37 : decode cX0_sifted 37 = .ok (.iconst 0, 1) := by decide +kernel
theorem dX0_sifted_38 : decode cX0_sifted 38 = .ok (.istore 6, 2) := by decide +kernel
theorem dX0_sifted_40 : decode cX0_sifted 40 = .ok (.iload 4, 2) := by decide +kernel
theorem dX0_sifted_42 : decode cX0_sifted 42 = .ok (.ifCond .le 17, 3) := by decide +kernel
theorem dX0_sifted_45 : decode cX0_sifted 45 = .ok (.iload_n 2, 1) := by decide +kernel
theorem dX0_sifted_46 : decode cX0_sifted 46 = .ok (.ifCond .eq 13, 3) := by decide +kernel
theorem dX0_sifted_49 : decode cX0_sifted 49 = .ok (.iload 5, 2) := by decide +kernel
theorem dX0_sifted_51 : decode cX0_sifted 51 = .ok (.ifCond .eq 16, 3) := by decide +kernel
theorem dX0_sifted_54 : decode cX0_sifted 54 = .ok (.iload 6, 2) := by decide +kernel
theorem dX0_sifted_56 : decode cX0_sifted 56 = .ok (.ifCond .eq 11, 3) := by decide +kernel
theorem dX0_sifted_59 : decode cX0_sifted 59 = .ok (.aload_n 0, 1) := by decide +kernel
theorem dX0_sifted_60 : decode cX0_sifted 60 = .ok (.iload_n 1, 1) := by decide +kernel
theorem dX0_sifted_61 : decode cX0_sifted 61 = .ok (.iload_n 2, 1) := by decide +kernel
theorem dX0_sifted_62 : decode cX0_sifted 62 = .ok (.iload_n 3, 1) := by decide +kernel
theorem dX0_sifted_63 : decode cX0_sifted 63 = .ok (.invokevirtual 76, 3) := by decide +kernel
theorem dX0_sifted_66 : decode cX0_sifted 66 = .ok (.ireturn, 1) := by decide +kernel
theorem dX0_sifted_67 : decode cX0_sifted 67 = .ok (.iload_n 3, 1) := by decide +kernel
theorem dX0_sifted_68 : decode cX0_sifted 68 = .ok (.ifCond .eq 16, 3) := by decide +kernel
theorem dX0_sifted_71 : decode cX0_sifted 71 = .ok (.aload_n 0, 1) := by decide +kernel
theorem dX0_sifted_72 : decode cX0_sifted 72 = .ok (.iload_n 2, 1) := by decide +kernel
theorem dX0_sifted_73 : decode cX0_sifted 73 = .ok (.invokevirtual 64, 3) := by decide +kernel
theorem dX0_sifted_76 : decode cX0_sifted 76 = .ok (.aload_n 0, 1) := by decide +kernel
theorem dX0_sifted_77 : decode cX0_sifted 77 = .ok (.iload_n 3, 1) := by decide +kernel
theorem dX0_sifted_78 : decode cX0_sifted 78 = .ok (.invokevirtual 64, 3) := by decide +kernel
theorem dX0_sifted_81 : decode cX0_sifted 81 = .ok (.if_icmp .gt 37, 3) := by decide +kernel
theorem dX0_sifted_84 : decode cX0_sifted 84 = .ok (.aload_n 0, 1) := by decide +kernel
theorem dX0_sifted_85 : decode cX0_sifted 85 = .ok (.iload_n 1, 1) := by decide +kernel
theorem dX0_sifted_86 : decode cX0_sifted 86 = .ok (.aload_n 0, 1) := by decide +kernel
theorem dX0_sifted_87 : decode cX0_sifted 87 = .ok (.iload_n 2, 1) := by decide +kernel
theorem dX0_sifted_88 : decode cX0_sifted 88 = .ok (.invokevirtual 57, 3) := by decide +kernel
theorem dX0_sifted_91 : decode cX0_sifted 91 = .ok (.aload_n 0, 1) := by decide +kernel
theorem dX0_sifted_92 : decode cX0_sifted 92 = .ok (.iload_n 2, 1) := by decide +kernel
theorem dX0_sifted_93 : decode cX0_sifted 93 = .ok (.invokevirtual 61, 3) := by decide +kernel
theorem dX0_sifted_96 : decode cX0_sifted 96 = .ok (.iload 4, 2) := by decide +kernel
theorem dX0_sifted_98 : decode cX0_sifted 98 = .ok (.iconst 1, 1) := by decide +kernel
theorem dX0_sifted_99 : decode cX0_sifted 99 = .ok (.isub, 1) := by decide +kernel
theorem dX0_sifted_100 : decode cX0_sifted 100 = .ok (.invokestatic 132, 3) := by decide +kernel
theorem dX0_sifted_103 : decode cX0_sifted 103 = .ok (.istore 7, 2) := by decide +kernel
theorem dX0_sifted_105 : decode cX0_sifted 105 = .ok (.aload_n 0, 1) := by decide +kernel
theorem dX0_sifted_106 : decode cX0_sifted 106 = .ok (.aload_n 0, 1) := by decide +kernel
theorem dX0_sifted_107 : decode cX0_sifted 107 = .ok (.iload_n 2, 1) := by decide +kernel
theorem dX0_sifted_108 : decode cX0_sifted 108 = .ok (.invokevirtual 64, 3) := by decide +kernel
theorem dX0_sifted_111 : decode cX0_sifted 111 = .ok (.iload 7, 2) := by decide +kernel
theorem dX0_sifted_113 : decode cX0_sifted 113 = .ok (.iload_n 3, 1) := by decide +kernel
theorem dX0_sifted_114 : decode cX0_sifted 114 = .ok (.invokevirtual 76, 3) := by decide +kernel
theorem dX0_sifted_117 : decode cX0_sifted 117 = .ok (.ireturn, 1) := by decide +kernel
theorem dX0_sifted_118 : decode cX0_sifted 118 = .ok (.aload_n 0, 1) := by decide +kernel
theorem dX0_sifted_119 : decode cX0_sifted 119 = .ok (.iload_n 1, 1) := by decide +kernel
theorem dX0_sifted_120 : decode cX0_sifted 120 = .ok (.aload_n 0, 1) := by decide +kernel
theorem dX0_sifted_121 : decode cX0_sifted 121 = .ok (.iload_n 3, 1) := by decide +kernel
theorem dX0_sifted_122 : decode cX0_sifted 122 = .ok (.invokevirtual 57, 3) := by decide +kernel
theorem dX0_sifted_125 : decode cX0_sifted 125 = .ok (.aload_n 0, 1) := by decide +kernel
theorem dX0_sifted_126 : decode cX0_sifted 126 = .ok (.iload_n 3, 1) := by decide +kernel
theorem dX0_sifted_127 : decode cX0_sifted 127 = .ok (.invokevirtual 61, 3) := by decide +kernel
theorem dX0_sifted_130 : decode cX0_sifted 130 = .ok (.iload 4, 2) := by decide +kernel
theorem dX0_sifted_132 : decode cX0_sifted 132 = .ok (.iconst 1, 1) := by decide +kernel
theorem dX0_sifted_133 : decode cX0_sifted 133 = .ok (.isub, 1) := by decide +kernel
theorem dX0_sifted_134 : decode cX0_sifted 134 = .ok (.invokestatic 132, 3) := by decide +kernel
theorem dX0_sifted_137 : decode cX0_sifted 137 = .ok (.istore 7, 2) := by decide +kernel
theorem dX0_sifted_139 : decode cX0_sifted 139 = .ok (.aload_n 0, 1) := by decide +kernel
theorem dX0_sifted_140 : decode cX0_sifted 140 = .ok (.aload_n 0, 1) := by decide +kernel
theorem dX0_sifted_141 : decode cX0_sifted 141 = .ok (.iload_n 3, 1) := by decide +kernel
theorem dX0_sifted_142 : decode cX0_sifted 142 = .ok (.invokevirtual 64, 3) := by decide +kernel
theorem dX0_sifted_145 : decode cX0_sifted 145 = .ok (.iload_n 2, 1) := by decide +kernel
theorem dX0_sifted_146 : decode cX0_sifted 146 = .ok (.iload 7, 2) := by decide +kernel
theorem dX0_sifted_148 : decode cX0_sifted 148 = .ok (.invokevirtual 76, 3) := by decide +kernel
theorem dX0_sifted_151 : decode cX0_sifted 151 = .ok (.ireturn, 1) := by decide +kernel
theorem dX1_init_0 : decode cX1_init 0 = .ok (.aload_n 0, 1) := by decide +kernel
theorem dX1_init_1 : decode cX1_init 1 = .ok (.invokespecial 5, 3) := by decide +kernel
theorem dX1_init_4 : decode cX1_init 4 = .ok (.aload_n 0, 1) := by decide +kernel
theorem dX1_init_5 : decode cX1_init 5 = .ok (.new 1, 3) := by decide +kernel
theorem dX1_init_8 : decode cX1_init 8 = .ok (.dup, 1) := by decide +kernel
theorem dX1_init_9 : decode cX1_init 9 = .ok (.invokespecial 11, 3) := by decide +kernel
theorem dX1_init_12 : decode cX1_init 12 = .ok (.putfield 12, 3) := by decide +kernel
theorem dX1_init_15 : decode cX1_init 15 = .ok (.aload_n 0, 1) := by decide +kernel
theorem dX1_init_16 : decode cX1_init 16 = .ok (.bipush 100, 2) := by decide +kernel
theorem dX1_init_18 : decode cX1_init 18 = .ok (.newarray .int, 2) := by decide +kernel
theorem dX1_init_20 : decode cX1_init 20 = .ok (.putfield 18, 3) := by decide +kernel
theorem dX1_init_23 : decode cX1_init 23 = .ok (.aload_n 0, 1) := by decide +kernel
theorem dX1_init_24 : decode cX1_init 24 = .ok (.bipush 100, 2) := by decide +kernel
theorem dX1_init_26 : decode cX1_init 26 = .ok (.newarray .int, 2) := by decide +kernel
theorem dX1_init_28 : decode cX1_init 28 = .ok (.putfield 22, 3) := by decide +kernel
theorem dX1_init_31 : decode cX1_init 31 = .ok (.aload_n 0, 1) := by decide +kernel
theorem dX1_init_32 : decode cX1_init 32 = .ok (.bipush 100, 2) := by decide +kernel
theorem dX1_init_34 : decode cX1_init 34 = .ok (.newarray .int, 2) := by decide +kernel
theorem dX1_init_36 : decode cX1_init 36 = .ok (.putfield 25, 3) := by decide +kernel
theorem dX1_init_39 : decode cX1_init 39 = .ok (.aload_n 0, 1) := by decide +kernel
theorem dX1_init_40 : decode cX1_init 40 = .ok (.bipush 100, 2) := by decide +kernel
theorem dX1_init_42 : decode cX1_init 42 = .ok (.newarray .int, 2) := by decide +kernel
theorem dX1_init_44 : decode cX1_init 44 = .ok (.putfield 28, 3) := by decide +kernel
theorem dX1_init_47 : decode cX1_init 47 = .ok (.aload_n 0, 1) := by decide +kernel
theorem dX1_init_48 : decode cX1_init 48 = .ok (.bipush 100, 2) := by decide +kernel
theorem dX1_init_50 : decode cX1_init 50 = .ok (.newarray .int, 2) := by decide +kernel
theorem dX1_init_52 : decode cX1_init 52 = .ok (.putfield 31, 3) := by decide +kernel
theorem dX1_init_55 : decode cX1_init 55 = .ok (.aload_n 0, 1) := by decide +kernel
theorem dX1_init_56 : decode cX1_init 56 = .ok (.bipush 100, 2) := by decide +kernel
theorem dX1_init_58 : decode cX1_init 58 = .ok (.newarray .int, 2) := by decide +kernel
theorem dX1_init_60 : decode cX1_init 60 = .ok (.putfield 34, 3) := by decide +kernel
theorem dX1_init_63 : decode cX1_init 63 = .ok (.aload_n 0, 1) := by decide +kernel
theorem dX1_init_64 : decode cX1_init 64 = .ok (.bipush 100, 2) := by decide +kernel
theorem dX1_init_66 : decode cX1_init 66 = .ok (.newarray .int, 2) := by decide +kernel
theorem dX1_init_68 : decode cX1_init 68 = .ok (.putfield 37, 3) := by decide +kernel
theorem dX1_init_71 : decode cX1_init 71 = .ok (.aload_n 0, 1) := by decide +kernel
theorem dX1_init_72 : decode cX1_init 72 = .ok (.bipush 100, 2) := by decide +kernel
theorem dX1_init_74 : decode cX1_init 74 = .ok (.newarray .int, 2) := by decide +kernel
theorem dX1_init_76 : decode cX1_init 76 = .ok (.putfield 40, 3) := by decide +kernel
theorem dX1_init_79 : decode cX1_init 79 = .ok (.aload_n 0, 1) := by decide +kernel
theorem dX1_init_80 : decode cX1_init 80 = .ok (.iconst 0, 1) := by decide +kernel
theorem dX1_init_81 : decode cX1_init 81 = .ok (.putfield 43, 3) := by decide +kernel
theorem dX1_init_84 : decode cX1_init 84 = .ok (.aload_n 0, 1) := by decide +kernel
theorem dX1_init_85 : decode cX1_init 85 = .ok (.iconst 0, 1) := by decide +kernel
theorem dX1_init_86 : decode cX1_init 86 = .ok (.putfield 47, 3) := by decide +kernel
theorem dX1_init_89 : decode cX1_init 89 = .ok (.aload_n 0, 1) := by decide +kernel
theorem dX1_init_90 : decode cX1_init 90 = .ok (.iconst 0, 1) := by decide +kernel
theorem dX1_init_91 : decode cX1_init 91 = .ok (.putfield 50, 3) := by decide +kernel
theorem dX1_init_94 : decode cX1_init 94 = .ok (.aload_n 0, 1) := by decide +kernel
theorem dX1_init_95 : decode cX1_init 95 = .ok (.iconst (-1), 1) := by decide +kernel
theorem dX1_init_96 : decode cX1_init 96 = .ok (.putfield 53, 3) := by decide +kernel
theorem dX1_init_99 : decode cX1_init 99 = .ok (.aload_n 0, 1) := by decide +kernel
theorem dX1_init_100 : decode cX1_init 100 = .ok (.iconst 0, 1) := by decide +kernel
theorem dX1_init_101 : decode cX1_init 101 = .ok (.putfield 56, 3) := by decide +kernel
theorem dX1_init_104 : decode cX1_init 104 = .ok (.return_, 1) := by decide +kernel
theorem dX1_readRow_0 : decode cX1_readRow 0 = .ok (.aload_n 0, 1) := by decide +kernel
theorem dX1_readRow_1 : decode cX1_readRow 1 = .ok (.iconst 0, 1) := by decide +kernel
theorem dX1_readRow_2 : decode cX1_readRow 2 = .ok (.putfield 43, 3) := by decide +kernel
theorem dX1_readRow_5 : decode cX1_readRow 5 = .ok (.iconst 0, 1) := by decide +kernel
theorem dX1_readRow_6 : decode cX1_readRow 6 = .ok (.istore_n 2, 1) := by decide +kernel
theorem dX1_readRow_7 : decode cX1_readRow 7 = .ok (.aload_n 0, 1) := by decide +kernel
theorem dX1_readRow_8 : decode cX1_readRow 8 = .ok (.getfield 43, 3) := by decide +kernel
theorem dX1_readRow_11 : decode cX1_readRow 11 = .ok (.aload_n 0, 1) := by decide +kernel
theorem dX1_readRow_12 : decode cX1_readRow 12 = .ok (.getfield 12, 3) := by decide +kernel
theorem dX1_readRow_15 : decode cX1_readRow 15 = .ok (.getfield 60, 3) := by decide +kernel
theorem dX1_readRow_18 : decode cX1_readRow 18 = .ok (.if_icmp .ge 75, 3) := by decide +kernel
theorem dX1_readRow_21 : decode cX1_readRow 21 = .ok (.iload_n 2, 1) := by decide +kernel
theorem dX1_readRow_22 : decode cX1_readRow 22 = .ok (.aload_n 1, 1) := by decide +kernel
theorem dX1_readRow_23 : decode cX1_readRow 23 = .ok (.arraylength, 1) := by decide +kernel
theorem dX1_readRow_24 : decode cX1_readRow 24 = .ok (.if_icmp .ge 69, 3) := by decide +kernel
theorem dX1_readRow_27 : decode cX1_readRow 27 = .ok (.aload_n 0, 1) := by decide +kernel
theorem dX1_readRow_28 : decode cX1_readRow 28 = .ok (.invokevirtual 61, 3) := by decide +kernel
theorem dX1_readRow_31 : decode cX1_readRow 31 = .ok (.ifCond .ne 5, 3) := by decide +kernel
theorem dX1_readRow_34 : decode cX1_readRow 34 = .ok (.iconst (-1), 1) := by decide +kernel
theorem dX1_readRow_35 : decode cX1_readRow 35 = .ok (.ireturn, 1) := by decide +kernel
theorem dX1_readRow_36 : decode cX1_readRow 36 = .ok (.aload_n 1, 1) := by decide +kernel
theorem dX1_readRow_37 : decode cX1_readRow 37 = .ok (.iload_n 2, 1) := by decide +kernel
theorem dX1_readRow_38 : decode cX1_readRow 38 = .ok (.aload_n 0, 1) := by decide +kernel
theorem dX1_readRow_39 : decode cX1_readRow 39 = .ok (.getfield 47, 3) := by decide +kernel
theorem dX1_readRow_42 : decode cX1_readRow 42 = .ok (.iastore, 1) := by decide +kernel
theorem dX1_readRow_43 : decode cX1_readRow 43 = .ok (.iinc 2 1, 3) := by decide +kernel
theorem dX1_readRow_46 : decode cX1_readRow 46 = .ok (.aload_n 0, 1) := by decide +kernel
theorem dX1_readRow_47 : decode cX1_readRow 47 = .ok (.getfield 43, 3) := by decide +kernel
theorem dX1_readRow_50 : decode cX1_readRow 50 = .ok (.aload_n 0, 1) := by decide +kernel
theorem dX1_readRow_51 : decode cX1_readRow 51 = .ok (.getfield 12, 3) := by decide +kernel
theorem dX1_readRow_54 : decode cX1_readRow 54 = .ok (.getfield 60, 3) := by decide +kernel
theorem dX1_readRow_57 : decode cX1_readRow 57 = .ok (.if_icmp .ne 5, 3) := by decide +kernel
theorem dX1_readRow_60 : decode cX1_readRow 60 = .ok (.iload_n 2, 1) := by decide +kernel
theorem dX1_readRow_61 : decode cX1_readRow 61 = .ok (.ireturn, 1) := by decide +kernel
theorem dX1_readRow_62 : decode cX1_readRow 62 = .ok (.aload_n 0, 1) := by decide +kernel
theorem dX1_readRow_63 : decode cX1_readRow 63 = .ok (.getfield 12, 3) := by decide +kernel
theorem dX1_readRow_66 : decode cX1_readRow 66 = .ok (.aload_n 0, 1) := by decide +kernel
theorem dX1_readRow_67 : decode cX1_readRow 67 = .ok (.getfield 43, 3) := by decide +kernel
theorem dX1_readRow_70 : decode cX1_readRow 70 = .ok (.invokevirtual 65, 3) := by decide +kernel
theorem dX1_readRow_73 : decode cX1_readRow 73 = .ok (.bipush 44, 2) := by decide +kernel
theorem dX1_readRow_75 : decode cX1_readRow 75 = .ok (.if_icmp .eq 5, 3) := by decide +kernel
theorem dX1_readRow_78 : decode cX1_readRow 78 = .ok (.iconst (-1), 1) := by decide +kernel
theorem dX1_readRow_79 : decode cX1_readRow 79 = .ok (.ireturn, 1) := by decide +kernel
theorem dX1_readRow_80 : decode cX1_readRow 80 = .ok (.aload_n 0, 1) := by decide +kernel
theorem dX1_readRow_81 : decode cX1_readRow 81 = .ok (.dup, 1) := by decide +kernel
theorem dX1_readRow_82 : decode cX1_readRow 82 = .ok (.getfield 43, 3) := by decide +kernel
theorem dX1_readRow_85 : decode cX1_readRow 85 = .ok (.iconst 1, 1) := by decide +kernel
theorem dX1_readRow_86 : decode cX1_readRow 86 = .ok (.iadd, 1) := by decide +kernel
theorem dX1_readRow_87 : decode cX1_readRow 87 = .ok (.putfield 43, 3) := by decide +kernel
theorem dX1_readRow_90 : decode cX1_readRow 90 = .ok (.goto (-83), 3) := by decide +kernel
theorem dX1_readRow_93 : decode cX1_readRow 93 = .ok (.iload_n 2, 1) := by decide +kernel
theorem dX1_readRow_94 : decode cX1_readRow 94 = .ok (.ifCond .ne 7, 3) := by decide +kernel
theorem dX1_readRow_97 : decode cX1_readRow 97 = .ok (.iconst 0, 1) := by decide +kernel
theorem dX1_readRow_98 : decode cX1_readRow 98 = .ok (.goto 4, 3) := by decide +kernel
theorem dX1_readRow_101 : decode cX1_readRow 101 = .ok (.iconst (-1), 1) := by decide +kernel
theorem dX1_readRow_102 : decode cX1_readRow 102 = .ok (.ireturn, 1) := by decide +kernel
theorem dX1_readNumber_0 : decode cX1_readNumber 0 = .ok (.aload_n 0, 1) := by decide +kernel
theorem dX1_readNumber_1 : decode cX1_readNumber 1 = .ok (.getfield 12, 3) := by decide +kernel
theorem dX1_readNumber_4 : decode cX1_readNumber 4 = .ok (.aload_n 0, 1) := by decide +kernel
theorem dX1_readNumber_5 : decode cX1_readNumber 5 = .ok (.getfield 43, 3) := by decide +kernel
theorem dX1_readNumber_8 : decode cX1_readNumber 8 = .ok (.invokevirtual 65, 3) := by decide +kernel
theorem dX1_readNumber_11 : decode cX1_readNumber 11 = .ok (.bipush 45, 2) := by decide +kernel
theorem dX1_readNumber_13 : decode cX1_readNumber 13 = .ok (.if_icmp .ne 7, 3) := by decide +kernel
theorem dX1_readNumber_16 : decode cX1_readNumber 16 = .ok (.iconst 1, 1) := by decide +kernel
theorem dX1_readNumber_17 : decode cX1_readNumber 17 = .ok (.goto 4, 3) := by decide +kernel
theorem dX1_readNumber_20 : decode cX1_readNumber 20 = .ok (.iconst 0, 1) := by decide +kernel
theorem dX1_readNumber_21 : decode cX1_readNumber 21 = .ok (.istore_n 1, 1) := by decide +kernel
theorem dX1_readNumber_22 : decode cX1_readNumber 22 = .ok (.iload_n 1, 1) := by decide +kernel
theorem dX1_readNumber_23 : decode cX1_readNumber 23 = .ok (.ifCond .eq 13, 3) := by decide +kernel
theorem dX1_readNumber_26 : decode cX1_readNumber 26 = .ok (.aload_n 0, 1) := by decide +kernel
theorem dX1_readNumber_27 : decode cX1_readNumber 27 = .ok (.dup, 1) := by decide +kernel
theorem dX1_readNumber_28 : decode cX1_readNumber 28 = .ok (.getfield 43, 3) := by decide +kernel
theorem dX1_readNumber_31 : decode cX1_readNumber 31 = .ok (.iconst 1, 1) := by decide +kernel
theorem dX1_readNumber_32 : decode cX1_readNumber 32 = .ok (.iadd, 1) := by decide +kernel
theorem dX1_readNumber_33 : decode cX1_readNumber 33 = .ok (.putfield 43, 3) := by decide +kernel
theorem dX1_readNumber_36 : decode cX1_readNumber 36 = .ok (.iconst 0, 1) := by decide +kernel
theorem dX1_readNumber_37 : decode cX1_readNumber 37 = .ok (.istore_n 2, 1) := by decide +kernel
theorem dX1_readNumber_38 : decode cX1_readNumber 38 = .ok (.iconst 0, 1) := by decide +kernel
theorem dX1_readNumber_39 : decode cX1_readNumber 39 = .ok (.istore_n 3, 1) := by decide +kernel
theorem dX1_readNumber_40 : decode cX1_readNumber 40 = .ok (.iload_n 2, 1) := by decide +kernel
theorem dX1_readNumber_41 : decode cX1_readNumber 41 = .ok (.iconst 3, 1) := by decide +kernel
theorem dX1_readNumber_42 : decode cX1_readNumber 42 = .ok (.if_icmp .ge 56, 3) := by decide +kernel
theorem dX1_readNumber_45 : decode cX1_readNumber 45 = .ok (.aload_n 0, 1) := by decide +kernel
theorem dX1_readNumber_46 : decode cX1_readNumber 46 = .ok (.getfield 12, 3) := by decide +kernel
theorem dX1_readNumber_49 : decode cX1_readNumber 49 = .ok (.aload_n 0, 1) := by decide +kernel
theorem dX1_readNumber_50 : decode cX1_readNumber 50 = .ok (.getfield 43, 3) := by decide +kernel
theorem dX1_readNumber_53 : decode cX1_readNumber 53 = .ok (.invokevirtual 65, 3) := by decide +kernel
theorem dX1_readNumber_56 : decode cX1_readNumber 56 = .ok (.invokestatic 69, 3) := by decide +kernel
theorem dX1_readNumber_59 : decode cX1_readNumber 59 = .ok (.ifCond .eq 39, 3) := by decide +kernel
theorem dX1_readNumber_62 : decode cX1_readNumber 62 = .ok (.bipush 10, 2) := by decide +kernel
theorem dX1_readNumber_64 : decode cX1_readNumber 64 = .ok (.iload_n 3, 1) := by decide +kernel
theorem dX1_readNumber_65 : decode cX1_readNumber 65 = .ok (.imul, 1) := by decide +kernel
theorem dX1_readNumber_66 : decode cX1_readNumber 66 = .ok (.aload_n 0, 1) := by decide +kernel
theorem dX1_readNumber_67 : decode cX1_readNumber 67 = .ok (.getfield 12, 3) := by decide +kernel
theorem dX1_readNumber_70 : decode cX1_readNumber 70 = .ok (.aload_n 0, 1) := by decide +kernel
theorem dX1_readNumber_71 : decode cX1_readNumber 71 = .ok (.getfield 43, 3) := by decide +kernel
theorem dX1_readNumber_74 : decode cX1_readNumber 74 = .ok (.invokevirtual 65, 3) := by decide +kernel
theorem dX1_readNumber_77 : decode cX1_readNumber 77 = .ok (.iadd, 1) := by decide +kernel
theorem dX1_readNumber_78 : decode cX1_readNumber 78 = .ok (.bipush 48, 2) := by decide +kernel
theorem dX1_readNumber_80 : decode cX1_readNumber 80 = .ok (.isub, 1) := by decide +kernel
theorem dX1_readNumber_81 : decode cX1_readNumber 81 = .ok (.istore_n 3, 1) := by decide +kernel
theorem dX1_readNumber_82 : decode cX1_readNumber 82 = .ok (.iinc 2 1, 3) := by decide +kernel
theorem dX1_readNumber_85 : decode cX1_readNumber 85 = .ok (.aload_n 0, 1) := by decide +kernel
theorem dX1_readNumber_86 : decode cX1_readNumber 86 = .ok (.dup, 1) := by decide +kernel
theorem dX1_readNumber_87 : decode cX1_readNumber 87 = .ok (.getfield 43, 3) := by decide +kernel
theorem dX1_readNumber_90 : decode cX1_readNumber 90 = .ok (.iconst 1, 1) := by decide +kernel
theorem dX1_readNumber_91 : decode cX1_readNumber 91 = .ok (.iadd, 1) := by decide +kernel
theorem dX1_readNumber_92 : decode cX1_readNumber 92 = .ok (.putfield 43, 3) := by decide +kernel
theorem dX1_readNumber_95 : decode cX1_readNumber 95 = .ok (.goto (-55), 3) := by decide +kernel
theorem dX1_readNumber_98 : decode cX1_readNumber 98 = .ok (.aload_n 0, 1) := by decide +kernel
theorem dX1_readNumber_99 : decode cX1_readNumber 99 = .ok (.iload_n 1, 1) := by decide +kernel
theorem dX1_readNumber_100 : decode cX1_readNumber 100 = .ok (.ifCond .eq 8, 3) := by decide +kernel
theorem dX1_readNumber_103 : decode cX1_readNumber 103 = .ok (.iload_n 3, 1) := by decide +kernel
theorem dX1_readNumber_104 : decode cX1_readNumber 104 = .ok (.ineg, 1) := by decide +kernel
theorem dX1_readNumber_105 : decode cX1_readNumber 105 = .ok (.goto 4, 3) := by decide +kernel
theorem dX1_readNumber_108 : decode cX1_readNumber 108 = .ok (.iload_n 3, 1) := by decide +kernel
theorem dX1_readNumber_109 : decode cX1_readNumber 109 = .ok (.putfield 47, 3) := by decide +kernel
theorem dX1_readNumber_112 : decode cX1_readNumber 112 = .ok (.iload_n 2, 1) := by decide +kernel
theorem dX1_readNumber_113 : decode cX1_readNumber 113 = .ok (.ifCond .le 7, 3) := by decide +kernel
theorem dX1_readNumber_116 : decode cX1_readNumber 116 = .ok (.iconst 1, 1) := by decide +kernel
theorem dX1_readNumber_117 : decode cX1_readNumber 117 = .ok (.goto 4, 3) := by decide +kernel
theorem dX1_readNumber_120 : decode cX1_readNumber 120 = .ok (.iconst 0, 1) := by decide +kernel
theorem dX1_readNumber_121 : decode cX1_readNumber 121 = .ok (.ireturn, 1) := by decide +kernel
theorem dX1_isDigit_0 : decode cX1_isDigit 0 = .ok (.iload_n 0, 1) := by decide +kernel
theorem dX1_isDigit_1 : decode cX1_isDigit 1 = .ok (.bipush 48, 2) := by decide +kernel
theorem dX1_isDigit_3 : decode cX1_isDigit 3 = .ok (.if_icmp .lt 13, 3) := by decide +kernel
theorem dX1_isDigit_6 : decode cX1_isDigit 6 = .ok (.iload_n 0, 1) := by decide +kernel
theorem dX1_isDigit_7 : decode cX1_isDigit 7 = .ok (.bipush 57, 2) := by decide +kernel
theorem dX1_isDigit_9 : decode cX1_isDigit 9 = .ok (.if_icmp .gt 7, 3) := by decide +kernel
theorem dX1_isDigit_12 : decode cX1_isDigit 12 = .ok (.iconst 1, 1) := by decide +kernel
theorem dX1_isDigit_13 : decode cX1_isDigit 13 = .ok (.goto 4, 3) := by decide +kernel
theorem dX1_isDigit_16 : decode cX1_isDigit 16 = .ok (.iconst 0, 1) := by decide +kernel
theorem dX1_isDigit_17 : decode cX1_isDigit 17 = .ok (.ireturn, 1) := by decide +kernel
theorem dX1_readTree_0 : decode cX1_readTree 0 = .ok (.aload_n 0, 1) := by decide +kernel
theorem dX1_readTree_1 : decode cX1_readTree 1 = .ok (.iconst 0, 1) := by decide +kernel
theorem dX1_readTree_2 : decode cX1_readTree 2 = .ok (.putfield 43, 3) := by decide +kernel
theorem dX1_readTree_5 : decode cX1_readTree 5 = .ok (.aload_n 0, 1) := by decide +kernel
theorem dX1_readTree_6 : decode cX1_readTree 6 = .ok (.iconst 0, 1) := by decide +kernel
theorem dX1_readTree_7 : decode cX1_readTree 7 = .ok (.putfield 50, 3) := by decide +kernel
theorem dX1_readTree_10 : decode cX1_readTree 10 = .ok (.aload_n 0, 1) := by decide +kernel
theorem dX1_readTree_11 : decode cX1_readTree 11 = .ok (.iconst (-1), 1) := by decide +kernel
theorem dX1_readTree_12 : decode cX1_readTree 12 = .ok (.putfield 53, 3) := by decide +kernel
theorem dX1_readTree_15 : decode cX1_readTree 15 = .ok (.aload_n 0, 1) := by decide +kernel
theorem dX1_readTree_16 : decode cX1_readTree 16 = .ok (.iconst 0, 1) := by decide +kernel
theorem dX1_readTree_17 : decode cX1_readTree 17 = .ok (.putfield 56, 3) := by decide +kernel
theorem dX1_readTree_20 : decode cX1_readTree 20 = .ok (.iconst 0, 1) := by decide +kernel
theorem dX1_readTree_21 : decode cX1_readTree 21 = .ok (.istore_n 1, 1) := by decide +kernel
theorem dX1_readTree_22 : decode cX1_readTree 22 = .ok (.iload_n 1, 1) := by decide +kernel
theorem dX1_readTree_23 : decode cX1_readTree 23 = .ok (.sipush 200, 3) := by decide +kernel
theorem dX1_readTree_26 : decode cX1_readTree 26 = .ok (.if_icmp .gt 25, 3) := by decide +kernel
theorem dX1_readTree_29 : decode cX1_readTree 29 = .ok (.aload_n 0, 1) := by decide +kernel
theorem dX1_readTree_30 : decode cX1_readTree 30 = .ok (.getfield 56, 3) := by decide +kernel
theorem dX1_readTree_33 : decode cX1_readTree 33 = .ok (.ifCond .ne 18, 3) := by decide +kernel
theorem dX1_readTree_36 : decode cX1_readTree 36 = .ok (.aload_n 0, 1) := by decide +kernel
theorem dX1_readTree_37 : decode cX1_readTree 37 = .ok (.invokevirtual 73, 3) := by decide +kernel
theorem dX1_readTree_40 : decode cX1_readTree 40 = .ok (.ifCond .ne 5, 3) := by decide +kernel
theorem dX1_readTree_43 : decode cX1_readTree 43 = .ok (.iconst 0, 1) := by decide +kernel
theorem dX1_readTree_44 : decode cX1_readTree 44 = .ok (.ireturn, 1) := by decide +kernel
theorem dX1_readTree_45 : decode cX1_readTree 45 = .ok (.iinc 1 1, 3) := by decide +kernel
theorem dX1_readTree_48 : decode cX1_readTree 48 = .ok (.goto (-26), 3) := by decide +kernel
theorem dX1_readTree_51 : decode cX1_readTree 51 = .ok (.aload_n 0, 1) := by decide +kernel
theorem dX1_readTree_52 : decode cX1_readTree 52 = .ok (.getfield 56, 3) := by decide +kernel
theorem dX1_readTree_55 : decode cX1_readTree 55 = .ok (.ifCond .eq 21, 3) := by decide +kernel
theorem dX1_readTree_58 : decode cX1_readTree 58 = .ok (.aload_n 0, 1) := by decide +kernel
theorem dX1_readTree_59 : decode cX1_readTree 59 = .ok (.getfield 43, 3) := by decide +kernel
theorem dX1_readTree_62 : decode cX1_readTree 62 = .ok (.aload_n 0, 1) := by decide +kernel
theorem dX1_readTree_63 : decode cX1_readTree 63 = .ok (.getfield 12, 3) := by decide +kernel
theorem dX1_readTree_66 : decode cX1_readTree 66 = .ok (.getfield 60, 3) := by decide +kernel
theorem dX1_readTree_69 : decode cX1_readTree 69 = .ok (.if_icmp .ne 7, 3) := by decide +kernel
theorem dX1_readTree_72 : decode cX1_readTree 72 = .ok (.iconst 1, 1) := by decide +kernel
theorem dX1_readTree_73 : decode cX1_readTree 73 = .ok (.goto 4, 3) := by decide +kernel
theorem dX1_readTree_76 : decode cX1_readTree 76 = .ok (.iconst 0, 1) := by decide +kernel
theorem dX1_readTree_77 : decode cX1_readTree 77 = .ok (.ireturn, 1) := by decide +kernel
theorem dX1_readPart_0 : decode cX1_readPart 0 = .ok (.aload_n 0, 1) := by decide +kernel
theorem dX1_readPart_1 : decode cX1_readPart 1 = .ok (.getfield 12, 3) := by decide +kernel
theorem dX1_readPart_4 : decode cX1_readPart 4 = .ok (.aload_n 0, 1) := by decide +kernel
theorem dX1_readPart_5 : decode cX1_readPart 5 = .ok (.getfield 43, 3) := by decide +kernel
theorem dX1_readPart_8 : decode cX1_readPart 8 = .ok (.invokevirtual 65, 3) := by decide +kernel
theorem dX1_readPart_11 : decode cX1_readPart 11 = .ok (.istore_n 1, 1) := by decide +kernel
theorem dX1_readPart_12 : decode cX1_readPart 12 = .ok (.aload_n 0, 1) := by decide +kernel
theorem dX1_readPart_13 : decode cX1_readPart 13 = .ok (.getfield 53, 3) := by decide +kernel
theorem dX1_readPart_16 : decode cX1_readPart 16 = .ok (.iconst (-1), 1) := by decide +kernel
theorem dX1_readPart_17 : decode cX1_readPart 17 = .ok (.if_icmp .eq 35, 3) := by decide +kernel
theorem dX1_readPart_20 : decode cX1_readPart 20 = .ok (.aload_n 0, 1) := by decide +kernel
theorem dX1_readPart_21 : decode cX1_readPart 21 = .ok (.getfield 31, 3) := by decide +kernel
theorem dX1_readPart_24 : decode cX1_readPart 24 = .ok (.aload_n 0, 1) := by decide +kernel
theorem dX1_readPart_25 : decode cX1_readPart 25 = .ok (.getfield 53, 3) := by decide +kernel
theorem dX1_readPart_28 : decode cX1_readPart 28 = .ok (.iaload, 1) := by decide +kernel
theorem dX1_readPart_29 : decode cX1_readPart 29 = .ok (.iconst 2, 1) := by decide +kernel
theorem dX1_readPart_30 : decode cX1_readPart 30 = .ok (.if_icmp .ne 22, 3) := by decide +kernel
theorem dX1_readPart_33 : decode cX1_readPart 33 = .ok (.iload_n 1, 1) := by decide +kernel
theorem dX1_readPart_34 : decode cX1_readPart 34 = .ok (.bipush 41, 2) := by decide +kernel
theorem dX1_readPart_36 : decode cX1_readPart 36 = .ok (.if_icmp .ne 14, 3) := by decide +kernel
theorem dX1_readPart_39 : decode cX1_readPart 39 = .ok (.aload_n 0, 1) := by decide +kernel
theorem dX1_readPart_40 : decode cX1_readPart 40 = .ok (.invokevirtual 76, 3) := by decide +kernel
theorem dX1_readPart_43 : decode cX1_readPart 43 = .ok (.ifCond .eq 7, 3) := by decide +kernel
theorem dX1_readPart_46 : decode cX1_readPart 46 = .ok (.iconst 1, 1) := by decide +kernel
theorem dX1_readPart_47 : decode cX1_readPart 47 = .ok (.goto 4, 3) := by decide +kernel
theorem dX1_readPart_50 : decode cX1_readPart 50 = .ok (.iconst 0, 1) := by decide +kernel
theorem dX1_readPart_51 : decode cX1_readPart 51 = .ok (.ireturn, 1) := by decide +kernel
theorem dX1_readPart_52 : decode cX1_readPart 52 = .ok (.iload_n 1, 1) := by decide +kernel
theorem dX1_readPart_53 : decode cX1_readPart 53 = .ok (.bipush 46, 2) := by decide +kernel
theorem dX1_readPart_55 : decode cX1_readPart 55 = .ok (.if_icmp .ne 20, 3) := by decide +kernel
theorem dX1_readPart_58 : decode cX1_readPart 58 = .ok (.aload_n 0, 1) := by decide +kernel
theorem dX1_readPart_59 : decode cX1_readPart 59 = .ok (.dup, 1) := by decide +kernel
theorem dX1_readPart_60 : decode cX1_readPart 60 = .ok (.getfield 43, 3) := by decide +kernel
theorem dX1_readPart_63 : decode cX1_readPart 63 = .ok (.iconst 1, 1) := by decide +kernel
theorem dX1_readPart_64 : decode cX1_readPart 64 = .ok (.iadd, 1) := by decide +kernel
theorem dX1_readPart_65 : decode cX1_readPart 65 = .ok (.putfield 43, 3) := by decide +kernel
theorem dX1_readPart_68 : decode cX1_readPart 68 = .ok (.aload_n 0, 1) := by decide +kernel
theorem dX1_readPart_69 : decode cX1_readPart 69 = .ok (.iconst 0, 1) := by decide +kernel
theorem dX1_readPart_70 : decode cX1_readPart 70 = .ok (.invokevirtual 79, 3) := by decide +kernel
theorem dX1_readPart_73 : decode cX1_readPart 73 = .ok (.iconst 1, 1) := by decide +kernel
theorem dX1_readPart_74 : decode cX1_readPart 74 = .ok (.ireturn, 1) := by decide +kernel
theorem dX1_readPart_75 : decode cX1_readPart 75 = .ok (.iload_n 1, 1) := by decide +kernel
theorem dX1_readPart_76 : decode cX1_readPart 76 = .ok (.bipush 40, 2) := by decide +kernel
theorem dX1_readPart_78 : decode cX1_readPart 78 = .ok (.if_icmp .ne 14, 3) := by decide +kernel
theorem dX1_readPart_81 : decode cX1_readPart 81 = .ok (.aload_n 0, 1) := by decide +kernel
theorem dX1_readPart_82 : decode cX1_readPart 82 = .ok (.invokevirtual 83, 3) := by decide +kernel
theorem dX1_readPart_85 : decode cX1_readPart 85 = .ok (.ifCond .eq 7, 3) := by decide +kernel
theorem dX1_readPart_88 : decode cX1_readPart 88 = .ok (.iconst 1, 1) := by decide +kernel
theorem dX1_readPart_89 : decode cX1_readPart 89 = .ok (.goto 4, 3) := by decide +kernel
theorem dX1_readPart_92 : decode cX1_readPart 92 = .ok (.iconst 0, 1) := by decide +kernel
theorem dX1_readPart_93 : decode cX1_readPart 93 = .ok (.ireturn, 1) := by decide +kernel
theorem dX1_openNode_0 : decode cX1_openNode 0 = .ok (.aload_n 0, 1) := by decide +kernel
theorem dX1_openNode_1 : decode cX1_openNode 1 = .ok (.getfield 43, 3) := by decide +kernel
theorem dX1_openNode_4 : decode cX1_openNode 4 = .ok (.istore_n 1, 1) := by decide +kernel
theorem dX1_openNode_5 : decode cX1_openNode 5 = .ok (.aload_n 0, 1) := by decide +kernel
theorem dX1_openNode_6 : decode cX1_openNode 6 = .ok (.dup, 1) := by decide +kernel
theorem dX1_openNode_7 : decode cX1_openNode 7 = .ok (.getfield 43, 3) := by decide +kernel
theorem dX1_openNode_10 : decode cX1_openNode 10 = .ok (.iconst 1, 1) := by decide +kernel
theorem dX1_openNode_11 : decode cX1_openNode 11 = .ok (.iadd, 1) := by decide +kernel
theorem dX1_openNode_12 : decode cX1_openNode 12 = .ok (.putfield 43, 3) := by decide +kernel
theorem dX1_openNode_15 : decode cX1_openNode 15 = .ok (.aload_n 0, 1) := by decide +kernel
theorem dX1_openNode_16 : decode cX1_openNode 16 = .ok (.invokevirtual 61, 3) := by decide +kernel
theorem dX1_openNode_19 : decode cX1_openNode 19 = .ok (.ifCond .eq 12, 3) := by decide +kernel
theorem dX1_openNode_22 : decode cX1_openNode 22 = .ok (.aload_n 0, 1) := by decide +kernel
theorem dX1_openNode_23 : decode cX1_openNode 23 = .ok (.getfield 50, 3) := by decide +kernel
theorem dX1_openNode_26 : decode cX1_openNode 26 = .ok (.bipush 100, 2) := by decide +kernel
theorem dX1_openNode_28 : decode cX1_openNode 28 = .ok (.if_icmp .lt 5, 3) := by decide +kernel
theorem dX1_openNode_31 : decode cX1_openNode 31 = .ok (.iconst 0, 1) := by decide +kernel
theorem dX1_openNode_32 : decode cX1_openNode 32 = .ok (.ireturn, 1) := by decide +kernel
theorem dX1_openNode_33 : decode cX1_openNode 33 = .ok (.aload_n 0, 1) := by decide +kernel
theorem dX1_openNode_34 : decode cX1_openNode 34 = .ok (.getfield 18, 3) := by decide +kernel
theorem dX1_openNode_37 : decode cX1_openNode 37 = .ok (.aload_n 0, 1) := by decide +kernel
theorem dX1_openNode_38 : decode cX1_openNode 38 = .ok (.getfield 50, 3) := by decide +kernel
theorem dX1_openNode_41 : decode cX1_openNode 41 = .ok (.iload_n 1, 1) := by decide +kernel
theorem dX1_openNode_42 : decode cX1_openNode 42 = .ok (.iastore, 1) := by decide +kernel
theorem dX1_openNode_43 : decode cX1_openNode 43 = .ok (.aload_n 0, 1) := by decide +kernel
theorem dX1_openNode_44 : decode cX1_openNode 44 = .ok (.getfield 22, 3) := by decide +kernel
theorem dX1_openNode_47 : decode cX1_openNode 47 = .ok (.aload_n 0, 1) := by decide +kernel
theorem dX1_openNode_48 : decode cX1_openNode 48 = .ok (.getfield 50, 3) := by decide +kernel
theorem dX1_openNode_51 : decode cX1_openNode 51 = .ok (.aload_n 0, 1) := by decide +kernel
theorem dX1_openNode_52 : decode cX1_openNode 52 = .ok (.getfield 47, 3) := by decide +kernel
theorem dX1_openNode_55 : decode cX1_openNode 55 = .ok (.iastore, 1) := by decide +kernel
theorem dX1_openNode_56 : decode cX1_openNode 56 = .ok (.aload_n 0, 1) := by decide +kernel
theorem dX1_openNode_57 : decode cX1_openNode 57 = .ok (.getfield 25, 3) := by decide +kernel
theorem dX1_openNode_60 : decode cX1_openNode 60 = .ok (.aload_n 0, 1) := by decide +kernel
theorem dX1_openNode_61 : decode cX1_openNode 61 = .ok (.getfield 50, 3) := by decide +kernel
theorem dX1_openNode_64 : decode cX1_openNode 64 = .ok (.aload_n 0, 1) := by decide +kernel
theorem dX1_openNode_65 : decode cX1_openNode 65 = .ok (.getfield 53, 3) := by decide +kernel
theorem dX1_openNode_68 : decode cX1_openNode 68 = .ok (.iastore, 1) := by decide +kernel
theorem dX1_openNode_69 : decode cX1_openNode 69 = .ok (.aload_n 0, 1) := by decide +kernel
theorem dX1_openNode_70 : decode cX1_openNode 70 = .ok (.getfield 28, 3) := by decide +kernel
theorem dX1_openNode_73 : decode cX1_openNode 73 = .ok (.aload_n 0, 1) := by decide +kernel
theorem dX1_openNode_74 : decode cX1_openNode 74 = .ok (.getfield 50, 3) := by decide +kernel
theorem dX1_openNode_77 : decode cX1_openNode 77 = .ok (.aload_n 0, 1) := by decide +kernel
theorem dX1_openNode_78 : decode cX1_openNode 78 = .ok (.getfield 53, 3) := by decide +kernel
theorem dX1_openNode_81 : decode cX1_openNode 81 = .ok (.iconst (-1), 1) := by decide +kernel
theorem dX1_openNode_82 : decode cX1_openNode 82 = .ok (.if_icmp .ne 7, 3) := by decide +kernel
theorem dX1_openNode_85 : decode cX1_openNode 85 = .ok (.iconst 0, 1) := by decide +kernel
theorem dX1_openNode_86 : decode cX1_openNode 86 = .ok (.goto 12, 3) := by decide +kernel
theorem dX1_openNode_89 : decode cX1_openNode 89 = .ok (.aload_n 0, 1) := by decide +kernel
theorem dX1_openNode_90 : decode cX1_openNode 90 = .ok (.getfield 31, 3) := by decide +kernel
theorem dX1_openNode_93 : decode cX1_openNode 93 = .ok (.aload_n 0, 1) := by decide +kernel
theorem dX1_openNode_94 : decode cX1_openNode 94 = .ok (.getfield 53, 3) := by decide +kernel
theorem dX1_openNode_97 : decode cX1_openNode 97 = .ok (.iaload, 1) := by decide +kernel
theorem dX1_openNode_98 : decode cX1_openNode 98 = .ok (.iastore, 1) := by decide +kernel
theorem dX1_openNode_99 : decode cX1_openNode 99 = .ok (.aload_n 0, 1) := by decide +kernel
theorem dX1_openNode_100 : decode cX1_openNode 100 = .ok (.getfield 31, 3) := by decide +kernel
theorem dX1_openNode_103 : decode cX1_openNode 103 = .ok (.aload_n 0, 1) := by decide +kernel
theorem dX1_openNode_104 : decode cX1_openNode 104 = .ok (.getfield 50, 3) := by decide +kernel
theorem dX1_openNode_107 : decode cX1_openNode 107 = .ok (.iconst 0, 1) := by decide +kernel
theorem dX1_openNode_108 : decode cX1_openNode 108 = .ok (.iastore, 1) := by decide +kernel
theorem dX1_openNode_109 : decode cX1_openNode 109 = .ok (.aload_n 0, 1) := by decide +kernel
theorem dX1_openNode_110 : decode cX1_openNode 110 = .ok (.aload_n 0, 1) := by decide +kernel
theorem dX1_openNode_111 : decode cX1_openNode 111 = .ok (.getfield 50, 3) := by decide +kernel
theorem dX1_openNode_114 : decode cX1_openNode 114 = .ok (.putfield 53, 3) := by decide +kernel
theorem dX1_openNode_117 : decode cX1_openNode 117 = .ok (.aload_n 0, 1) := by decide +kernel
theorem dX1_openNode_118 : decode cX1_openNode 118 = .ok (.dup, 1) := by decide +kernel
theorem dX1_openNode_119 : decode cX1_openNode 119 = .ok (.getfield 50, 3) := by decide +kernel
theorem dX1_openNode_122 : decode cX1_openNode 122 = .ok (.iconst 1, 1) := by decide +kernel
theorem dX1_openNode_123 : decode cX1_openNode 123 = .ok (.iadd, 1) := by decide +kernel
theorem dX1_openNode_124 : decode cX1_openNode 124 = .ok (.putfield 50, 3) := by decide +kernel
theorem dX1_openNode_127 : decode cX1_openNode 127 = .ok (.iconst 1, 1) := by decide +kernel
theorem dX1_openNode_128 : decode cX1_openNode 128 = .ok (.ireturn, 1) := by decide +kernel
theorem dX1_close_0 : decode cX1_close 0 = .ok (.aload_n 0, 1) := by decide +kernel
theorem dX1_close_1 : decode cX1_close 1 = .ok (.dup, 1) := by decide +kernel
theorem dX1_close_2 : decode cX1_close 2 = .ok (.getfield 43, 3) := by decide +kernel
theorem dX1_close_5 : decode cX1_close 5 = .ok (.iconst 1, 1) := by decide +kernel
theorem dX1_close_6 : decode cX1_close 6 = .ok (.iadd, 1) := by decide +kernel
theorem dX1_close_7 : decode cX1_close 7 = .ok (.putfield 43, 3) := by decide +kernel
theorem dX1_close_10 : decode cX1_close 10 = .ok (.iconst 1, 1) := by decide +kernel
theorem dX1_close_11 : decode cX1_close 11 = .ok (.aload_n 0, 1) := by decide +kernel
theorem dX1_close_12 : decode cX1_close 12 = .ok (.getfield 34, 3) := by decide +kernel
theorem dX1_close_15 : decode cX1_close 15 = .ok (.aload_n 0, 1) := by decide +kernel
theorem dX1_close_16 : decode cX1_close 16 = .ok (.getfield 53, 3) := by decide +kernel
theorem dX1_close_19 : decode cX1_close 19 = .ok (.iaload, 1) := by decide +kernel
theorem dX1_close_20 : decode cX1_close 20 = .ok (.iadd, 1) := by decide +kernel
theorem dX1_close_21 : decode cX1_close 21 = .ok (.aload_n 0, 1) := by decide +kernel
theorem dX1_close_22 : decode cX1_close 22 = .ok (.getfield 37, 3) := by decide +kernel
theorem dX1_close_25 : decode cX1_close 25 = .ok (.aload_n 0, 1) := by decide +kernel
theorem dX1_close_26 : decode cX1_close 26 = .ok (.getfield 53, 3) := by decide +kernel
theorem dX1_close_29 : decode cX1_close 29 = .ok (.iaload, 1) := by decide +kernel
theorem dX1_close_30 : decode cX1_close 30 = .ok (.iadd, 1) := by decide +kernel
theorem dX1_close_31 : decode cX1_close 31 = .ok (.istore_n 1, 1) := by decide +kernel
theorem dX1_close_32 : decode cX1_close 32 = .ok (.aload_n 0, 1) := by decide +kernel
theorem dX1_close_33 : decode cX1_close 33 = .ok (.aload_n 0, 1) := by decide +kernel
theorem dX1_close_34 : decode cX1_close 34 = .ok (.getfield 25, 3) := by decide +kernel
theorem dX1_close_37 : decode cX1_close 37 = .ok (.aload_n 0, 1) := by decide +kernel
theorem dX1_close_38 : decode cX1_close 38 = .ok (.getfield 53, 3) := by decide +kernel
theorem dX1_close_41 : decode cX1_close 41 = .ok (.iaload, 1) := by decide +kernel
theorem dX1_close_42 : decode cX1_close 42 = .ok (.putfield 53, 3) := by decide +kernel
theorem dX1_close_45 : decode cX1_close 45 = .ok (.aload_n 0, 1) := by decide +kernel
theorem dX1_close_46 : decode cX1_close 46 = .ok (.iload_n 1, 1) := by decide +kernel
theorem dX1_close_47 : decode cX1_close 47 = .ok (.invokevirtual 79, 3) := by decide +kernel
theorem dX1_close_50 : decode cX1_close 50 = .ok (.iconst 1, 1) := by decide +kernel
theorem dX1_close_51 : decode cX1_close 51 = .ok (.ireturn, 1) := by decide +kernel
theorem dX1_settle_0 : decode cX1_settle 0 = .ok (.aload_n 0, 1) := by decide +kernel
theorem dX1_settle_1 : decode cX1_settle 1 = .ok (.getfield 53, 3) := by decide +kernel
theorem dX1_settle_4 : decode cX1_settle 4 = .ok (.iconst (-1), 1) := by decide +kernel
theorem dX1_settle_5 : decode cX1_settle 5 = .ok (.if_icmp .ne 9, 3) := by decide +kernel
theorem dX1_settle_8 : decode cX1_settle 8 = .ok (.aload_n 0, 1) := by decide +kernel
theorem dX1_settle_9 : decode cX1_settle 9 = .ok (.iconst 1, 1) := by decide +kernel
theorem dX1_settle_10 : decode cX1_settle 10 = .ok (.putfield 56, 3) := by decide +kernel
theorem dX1_settle_13 : decode cX1_settle 13 = .ok (.return_, 1) := by decide +kernel
theorem dX1_settle_14 : decode cX1_settle 14 = .ok (.aload_n 0, 1) := by decide +kernel
theorem dX1_settle_15 : decode cX1_settle 15 = .ok (.getfield 31, 3) := by decide +kernel
theorem dX1_settle_18 : decode cX1_settle 18 = .ok (.aload_n 0, 1) := by decide +kernel
theorem dX1_settle_19 : decode cX1_settle 19 = .ok (.getfield 53, 3) := by decide +kernel
theorem dX1_settle_22 : decode cX1_settle 22 = .ok (.iaload, 1) := by decide +kernel
theorem dX1_settle_23 : decode cX1_settle 23 = .ok (.ifCond .ne 16, 3) := by decide +kernel
theorem dX1_settle_26 : decode cX1_settle 26 = .ok (.aload_n 0, 1) := by decide +kernel
theorem dX1_settle_27 : decode cX1_settle 27 = .ok (.getfield 34, 3) := by decide +kernel
theorem dX1_settle_30 : decode cX1_settle 30 = .ok (.aload_n 0, 1) := by decide +kernel
theorem dX1_settle_31 : decode cX1_settle 31 = .ok (.getfield 53, 3) := by decide +kernel
theorem dX1_settle_34 : decode cX1_settle 34 = .ok (.iload_n 1, 1) := by decide +kernel
theorem dX1_settle_35 : decode cX1_settle 35 = .ok (.iastore, 1) := by decide +kernel
theorem dX1_settle_36 : decode cX1_settle 36 = .ok (.goto 13, 3) := by decide +kernel
theorem dX1_settle_39 : decode cX1_settle 39 = .ok (.aload_n 0, 1) := by decide +kernel
theorem dX1_settle_40 : decode cX1_settle 40 = .ok (.getfield 37, 3) := by decide +kernel
theorem dX1_settle_43 : decode cX1_settle 43 = .ok (.aload_n 0, 1) := by decide +kernel
theorem dX1_settle_44 : decode cX1_settle 44 = .ok (.getfield 53, 3) := by decide +kernel
theorem dX1_settle_47 : decode cX1_settle 47 = .ok (.iload_n 1, 1) := by decide +kernel
theorem dX1_settle_48 : decode cX1_settle 48 = .ok (.iastore, 1) := by decide +kernel
theorem dX1_settle_49 : decode cX1_settle 49 = .ok (.aload_n 0, 1) := by decide +kernel
theorem dX1_settle_50 : decode cX1_settle 50 = .ok (.getfield 31, 3) := by decide +kernel
theorem dX1_settle_53 : decode cX1_settle 53 = .ok (.aload_n 0, 1) := by decide +kernel
theorem dX1_settle_54 : decode cX1_settle 54 = .ok (.getfield 53, 3) := by decide +kernel
theorem dX1_settle_57 : decode cX1_settle 57 = .ok (.dup2, 1) := by decide +kernel
theorem dX1_settle_58 : decode cX1_settle 58 = .ok (.iaload, 1) := by decide +kernel
theorem dX1_settle_59 : decode cX1_settle 59 = .ok (.iconst 1, 1) := by decide +kernel
theorem dX1_settle_60 : decode cX1_settle 60 = .ok (.iadd, 1) := by decide +kernel
theorem dX1_settle_61 : decode cX1_settle 61 = .ok (.iastore, 1) := by decide +kernel
theorem dX1_settle_62 : decode cX1_settle 62 = .ok (.return_, 1) := by decide +kernel
theorem dX1_firstUneven_0 : decode cX1_firstUneven 0 = .ok (.iconst 0, 1) := by decide +kernel
theorem dX1_firstUneven_1 : decode cX1_firstUneven 1 = .ok (.istore_n 1, 1) := by decide +kernel
theorem dX1_firstUneven_2 : decode cX1_firstUneven 2 = .ok (.iload_n 1, 1) := by decide +kernel
theorem dX1_firstUneven_3 : decode cX1_firstUneven 3 = .ok (.aload_n 0, 1) := by decide +kernel
theorem dX1_firstUneven_4 : decode cX1_firstUneven 4 = .ok (.getfield 50, 3) := by decide +kernel
theorem dX1_firstUneven_7 : decode cX1_firstUneven 7 = .ok (.if_icmp .ge 29, 3) := by decide +kernel
theorem dX1_firstUneven_10 : decode cX1_firstUneven 10 = .ok (.aload_n 0, 1) := by decide +kernel
theorem dX1_firstUneven_11 : decode cX1_firstUneven 11 = .ok (.getfield 34, 3) := by decide +kernel
theorem dX1_firstUneven_14 : decode cX1_firstUneven 14 = .ok (.iload_n 1, 1) := by decide +kernel
theorem dX1_firstUneven_15 : decode cX1_firstUneven 15 = .ok (.iaload, 1) := by decide +kernel
theorem dX1_firstUneven_16 : decode cX1_firstUneven 16 = .ok (.aload_n 0, 1) := by decide +kernel
theorem dX1_firstUneven_17 : decode cX1_firstUneven 17 = .ok (.getfield 37, 3) := by decide +kernel
theorem dX1_firstUneven_20 : decode cX1_firstUneven 20 = .ok (.iload_n 1, 1) := by decide +kernel
theorem dX1_firstUneven_21 : decode cX1_firstUneven 21 = .ok (.iaload, 1) := by decide +kernel
theorem dX1_firstUneven_22 : decode cX1_firstUneven 22 = .ok (.invokestatic 86, 3) := by decide +kernel
theorem dX1_firstUneven_25 : decode cX1_firstUneven 25 = .ok (.ifCond .ne 5, 3) := by decide +kernel
theorem dX1_firstUneven_28 : decode cX1_firstUneven 28 = .ok (.iload_n 1, 1) := by decide +kernel
theorem dX1_firstUneven_29 : decode cX1_firstUneven 29 = .ok (.ireturn, 1) := by decide +kernel
theorem dX1_firstUneven_30 : decode cX1_firstUneven 30 = .ok (.iinc 1 1, 3) := by decide +kernel
theorem dX1_firstUneven_33 : decode cX1_firstUneven 33 = .ok (.goto (-31), 3) := by decide +kernel
theorem dX1_firstUneven_36 : decode cX1_firstUneven 36 = .ok (.iconst (-1), 1) := by decide +kernel
theorem dX1_firstUneven_37 : decode cX1_firstUneven 37 = .ok (.ireturn, 1) := by decide +kernel
theorem dX1_numbersByIndex_0 : decode cX1_numbersByIndex 0 = .ok (.iconst 0, 1) := by decide +kernel
theorem dX1_numbersByIndex_1 : decode cX1_numbersByIndex 1 = .ok (.istore_n 2, 1) := by decide +kernel
theorem dX1_numbersByIndex_2 : decode cX1_numbersByIndex 2 = .ok (.iload_n 2, 1) := by decide +kernel
theorem dX1_numbersByIndex_3 : decode cX1_numbersByIndex 3 = .ok (.aload_n 0, 1) := by decide +kernel
theorem dX1_numbersByIndex_4 : decode cX1_numbersByIndex 4 = .ok (.getfield 50, 3) := by decide +kernel
theorem dX1_numbersByIndex_7 : decode cX1_numbersByIndex 7 = .ok (.if_icmp .ge 85, 3) := by decide +kernel
theorem dX1_numbersByIndex_10 : decode cX1_numbersByIndex 10 = .ok (.aload_n 0, 1) := by decide +kernel
theorem dX1_numbersByIndex_11 : decode cX1_numbersByIndex 11 = .ok (.getfield 25, 3) := by decide +kernel
theorem dX1_numbersByIndex_14 : decode cX1_numbersByIndex 14 = .ok (.iload_n 2, 1) := by decide +kernel
theorem dX1_numbersByIndex_15 : decode cX1_numbersByIndex 15 = .ok (.iaload, 1) := by decide +kernel
theorem dX1_numbersByIndex_16 : decode cX1_numbersByIndex 16 = .ok (.istore_n 3, 1) := by decide +kernel
theorem dX1_numbersByIndex_17 : decode cX1_numbersByIndex 17 = .ok (.iconst 0, 1) := by decide +kernel
theorem dX1_numbersByIndex_18 : decode cX1_numbersByIndex 18 = .ok (.istore 4, 2) := by decide +kernel
theorem dX1_numbersByIndex_20 : decode cX1_numbersByIndex 20 = .ok (.iload_n 3, 1) := by decide +kernel
theorem dX1_numbersByIndex_21 : decode cX1_numbersByIndex 21 = .ok (.ifCond .lt 35, 3) := by decide +kernel
theorem dX1_numbersByIndex_24 : decode cX1_numbersByIndex 24 = .ok (.iload_n 3, 1) := by decide +kernel
theorem dX1_numbersByIndex_25 : decode cX1_numbersByIndex 25 = .ok (.iload_n 2, 1) := by decide +kernel
theorem dX1_numbersByIndex_26 : decode cX1_numbersByIndex 26 = .ok (.if_icmp .ge 30, 3) := by decide +kernel
theorem dX1_numbersByIndex_29 : decode cX1_numbersByIndex 29 = .ok (.aload_n 0, 1) := by decide +kernel
theorem dX1_numbersByIndex_30 : decode cX1_numbersByIndex 30 = .ok (.getfield 40, 3) := by decide +kernel
theorem dX1_numbersByIndex_33 : decode cX1_numbersByIndex 33 = .ok (.iload_n 3, 1) := by decide +kernel
theorem dX1_numbersByIndex_34 : decode cX1_numbersByIndex 34 = .ok (.iaload, 1) := by decide +kernel
theorem dX1_numbersByIndex_35 : decode cX1_numbersByIndex 35 = .ok (.iconst 1, 1) := by decide +kernel
theorem dX1_numbersByIndex_36 : decode cX1_numbersByIndex 36 = .ok (.aload_n 0, 1) := by decide +kernel
theorem dX1_numbersByIndex_37 : decode cX1_numbersByIndex 37 = .ok (.getfield 28, 3) := by decide +kernel
theorem dX1_numbersByIndex_40 : decode cX1_numbersByIndex 40 = .ok (.iload_n 2, 1) := by decide +kernel
theorem dX1_numbersByIndex_41 : decode cX1_numbersByIndex 41 = .ok (.iaload, 1) := by decide +kernel
theorem dX1_numbersByIndex_42 : decode cX1_numbersByIndex 42 = .ok (.iadd, 1) := by decide +kernel
theorem dX1_numbersByIndex_43 : decode cX1_numbersByIndex 43 = .ok (.aload_n 0, 1) := by decide +kernel
theorem dX1_numbersByIndex_44 : decode cX1_numbersByIndex 44 = .ok (.getfield 40, 3) := by decide +kernel
theorem dX1_numbersByIndex_47 : decode cX1_numbersByIndex 47 = .ok (.iload_n 3, 1) := by decide +kernel
theorem dX1_numbersByIndex_48 : decode cX1_numbersByIndex 48 = .ok (.iaload, 1) := by decide +kernel
theorem dX1_numbersByIndex_49 : decode cX1_numbersByIndex 49 = .ok (.invokestatic 92, 3) := by decide +kernel
theorem dX1_numbersByIndex_52 : decode cX1_numbersByIndex 52 = .ok (.imul, 1) := by decide +kernel
theorem dX1_numbersByIndex_53 : decode cX1_numbersByIndex 53 = .ok (.iadd, 1) := by decide +kernel
theorem dX1_numbersByIndex_54 : decode cX1_numbersByIndex 54 = .ok (.istore 4, 2) := by decide +kernel
theorem dX1_numbersByIndex_56 : decode cX1_numbersByIndex 56 = .ok (.aload_n 0, 1) := by decide +kernel
theorem dX1_numbersByIndex_57 : decode cX1_numbersByIndex 57 = .ok (.getfield 40, 3) := by decide +kernel
theorem dX1_numbersByIndex_60 : decode cX1_numbersByIndex 60 = .ok (.iload_n 2, 1) := by decide +kernel
theorem dX1_numbersByIndex_61 : decode cX1_numbersByIndex 61 = .ok (.iload 4, 2) := by decide +kernel
theorem dX1_numbersByIndex_63 : decode cX1_numbersByIndex 63 = .ok (.iastore, 1) := by decide +kernel
theorem dX1_numbersByIndex_64 : decode cX1_numbersByIndex 64 = .ok (.iload 4, 2) := by decide +kernel
theorem dX1_numbersByIndex_66 : decode cX1_numbersByIndex 66 = .ok (.ifCond .lt 20, 3) := by decide +kernel
theorem dX1_numbersByIndex_69 : decode cX1_numbersByIndex 69 = .ok (.iload 4, 2) := by decide +kernel
theorem dX1_numbersByIndex_71 : decode cX1_numbersByIndex 71 = .ok (.aload_n 1, 1) := by decide +kernel
theorem dX1_numbersByIndex_72 : decode cX1_numbersByIndex 72 = .ok (.arraylength, 1) := by decide +kernel
theorem dX1_numbersByIndex_73 : decode cX1_numbersByIndex 73 = .ok (.if_icmp .ge 13, 3) := by decide +kernel
theorem dX1_numbersByIndex_76 : decode cX1_numbersByIndex 76 = .ok (.aload_n 1, 1) := by decide +kernel
theorem dX1_numbersByIndex_77 : decode cX1_numbersByIndex 77 = .ok (.iload 4, 2) := by decide +kernel
theorem dX1_numbersByIndex_79 : decode cX1_numbersByIndex 79 = .ok (.aload_n 0, 1) := by decide +kernel
theorem dX1_numbersByIndex_80 : decode cX1_numbersByIndex 80 = .ok (.getfield 22, 3) := by decide +kernel
theorem dX1_numbersByIndex_83 : decode cX1_numbersByIndex 83 = .ok (.iload_n 2, 1) := by decide +kernel
theorem dX1_numbersByIndex_84 : decode cX1_numbersByIndex 84 = .ok (.iaload, 1) := by decide +kernel
theorem dX1_numbersByIndex_85 : decode cX1_numbersByIndex 85 = .ok (.iastore, 1) := by decide +kernel
theorem dX1_numbersByIndex_86 : decode cX1_numbersByIndex 86 = .ok (.iinc 2 1, 3) := by decide +kernel
theorem dX1_numbersByIndex_89 : decode cX1_numbersByIndex 89 = .ok (.goto (-87), 3) := by decide +kernel
theorem dX1_numbersByIndex_92 : decode cX1_numbersByIndex 92 = .ok (.aload_n 0, 1) := by decide +kernel
theorem dX1_numbersByIndex_93 : decode cX1_numbersByIndex 93 = .ok (.getfield 50, 3) := by decide +kernel
theorem dX1_numbersByIndex_96 : decode cX1_numbersByIndex 96 = .ok (.ireturn, 1) := by decide +kernel
theorem dX2_init_0 : decode cX2_init 0 = .ok (.aload_n 0, 1) := by decide +kernel
theorem dX2_init_1 : decode cX2_init 1 = .ok (.invokespecial 3, 3) := by decide +kernel
theorem dX2_init_4 : decode cX2_init 4 = .ok (.aload_n 0, 1) := by decide +kernel
theorem dX2_init_5 : decode cX2_init 5 = .ok (.bipush 16, 2) := by decide +kernel
theorem dX2_init_7 : decode cX2_init 7 = .ok (.newarray .long, 2) := by decide +kernel
theorem dX2_init_9 : decode cX2_init 9 = .ok (.putfield 9, 3) := by decide +kernel
theorem dX2_init_12 : decode cX2_init 12 = .ok (.aload_n 0, 1) := by decide +kernel
theorem dX2_init_13 : decode cX2_init 13 = .ok (.iconst 0, 1) := by decide +kernel
theorem dX2_init_14 : decode cX2_init 14 = .ok (.putfield 15, 3) := by decide +kernel
theorem dX2_init_17 : decode cX2_init 17 = .ok (.return_, 1) := by decide +kernel
theorem dX2_clear_0 : decode cX2_clear 0 = .ok (.aload_n 0, 1) := by decide +kernel
theorem dX2_clear_1 : decode cX2_clear 1 = .ok (.iconst 0, 1) := by decide +kernel
theorem dX2_clear_2 : decode cX2_clear 2 = .ok (.putfield 15, 3) := by decide +kernel
theorem dX2_clear_5 : decode cX2_clear 5 = .ok (.return_, 1) := by decide +kernel
theorem dX2_add_0 : decode cX2_add 0 = .ok (.aload_n 0, 1) := by decide +kernel
theorem dX2_add_1 : decode cX2_add 1 = .ok (.getfield 15, 3) := by decide +kernel
theorem dX2_add_4 : decode cX2_add 4 = .ok (.aload_n 0, 1) := by decide +kernel
theorem dX2_add_5 : decode cX2_add 5 = .ok (.getfield 9, 3) := by decide +kernel
theorem dX2_add_8 : decode cX2_add 8 = .ok (.arraylength, 1) := by decide +kernel
theorem dX2_add_9 : decode cX2_add 9 = .ok (.if_icmp .ge 23, 3) := by decide +kernel
theorem dX2_add_12 : decode cX2_add 12 = .ok (.aload_n 0, 1) := by decide +kernel
theorem dX2_add_13 : decode cX2_add 13 = .ok (.getfield 9, 3) := by decide +kernel
theorem dX2_add_16 : decode cX2_add 16 = .ok (.aload_n 0, 1) := by decide +kernel
theorem dX2_add_17 : decode cX2_add 17 = .ok (.getfield 15, 3) := by decide +kernel
theorem dX2_add_20 : decode cX2_add 20 = .ok (.lload_n 1, 1) := by decide +kernel
theorem dX2_add_21 : decode cX2_add 21 = .ok (.lastore, 1) := by decide +kernel
theorem dX2_add_22 : decode cX2_add 22 = .ok (.aload_n 0, 1) := by decide +kernel
theorem dX2_add_23 : decode cX2_add 23 = .ok (.dup, 1) := by decide +kernel
theorem dX2_add_24 : decode cX2_add 24 = .ok (.getfield 15, 3) := by decide +kernel
theorem dX2_add_27 : decode cX2_add 27 = .ok (.iconst 1, 1) := by decide +kernel
theorem dX2_add_28 : decode cX2_add 28 = .ok (.iadd, 1) := by decide +kernel
theorem dX2_add_29 : decode cX2_add 29 = .ok (.putfield 15, 3) := by decide +kernel
theorem dX2_add_32 : decode cX2_add 32 = .ok (.return_, 1) := by decide +kernel
theorem dX2_tell_0 : decode cX2_tell 0 = .ok (.aload_n 0, 1) := by decide +kernel
theorem dX2_tell_1 : decode cX2_tell 1 = .ok (.invokevirtual 19, 3) := by decide +kernel
theorem dX2_tell_4 : decode cX2_tell 4 = .ok (.aload_n 0, 1) := by decide +kernel
theorem dX2_tell_5 : decode cX2_tell 5 = .ok (.lload_n 1, 1) := by decide +kernel
theorem dX2_tell_6 : decode cX2_tell 6 = .ok (.invokevirtual 22, 3) := by decide +kernel
theorem dX2_tell_9 : decode cX2_tell 9 = .ok (.return_, 1) := by decide +kernel
theorem dX2_tell__0 : decode cX2_tell_ 0 = .ok (.aload_n 0, 1) := by decide +kernel
theorem dX2_tell__1 : decode cX2_tell_ 1 = .ok (.lload_n 1, 1) := by decide +kernel
theorem dX2_tell__2 : decode cX2_tell_ 2 = .ok (.invokevirtual 26, 3) := by decide +kernel
theorem dX2_tell__5 : decode cX2_tell_ 5 = .ok (.aload_n 0, 1) := by decide +kernel
theorem dX2_tell__6 : decode cX2_tell_ 6 = .ok (.lload_n 3, 1) := by decide +kernel
theorem dX2_tell__7 : decode cX2_tell_ 7 = .ok (.invokevirtual 22, 3) := by decide +kernel
theorem dX2_tell__10 : decode cX2_tell_ 10 = .ok (.return_, 1) := by decide +kernel
theorem dX2_tell___0 : decode cX2_tell__ 0 = .ok (.aload_n 0, 1) := by decide +kernel
theorem dX2_tell___1 : decode cX2_tell__ 1 = .ok (.lload_n 1, 1) := by decide +kernel
theorem dX2_tell___2 : decode cX2_tell__ 2 = .ok (.lload_n 3, 1) := by decide +kernel
theorem dX2_tell___3 : decode cX2_tell__ 3 = .ok (.invokevirtual 29, 3) := by decide +kernel
theorem dX2_tell___6 : decode cX2_tell__ 6 = .ok (.aload_n 0, 1) := by decide +kernel
theorem dX2_tell___7 : decode cX2_tell__ 7 = .ok (.lload 5, 2) := by decide +kernel
theorem dX2_tell___9 : decode cX2_tell__ 9 = .ok (.invokevirtual 22, 3) := by decide +kernel
theorem dX2_tell___12 : decode cX2_tell__ 12 = .ok (.return_, 1) := by decide +kernel
theorem dX3_leftSize_0 : decode cX3_leftSize 0 = .ok (.iload_n 0, 1) := by decide +kernel
theorem dX3_leftSize_1 : decode cX3_leftSize 1 = .ok (.iconst 2, 1) := by decide +kernel
theorem dX3_leftSize_2 : decode cX3_leftSize 2 = .ok (.idiv, 1) := by decide +kernel
theorem dX3_leftSize_3 : decode cX3_leftSize 3 = .ok (.ireturn, 1) := by decide +kernel
theorem dX3_rightSize_0 : decode cX3_rightSize 0 = .ok (.iload_n 0, 1) := by decide +kernel
theorem dX3_rightSize_1 : decode cX3_rightSize 1 = .ok (.iconst 2, 1) := by decide +kernel
theorem dX3_rightSize_2 : decode cX3_rightSize 2 = .ok (.if_icmp .ge 7, 3) := by decide +kernel
theorem dX3_rightSize_5 : decode cX3_rightSize 5 = .ok (.iconst 0, 1) := by decide +kernel
theorem dX3_rightSize_6 : decode cX3_rightSize 6 = .ok (.goto 8, 3) := by decide +kernel
theorem dX3_rightSize_9 : decode cX3_rightSize 9 = .ok (.iload_n 0, 1) := by decide +kernel
theorem dX3_rightSize_10 : decode cX3_rightSize 10 = .ok (.iconst 1, 1) := by decide +kernel
theorem dX3_rightSize_11 : decode cX3_rightSize 11 = .ok (.isub, 1) := by decide +kernel
theorem dX3_rightSize_12 : decode cX3_rightSize 12 = .ok (.iconst 2, 1) := by decide +kernel
theorem dX3_rightSize_13 : decode cX3_rightSize 13 = .ok (.idiv, 1) := by decide +kernel
theorem dX3_rightSize_14 : decode cX3_rightSize 14 = .ok (.ireturn, 1) := by decide +kernel
theorem dX3_isEven_0 : decode cX3_isEven 0 = .ok (.iload_n 0, 1) := by decide +kernel
theorem dX3_isEven_1 : decode cX3_isEven 1 = .ok (.iload_n 1, 1) := by decide +kernel
theorem dX3_isEven_2 : decode cX3_isEven 2 = .ok (.if_icmp .eq 10, 3) := by decide +kernel
theorem dX3_isEven_5 : decode cX3_isEven 5 = .ok (.iload_n 0, 1) := by decide +kernel
theorem dX3_isEven_6 : decode cX3_isEven 6 = .ok (.iload_n 1, 1) := by decide +kernel
theorem dX3_isEven_7 : decode cX3_isEven 7 = .ok (.iconst 1, 1) := by decide +kernel
theorem dX3_isEven_8 : decode cX3_isEven 8 = .ok (.iadd, 1) := by decide +kernel
theorem dX3_isEven_9 : decode cX3_isEven 9 = .ok (.if_icmp .ne 7, 3) := by decide +kernel
theorem dX3_isEven_12 : decode cX3_isEven 12 = .ok (.iconst 1, 1) := by decide +kernel
theorem dX3_isEven_13 : decode cX3_isEven 13 = .ok (.goto 4, 3) := by decide +kernel
theorem dX3_isEven_16 : decode cX3_isEven 16 = .ok (.iconst 0, 1) := by decide +kernel
theorem dX3_isEven_17 : decode cX3_isEven 17 = .ok (.ireturn, 1) := by decide +kernel
theorem dX3_stride_0 : decode cX3_stride 0 = .ok (.iload_n 0, 1) := by decide +kernel
theorem dX3_stride_1 : decode cX3_stride 1 = .ok (.iconst 1, 1) := by decide +kernel
theorem dX3_stride_2 : decode cX3_stride 2 = .ok (.iadd, 1) := by decide +kernel
theorem dX3_stride_3 : decode cX3_stride 3 = .ok (.istore_n 1, 1) := by decide +kernel
theorem dX3_stride_4 : decode cX3_stride 4 = .ok (.iload_n 1, 1) := by decide +kernel
theorem dX3_stride_5 : decode cX3_stride 5 = .ok (.iload_n 1, 1) := by decide +kernel
theorem dX3_stride_6 : decode cX3_stride 6 = .ok (.iconst 1, 1) := by decide +kernel
theorem dX3_stride_7 : decode cX3_stride 7 = .ok (.ishr, 1) := by decide +kernel
theorem dX3_stride_8 : decode cX3_stride 8 = .ok (.ior, 1) := by decide +kernel
theorem dX3_stride_9 : decode cX3_stride 9 = .ok (.istore_n 1, 1) := by decide +kernel
theorem dX3_stride_10 : decode cX3_stride 10 = .ok (.iload_n 1, 1) := by decide +kernel
theorem dX3_stride_11 : decode cX3_stride 11 = .ok (.iload_n 1, 1) := by decide +kernel
theorem dX3_stride_12 : decode cX3_stride 12 = .ok (.iconst 2, 1) := by decide +kernel
theorem dX3_stride_13 : decode cX3_stride 13 = .ok (.ishr, 1) := by decide +kernel
theorem dX3_stride_14 : decode cX3_stride 14 = .ok (.ior, 1) := by decide +kernel
theorem dX3_stride_15 : decode cX3_stride 15 = .ok (.istore_n 1, 1) := by decide +kernel
theorem dX3_stride_16 : decode cX3_stride 16 = .ok (.iload_n 1, 1) := by decide +kernel
theorem dX3_stride_17 : decode cX3_stride 17 = .ok (.iload_n 1, 1) := by decide +kernel
theorem dX3_stride_18 : decode cX3_stride 18 = .ok (.iconst 4, 1) := by decide +kernel
theorem dX3_stride_19 : decode cX3_stride 19 = .ok (.ishr, 1) := by decide +kernel
theorem dX3_stride_20 : decode cX3_stride 20 = .ok (.ior, 1) := by decide +kernel
theorem dX3_stride_21 : decode cX3_stride 21 = .ok (.istore_n 1, 1) := by decide +kernel
theorem dX3_stride_22 : decode cX3_stride 22 = .ok (.iload_n 1, 1) := by decide +kernel
theorem dX3_stride_23 : decode cX3_stride 23 = .ok (.iload_n 1, 1) := by decide +kernel
theorem dX3_stride_24 : decode cX3_stride 24 = .ok (.bipush 8, 2) := by decide +kernel
theorem dX3_stride_26 : decode cX3_stride 26 = .ok (.ishr, 1) := by decide +kernel
theorem dX3_stride_27 : decode cX3_stride 27 = .ok (.ior, 1) := by decide +kernel
theorem dX3_stride_28 : decode cX3_stride 28 = .ok (.istore_n 1, 1) := by decide +kernel
theorem dX3_stride_29 : decode cX3_stride 29 = .ok (.iload_n 1, 1) := by decide +kernel
theorem dX3_stride_30 : decode cX3_stride 30 = .ok (.iload_n 1, 1) := by decide +kernel
theorem dX3_stride_31 : decode cX3_stride 31 = .ok (.iconst 1, 1) := by decide +kernel
theorem dX3_stride_32 : decode cX3_stride 32 = .ok (.ishr, 1) := by decide +kernel
theorem dX3_stride_33 : decode cX3_stride 33 = .ok (.isub, 1) := by decide +kernel
theorem dX3_stride_34 : decode cX3_stride 34 = .ok (.ireturn, 1) := by decide +kernel
theorem dX3_depth_0 : decode cX3_depth 0 = .ok (.iload_n 0, 1) := by decide +kernel
theorem dX3_depth_1 : decode cX3_depth 1 = .ok (.invokestatic 9, 3) := by decide +kernel
theorem dX3_depth_4 : decode cX3_depth 4 = .ok (.iconst 1, 1) := by decide +kernel
theorem dX3_depth_5 : decode cX3_depth 5 = .ok (.isub, 1) := by decide +kernel
theorem dX3_depth_6 : decode cX3_depth 6 = .ok (.invokestatic 15, 3) := by decide +kernel
theorem dX3_depth_9 : decode cX3_depth 9 = .ok (.ireturn, 1) := by decide +kernel
theorem dX3_above_0 : decode cX3_above 0 = .ok (.iload_n 0, 1) := by decide +kernel
theorem dX3_above_1 : decode cX3_above 1 = .ok (.ifCond .gt 5, 3) := by decide +kernel
theorem dX3_above_4 : decode cX3_above 4 = .ok (.iconst (-1), 1) := by decide +kernel
theorem dX3_above_5 : decode cX3_above 5 = .ok (.ireturn, 1) := by decide +kernel
theorem dX3_above_6 : decode cX3_above 6 = .ok (.iload_n 0, 1) := by decide +kernel
theorem dX3_above_7 : decode cX3_above 7 = .ok (.invokestatic 9, 3) := by decide +kernel
theorem dX3_above_10 : decode cX3_above 10 = .ok (.iconst 2, 1) := by decide +kernel
theorem dX3_above_11 : decode cX3_above 11 = .ok (.idiv, 1) := by decide +kernel
theorem dX3_above_12 : decode cX3_above 12 = .ok (.istore_n 1, 1) := by decide +kernel
theorem dX3_above_13 : decode cX3_above 13 = .ok (.iload_n 1, 1) := by decide +kernel
theorem dX3_above_14 : decode cX3_above 14 = .ok (.iload_n 0, 1) := by decide +kernel
theorem dX3_above_15 : decode cX3_above 15 = .ok (.iconst 1, 1) := by decide +kernel
theorem dX3_above_16 : decode cX3_above 16 = .ok (.iadd, 1) := by decide +kernel
theorem dX3_above_17 : decode cX3_above 17 = .ok (.iload_n 1, 1) := by decide +kernel
theorem dX3_above_18 : decode cX3_above 18 = .ok (.iconst 1, 1) := by decide +kernel
theorem dX3_above_19 : decode cX3_above 19 = .ok (.isub, 1) := by decide +kernel
theorem dX3_above_20 : decode cX3_above 20 = .ok (.iand, 1) := by decide +kernel
theorem dX3_above_21 : decode cX3_above 21 = .ok (.iadd, 1) := by decide +kernel
theorem dX3_above_22 : decode cX3_above 22 = .ok (.iconst 1, 1) := by decide +kernel
theorem dX3_above_23 : decode cX3_above 23 = .ok (.isub, 1) := by decide +kernel
theorem dX3_above_24 : decode cX3_above 24 = .ok (.ireturn, 1) := by decide +kernel
theorem dX3_wayTo_0 : decode cX3_wayTo 0 = .ok (.iconst 0, 1) := by decide +kernel
theorem dX3_wayTo_1 : decode cX3_wayTo 1 = .ok (.istore_n 1, 1) := by decide +kernel
theorem dX3_wayTo_2 : decode cX3_wayTo 2 = .ok (.iload_n 0, 1) := by decide +kernel
theorem dX3_wayTo_3 : decode cX3_wayTo 3 = .ok (.istore_n 2, 1) := by decide +kernel
theorem dX3_wayTo_4 : decode cX3_wayTo 4 = .ok (.iload_n 2, 1) := by decide +kernel
theorem dX3_wayTo_5 : decode cX3_wayTo 5 = .ok (.ifCond .le 28, 3) := by decide +kernel
theorem dX3_wayTo_8 : decode cX3_wayTo 8 = .ok (.iconst 2, 1) := by decide +kernel
theorem dX3_wayTo_9 : decode cX3_wayTo 9 = .ok (.iload_n 1, 1) := by decide +kernel
theorem dX3_wayTo_10 : decode cX3_wayTo 10 = .ok (.imul, 1) := by decide +kernel
theorem dX3_wayTo_11 : decode cX3_wayTo 11 = .ok (.iload_n 2, 1) := by decide +kernel
theorem dX3_wayTo_12 : decode cX3_wayTo 12 = .ok (.iconst 2, 1) := by decide +kernel
theorem dX3_wayTo_13 : decode cX3_wayTo 13 = .ok (.irem, 1) := by decide +kernel
theorem dX3_wayTo_14 : decode cX3_wayTo 14 = .ok (.ifCond .ne 7, 3) := by decide +kernel
theorem dX3_wayTo_17 : decode cX3_wayTo 17 = .ok (.iconst 1, 1) := by decide +kernel
theorem dX3_wayTo_18 : decode cX3_wayTo 18 = .ok (.goto 4, 3) := by decide +kernel
theorem dX3_wayTo_21 : decode cX3_wayTo 21 = .ok (.iconst 0, 1) := by decide +kernel
theorem dX3_wayTo_22 : decode cX3_wayTo 22 = .ok (.iadd, 1) := by decide +kernel
theorem dX3_wayTo_23 : decode cX3_wayTo 23 = .ok (.istore_n 1, 1) := by decide +kernel
theorem dX3_wayTo_24 : decode cX3_wayTo 24 = .ok (.iload_n 2, 1) := by decide +kernel
theorem dX3_wayTo_25 : decode cX3_wayTo 25 = .ok (.iconst 1, 1) := by decide +kernel
theorem dX3_wayTo_26 : decode cX3_wayTo 26 = .ok (.isub, 1) := by decide +kernel
theorem dX3_wayTo_27 : decode cX3_wayTo 27 = .ok (.iconst 2, 1) := by decide +kernel
theorem dX3_wayTo_28 : decode cX3_wayTo 28 = .ok (.idiv, 1) := by decide +kernel
theorem dX3_wayTo_29 : decode cX3_wayTo 29 = .ok (.istore_n 2, 1) := by decide +kernel
theorem dX3_wayTo_30 : decode cX3_wayTo 30 = .ok (.goto (-26), 3) := by decide +kernel
theorem dX3_wayTo_33 : decode cX3_wayTo 33 = .ok (.iload_n 1, 1) := by decide +kernel
theorem dX3_wayTo_34 : decode cX3_wayTo 34 = .ok (.ireturn, 1) := by decide +kernel
theorem dX3_cost_0 : decode cX3_cost 0 = .ok (.iload_n 1, 1) := by decide +kernel
theorem dX3_cost_1 : decode cX3_cost 1 = .ok (.tableswitch 59 0 4 #[35, 40, 47, 52, 35], 35) := by decide +kernel
theorem dX3_cost_36 : decode cX3_cost 36 = .ok (.iload_n 0, 1) := by decide +kernel
theorem dX3_cost_37 : decode cX3_cost 37 = .ok (.invokestatic 20, 3) := by decide +kernel
theorem dX3_cost_40 : decode cX3_cost 40 = .ok (.ireturn, 1) := by decide +kernel
theorem dX3_cost_41 : decode cX3_cost 41 = .ok (.iload_n 0, 1) := by decide +kernel
theorem dX3_cost_42 : decode cX3_cost 42 = .ok (.invokestatic 23, 3) := by decide +kernel
theorem dX3_cost_45 : decode cX3_cost 45 = .ok (.iconst 1, 1) := by decide +kernel
theorem dX3_cost_46 : decode cX3_cost 46 = .ok (.iadd, 1) := by decide +kernel
theorem dX3_cost_47 : decode cX3_cost 47 = .ok (.ireturn, 1) := by decide +kernel
theorem dX3_cost_48 : decode cX3_cost 48 = .ok (.iload_n 0, 1) := by decide +kernel
theorem dX3_cost_49 : decode cX3_cost 49 = .ok (.invokestatic 26, 3) := by decide +kernel
theorem dX3_cost_52 : decode cX3_cost 52 = .ok (.ireturn, 1) := by decide +kernel
theorem dX3_cost_53 : decode cX3_cost 53 = .ok (.iload_n 0, 1) := by decide +kernel
theorem dX3_cost_54 : decode cX3_cost 54 = .ok (.iconst 1, 1) := by decide +kernel
theorem dX3_cost_55 : decode cX3_cost 55 = .ok (.isub, 1) := by decide +kernel
theorem dX3_cost_56 : decode cX3_cost 56 = .ok (.invokestatic 23, 3) := by decide +kernel
theorem dX3_cost_59 : decode cX3_cost 59 = .ok (.ireturn, 1) := by decide +kernel
theorem dX3_cost_60 : decode cX3_cost 60 = .ok (.iload_n 0, 1) := by decide +kernel
theorem dX3_cost_61 : decode cX3_cost 61 = .ok (.invokestatic 29, 3) := by decide +kernel
theorem dX3_cost_64 : decode cX3_cost 64 = .ok (.ireturn, 1) := by decide +kernel
theorem dX3_costAhead_0 : decode cX3_costAhead 0 = .ok (.iconst 1, 1) := by decide +kernel
theorem dX3_costAhead_1 : decode cX3_costAhead 1 = .ok (.istore_n 1, 1) := by decide +kernel
theorem dX3_costAhead_2 : decode cX3_costAhead 2 = .ok (.iload_n 0, 1) := by decide +kernel
theorem dX3_costAhead_3 : decode cX3_costAhead 3 = .ok (.istore_n 2, 1) := by decide +kernel
theorem dX3_costAhead_4 : decode cX3_costAhead 4 = .ok (.iload_n 2, 1) := by decide +kernel
theorem dX3_costAhead_5 : decode cX3_costAhead 5 = .ok (.ifCond .le 15, 3) := by decide +kernel
theorem dX3_costAhead_8 : decode cX3_costAhead 8 = .ok (.iinc 1 1, 3) := by decide +kernel
theorem dX3_costAhead_11 : decode cX3_costAhead 11 = .ok (.iload_n 2, 1) := by decide +kernel
theorem dX3_costAhead_12 : decode cX3_costAhead 12 = .ok (.iconst 1, 1) := by decide +kernel
theorem dX3_costAhead_13 : decode cX3_costAhead 13 = .ok (.isub, 1) := by decide +kernel
theorem dX3_costAhead_14 : decode cX3_costAhead 14 = .ok (.iconst 2, 1) := by decide +kernel
theorem dX3_costAhead_15 : decode cX3_costAhead 15 = .ok (.idiv, 1) := by decide +kernel
theorem dX3_costAhead_16 : decode cX3_costAhead 16 = .ok (.istore_n 2, 1) := by decide +kernel
theorem dX3_costAhead_17 : decode cX3_costAhead 17 = .ok (.goto (-13), 3) := by decide +kernel
theorem dX3_costAhead_20 : decode cX3_costAhead 20 = .ok (.iload_n 1, 1) := by decide +kernel
theorem dX3_costAhead_21 : decode cX3_costAhead 21 = .ok (.ireturn, 1) := by decide +kernel
theorem dX3_costFirst_0 : decode cX3_costFirst 0 = .ok (.iconst 0, 1) := by decide +kernel
theorem dX3_costFirst_1 : decode cX3_costFirst 1 = .ok (.istore_n 1, 1) := by decide +kernel
theorem dX3_costFirst_2 : decode cX3_costFirst 2 = .ok (.iload_n 0, 1) := by decide +kernel
theorem dX3_costFirst_3 : decode cX3_costFirst 3 = .ok (.istore_n 2, 1) := by decide +kernel
theorem dX3_costFirst_4 : decode cX3_costFirst 4 = .ok (.iload_n 2, 1) := by decide +kernel
theorem dX3_costFirst_5 : decode cX3_costFirst 5 = .ok (.iconst 1, 1) := by decide +kernel
theorem dX3_costFirst_6 : decode cX3_costFirst 6 = .ok (.if_icmp .le 13, 3) := by decide +kernel
theorem dX3_costFirst_9 : decode cX3_costFirst 9 = .ok (.iinc 1 1, 3) := by decide +kernel
theorem dX3_costFirst_12 : decode cX3_costFirst 12 = .ok (.iload_n 2, 1) := by decide +kernel
theorem dX3_costFirst_13 : decode cX3_costFirst 13 = .ok (.iconst 2, 1) := by decide +kernel
theorem dX3_costFirst_14 : decode cX3_costFirst 14 = .ok (.idiv, 1) := by decide +kernel
theorem dX3_costFirst_15 : decode cX3_costFirst 15 = .ok (.istore_n 2, 1) := by decide +kernel
theorem dX3_costFirst_16 : decode cX3_costFirst 16 = .ok (.goto (-12), 3) := by decide +kernel
theorem dX3_costFirst_19 : decode cX3_costFirst 19 = .ok (.iload_n 1, 1) := by decide +kernel
theorem dX3_costFirst_20 : decode cX3_costFirst 20 = .ok (.ireturn, 1) := by decide +kernel
theorem dX3_steps_0 : decode cX3_steps 0 = .ok (.iconst 1, 1) := by decide +kernel
theorem dX3_steps_1 : decode cX3_steps 1 = .ok (.istore_n 1, 1) := by decide +kernel
theorem dX3_steps_2 : decode cX3_steps 2 = .ok (.iload_n 0, 1) := by decide +kernel
theorem dX3_steps_3 : decode cX3_steps 3 = .ok (.istore_n 2, 1) := by decide +kernel
theorem dX3_steps_4 : decode cX3_steps 4 = .ok (.iload_n 2, 1) := by decide +kernel
theorem dX3_steps_5 : decode cX3_steps 5 = .ok (.ifCond .le 28, 3) := by decide +kernel
theorem dX3_steps_8 : decode cX3_steps 8 = .ok (.iload_n 1, 1) := by decide +kernel
theorem dX3_steps_9 : decode cX3_steps 9 = .ok (.iconst 1, 1) := by decide +kernel
theorem dX3_steps_10 : decode cX3_steps 10 = .ok (.iload_n 2, 1) := by decide +kernel
theorem dX3_steps_11 : decode cX3_steps 11 = .ok (.invokestatic 32, 3) := by decide +kernel
theorem dX3_steps_14 : decode cX3_steps 14 = .ok (.iload_n 2, 1) := by decide +kernel
theorem dX3_steps_15 : decode cX3_steps 15 = .ok (.invokestatic 35, 3) := by decide +kernel
theorem dX3_steps_18 : decode cX3_steps 18 = .ok (.invokestatic 38, 3) := by decide +kernel
theorem dX3_steps_21 : decode cX3_steps 21 = .ok (.iadd, 1) := by decide +kernel
theorem dX3_steps_22 : decode cX3_steps 22 = .ok (.iadd, 1) := by decide +kernel
theorem dX3_steps_23 : decode cX3_steps 23 = .ok (.istore_n 1, 1) := by decide +kernel
theorem dX3_steps_24 : decode cX3_steps 24 = .ok (.iload_n 2, 1) := by decide +kernel
theorem dX3_steps_25 : decode cX3_steps 25 = .ok (.iconst 1, 1) := by decide +kernel
theorem dX3_steps_26 : decode cX3_steps 26 = .ok (.isub, 1) := by decide +kernel
theorem dX3_steps_27 : decode cX3_steps 27 = .ok (.iconst 2, 1) := by decide +kernel
theorem dX3_steps_28 : decode cX3_steps 28 = .ok (.idiv, 1) := by decide +kernel
theorem dX3_steps_29 : decode cX3_steps 29 = .ok (.istore_n 2, 1) := by decide +kernel
theorem dX3_steps_30 : decode cX3_steps 30 = .ok (.goto (-26), 3) := by decide +kernel
theorem dX3_steps_33 : decode cX3_steps 33 = .ok (.iload_n 1, 1) := by decide +kernel
theorem dX3_steps_34 : decode cX3_steps 34 = .ok (.ireturn, 1) := by decide +kernel
theorem dX3_stepsOfMore_0 : decode cX3_stepsOfMore 0 = .ok (.iconst 1, 1) := by decide +kernel
theorem dX3_stepsOfMore_1 : decode cX3_stepsOfMore 1 = .ok (.istore_n 2, 1) := by decide +kernel
theorem dX3_stepsOfMore_2 : decode cX3_stepsOfMore 2 = .ok (.iload_n 0, 1) := by decide +kernel
theorem dX3_stepsOfMore_3 : decode cX3_stepsOfMore 3 = .ok (.istore_n 3, 1) := by decide +kernel
theorem dX3_stepsOfMore_4 : decode cX3_stepsOfMore 4 = .ok (.iload_n 1, 1) := by decide +kernel
theorem dX3_stepsOfMore_5 : decode cX3_stepsOfMore 5 = .ok (.istore 4, 2) := by decide +kernel
theorem dX3_stepsOfMore_7 : decode cX3_stepsOfMore 7 = .ok (.iload_n 3, 1) := by decide +kernel
theorem dX3_stepsOfMore_8 : decode cX3_stepsOfMore 8 = .ok (.ifCond .le 42, 3) := by decide +kernel
theorem dX3_stepsOfMore_11 : decode cX3_stepsOfMore 11 = .ok (.iload 4, 2) := by decide +kernel
theorem dX3_stepsOfMore_13 : decode cX3_stepsOfMore 13 = .ok (.ifCond .le 37, 3) := by decide +kernel
theorem dX3_stepsOfMore_16 : decode cX3_stepsOfMore 16 = .ok (.iload 4, 2) := by decide +kernel
theorem dX3_stepsOfMore_18 : decode cX3_stepsOfMore 18 = .ok (.iconst 2, 1) := by decide +kernel
theorem dX3_stepsOfMore_19 : decode cX3_stepsOfMore 19 = .ok (.irem, 1) := by decide +kernel
theorem dX3_stepsOfMore_20 : decode cX3_stepsOfMore 20 = .ok (.iconst 1, 1) := by decide +kernel
theorem dX3_stepsOfMore_21 : decode cX3_stepsOfMore 21 = .ok (.if_icmp .ne 10, 3) := by decide +kernel
theorem dX3_stepsOfMore_24 : decode cX3_stepsOfMore 24 = .ok (.iload_n 3, 1) := by decide +kernel
theorem dX3_stepsOfMore_25 : decode cX3_stepsOfMore 25 = .ok (.invokestatic 32, 3) := by decide +kernel
theorem dX3_stepsOfMore_28 : decode cX3_stepsOfMore 28 = .ok (.goto 7, 3) := by decide +kernel
theorem dX3_stepsOfMore_31 : decode cX3_stepsOfMore 31 = .ok (.iload_n 3, 1) := by decide +kernel
theorem dX3_stepsOfMore_32 : decode cX3_stepsOfMore 32 = .ok (.invokestatic 35, 3) := by decide +kernel
theorem dX3_stepsOfMore_35 : decode cX3_stepsOfMore 35 = .ok (.istore_n 3, 1) := by decide +kernel
theorem dX3_stepsOfMore_36 : decode cX3_stepsOfMore 36 = .ok (.iinc 2 1, 3) := by decide +kernel
theorem dX3_stepsOfMore_39 : decode cX3_stepsOfMore 39 = .ok (.iload 4, 2) := by decide +kernel
theorem dX3_stepsOfMore_41 : decode cX3_stepsOfMore 41 = .ok (.iconst 1, 1) := by decide +kernel
theorem dX3_stepsOfMore_42 : decode cX3_stepsOfMore 42 = .ok (.isub, 1) := by decide +kernel
theorem dX3_stepsOfMore_43 : decode cX3_stepsOfMore 43 = .ok (.iconst 2, 1) := by decide +kernel
theorem dX3_stepsOfMore_44 : decode cX3_stepsOfMore 44 = .ok (.idiv, 1) := by decide +kernel
theorem dX3_stepsOfMore_45 : decode cX3_stepsOfMore 45 = .ok (.istore 4, 2) := by decide +kernel
theorem dX3_stepsOfMore_47 : decode cX3_stepsOfMore 47 = .ok (.goto (-40), 3) := by decide +kernel
theorem dX3_stepsOfMore_50 : decode cX3_stepsOfMore 50 = .ok (.iload_n 2, 1) := by decide +kernel
theorem dX3_stepsOfMore_51 : decode cX3_stepsOfMore 51 = .ok (.ireturn, 1) := by decide +kernel
theorem dX4_init_0 : decode cX4_init 0 = .ok (.aload_n 0, 1) := by decide +kernel
theorem dX4_init_1 : decode cX4_init 1 = .ok (.invokespecial 3, 3) := by decide +kernel
theorem dX4_init_4 : decode cX4_init 4 = .ok (.aload_n 0, 1) := by decide +kernel
theorem dX4_init_5 : decode cX4_init 5 = .ok (.sipush 200, 3) := by decide +kernel
theorem dX4_init_8 : decode cX4_init 8 = .ok (.newarray .int, 2) := by decide +kernel
theorem dX4_init_10 : decode cX4_init 10 = .ok (.putfield 11, 3) := by decide +kernel
theorem dX4_init_13 : decode cX4_init 13 = .ok (.aload_n 0, 1) := by decide +kernel
theorem dX4_init_14 : decode cX4_init 14 = .ok (.iconst 0, 1) := by decide +kernel
theorem dX4_init_15 : decode cX4_init 15 = .ok (.putfield 15, 3) := by decide +kernel
theorem dX4_init_18 : decode cX4_init 18 = .ok (.return_, 1) := by decide +kernel
theorem dX4_addFour_0 : decode cX4_addFour 0 = .ok (.aload_n 0, 1) := by decide +kernel
theorem dX4_addFour_1 : decode cX4_addFour 1 = .ok (.getfield 15, 3) := by decide +kernel
theorem dX4_addFour_4 : decode cX4_addFour 4 = .ok (.sipush 196, 3) := by decide +kernel
theorem dX4_addFour_7 : decode cX4_addFour 7 = .ok (.if_icmp .le 5, 3) := by decide +kernel
theorem dX4_addFour_10 : decode cX4_addFour 10 = .ok (.iconst (-1), 1) := by decide +kernel
theorem dX4_addFour_11 : decode cX4_addFour 11 = .ok (.ireturn, 1) := by decide +kernel
theorem dX4_addFour_12 : decode cX4_addFour 12 = .ok (.bipush 24, 2) := by decide +kernel
theorem dX4_addFour_14 : decode cX4_addFour 14 = .ok (.istore_n 2, 1) := by decide +kernel
theorem dX4_addFour_15 : decode cX4_addFour 15 = .ok (.iload_n 2, 1) := by decide +kernel
theorem dX4_addFour_16 : decode cX4_addFour 16 = .ok (.ifCond .lt 35, 3) := by decide +kernel
theorem dX4_addFour_19 : decode cX4_addFour 19 = .ok (.aload_n 0, 1) := by decide +kernel
theorem dX4_addFour_20 : decode cX4_addFour 20 = .ok (.getfield 11, 3) := by decide +kernel
theorem dX4_addFour_23 : decode cX4_addFour 23 = .ok (.aload_n 0, 1) := by decide +kernel
theorem dX4_addFour_24 : decode cX4_addFour 24 = .ok (.getfield 15, 3) := by decide +kernel
theorem dX4_addFour_27 : decode cX4_addFour 27 = .ok (.iload_n 1, 1) := by decide +kernel
theorem dX4_addFour_28 : decode cX4_addFour 28 = .ok (.iload_n 2, 1) := by decide +kernel
theorem dX4_addFour_29 : decode cX4_addFour 29 = .ok (.iushr, 1) := by decide +kernel
theorem dX4_addFour_30 : decode cX4_addFour 30 = .ok (.sipush 255, 3) := by decide +kernel
theorem dX4_addFour_33 : decode cX4_addFour 33 = .ok (.iand, 1) := by decide +kernel
theorem dX4_addFour_34 : decode cX4_addFour 34 = .ok (.iastore, 1) := by decide +kernel
theorem dX4_addFour_35 : decode cX4_addFour 35 = .ok (.aload_n 0, 1) := by decide +kernel
theorem dX4_addFour_36 : decode cX4_addFour 36 = .ok (.dup, 1) := by decide +kernel
theorem dX4_addFour_37 : decode cX4_addFour 37 = .ok (.getfield 15, 3) := by decide +kernel
theorem dX4_addFour_40 : decode cX4_addFour 40 = .ok (.iconst 1, 1) := by decide +kernel
theorem dX4_addFour_41 : decode cX4_addFour 41 = .ok (.iadd, 1) := by decide +kernel
theorem dX4_addFour_42 : decode cX4_addFour 42 = .ok (.putfield 15, 3) := by decide +kernel
theorem dX4_addFour_45 : decode cX4_addFour 45 = .ok (.iinc 2 (-8), 3) := by decide +kernel
theorem dX4_addFour_48 : decode cX4_addFour 48 = .ok (.goto (-33), 3) := by decide +kernel
theorem dX4_addFour_51 : decode cX4_addFour 51 = .ok (.aload_n 0, 1) := by decide +kernel
theorem dX4_addFour_52 : decode cX4_addFour 52 = .ok (.getfield 15, 3) := by decide +kernel
theorem dX4_addFour_55 : decode cX4_addFour 55 = .ok (.ireturn, 1) := by decide +kernel
theorem dX4_cut_0 : decode cX4_cut 0 = .ok (.iload_n 1, 1) := by decide +kernel
theorem dX4_cut_1 : decode cX4_cut 1 = .ok (.ifCond .lt 11, 3) := by decide +kernel
theorem dX4_cut_4 : decode cX4_cut 4 = .ok (.iload_n 1, 1) := by decide +kernel
theorem dX4_cut_5 : decode cX4_cut 5 = .ok (.aload_n 0, 1) := by decide +kernel
theorem dX4_cut_6 : decode cX4_cut 6 = .ok (.getfield 15, 3) := by decide +kernel
theorem dX4_cut_9 : decode cX4_cut 9 = .ok (.if_icmp .le 5, 3) := by decide +kernel
theorem dX4_cut_12 : decode cX4_cut 12 = .ok (.iconst 0, 1) := by decide +kernel
theorem dX4_cut_13 : decode cX4_cut 13 = .ok (.ireturn, 1) := by decide +kernel
theorem dX4_cut_14 : decode cX4_cut 14 = .ok (.aload_n 0, 1) := by decide +kernel
theorem dX4_cut_15 : decode cX4_cut 15 = .ok (.iload_n 1, 1) := by decide +kernel
theorem dX4_cut_16 : decode cX4_cut 16 = .ok (.putfield 15, 3) := by decide +kernel
theorem dX4_cut_19 : decode cX4_cut 19 = .ok (.iconst 1, 1) := by decide +kernel
theorem dX4_cut_20 : decode cX4_cut 20 = .ok (.ireturn, 1) := by decide +kernel
theorem dX4_signAt_0 : decode cX4_signAt 0 = .ok (.iload_n 1, 1) := by decide +kernel
theorem dX4_signAt_1 : decode cX4_signAt 1 = .ok (.ifCond .lt 20, 3) := by decide +kernel
theorem dX4_signAt_4 : decode cX4_signAt 4 = .ok (.iload_n 1, 1) := by decide +kernel
theorem dX4_signAt_5 : decode cX4_signAt 5 = .ok (.aload_n 0, 1) := by decide +kernel
theorem dX4_signAt_6 : decode cX4_signAt 6 = .ok (.getfield 15, 3) := by decide +kernel
theorem dX4_signAt_9 : decode cX4_signAt 9 = .ok (.if_icmp .ge 12, 3) := by decide +kernel
theorem dX4_signAt_12 : decode cX4_signAt 12 = .ok (.aload_n 0, 1) := by decide +kernel
theorem dX4_signAt_13 : decode cX4_signAt 13 = .ok (.getfield 11, 3) := by decide +kernel
theorem dX4_signAt_16 : decode cX4_signAt 16 = .ok (.iload_n 1, 1) := by decide +kernel
theorem dX4_signAt_17 : decode cX4_signAt 17 = .ok (.iaload, 1) := by decide +kernel
theorem dX4_signAt_18 : decode cX4_signAt 18 = .ok (.goto 4, 3) := by decide +kernel
theorem dX4_signAt_21 : decode cX4_signAt 21 = .ok (.iconst (-1), 1) := by decide +kernel
theorem dX4_signAt_22 : decode cX4_signAt 22 = .ok (.ireturn, 1) := by decide +kernel
theorem dX5_init_0 : decode cX5_init 0 = .ok (.aload_n 0, 1) := by decide +kernel
theorem dX5_init_1 : decode cX5_init 1 = .ok (.invokespecial 3, 3) := by decide +kernel
theorem dX5_init_4 : decode cX5_init 4 = .ok (.aload_n 0, 1) := by decide +kernel
theorem dX5_init_5 : decode cX5_init 5 = .ok (.sipush 255, 3) := by decide +kernel
theorem dX5_init_8 : decode cX5_init 8 = .ok (.newarray .int, 2) := by decide +kernel
theorem dX5_init_10 : decode cX5_init 10 = .ok (.putfield 9, 3) := by decide +kernel
theorem dX5_init_13 : decode cX5_init 13 = .ok (.aload_n 0, 1) := by decide +kernel
theorem dX5_init_14 : decode cX5_init 14 = .ok (.iconst 0, 1) := by decide +kernel
theorem dX5_init_15 : decode cX5_init 15 = .ok (.putfield 15, 3) := by decide +kernel
theorem dX5_init_18 : decode cX5_init 18 = .ok (.return_, 1) := by decide +kernel
theorem dX5_clear_0 : decode cX5_clear 0 = .ok (.aload_n 0, 1) := by decide +kernel
theorem dX5_clear_1 : decode cX5_clear 1 = .ok (.getfield 9, 3) := by decide +kernel
theorem dX5_clear_4 : decode cX5_clear 4 = .ok (.iconst 0, 1) := by decide +kernel
theorem dX5_clear_5 : decode cX5_clear 5 = .ok (.invokestatic 19, 3) := by decide +kernel
theorem dX5_clear_8 : decode cX5_clear 8 = .ok (.aload_n 0, 1) := by decide +kernel
theorem dX5_clear_9 : decode cX5_clear 9 = .ok (.iconst 0, 1) := by decide +kernel
theorem dX5_clear_10 : decode cX5_clear 10 = .ok (.putfield 15, 3) := by decide +kernel
theorem dX5_clear_13 : decode cX5_clear 13 = .ok (.return_, 1) := by decide +kernel
theorem dX5_mark_0 : decode cX5_mark 0 = .ok (.iload_n 1, 1) := by decide +kernel
theorem dX5_mark_1 : decode cX5_mark 1 = .ok (.istore_n 2, 1) := by decide +kernel
theorem dX5_mark_2 : decode cX5_mark 2 = .ok (.iconst 0, 1) := by decide +kernel
theorem dX5_mark_3 : decode cX5_mark 3 = .ok (.istore_n 3, 1) := by decide +kernel
theorem dX5_mark_4 : decode cX5_mark 4 = .ok (.iload_n 3, 1) := by decide +kernel
theorem dX5_mark_5 : decode cX5_mark 5 = .ok (.bipush 8, 2) := by decide +kernel
theorem dX5_mark_7 : decode cX5_mark 7 = .ok (.if_icmp .ge 51, 3) := by decide +kernel
theorem dX5_mark_10 : decode cX5_mark 10 = .ok (.iload_n 2, 1) := by decide +kernel
theorem dX5_mark_11 : decode cX5_mark 11 = .ok (.ifCond .lt 47, 3) := by decide +kernel
theorem dX5_mark_14 : decode cX5_mark 14 = .ok (.iload_n 2, 1) := by decide +kernel
theorem dX5_mark_15 : decode cX5_mark 15 = .ok (.sipush 255, 3) := by decide +kernel
theorem dX5_mark_18 : decode cX5_mark 18 = .ok (.if_icmp .ge 40, 3) := by decide +kernel
theorem dX5_mark_21 : decode cX5_mark 21 = .ok (.aload_n 0, 1) := by decide +kernel
theorem dX5_mark_22 : decode cX5_mark 22 = .ok (.getfield 9, 3) := by decide +kernel
theorem dX5_mark_25 : decode cX5_mark 25 = .ok (.iload_n 2, 1) := by decide +kernel
theorem dX5_mark_26 : decode cX5_mark 26 = .ok (.iaload, 1) := by decide +kernel
theorem dX5_mark_27 : decode cX5_mark 27 = .ok (.ifCond .ne 31, 3) := by decide +kernel
theorem dX5_mark_30 : decode cX5_mark 30 = .ok (.aload_n 0, 1) := by decide +kernel
theorem dX5_mark_31 : decode cX5_mark 31 = .ok (.getfield 9, 3) := by decide +kernel
theorem dX5_mark_34 : decode cX5_mark 34 = .ok (.iload_n 2, 1) := by decide +kernel
theorem dX5_mark_35 : decode cX5_mark 35 = .ok (.iconst 1, 1) := by decide +kernel
theorem dX5_mark_36 : decode cX5_mark 36 = .ok (.iastore, 1) := by decide +kernel
theorem dX5_mark_37 : decode cX5_mark 37 = .ok (.aload_n 0, 1) := by decide +kernel
theorem dX5_mark_38 : decode cX5_mark 38 = .ok (.dup, 1) := by decide +kernel
theorem dX5_mark_39 : decode cX5_mark 39 = .ok (.getfield 15, 3) := by decide +kernel
theorem dX5_mark_42 : decode cX5_mark 42 = .ok (.iconst 1, 1) := by decide +kernel
theorem dX5_mark_43 : decode cX5_mark 43 = .ok (.iadd, 1) := by decide +kernel
theorem dX5_mark_44 : decode cX5_mark 44 = .ok (.putfield 15, 3) := by decide +kernel
theorem dX5_mark_47 : decode cX5_mark 47 = .ok (.iload_n 2, 1) := by decide +kernel
theorem dX5_mark_48 : decode cX5_mark 48 = .ok (.invokestatic 25, 3) := by decide +kernel
theorem dX5_mark_51 : decode cX5_mark 51 = .ok (.istore_n 2, 1) := by decide +kernel
theorem dX5_mark_52 : decode cX5_mark 52 = .ok (.iinc 3 1, 3) := by decide +kernel
theorem dX5_mark_55 : decode cX5_mark 55 = .ok (.goto (-51), 3) := by decide +kernel
theorem dX5_mark_58 : decode cX5_mark 58 = .ok (.return_, 1) := by decide +kernel
theorem dX5_has_0 : decode cX5_has 0 = .ok (.iload_n 1, 1) := by decide +kernel
theorem dX5_has_1 : decode cX5_has 1 = .ok (.ifCond .lt 23, 3) := by decide +kernel
theorem dX5_has_4 : decode cX5_has 4 = .ok (.iload_n 1, 1) := by decide +kernel
theorem dX5_has_5 : decode cX5_has 5 = .ok (.sipush 255, 3) := by decide +kernel
theorem dX5_has_8 : decode cX5_has 8 = .ok (.if_icmp .ge 16, 3) := by decide +kernel
theorem dX5_has_11 : decode cX5_has 11 = .ok (.aload_n 0, 1) := by decide +kernel
theorem dX5_has_12 : decode cX5_has 12 = .ok (.getfield 9, 3) := by decide +kernel
theorem dX5_has_15 : decode cX5_has 15 = .ok (.iload_n 1, 1) := by decide +kernel
theorem dX5_has_16 : decode cX5_has 16 = .ok (.iaload, 1) := by decide +kernel
theorem dX5_has_17 : decode cX5_has 17 = .ok (.ifCond .eq 7, 3) := by decide +kernel
theorem dX5_has_20 : decode cX5_has 20 = .ok (.iconst 1, 1) := by decide +kernel
theorem dX5_has_21 : decode cX5_has 21 = .ok (.goto 4, 3) := by decide +kernel
theorem dX5_has_24 : decode cX5_has 24 = .ok (.iconst 0, 1) := by decide +kernel
theorem dX5_has_25 : decode cX5_has 25 = .ok (.ireturn, 1) := by decide +kernel
theorem dX6_init_0 : decode cX6_init 0 = .ok (.aload_n 0, 1) := by decide +kernel
theorem dX6_init_1 : decode cX6_init 1 = .ok (.invokespecial 3, 3) := by decide +kernel
theorem dX6_init_4 : decode cX6_init 4 = .ok (.aload_n 0, 1) := by decide +kernel
theorem dX6_init_5 : decode cX6_init 5 = .ok (.iconst (-1), 1) := by decide +kernel
theorem dX6_init_6 : decode cX6_init 6 = .ok (.putfield 9, 3) := by decide +kernel
theorem dX6_init_9 : decode cX6_init 9 = .ok (.aload_n 0, 1) := by decide +kernel
theorem dX6_init_10 : decode cX6_init 10 = .ok (.iconst (-1), 1) := by decide +kernel
theorem dX6_init_11 : decode cX6_init 11 = .ok (.putfield 15, 3) := by decide +kernel
theorem dX6_init_14 : decode cX6_init 14 = .ok (.aload_n 0, 1) := by decide +kernel
theorem dX6_init_15 : decode cX6_init 15 = .ok (.iconst 0, 1) := by decide +kernel
theorem dX6_init_16 : decode cX6_init 16 = .ok (.putfield 18, 3) := by decide +kernel
theorem dX6_init_19 : decode cX6_init 19 = .ok (.return_, 1) := by decide +kernel
theorem dX6_begin_0 : decode cX6_begin 0 = .ok (.aload_n 0, 1) := by decide +kernel
theorem dX6_begin_1 : decode cX6_begin 1 = .ok (.iload_n 1, 1) := by decide +kernel
theorem dX6_begin_2 : decode cX6_begin 2 = .ok (.putfield 9, 3) := by decide +kernel
theorem dX6_begin_5 : decode cX6_begin 5 = .ok (.aload_n 0, 1) := by decide +kernel
theorem dX6_begin_6 : decode cX6_begin 6 = .ok (.iconst (-1), 1) := by decide +kernel
theorem dX6_begin_7 : decode cX6_begin 7 = .ok (.putfield 15, 3) := by decide +kernel
theorem dX6_begin_10 : decode cX6_begin 10 = .ok (.aload_n 0, 1) := by decide +kernel
theorem dX6_begin_11 : decode cX6_begin 11 = .ok (.iconst 0, 1) := by decide +kernel
theorem dX6_begin_12 : decode cX6_begin 12 = .ok (.putfield 18, 3) := by decide +kernel
theorem dX6_begin_15 : decode cX6_begin 15 = .ok (.return_, 1) := by decide +kernel
theorem dX6_put_0 : decode cX6_put 0 = .ok (.aload_n 0, 1) := by decide +kernel
theorem dX6_put_1 : decode cX6_put 1 = .ok (.getfield 18, 3) := by decide +kernel
theorem dX6_put_4 : decode cX6_put 4 = .ok (.aload_n 0, 1) := by decide +kernel
theorem dX6_put_5 : decode cX6_put 5 = .ok (.getfield 9, 3) := by decide +kernel
theorem dX6_put_8 : decode cX6_put 8 = .ok (.if_icmp .ne 8, 3) := by decide +kernel
theorem dX6_put_11 : decode cX6_put 11 = .ok (.aload_n 0, 1) := by decide +kernel
theorem dX6_put_12 : decode cX6_put 12 = .ok (.iload_n 1, 1) := by decide +kernel
theorem dX6_put_13 : decode cX6_put 13 = .ok (.putfield 15, 3) := by decide +kernel
theorem dX6_put_16 : decode cX6_put 16 = .ok (.aload_n 0, 1) := by decide +kernel
theorem dX6_put_17 : decode cX6_put 17 = .ok (.dup, 1) := by decide +kernel
theorem dX6_put_18 : decode cX6_put 18 = .ok (.getfield 18, 3) := by decide +kernel
theorem dX6_put_21 : decode cX6_put 21 = .ok (.iconst 1, 1) := by decide +kernel
theorem dX6_put_22 : decode cX6_put 22 = .ok (.iadd, 1) := by decide +kernel
theorem dX6_put_23 : decode cX6_put 23 = .ok (.putfield 18, 3) := by decide +kernel
theorem dX6_put_26 : decode cX6_put 26 = .ok (.return_, 1) := by decide +kernel
theorem dX6_putNumber_0 : decode cX6_putNumber 0 = .ok (.iload_n 1, 1) := by decide +kernel
theorem dX6_putNumber_1 : decode cX6_putNumber 1 = .ok (.ifCond .ge 9, 3) := by decide +kernel
theorem dX6_putNumber_4 : decode cX6_putNumber 4 = .ok (.aload_n 0, 1) := by decide +kernel
theorem dX6_putNumber_5 : decode cX6_putNumber 5 = .ok (.bipush 45, 2) := by decide +kernel
theorem dX6_putNumber_7 : decode cX6_putNumber 7 = .ok (.invokevirtual 21, 3) := by decide +kernel
theorem dX6_putNumber_10 : decode cX6_putNumber 10 = .ok (.iload_n 1, 1) := by decide +kernel
theorem dX6_putNumber_11 : decode cX6_putNumber 11 = .ok (.invokestatic 25, 3) := by decide +kernel
theorem dX6_putNumber_14 : decode cX6_putNumber 14 = .ok (.istore_n 2, 1) := by decide +kernel
theorem dX6_putNumber_15 : decode cX6_putNumber 15 = .ok (.iload_n 2, 1) := by decide +kernel
theorem dX6_putNumber_16 : decode cX6_putNumber 16 = .ok (.bipush 99, 2) := by decide +kernel
theorem dX6_putNumber_18 : decode cX6_putNumber 18 = .ok (.if_icmp .le 14, 3) := by decide +kernel
theorem dX6_putNumber_21 : decode cX6_putNumber 21 = .ok (.aload_n 0, 1) := by decide +kernel
theorem dX6_putNumber_22 : decode cX6_putNumber 22 = .ok (.bipush 48, 2) := by decide +kernel
theorem dX6_putNumber_24 : decode cX6_putNumber 24 = .ok (.iload_n 2, 1) := by decide +kernel
theorem dX6_putNumber_25 : decode cX6_putNumber 25 = .ok (.bipush 100, 2) := by decide +kernel
theorem dX6_putNumber_27 : decode cX6_putNumber 27 = .ok (.idiv, 1) := by decide +kernel
theorem dX6_putNumber_28 : decode cX6_putNumber 28 = .ok (.iadd, 1) := by decide +kernel
theorem dX6_putNumber_29 : decode cX6_putNumber 29 = .ok (.invokevirtual 21, 3) := by decide +kernel
theorem dX6_putNumber_32 : decode cX6_putNumber 32 = .ok (.iload_n 2, 1) := by decide +kernel
theorem dX6_putNumber_33 : decode cX6_putNumber 33 = .ok (.bipush 9, 2) := by decide +kernel
theorem dX6_putNumber_35 : decode cX6_putNumber 35 = .ok (.if_icmp .le 17, 3) := by decide +kernel
theorem dX6_putNumber_38 : decode cX6_putNumber 38 = .ok (.aload_n 0, 1) := by decide +kernel
theorem dX6_putNumber_39 : decode cX6_putNumber 39 = .ok (.bipush 48, 2) := by decide +kernel
theorem dX6_putNumber_41 : decode cX6_putNumber 41 = .ok (.iload_n 2, 1) := by decide +kernel
theorem dX6_putNumber_42 : decode cX6_putNumber 42 = .ok (.bipush 10, 2) := by decide +kernel
theorem dX6_putNumber_44 : decode cX6_putNumber 44 = .ok (.idiv, 1) := by decide +kernel
theorem dX6_putNumber_45 : decode cX6_putNumber 45 = .ok (.bipush 10, 2) := by decide +kernel
theorem dX6_putNumber_47 : decode cX6_putNumber 47 = .ok (.irem, 1) := by decide +kernel
theorem dX6_putNumber_48 : decode cX6_putNumber 48 = .ok (.iadd, 1) := by decide +kernel
theorem dX6_putNumber_49 : decode cX6_putNumber 49 = .ok (.invokevirtual 21, 3) := by decide +kernel
theorem dX6_putNumber_52 : decode cX6_putNumber 52 = .ok (.aload_n 0, 1) := by decide +kernel
theorem dX6_putNumber_53 : decode cX6_putNumber 53 = .ok (.bipush 48, 2) := by decide +kernel
theorem dX6_putNumber_55 : decode cX6_putNumber 55 = .ok (.iload_n 2, 1) := by decide +kernel
theorem dX6_putNumber_56 : decode cX6_putNumber 56 = .ok (.bipush 10, 2) := by decide +kernel
theorem dX6_putNumber_58 : decode cX6_putNumber 58 = .ok (.irem, 1) := by decide +kernel
theorem dX6_putNumber_59 : decode cX6_putNumber 59 = .ok (.iadd, 1) := by decide +kernel
theorem dX6_putNumber_60 : decode cX6_putNumber 60 = .ok (.invokevirtual 21, 3) := by decide +kernel
theorem dX6_putNumber_63 : decode cX6_putNumber 63 = .ok (.return_, 1) := by decide +kernel
theorem dX6_writeTree_0 : decode cX6_writeTree 0 = .ok (.iload_n 3, 1) := by decide +kernel
theorem dX6_writeTree_1 : decode cX6_writeTree 1 = .ok (.iload_n 2, 1) := by decide +kernel
theorem dX6_writeTree_2 : decode cX6_writeTree 2 = .ok (.if_icmp .ge 9, 3) := by decide +kernel
theorem dX6_writeTree_5 : decode cX6_writeTree 5 = .ok (.iload_n 3, 1) := by decide +kernel
theorem dX6_writeTree_6 : decode cX6_writeTree 6 = .ok (.aload_n 1, 1) := by decide +kernel
theorem dX6_writeTree_7 : decode cX6_writeTree 7 = .ok (.arraylength, 1) := by decide +kernel
theorem dX6_writeTree_8 : decode cX6_writeTree 8 = .ok (.if_icmp .lt 10, 3) := by decide +kernel
theorem dX6_writeTree_11 : decode cX6_writeTree 11 = .ok (.aload_n 0, 1) := by decide +kernel
theorem dX6_writeTree_12 : decode cX6_writeTree 12 = .ok (.bipush 46, 2) := by decide +kernel
theorem dX6_writeTree_14 : decode cX6_writeTree 14 = .ok (.invokevirtual 21, 3) := by decide +kernel
theorem dX6_writeTree_17 : decode cX6_writeTree 17 = .ok (.return_, 1) := by decide +kernel
theorem dX6_writeTree_18 : decode cX6_writeTree 18 = .ok (.aload_n 0, 1) := by decide +kernel
theorem dX6_writeTree_19 : decode cX6_writeTree 19 = .ok (.bipush 40, 2) := by decide +kernel
theorem dX6_writeTree_21 : decode cX6_writeTree 21 = .ok (.invokevirtual 21, 3) := by decide +kernel
theorem dX6_writeTree_24 : decode cX6_writeTree 24 = .ok (.aload_n 0, 1) := by decide +kernel
theorem dX6_writeTree_25 : decode cX6_writeTree 25 = .ok (.aload_n 1, 1) := by decide +kernel
theorem dX6_writeTree_26 : decode cX6_writeTree 26 = .ok (.iload_n 3, 1) := by decide +kernel
theorem dX6_writeTree_27 : decode cX6_writeTree 27 = .ok (.iaload, 1) := by decide +kernel
theorem dX6_writeTree_28 : decode cX6_writeTree 28 = .ok (.invokevirtual 31, 3) := by decide +kernel
theorem dX6_writeTree_31 : decode cX6_writeTree 31 = .ok (.aload_n 0, 1) := by decide +kernel
theorem dX6_writeTree_32 : decode cX6_writeTree 32 = .ok (.aload_n 1, 1) := by decide +kernel
theorem dX6_writeTree_33 : decode cX6_writeTree 33 = .ok (.iload_n 2, 1) := by decide +kernel
theorem dX6_writeTree_34 : decode cX6_writeTree 34 = .ok (.iload_n 3, 1) := by decide +kernel
theorem dX6_writeTree_35 : decode cX6_writeTree 35 = .ok (.iload 4, 2) := by decide +kernel
theorem dX6_writeTree_37 : decode cX6_writeTree 37 = .ok (.iadd, 1) := by decide +kernel
theorem dX6_writeTree_38 : decode cX6_writeTree 38 = .ok (.iconst 2, 1) := by decide +kernel
theorem dX6_writeTree_39 : decode cX6_writeTree 39 = .ok (.iload 4, 2) := by decide +kernel
theorem dX6_writeTree_41 : decode cX6_writeTree 41 = .ok (.imul, 1) := by decide +kernel
theorem dX6_writeTree_42 : decode cX6_writeTree 42 = .ok (.invokestatic 34, 3) := by decide +kernel
theorem dX6_writeTree_45 : decode cX6_writeTree 45 = .ok (.aload_n 0, 1) := by decide +kernel
theorem dX6_writeTree_46 : decode cX6_writeTree 46 = .ok (.aload_n 1, 1) := by decide +kernel
theorem dX6_writeTree_47 : decode cX6_writeTree 47 = .ok (.iload_n 2, 1) := by decide +kernel
theorem dX6_writeTree_48 : decode cX6_writeTree 48 = .ok (.iload_n 3, 1) := by decide +kernel
theorem dX6_writeTree_49 : decode cX6_writeTree 49 = .ok (.iconst 2, 1) := by decide +kernel
theorem dX6_writeTree_50 : decode cX6_writeTree 50 = .ok (.iload 4, 2) := by decide +kernel
theorem dX6_writeTree_52 : decode cX6_writeTree 52 = .ok (.imul, 1) := by decide +kernel
theorem dX6_writeTree_53 : decode cX6_writeTree 53 = .ok (.iadd, 1) := by decide +kernel
theorem dX6_writeTree_54 : decode cX6_writeTree 54 = .ok (.iconst 2, 1) := by decide +kernel
theorem dX6_writeTree_55 : decode cX6_writeTree 55 = .ok (.iload 4, 2) := by decide +kernel
theorem dX6_writeTree_57 : decode cX6_writeTree 57 = .ok (.imul, 1) := by decide +kernel
theorem dX6_writeTree_58 : decode cX6_writeTree 58 = .ok (.invokestatic 34, 3) := by decide +kernel
theorem dX6_writeTree_61 : decode cX6_writeTree 61 = .ok (.aload_n 0, 1) := by decide +kernel
theorem dX6_writeTree_62 : decode cX6_writeTree 62 = .ok (.bipush 41, 2) := by decide +kernel
theorem dX6_writeTree_64 : decode cX6_writeTree 64 = .ok (.invokevirtual 21, 3) := by decide +kernel
theorem dX6_writeTree_67 : decode cX6_writeTree 67 = .ok (.return_, 1) := by decide +kernel
theorem dX7_init_0 : decode cX7_init 0 = .ok (.aload_n 0, 1) := by decide +kernel
theorem dX7_init_1 : decode cX7_init 1 = .ok (.invokespecial 1, 3) := by decide +kernel
theorem dX7_init_4 : decode cX7_init 4 = .ok (.aload_n 0, 1) := by decide +kernel
theorem dX7_init_5 : decode cX7_init 5 = .ok (.new 7, 3) := by decide +kernel
theorem dX7_init_8 : decode cX7_init 8 = .ok (.dup, 1) := by decide +kernel
theorem dX7_init_9 : decode cX7_init 9 = .ok (.invokespecial 9, 3) := by decide +kernel
theorem dX7_init_12 : decode cX7_init 12 = .ok (.putfield 10, 3) := by decide +kernel
theorem dX7_init_15 : decode cX7_init 15 = .ok (.aload_n 0, 1) := by decide +kernel
theorem dX7_init_16 : decode cX7_init 16 = .ok (.new 16, 3) := by decide +kernel
theorem dX7_init_19 : decode cX7_init 19 = .ok (.dup, 1) := by decide +kernel
theorem dX7_init_20 : decode cX7_init 20 = .ok (.invokespecial 18, 3) := by decide +kernel
theorem dX7_init_23 : decode cX7_init 23 = .ok (.putfield 19, 3) := by decide +kernel
theorem dX7_init_26 : decode cX7_init 26 = .ok (.aload_n 0, 1) := by decide +kernel
theorem dX7_init_27 : decode cX7_init 27 = .ok (.new 23, 3) := by decide +kernel
theorem dX7_init_30 : decode cX7_init 30 = .ok (.dup, 1) := by decide +kernel
theorem dX7_init_31 : decode cX7_init 31 = .ok (.invokespecial 25, 3) := by decide +kernel
theorem dX7_init_34 : decode cX7_init 34 = .ok (.putfield 26, 3) := by decide +kernel
theorem dX7_init_37 : decode cX7_init 37 = .ok (.aload_n 0, 1) := by decide +kernel
theorem dX7_init_38 : decode cX7_init 38 = .ok (.aload_n 0, 1) := by decide +kernel
theorem dX7_init_39 : decode cX7_init 39 = .ok (.getfield 26, 3) := by decide +kernel
theorem dX7_init_42 : decode cX7_init 42 = .ok (.getfield 30, 3) := by decide +kernel
theorem dX7_init_45 : decode cX7_init 45 = .ok (.putfield 34, 3) := by decide +kernel
theorem dX7_init_48 : decode cX7_init 48 = .ok (.aload_n 0, 1) := by decide +kernel
theorem dX7_init_49 : decode cX7_init 49 = .ok (.new 35, 3) := by decide +kernel
theorem dX7_init_52 : decode cX7_init 52 = .ok (.dup, 1) := by decide +kernel
theorem dX7_init_53 : decode cX7_init 53 = .ok (.invokespecial 37, 3) := by decide +kernel
theorem dX7_init_56 : decode cX7_init 56 = .ok (.putfield 38, 3) := by decide +kernel
theorem dX7_init_59 : decode cX7_init 59 = .ok (.aload_n 0, 1) := by decide +kernel
theorem dX7_init_60 : decode cX7_init 60 = .ok (.new 42, 3) := by decide +kernel
theorem dX7_init_63 : decode cX7_init 63 = .ok (.dup, 1) := by decide +kernel
theorem dX7_init_64 : decode cX7_init 64 = .ok (.invokespecial 44, 3) := by decide +kernel
theorem dX7_init_67 : decode cX7_init 67 = .ok (.putfield 45, 3) := by decide +kernel
theorem dX7_init_70 : decode cX7_init 70 = .ok (.aload_n 0, 1) := by decide +kernel
theorem dX7_init_71 : decode cX7_init 71 = .ok (.bipush 6, 2) := by decide +kernel
theorem dX7_init_73 : decode cX7_init 73 = .ok (.newarray .int, 2) := by decide +kernel
theorem dX7_init_75 : decode cX7_init 75 = .ok (.putfield 49, 3) := by decide +kernel
theorem dX7_init_78 : decode cX7_init 78 = .ok (.aload_n 0, 1) := by decide +kernel
theorem dX7_init_79 : decode cX7_init 79 = .ok (.bipush 6, 2) := by decide +kernel
theorem dX7_init_81 : decode cX7_init 81 = .ok (.newarray .int, 2) := by decide +kernel
theorem dX7_init_83 : decode cX7_init 83 = .ok (.putfield 53, 3) := by decide +kernel
theorem dX7_init_86 : decode cX7_init 86 = .ok (.aload_n 0, 1) := by decide +kernel
theorem dX7_init_87 : decode cX7_init 87 = .ok (.sipush 256, 3) := by decide +kernel
theorem dX7_init_90 : decode cX7_init 90 = .ok (.newarray .int, 2) := by decide +kernel
theorem dX7_init_92 : decode cX7_init 92 = .ok (.putfield 56, 3) := by decide +kernel
theorem dX7_init_95 : decode cX7_init 95 = .ok (.aload_n 0, 1) := by decide +kernel
theorem dX7_init_96 : decode cX7_init 96 = .ok (.sipush 256, 3) := by decide +kernel
theorem dX7_init_99 : decode cX7_init 99 = .ok (.newarray .int, 2) := by decide +kernel
theorem dX7_init_101 : decode cX7_init 101 = .ok (.putfield 59, 3) := by decide +kernel
theorem dX7_init_104 : decode cX7_init 104 = .ok (.aload_n 0, 1) := by decide +kernel
theorem dX7_init_105 : decode cX7_init 105 = .ok (.sipush 256, 3) := by decide +kernel
theorem dX7_init_108 : decode cX7_init 108 = .ok (.newarray .int, 2) := by decide +kernel
theorem dX7_init_110 : decode cX7_init 110 = .ok (.putfield 62, 3) := by decide +kernel
theorem dX7_init_113 : decode cX7_init 113 = .ok (.aload_n 0, 1) := by decide +kernel
theorem dX7_init_114 : decode cX7_init 114 = .ok (.sipush 1999, 3) := by decide +kernel
theorem dX7_init_117 : decode cX7_init 117 = .ok (.newarray .int, 2) := by decide +kernel
theorem dX7_init_119 : decode cX7_init 119 = .ok (.putfield 65, 3) := by decide +kernel
theorem dX7_init_122 : decode cX7_init 122 = .ok (.return_, 1) := by decide +kernel
theorem dX7_sign_0 : decode cX7_sign 0 = .ok (.aload_n 0, 1) := by decide +kernel
theorem dX7_sign_1 : decode cX7_sign 1 = .ok (.getfield 34, 3) := by decide +kernel
theorem dX7_sign_4 : decode cX7_sign 4 = .ok (.iload_n 1, 1) := by decide +kernel
theorem dX7_sign_5 : decode cX7_sign 5 = .ok (.invokevirtual 68, 3) := by decide +kernel
theorem dX7_sign_8 : decode cX7_sign 8 = .ok (.ireturn, 1) := by decide +kernel
theorem dX7_end_0 : decode cX7_end 0 = .ok (.aload_n 0, 1) := by decide +kernel
theorem dX7_end_1 : decode cX7_end 1 = .ok (.getfield 34, 3) := by decide +kernel
theorem dX7_end_4 : decode cX7_end 4 = .ok (.iload_n 1, 1) := by decide +kernel
theorem dX7_end_5 : decode cX7_end 5 = .ok (.invokevirtual 74, 3) := by decide +kernel
theorem dX7_end_8 : decode cX7_end 8 = .ok (.ireturn, 1) := by decide +kernel
theorem dX7_tells_0 : decode cX7_tells 0 = .ok (.aload_n 0, 1) := by decide +kernel
theorem dX7_tells_1 : decode cX7_tells 1 = .ok (.getfield 26, 3) := by decide +kernel
theorem dX7_tells_4 : decode cX7_tells 4 = .ok (.aload_n 0, 1) := by decide +kernel
theorem dX7_tells_5 : decode cX7_tells 5 = .ok (.getfield 62, 3) := by decide +kernel
theorem dX7_tells_8 : decode cX7_tells 8 = .ok (.invokevirtual 78, 3) := by decide +kernel
theorem dX7_tells_11 : decode cX7_tells 11 = .ok (.istore_n 2, 1) := by decide +kernel
theorem dX7_tells_12 : decode cX7_tells 12 = .ok (.aload_n 0, 1) := by decide +kernel
theorem dX7_tells_13 : decode cX7_tells 13 = .ok (.getfield 34, 3) := by decide +kernel
theorem dX7_tells_16 : decode cX7_tells 16 = .ok (.iconst 0, 1) := by decide +kernel
theorem dX7_tells_17 : decode cX7_tells 17 = .ok (.invokevirtual 74, 3) := by decide +kernel
theorem dX7_tells_20 : decode cX7_tells 20 = .ok (.pop, 1) := by decide +kernel
theorem dX7_tells_21 : decode cX7_tells 21 = .ok (.iload_n 2, 1) := by decide +kernel
theorem dX7_tells_22 : decode cX7_tells 22 = .ok (.iconst (-1), 1) := by decide +kernel
theorem dX7_tells_23 : decode cX7_tells 23 = .ok (.if_icmp .ne 15, 3) := by decide +kernel
theorem dX7_tells_26 : decode cX7_tells 26 = .ok (.sipush (-2000), 3) := by decide +kernel
theorem dX7_tells_29 : decode cX7_tells 29 = .ok (.aload_n 0, 1) := by decide +kernel
theorem dX7_tells_30 : decode cX7_tells 30 = .ok (.getfield 26, 3) := by decide +kernel
theorem dX7_tells_33 : decode cX7_tells 33 = .ok (.getfield 82, 3) := by decide +kernel
theorem dX7_tells_36 : decode cX7_tells 36 = .ok (.isub, 1) := by decide +kernel
theorem dX7_tells_37 : decode cX7_tells 37 = .ok (.ireturn, 1) := by decide +kernel
theorem dX7_tells_38 : decode cX7_tells 38 = .ok (.iload_n 1, 1) := by decide +kernel
theorem dX7_tells_39 : decode cX7_tells 39 = .ok (.invokestatic 86, 3) := by decide +kernel
theorem dX7_tells_42 : decode cX7_tells 42 = .ok (.ifCond .eq 12, 3) := by decide +kernel
theorem dX7_tells_45 : decode cX7_tells 45 = .ok (.aload_n 0, 1) := by decide +kernel
theorem dX7_tells_46 : decode cX7_tells 46 = .ok (.iload_n 1, 1) := by decide +kernel
theorem dX7_tells_47 : decode cX7_tells 47 = .ok (.iload_n 2, 1) := by decide +kernel
theorem dX7_tells_48 : decode cX7_tells 48 = .ok (.invokevirtual 89, 3) := by decide +kernel
theorem dX7_tells_51 : decode cX7_tells 51 = .ok (.goto 4, 3) := by decide +kernel
theorem dX7_tells_54 : decode cX7_tells 54 = .ok (.iconst (-1), 1) := by decide +kernel
theorem dX7_tells_55 : decode cX7_tells 55 = .ok (.ireturn, 1) := by decide +kernel
theorem dX7_grows_0 : decode cX7_grows 0 = .ok (.aload_n 0, 1) := by decide +kernel
theorem dX7_grows_1 : decode cX7_grows 1 = .ok (.getfield 26, 3) := by decide +kernel
theorem dX7_grows_4 : decode cX7_grows 4 = .ok (.invokevirtual 93, 3) := by decide +kernel
theorem dX7_grows_7 : decode cX7_grows 7 = .ok (.istore_n 2, 1) := by decide +kernel
theorem dX7_grows_8 : decode cX7_grows 8 = .ok (.aload_n 0, 1) := by decide +kernel
theorem dX7_grows_9 : decode cX7_grows 9 = .ok (.getfield 34, 3) := by decide +kernel
theorem dX7_grows_12 : decode cX7_grows 12 = .ok (.iconst 0, 1) := by decide +kernel
theorem dX7_grows_13 : decode cX7_grows 13 = .ok (.invokevirtual 74, 3) := by decide +kernel
theorem dX7_grows_16 : decode cX7_grows 16 = .ok (.pop, 1) := by decide +kernel
theorem dX7_grows_17 : decode cX7_grows 17 = .ok (.iload_n 2, 1) := by decide +kernel
theorem dX7_grows_18 : decode cX7_grows 18 = .ok (.ifCond .ne 15, 3) := by decide +kernel
theorem dX7_grows_21 : decode cX7_grows 21 = .ok (.sipush (-2000), 3) := by decide +kernel
theorem dX7_grows_24 : decode cX7_grows 24 = .ok (.aload_n 0, 1) := by decide +kernel
theorem dX7_grows_25 : decode cX7_grows 25 = .ok (.getfield 26, 3) := by decide +kernel
theorem dX7_grows_28 : decode cX7_grows 28 = .ok (.getfield 82, 3) := by decide +kernel
theorem dX7_grows_31 : decode cX7_grows 31 = .ok (.isub, 1) := by decide +kernel
theorem dX7_grows_32 : decode cX7_grows 32 = .ok (.ireturn, 1) := by decide +kernel
theorem dX7_grows_33 : decode cX7_grows 33 = .ok (.iload_n 1, 1) := by decide +kernel
theorem dX7_grows_34 : decode cX7_grows 34 = .ok (.invokestatic 86, 3) := by decide +kernel
theorem dX7_grows_37 : decode cX7_grows 37 = .ok (.ifCond .ne 5, 3) := by decide +kernel
theorem dX7_grows_40 : decode cX7_grows 40 = .ok (.iconst (-1), 1) := by decide +kernel
theorem dX7_grows_41 : decode cX7_grows 41 = .ok (.ireturn, 1) := by decide +kernel
theorem dX7_grows_42 : decode cX7_grows 42 = .ok (.aload_n 0, 1) := by decide +kernel
theorem dX7_grows_43 : decode cX7_grows 43 = .ok (.getfield 26, 3) := by decide +kernel
theorem dX7_grows_46 : decode cX7_grows 46 = .ok (.invokevirtual 97, 3) := by decide +kernel
theorem dX7_grows_49 : decode cX7_grows 49 = .ok (.istore_n 3, 1) := by decide +kernel
theorem dX7_grows_50 : decode cX7_grows 50 = .ok (.iload_n 3, 1) := by decide +kernel
theorem dX7_grows_51 : decode cX7_grows 51 = .ok (.iconst (-1), 1) := by decide +kernel
theorem dX7_grows_52 : decode cX7_grows 52 = .ok (.if_icmp .eq 43, 3) := by decide +kernel
theorem dX7_grows_55 : decode cX7_grows 55 = .ok (.aload_n 0, 1) := by decide +kernel
theorem dX7_grows_56 : decode cX7_grows 56 = .ok (.getfield 19, 3) := by decide +kernel
theorem dX7_grows_59 : decode cX7_grows 59 = .ok (.aload_n 0, 1) := by decide +kernel
theorem dX7_grows_60 : decode cX7_grows 60 = .ok (.getfield 26, 3) := by decide +kernel
theorem dX7_grows_63 : decode cX7_grows 63 = .ok (.getfield 101, 3) := by decide +kernel
theorem dX7_grows_66 : decode cX7_grows 66 = .ok (.iload_n 3, 1) := by decide +kernel
theorem dX7_grows_67 : decode cX7_grows 67 = .ok (.iaload, 1) := by decide +kernel
theorem dX7_grows_68 : decode cX7_grows 68 = .ok (.i2l, 1) := by decide +kernel
theorem dX7_grows_69 : decode cX7_grows 69 = .ok (.aload_n 0, 1) := by decide +kernel
theorem dX7_grows_70 : decode cX7_grows 70 = .ok (.getfield 26, 3) := by decide +kernel
theorem dX7_grows_73 : decode cX7_grows 73 = .ok (.getfield 104, 3) := by decide +kernel
theorem dX7_grows_76 : decode cX7_grows 76 = .ok (.iload_n 3, 1) := by decide +kernel
theorem dX7_grows_77 : decode cX7_grows 77 = .ok (.iaload, 1) := by decide +kernel
theorem dX7_grows_78 : decode cX7_grows 78 = .ok (.i2l, 1) := by decide +kernel
theorem dX7_grows_79 : decode cX7_grows 79 = .ok (.aload_n 0, 1) := by decide +kernel
theorem dX7_grows_80 : decode cX7_grows 80 = .ok (.getfield 26, 3) := by decide +kernel
theorem dX7_grows_83 : decode cX7_grows 83 = .ok (.getfield 107, 3) := by decide +kernel
theorem dX7_grows_86 : decode cX7_grows 86 = .ok (.iload_n 3, 1) := by decide +kernel
theorem dX7_grows_87 : decode cX7_grows 87 = .ok (.iaload, 1) := by decide +kernel
theorem dX7_grows_88 : decode cX7_grows 88 = .ok (.i2l, 1) := by decide +kernel
theorem dX7_grows_89 : decode cX7_grows 89 = .ok (.invokevirtual 110, 3) := by decide +kernel
theorem dX7_grows_92 : decode cX7_grows 92 = .ok (.bipush (-2), 2) := by decide +kernel
theorem dX7_grows_94 : decode cX7_grows 94 = .ok (.ireturn, 1) := by decide +kernel
theorem dX7_grows_95 : decode cX7_grows 95 = .ok (.aload_n 0, 1) := by decide +kernel
theorem dX7_grows_96 : decode cX7_grows 96 = .ok (.iload_n 1, 1) := by decide +kernel
theorem dX7_grows_97 : decode cX7_grows 97 = .ok (.aload_n 0, 1) := by decide +kernel
theorem dX7_grows_98 : decode cX7_grows 98 = .ok (.getfield 26, 3) := by decide +kernel
theorem dX7_grows_101 : decode cX7_grows 101 = .ok (.aload_n 0, 1) := by decide +kernel
theorem dX7_grows_102 : decode cX7_grows 102 = .ok (.getfield 62, 3) := by decide +kernel
theorem dX7_grows_105 : decode cX7_grows 105 = .ok (.invokevirtual 114, 3) := by decide +kernel
theorem dX7_grows_108 : decode cX7_grows 108 = .ok (.invokevirtual 89, 3) := by decide +kernel
theorem dX7_grows_111 : decode cX7_grows 111 = .ok (.ireturn, 1) := by decide +kernel
theorem dX7_fills_0 : decode cX7_fills 0 = .ok (.iload_n 1, 1) := by decide +kernel
theorem dX7_fills_1 : decode cX7_fills 1 = .ok (.ifCond .lt 24, 3) := by decide +kernel
theorem dX7_fills_4 : decode cX7_fills 4 = .ok (.iload_n 1, 1) := by decide +kernel
theorem dX7_fills_5 : decode cX7_fills 5 = .ok (.sipush 255, 3) := by decide +kernel
theorem dX7_fills_8 : decode cX7_fills 8 = .ok (.if_icmp .gt 17, 3) := by decide +kernel
theorem dX7_fills_11 : decode cX7_fills 11 = .ok (.iload_n 2, 1) := by decide +kernel
theorem dX7_fills_12 : decode cX7_fills 12 = .ok (.invokestatic 117, 3) := by decide +kernel
theorem dX7_fills_15 : decode cX7_fills 15 = .ok (.ifCond .eq 10, 3) := by decide +kernel
theorem dX7_fills_18 : decode cX7_fills 18 = .ok (.iload_n 3, 1) := by decide +kernel
theorem dX7_fills_19 : decode cX7_fills 19 = .ok (.invokestatic 86, 3) := by decide +kernel
theorem dX7_fills_22 : decode cX7_fills 22 = .ok (.ifCond .ne 5, 3) := by decide +kernel
theorem dX7_fills_25 : decode cX7_fills 25 = .ok (.iconst (-1), 1) := by decide +kernel
theorem dX7_fills_26 : decode cX7_fills 26 = .ok (.ireturn, 1) := by decide +kernel
theorem dX7_fills_27 : decode cX7_fills 27 = .ok (.aload_n 0, 1) := by decide +kernel
theorem dX7_fills_28 : decode cX7_fills 28 = .ok (.invokevirtual 120, 3) := by decide +kernel
theorem dX7_fills_31 : decode cX7_fills 31 = .ok (.istore 4, 2) := by decide +kernel
theorem dX7_fills_33 : decode cX7_fills 33 = .ok (.aload_n 0, 1) := by decide +kernel
theorem dX7_fills_34 : decode cX7_fills 34 = .ok (.iload_n 3, 1) := by decide +kernel
theorem dX7_fills_35 : decode cX7_fills 35 = .ok (.aload_n 0, 1) := by decide +kernel
theorem dX7_fills_36 : decode cX7_fills 36 = .ok (.getfield 10, 3) := by decide +kernel
theorem dX7_fills_39 : decode cX7_fills 39 = .ok (.iload_n 1, 1) := by decide +kernel
theorem dX7_fills_40 : decode cX7_fills 40 = .ok (.iload_n 2, 1) := by decide +kernel
theorem dX7_fills_41 : decode cX7_fills 41 = .ok (.invokevirtual 123, 3) := by decide +kernel
theorem dX7_fills_44 : decode cX7_fills 44 = .ok (.iload_n 1, 1) := by decide +kernel
theorem dX7_fills_45 : decode cX7_fills 45 = .ok (.invokevirtual 126, 3) := by decide +kernel
theorem dX7_fills_48 : decode cX7_fills 48 = .ok (.pop, 1) := by decide +kernel
theorem dX7_fills_49 : decode cX7_fills 49 = .ok (.aload_n 0, 1) := by decide +kernel
theorem dX7_fills_50 : decode cX7_fills 50 = .ok (.getfield 10, 3) := by decide +kernel
theorem dX7_fills_53 : decode cX7_fills 53 = .ok (.getfield 130, 3) := by decide +kernel
theorem dX7_fills_56 : decode cX7_fills 56 = .ok (.iload 4, 2) := by decide +kernel
theorem dX7_fills_58 : decode cX7_fills 58 = .ok (.isub, 1) := by decide +kernel
theorem dX7_fills_59 : decode cX7_fills 59 = .ok (.ireturn, 1) := by decide +kernel
theorem dX7_copies_0 : decode cX7_copies 0 = .ok (.iload_n 1, 1) := by decide +kernel
theorem dX7_copies_1 : decode cX7_copies 1 = .ok (.invokestatic 86, 3) := by decide +kernel
theorem dX7_copies_4 : decode cX7_copies 4 = .ok (.ifCond .eq 10, 3) := by decide +kernel
theorem dX7_copies_7 : decode cX7_copies 7 = .ok (.iload_n 2, 1) := by decide +kernel
theorem dX7_copies_8 : decode cX7_copies 8 = .ok (.invokestatic 86, 3) := by decide +kernel
theorem dX7_copies_11 : decode cX7_copies 11 = .ok (.ifCond .ne 5, 3) := by decide +kernel
theorem dX7_copies_14 : decode cX7_copies 14 = .ok (.iconst (-1), 1) := by decide +kernel
theorem dX7_copies_15 : decode cX7_copies 15 = .ok (.ireturn, 1) := by decide +kernel
theorem dX7_copies_16 : decode cX7_copies 16 = .ok (.aload_n 0, 1) := by decide +kernel
theorem dX7_copies_17 : decode cX7_copies 17 = .ok (.iload_n 2, 1) := by decide +kernel
theorem dX7_copies_18 : decode cX7_copies 18 = .ok (.aload_n 0, 1) := by decide +kernel
theorem dX7_copies_19 : decode cX7_copies 19 = .ok (.getfield 49, 3) := by decide +kernel
theorem dX7_copies_22 : decode cX7_copies 22 = .ok (.iload_n 1, 1) := by decide +kernel
theorem dX7_copies_23 : decode cX7_copies 23 = .ok (.iaload, 1) := by decide +kernel
theorem dX7_copies_24 : decode cX7_copies 24 = .ok (.aload_n 0, 1) := by decide +kernel
theorem dX7_copies_25 : decode cX7_copies 25 = .ok (.getfield 53, 3) := by decide +kernel
theorem dX7_copies_28 : decode cX7_copies 28 = .ok (.iload_n 1, 1) := by decide +kernel
theorem dX7_copies_29 : decode cX7_copies 29 = .ok (.iaload, 1) := by decide +kernel
theorem dX7_copies_30 : decode cX7_copies 30 = .ok (.invokevirtual 126, 3) := by decide +kernel
theorem dX7_copies_33 : decode cX7_copies 33 = .ok (.ireturn, 1) := by decide +kernel
theorem dX7_sides_0 : decode cX7_sides 0 = .ok (.iload_n 1, 1) := by decide +kernel
theorem dX7_sides_1 : decode cX7_sides 1 = .ok (.invokestatic 86, 3) := by decide +kernel
theorem dX7_sides_4 : decode cX7_sides 4 = .ok (.ifCond .eq 19, 3) := by decide +kernel
theorem dX7_sides_7 : decode cX7_sides 7 = .ok (.iload_n 3, 1) := by decide +kernel
theorem dX7_sides_8 : decode cX7_sides 8 = .ok (.invokestatic 86, 3) := by decide +kernel
theorem dX7_sides_11 : decode cX7_sides 11 = .ok (.ifCond .eq 12, 3) := by decide +kernel
theorem dX7_sides_14 : decode cX7_sides 14 = .ok (.iload_n 2, 1) := by decide +kernel
theorem dX7_sides_15 : decode cX7_sides 15 = .ok (.ifCond .lt 8, 3) := by decide +kernel
theorem dX7_sides_18 : decode cX7_sides 18 = .ok (.iload_n 2, 1) := by decide +kernel
theorem dX7_sides_19 : decode cX7_sides 19 = .ok (.iconst 1, 1) := by decide +kernel
theorem dX7_sides_20 : decode cX7_sides 20 = .ok (.if_icmp .le 5, 3) := by decide +kernel
theorem dX7_sides_23 : decode cX7_sides 23 = .ok (.iconst (-1), 1) := by decide +kernel
theorem dX7_sides_24 : decode cX7_sides 24 = .ok (.ireturn, 1) := by decide +kernel
theorem dX7_sides_25 : decode cX7_sides 25 = .ok (.iload_n 2, 1) := by decide +kernel
theorem dX7_sides_26 : decode cX7_sides 26 = .ok (.ifCond .ne 15, 3) := by decide +kernel
theorem dX7_sides_29 : decode cX7_sides 29 = .ok (.aload_n 0, 1) := by decide +kernel
theorem dX7_sides_30 : decode cX7_sides 30 = .ok (.getfield 53, 3) := by decide +kernel
theorem dX7_sides_33 : decode cX7_sides 33 = .ok (.iload_n 1, 1) := by decide +kernel
theorem dX7_sides_34 : decode cX7_sides 34 = .ok (.iaload, 1) := by decide +kernel
theorem dX7_sides_35 : decode cX7_sides 35 = .ok (.invokestatic 133, 3) := by decide +kernel
theorem dX7_sides_38 : decode cX7_sides 38 = .ok (.goto 12, 3) := by decide +kernel
theorem dX7_sides_41 : decode cX7_sides 41 = .ok (.aload_n 0, 1) := by decide +kernel
theorem dX7_sides_42 : decode cX7_sides 42 = .ok (.getfield 53, 3) := by decide +kernel
theorem dX7_sides_45 : decode cX7_sides 45 = .ok (.iload_n 1, 1) := by decide +kernel
theorem dX7_sides_46 : decode cX7_sides 46 = .ok (.iaload, 1) := by decide +kernel
theorem dX7_sides_47 : decode cX7_sides 47 = .ok (.invokestatic 138, 3) := by decide +kernel
theorem dX7_sides_50 : decode cX7_sides 50 = .ok (.istore 4, 2) := by decide +kernel
theorem dX7_sides_52 : decode cX7_sides 52 = .ok (.iload 4, 2) := by decide +kernel
theorem dX7_sides_54 : decode cX7_sides 54 = .ok (.ifCond .ne 6, 3) := by decide +kernel
theorem dX7_sides_57 : decode cX7_sides 57 = .ok (.bipush (-2), 2) := by decide +kernel
theorem dX7_sides_59 : decode cX7_sides 59 = .ok (.ireturn, 1) := by decide +kernel
theorem dX7_sides_60 : decode cX7_sides 60 = .ok (.aload_n 0, 1) := by decide +kernel
theorem dX7_sides_61 : decode cX7_sides 61 = .ok (.iload_n 3, 1) := by decide +kernel
theorem dX7_sides_62 : decode cX7_sides 62 = .ok (.iload_n 2, 1) := by decide +kernel
theorem dX7_sides_63 : decode cX7_sides 63 = .ok (.ifCond .ne 19, 3) := by decide +kernel
theorem dX7_sides_66 : decode cX7_sides 66 = .ok (.aload_n 0, 1) := by decide +kernel
theorem dX7_sides_67 : decode cX7_sides 67 = .ok (.getfield 10, 3) := by decide +kernel
theorem dX7_sides_70 : decode cX7_sides 70 = .ok (.aload_n 0, 1) := by decide +kernel
theorem dX7_sides_71 : decode cX7_sides 71 = .ok (.getfield 49, 3) := by decide +kernel
theorem dX7_sides_74 : decode cX7_sides 74 = .ok (.iload_n 1, 1) := by decide +kernel
theorem dX7_sides_75 : decode cX7_sides 75 = .ok (.iaload, 1) := by decide +kernel
theorem dX7_sides_76 : decode cX7_sides 76 = .ok (.invokevirtual 141, 3) := by decide +kernel
theorem dX7_sides_79 : decode cX7_sides 79 = .ok (.goto 16, 3) := by decide +kernel
theorem dX7_sides_82 : decode cX7_sides 82 = .ok (.aload_n 0, 1) := by decide +kernel
theorem dX7_sides_83 : decode cX7_sides 83 = .ok (.getfield 10, 3) := by decide +kernel
theorem dX7_sides_86 : decode cX7_sides 86 = .ok (.aload_n 0, 1) := by decide +kernel
theorem dX7_sides_87 : decode cX7_sides 87 = .ok (.getfield 49, 3) := by decide +kernel
theorem dX7_sides_90 : decode cX7_sides 90 = .ok (.iload_n 1, 1) := by decide +kernel
theorem dX7_sides_91 : decode cX7_sides 91 = .ok (.iaload, 1) := by decide +kernel
theorem dX7_sides_92 : decode cX7_sides 92 = .ok (.invokevirtual 144, 3) := by decide +kernel
theorem dX7_sides_95 : decode cX7_sides 95 = .ok (.iload 4, 2) := by decide +kernel
theorem dX7_sides_97 : decode cX7_sides 97 = .ok (.invokevirtual 126, 3) := by decide +kernel
theorem dX7_sides_100 : decode cX7_sides 100 = .ok (.ireturn, 1) := by decide +kernel
theorem dX7_roots_0 : decode cX7_roots 0 = .ok (.iload_n 1, 1) := by decide +kernel
theorem dX7_roots_1 : decode cX7_roots 1 = .ok (.invokestatic 117, 3) := by decide +kernel
theorem dX7_roots_4 : decode cX7_roots 4 = .ok (.ifCond .eq 25, 3) := by decide +kernel
theorem dX7_roots_7 : decode cX7_roots 7 = .ok (.iload_n 2, 1) := by decide +kernel
theorem dX7_roots_8 : decode cX7_roots 8 = .ok (.invokestatic 86, 3) := by decide +kernel
theorem dX7_roots_11 : decode cX7_roots 11 = .ok (.ifCond .eq 18, 3) := by decide +kernel
theorem dX7_roots_14 : decode cX7_roots 14 = .ok (.iload_n 3, 1) := by decide +kernel
theorem dX7_roots_15 : decode cX7_roots 15 = .ok (.invokestatic 86, 3) := by decide +kernel
theorem dX7_roots_18 : decode cX7_roots 18 = .ok (.ifCond .eq 11, 3) := by decide +kernel
theorem dX7_roots_21 : decode cX7_roots 21 = .ok (.iload 4, 2) := by decide +kernel
theorem dX7_roots_23 : decode cX7_roots 23 = .ok (.invokestatic 86, 3) := by decide +kernel
theorem dX7_roots_26 : decode cX7_roots 26 = .ok (.ifCond .ne 5, 3) := by decide +kernel
theorem dX7_roots_29 : decode cX7_roots 29 = .ok (.iconst (-1), 1) := by decide +kernel
theorem dX7_roots_30 : decode cX7_roots 30 = .ok (.ireturn, 1) := by decide +kernel
theorem dX7_roots_31 : decode cX7_roots 31 = .ok (.aload_n 0, 1) := by decide +kernel
theorem dX7_roots_32 : decode cX7_roots 32 = .ok (.getfield 53, 3) := by decide +kernel
theorem dX7_roots_35 : decode cX7_roots 35 = .ok (.iload_n 2, 1) := by decide +kernel
theorem dX7_roots_36 : decode cX7_roots 36 = .ok (.iaload, 1) := by decide +kernel
theorem dX7_roots_37 : decode cX7_roots 37 = .ok (.aload_n 0, 1) := by decide +kernel
theorem dX7_roots_38 : decode cX7_roots 38 = .ok (.getfield 53, 3) := by decide +kernel
theorem dX7_roots_41 : decode cX7_roots 41 = .ok (.iload_n 3, 1) := by decide +kernel
theorem dX7_roots_42 : decode cX7_roots 42 = .ok (.iaload, 1) := by decide +kernel
theorem dX7_roots_43 : decode cX7_roots 43 = .ok (.invokestatic 147, 3) := by decide +kernel
theorem dX7_roots_46 : decode cX7_roots 46 = .ok (.ifCond .ne 6, 3) := by decide +kernel
theorem dX7_roots_49 : decode cX7_roots 49 = .ok (.bipush (-2), 2) := by decide +kernel
theorem dX7_roots_51 : decode cX7_roots 51 = .ok (.ireturn, 1) := by decide +kernel
theorem dX7_roots_52 : decode cX7_roots 52 = .ok (.iconst 1, 1) := by decide +kernel
theorem dX7_roots_53 : decode cX7_roots 53 = .ok (.aload_n 0, 1) := by decide +kernel
theorem dX7_roots_54 : decode cX7_roots 54 = .ok (.getfield 53, 3) := by decide +kernel
theorem dX7_roots_57 : decode cX7_roots 57 = .ok (.iload_n 2, 1) := by decide +kernel
theorem dX7_roots_58 : decode cX7_roots 58 = .ok (.iaload, 1) := by decide +kernel
theorem dX7_roots_59 : decode cX7_roots 59 = .ok (.iadd, 1) := by decide +kernel
theorem dX7_roots_60 : decode cX7_roots 60 = .ok (.aload_n 0, 1) := by decide +kernel
theorem dX7_roots_61 : decode cX7_roots 61 = .ok (.getfield 53, 3) := by decide +kernel
theorem dX7_roots_64 : decode cX7_roots 64 = .ok (.iload_n 3, 1) := by decide +kernel
theorem dX7_roots_65 : decode cX7_roots 65 = .ok (.iaload, 1) := by decide +kernel
theorem dX7_roots_66 : decode cX7_roots 66 = .ok (.iadd, 1) := by decide +kernel
theorem dX7_roots_67 : decode cX7_roots 67 = .ok (.istore 5, 2) := by decide +kernel
theorem dX7_roots_69 : decode cX7_roots 69 = .ok (.iload 5, 2) := by decide +kernel
theorem dX7_roots_71 : decode cX7_roots 71 = .ok (.sipush 255, 3) := by decide +kernel
theorem dX7_roots_74 : decode cX7_roots 74 = .ok (.if_icmp .le 6, 3) := by decide +kernel
theorem dX7_roots_77 : decode cX7_roots 77 = .ok (.bipush (-3), 2) := by decide +kernel
theorem dX7_roots_79 : decode cX7_roots 79 = .ok (.ireturn, 1) := by decide +kernel
theorem dX7_roots_80 : decode cX7_roots 80 = .ok (.aload_n 0, 1) := by decide +kernel
theorem dX7_roots_81 : decode cX7_roots 81 = .ok (.invokevirtual 120, 3) := by decide +kernel
theorem dX7_roots_84 : decode cX7_roots 84 = .ok (.pop, 1) := by decide +kernel
theorem dX7_roots_85 : decode cX7_roots 85 = .ok (.aload_n 0, 1) := by decide +kernel
theorem dX7_roots_86 : decode cX7_roots 86 = .ok (.iload 4, 2) := by decide +kernel
theorem dX7_roots_88 : decode cX7_roots 88 = .ok (.aload_n 0, 1) := by decide +kernel
theorem dX7_roots_89 : decode cX7_roots 89 = .ok (.getfield 10, 3) := by decide +kernel
theorem dX7_roots_92 : decode cX7_roots 92 = .ok (.iload_n 1, 1) := by decide +kernel
theorem dX7_roots_93 : decode cX7_roots 93 = .ok (.aload_n 0, 1) := by decide +kernel
theorem dX7_roots_94 : decode cX7_roots 94 = .ok (.getfield 49, 3) := by decide +kernel
theorem dX7_roots_97 : decode cX7_roots 97 = .ok (.iload_n 2, 1) := by decide +kernel
theorem dX7_roots_98 : decode cX7_roots 98 = .ok (.iaload, 1) := by decide +kernel
theorem dX7_roots_99 : decode cX7_roots 99 = .ok (.aload_n 0, 1) := by decide +kernel
theorem dX7_roots_100 : decode cX7_roots 100 = .ok (.getfield 49, 3) := by decide +kernel
theorem dX7_roots_103 : decode cX7_roots 103 = .ok (.iload_n 3, 1) := by decide +kernel
theorem dX7_roots_104 : decode cX7_roots 104 = .ok (.iaload, 1) := by decide +kernel
theorem dX7_roots_105 : decode cX7_roots 105 = .ok (.invokevirtual 151, 3) := by decide +kernel
theorem dX7_roots_108 : decode cX7_roots 108 = .ok (.iload 5, 2) := by decide +kernel
theorem dX7_roots_110 : decode cX7_roots 110 = .ok (.invokevirtual 126, 3) := by decide +kernel
theorem dX7_roots_113 : decode cX7_roots 113 = .ok (.ireturn, 1) := by decide +kernel
theorem dX7_size_0 : decode cX7_size 0 = .ok (.iload_n 1, 1) := by decide +kernel
theorem dX7_size_1 : decode cX7_size 1 = .ok (.invokestatic 86, 3) := by decide +kernel
theorem dX7_size_4 : decode cX7_size 4 = .ok (.ifCond .ne 5, 3) := by decide +kernel
theorem dX7_size_7 : decode cX7_size 7 = .ok (.iconst (-1), 1) := by decide +kernel
theorem dX7_size_8 : decode cX7_size 8 = .ok (.ireturn, 1) := by decide +kernel
theorem dX7_size_9 : decode cX7_size 9 = .ok (.aload_n 0, 1) := by decide +kernel
theorem dX7_size_10 : decode cX7_size 10 = .ok (.getfield 53, 3) := by decide +kernel
theorem dX7_size_13 : decode cX7_size 13 = .ok (.iload_n 1, 1) := by decide +kernel
theorem dX7_size_14 : decode cX7_size 14 = .ok (.iaload, 1) := by decide +kernel
theorem dX7_size_15 : decode cX7_size 15 = .ok (.istore_n 2, 1) := by decide +kernel
theorem dX7_size_16 : decode cX7_size 16 = .ok (.aload_n 0, 1) := by decide +kernel
theorem dX7_size_17 : decode cX7_size 17 = .ok (.getfield 19, 3) := by decide +kernel
theorem dX7_size_20 : decode cX7_size 20 = .ok (.iload_n 2, 1) := by decide +kernel
theorem dX7_size_21 : decode cX7_size 21 = .ok (.invokestatic 154, 3) := by decide +kernel
theorem dX7_size_24 : decode cX7_size 24 = .ok (.i2l, 1) := by decide +kernel
theorem dX7_size_25 : decode cX7_size 25 = .ok (.iload_n 2, 1) := by decide +kernel
theorem dX7_size_26 : decode cX7_size 26 = .ok (.ifCond .ne 9, 3) := by decide +kernel
theorem dX7_size_29 : decode cX7_size 29 = .ok (.ldc2_w 157, 3) := by decide +kernel
theorem dX7_size_32 : decode cX7_size 32 = .ok (.goto 10, 3) := by decide +kernel
theorem dX7_size_35 : decode cX7_size 35 = .ok (.iload_n 2, 1) := by decide +kernel
theorem dX7_size_36 : decode cX7_size 36 = .ok (.iconst 1, 1) := by decide +kernel
theorem dX7_size_37 : decode cX7_size 37 = .ok (.isub, 1) := by decide +kernel
theorem dX7_size_38 : decode cX7_size 38 = .ok (.invokestatic 159, 3) := by decide +kernel
theorem dX7_size_41 : decode cX7_size 41 = .ok (.i2l, 1) := by decide +kernel
theorem dX7_size_42 : decode cX7_size 42 = .ok (.invokevirtual 162, 3) := by decide +kernel
theorem dX7_size_45 : decode cX7_size 45 = .ok (.iload_n 2, 1) := by decide +kernel
theorem dX7_size_46 : decode cX7_size 46 = .ok (.ireturn, 1) := by decide +kernel
theorem dX7_get_0 : decode cX7_get 0 = .ok (.aload_n 0, 1) := by decide +kernel
theorem dX7_get_1 : decode cX7_get 1 = .ok (.iload_n 1, 1) := by decide +kernel
theorem dX7_get_2 : decode cX7_get 2 = .ok (.iload_n 2, 1) := by decide +kernel
theorem dX7_get_3 : decode cX7_get 3 = .ok (.invokevirtual 165, 3) := by decide +kernel
theorem dX7_get_6 : decode cX7_get 6 = .ok (.ifCond .ne 7, 3) := by decide +kernel
theorem dX7_get_9 : decode cX7_get 9 = .ok (.sipush (-1000), 3) := by decide +kernel
theorem dX7_get_12 : decode cX7_get 12 = .ok (.ireturn, 1) := by decide +kernel
theorem dX7_get_13 : decode cX7_get 13 = .ok (.aload_n 0, 1) := by decide +kernel
theorem dX7_get_14 : decode cX7_get 14 = .ok (.getfield 10, 3) := by decide +kernel
theorem dX7_get_17 : decode cX7_get 17 = .ok (.aload_n 0, 1) := by decide +kernel
theorem dX7_get_18 : decode cX7_get 18 = .ok (.getfield 49, 3) := by decide +kernel
theorem dX7_get_21 : decode cX7_get 21 = .ok (.iload_n 1, 1) := by decide +kernel
theorem dX7_get_22 : decode cX7_get 22 = .ok (.iaload, 1) := by decide +kernel
theorem dX7_get_23 : decode cX7_get 23 = .ok (.iload_n 2, 1) := by decide +kernel
theorem dX7_get_24 : decode cX7_get 24 = .ok (.invokevirtual 168, 3) := by decide +kernel
theorem dX7_get_27 : decode cX7_get 27 = .ok (.ireturn, 1) := by decide +kernel
theorem dX7_path_0 : decode cX7_path 0 = .ok (.aload_n 0, 1) := by decide +kernel
theorem dX7_path_1 : decode cX7_path 1 = .ok (.iload_n 1, 1) := by decide +kernel
theorem dX7_path_2 : decode cX7_path 2 = .ok (.iload_n 2, 1) := by decide +kernel
theorem dX7_path_3 : decode cX7_path 3 = .ok (.invokevirtual 165, 3) := by decide +kernel
theorem dX7_path_6 : decode cX7_path 6 = .ok (.ifCond .ne 5, 3) := by decide +kernel
theorem dX7_path_9 : decode cX7_path 9 = .ok (.iconst (-1), 1) := by decide +kernel
theorem dX7_path_10 : decode cX7_path 10 = .ok (.ireturn, 1) := by decide +kernel
theorem dX7_path_11 : decode cX7_path 11 = .ok (.aload_n 0, 1) := by decide +kernel
theorem dX7_path_12 : decode cX7_path 12 = .ok (.getfield 19, 3) := by decide +kernel
theorem dX7_path_15 : decode cX7_path 15 = .ok (.iload_n 2, 1) := by decide +kernel
theorem dX7_path_16 : decode cX7_path 16 = .ok (.invokestatic 159, 3) := by decide +kernel
theorem dX7_path_19 : decode cX7_path 19 = .ok (.i2l, 1) := by decide +kernel
theorem dX7_path_20 : decode cX7_path 20 = .ok (.invokevirtual 171, 3) := by decide +kernel
theorem dX7_path_23 : decode cX7_path 23 = .ok (.iload_n 2, 1) := by decide +kernel
theorem dX7_path_24 : decode cX7_path 24 = .ok (.invokestatic 174, 3) := by decide +kernel
theorem dX7_path_27 : decode cX7_path 27 = .ok (.ireturn, 1) := by decide +kernel
theorem dX7_sets_0 : decode cX7_sets 0 = .ok (.aload_n 0, 1) := by decide +kernel
theorem dX7_sets_1 : decode cX7_sets 1 = .ok (.iload_n 1, 1) := by decide +kernel
theorem dX7_sets_2 : decode cX7_sets 2 = .ok (.iload_n 2, 1) := by decide +kernel
theorem dX7_sets_3 : decode cX7_sets 3 = .ok (.invokevirtual 165, 3) := by decide +kernel
theorem dX7_sets_6 : decode cX7_sets 6 = .ok (.ifCond .eq 18, 3) := by decide +kernel
theorem dX7_sets_9 : decode cX7_sets 9 = .ok (.iload_n 3, 1) := by decide +kernel
theorem dX7_sets_10 : decode cX7_sets 10 = .ok (.invokestatic 117, 3) := by decide +kernel
theorem dX7_sets_13 : decode cX7_sets 13 = .ok (.ifCond .eq 11, 3) := by decide +kernel
theorem dX7_sets_16 : decode cX7_sets 16 = .ok (.iload 4, 2) := by decide +kernel
theorem dX7_sets_18 : decode cX7_sets 18 = .ok (.invokestatic 86, 3) := by decide +kernel
theorem dX7_sets_21 : decode cX7_sets 21 = .ok (.ifCond .ne 5, 3) := by decide +kernel
theorem dX7_sets_24 : decode cX7_sets 24 = .ok (.iconst (-1), 1) := by decide +kernel
theorem dX7_sets_25 : decode cX7_sets 25 = .ok (.ireturn, 1) := by decide +kernel
theorem dX7_sets_26 : decode cX7_sets 26 = .ok (.aload_n 0, 1) := by decide +kernel
theorem dX7_sets_27 : decode cX7_sets 27 = .ok (.iload_n 1, 1) := by decide +kernel
theorem dX7_sets_28 : decode cX7_sets 28 = .ok (.iload_n 1, 1) := by decide +kernel
theorem dX7_sets_29 : decode cX7_sets 29 = .ok (.invokevirtual 177, 3) := by decide +kernel
theorem dX7_sets_32 : decode cX7_sets 32 = .ok (.aload_n 0, 1) := by decide +kernel
theorem dX7_sets_33 : decode cX7_sets 33 = .ok (.getfield 56, 3) := by decide +kernel
theorem dX7_sets_36 : decode cX7_sets 36 = .ok (.iload_n 2, 1) := by decide +kernel
theorem dX7_sets_37 : decode cX7_sets 37 = .ok (.iload_n 3, 1) := by decide +kernel
theorem dX7_sets_38 : decode cX7_sets 38 = .ok (.iastore, 1) := by decide +kernel
theorem dX7_sets_39 : decode cX7_sets 39 = .ok (.aload_n 0, 1) := by decide +kernel
theorem dX7_sets_40 : decode cX7_sets 40 = .ok (.aload_n 0, 1) := by decide +kernel
theorem dX7_sets_41 : decode cX7_sets 41 = .ok (.getfield 53, 3) := by decide +kernel
theorem dX7_sets_44 : decode cX7_sets 44 = .ok (.iload_n 1, 1) := by decide +kernel
theorem dX7_sets_45 : decode cX7_sets 45 = .ok (.iaload, 1) := by decide +kernel
theorem dX7_sets_46 : decode cX7_sets 46 = .ok (.invokevirtual 181, 3) := by decide +kernel
theorem dX7_sets_49 : decode cX7_sets 49 = .ok (.pop, 1) := by decide +kernel
theorem dX7_sets_50 : decode cX7_sets 50 = .ok (.aload_n 0, 1) := by decide +kernel
theorem dX7_sets_51 : decode cX7_sets 51 = .ok (.iload_n 1, 1) := by decide +kernel
theorem dX7_sets_52 : decode cX7_sets 52 = .ok (.iload 4, 2) := by decide +kernel
theorem dX7_sets_54 : decode cX7_sets 54 = .ok (.invokevirtual 184, 3) := by decide +kernel
theorem dX7_sets_57 : decode cX7_sets 57 = .ok (.ireturn, 1) := by decide +kernel
theorem dX7_front_0 : decode cX7_front 0 = .ok (.aload_n 0, 1) := by decide +kernel
theorem dX7_front_1 : decode cX7_front 1 = .ok (.iload_n 1, 1) := by decide +kernel
theorem dX7_front_2 : decode cX7_front 2 = .ok (.iload_n 2, 1) := by decide +kernel
theorem dX7_front_3 : decode cX7_front 3 = .ok (.iload_n 3, 1) := by decide +kernel
theorem dX7_front_4 : decode cX7_front 4 = .ok (.iconst 0, 1) := by decide +kernel
theorem dX7_front_5 : decode cX7_front 5 = .ok (.invokevirtual 187, 3) := by decide +kernel
theorem dX7_front_8 : decode cX7_front 8 = .ok (.ireturn, 1) := by decide +kernel
theorem dX7_back_0 : decode cX7_back 0 = .ok (.aload_n 0, 1) := by decide +kernel
theorem dX7_back_1 : decode cX7_back 1 = .ok (.iload_n 1, 1) := by decide +kernel
theorem dX7_back_2 : decode cX7_back 2 = .ok (.iload_n 2, 1) := by decide +kernel
theorem dX7_back_3 : decode cX7_back 3 = .ok (.iload_n 3, 1) := by decide +kernel
theorem dX7_back_4 : decode cX7_back 4 = .ok (.iconst 1, 1) := by decide +kernel
theorem dX7_back_5 : decode cX7_back 5 = .ok (.invokevirtual 187, 3) := by decide +kernel
theorem dX7_back_8 : decode cX7_back 8 = .ok (.ireturn, 1) := by decide +kernel
theorem dX7_first_0 : decode cX7_first 0 = .ok (.iload_n 1, 1) := by decide +kernel
theorem dX7_first_1 : decode cX7_first 1 = .ok (.invokestatic 86, 3) := by decide +kernel
theorem dX7_first_4 : decode cX7_first 4 = .ok (.ifCond .eq 10, 3) := by decide +kernel
theorem dX7_first_7 : decode cX7_first 7 = .ok (.iload_n 2, 1) := by decide +kernel
theorem dX7_first_8 : decode cX7_first 8 = .ok (.invokestatic 86, 3) := by decide +kernel
theorem dX7_first_11 : decode cX7_first 11 = .ok (.ifCond .ne 5, 3) := by decide +kernel
theorem dX7_first_14 : decode cX7_first 14 = .ok (.iconst (-1), 1) := by decide +kernel
theorem dX7_first_15 : decode cX7_first 15 = .ok (.ireturn, 1) := by decide +kernel
theorem dX7_first_16 : decode cX7_first 16 = .ok (.aload_n 0, 1) := by decide +kernel
theorem dX7_first_17 : decode cX7_first 17 = .ok (.getfield 53, 3) := by decide +kernel
theorem dX7_first_20 : decode cX7_first 20 = .ok (.iload_n 1, 1) := by decide +kernel
theorem dX7_first_21 : decode cX7_first 21 = .ok (.iaload, 1) := by decide +kernel
theorem dX7_first_22 : decode cX7_first 22 = .ok (.ifCond .ne 8, 3) := by decide +kernel
theorem dX7_first_25 : decode cX7_first 25 = .ok (.bipush (-2), 2) := by decide +kernel
theorem dX7_first_27 : decode cX7_first 27 = .ok (.goto 11, 3) := by decide +kernel
theorem dX7_first_30 : decode cX7_first 30 = .ok (.aload_n 0, 1) := by decide +kernel
theorem dX7_first_31 : decode cX7_first 31 = .ok (.iload_n 1, 1) := by decide +kernel
theorem dX7_first_32 : decode cX7_first 32 = .ok (.iconst 0, 1) := by decide +kernel
theorem dX7_first_33 : decode cX7_first 33 = .ok (.iload_n 2, 1) := by decide +kernel
theorem dX7_first_34 : decode cX7_first 34 = .ok (.iconst 2, 1) := by decide +kernel
theorem dX7_first_35 : decode cX7_first 35 = .ok (.invokevirtual 191, 3) := by decide +kernel
theorem dX7_first_38 : decode cX7_first 38 = .ok (.ireturn, 1) := by decide +kernel
theorem dX7_last_0 : decode cX7_last 0 = .ok (.iload_n 1, 1) := by decide +kernel
theorem dX7_last_1 : decode cX7_last 1 = .ok (.invokestatic 86, 3) := by decide +kernel
theorem dX7_last_4 : decode cX7_last 4 = .ok (.ifCond .eq 10, 3) := by decide +kernel
theorem dX7_last_7 : decode cX7_last 7 = .ok (.iload_n 2, 1) := by decide +kernel
theorem dX7_last_8 : decode cX7_last 8 = .ok (.invokestatic 86, 3) := by decide +kernel
theorem dX7_last_11 : decode cX7_last 11 = .ok (.ifCond .ne 5, 3) := by decide +kernel
theorem dX7_last_14 : decode cX7_last 14 = .ok (.iconst (-1), 1) := by decide +kernel
theorem dX7_last_15 : decode cX7_last 15 = .ok (.ireturn, 1) := by decide +kernel
theorem dX7_last_16 : decode cX7_last 16 = .ok (.aload_n 0, 1) := by decide +kernel
theorem dX7_last_17 : decode cX7_last 17 = .ok (.getfield 53, 3) := by decide +kernel
theorem dX7_last_20 : decode cX7_last 20 = .ok (.iload_n 1, 1) := by decide +kernel
theorem dX7_last_21 : decode cX7_last 21 = .ok (.iaload, 1) := by decide +kernel
theorem dX7_last_22 : decode cX7_last 22 = .ok (.ifCond .ne 8, 3) := by decide +kernel
theorem dX7_last_25 : decode cX7_last 25 = .ok (.bipush (-2), 2) := by decide +kernel
theorem dX7_last_27 : decode cX7_last 27 = .ok (.goto 18, 3) := by decide +kernel
theorem dX7_last_30 : decode cX7_last 30 = .ok (.aload_n 0, 1) := by decide +kernel
theorem dX7_last_31 : decode cX7_last 31 = .ok (.iload_n 1, 1) := by decide +kernel
theorem dX7_last_32 : decode cX7_last 32 = .ok (.aload_n 0, 1) := by decide +kernel
theorem dX7_last_33 : decode cX7_last 33 = .ok (.getfield 53, 3) := by decide +kernel
theorem dX7_last_36 : decode cX7_last 36 = .ok (.iload_n 1, 1) := by decide +kernel
theorem dX7_last_37 : decode cX7_last 37 = .ok (.iaload, 1) := by decide +kernel
theorem dX7_last_38 : decode cX7_last 38 = .ok (.iconst 1, 1) := by decide +kernel
theorem dX7_last_39 : decode cX7_last 39 = .ok (.isub, 1) := by decide +kernel
theorem dX7_last_40 : decode cX7_last 40 = .ok (.iload_n 2, 1) := by decide +kernel
theorem dX7_last_41 : decode cX7_last 41 = .ok (.iconst 3, 1) := by decide +kernel
theorem dX7_last_42 : decode cX7_last 42 = .ok (.invokevirtual 191, 3) := by decide +kernel
theorem dX7_last_45 : decode cX7_last 45 = .ok (.ireturn, 1) := by decide +kernel
theorem dX7_adds_0 : decode cX7_adds 0 = .ok (.aload_n 0, 1) := by decide +kernel
theorem dX7_adds_1 : decode cX7_adds 1 = .ok (.iload_n 1, 1) := by decide +kernel
theorem dX7_adds_2 : decode cX7_adds 2 = .ok (.iload_n 2, 1) := by decide +kernel
theorem dX7_adds_3 : decode cX7_adds 3 = .ok (.iload_n 3, 1) := by decide +kernel
theorem dX7_adds_4 : decode cX7_adds 4 = .ok (.invokevirtual 194, 3) := by decide +kernel
theorem dX7_adds_7 : decode cX7_adds 7 = .ok (.ifCond .eq 27, 3) := by decide +kernel
theorem dX7_adds_10 : decode cX7_adds 10 = .ok (.iload 4, 2) := by decide +kernel
theorem dX7_adds_12 : decode cX7_adds 12 = .ok (.sipush (-999), 3) := by decide +kernel
theorem dX7_adds_15 : decode cX7_adds 15 = .ok (.if_icmp .lt 19, 3) := by decide +kernel
theorem dX7_adds_18 : decode cX7_adds 18 = .ok (.iload 4, 2) := by decide +kernel
theorem dX7_adds_20 : decode cX7_adds 20 = .ok (.sipush 999, 3) := by decide +kernel
theorem dX7_adds_23 : decode cX7_adds 23 = .ok (.if_icmp .gt 11, 3) := by decide +kernel
theorem dX7_adds_26 : decode cX7_adds 26 = .ok (.iload 5, 2) := by decide +kernel
theorem dX7_adds_28 : decode cX7_adds 28 = .ok (.invokestatic 86, 3) := by decide +kernel
theorem dX7_adds_31 : decode cX7_adds 31 = .ok (.ifCond .ne 5, 3) := by decide +kernel
theorem dX7_adds_34 : decode cX7_adds 34 = .ok (.iconst (-1), 1) := by decide +kernel
theorem dX7_adds_35 : decode cX7_adds 35 = .ok (.ireturn, 1) := by decide +kernel
theorem dX7_adds_36 : decode cX7_adds 36 = .ok (.aload_n 0, 1) := by decide +kernel
theorem dX7_adds_37 : decode cX7_adds 37 = .ok (.getfield 45, 3) := by decide +kernel
theorem dX7_adds_40 : decode cX7_adds 40 = .ok (.invokevirtual 198, 3) := by decide +kernel
theorem dX7_adds_43 : decode cX7_adds 43 = .ok (.aload_n 0, 1) := by decide +kernel
theorem dX7_adds_44 : decode cX7_adds 44 = .ok (.getfield 10, 3) := by decide +kernel
theorem dX7_adds_47 : decode cX7_adds 47 = .ok (.aload_n 0, 1) := by decide +kernel
theorem dX7_adds_48 : decode cX7_adds 48 = .ok (.getfield 49, 3) := by decide +kernel
theorem dX7_adds_51 : decode cX7_adds 51 = .ok (.iload_n 1, 1) := by decide +kernel
theorem dX7_adds_52 : decode cX7_adds 52 = .ok (.iaload, 1) := by decide +kernel
theorem dX7_adds_53 : decode cX7_adds 53 = .ok (.aload_n 0, 1) := by decide +kernel
theorem dX7_adds_54 : decode cX7_adds 54 = .ok (.getfield 53, 3) := by decide +kernel
theorem dX7_adds_57 : decode cX7_adds 57 = .ok (.iload_n 1, 1) := by decide +kernel
theorem dX7_adds_58 : decode cX7_adds 58 = .ok (.iaload, 1) := by decide +kernel
theorem dX7_adds_59 : decode cX7_adds 59 = .ok (.aload_n 0, 1) := by decide +kernel
theorem dX7_adds_60 : decode cX7_adds 60 = .ok (.getfield 56, 3) := by decide +kernel
theorem dX7_adds_63 : decode cX7_adds 63 = .ok (.invokevirtual 201, 3) := by decide +kernel
theorem dX7_adds_66 : decode cX7_adds 66 = .ok (.iload_n 2, 1) := by decide +kernel
theorem dX7_adds_67 : decode cX7_adds 67 = .ok (.istore 6, 2) := by decide +kernel
theorem dX7_adds_69 : decode cX7_adds 69 = .ok (.iload 6, 2) := by decide +kernel
theorem dX7_adds_71 : decode cX7_adds 71 = .ok (.iload_n 3, 1) := by decide +kernel
theorem dX7_adds_72 : decode cX7_adds 72 = .ok (.if_icmp .ge 43, 3) := by decide +kernel
theorem dX7_adds_75 : decode cX7_adds 75 = .ok (.iload 4, 2) := by decide +kernel
theorem dX7_adds_77 : decode cX7_adds 77 = .ok (.ifCond .eq 38, 3) := by decide +kernel
theorem dX7_adds_80 : decode cX7_adds 80 = .ok (.aload_n 0, 1) := by decide +kernel
theorem dX7_adds_81 : decode cX7_adds 81 = .ok (.getfield 56, 3) := by decide +kernel
theorem dX7_adds_84 : decode cX7_adds 84 = .ok (.iload 6, 2) := by decide +kernel
theorem dX7_adds_86 : decode cX7_adds 86 = .ok (.aload_n 0, 1) := by decide +kernel
theorem dX7_adds_87 : decode cX7_adds 87 = .ok (.getfield 56, 3) := by decide +kernel
theorem dX7_adds_90 : decode cX7_adds 90 = .ok (.iload 6, 2) := by decide +kernel
theorem dX7_adds_92 : decode cX7_adds 92 = .ok (.iaload, 1) := by decide +kernel
theorem dX7_adds_93 : decode cX7_adds 93 = .ok (.iload 4, 2) := by decide +kernel
theorem dX7_adds_95 : decode cX7_adds 95 = .ok (.iadd, 1) := by decide +kernel
theorem dX7_adds_96 : decode cX7_adds 96 = .ok (.invokestatic 205, 3) := by decide +kernel
theorem dX7_adds_99 : decode cX7_adds 99 = .ok (.iastore, 1) := by decide +kernel
theorem dX7_adds_100 : decode cX7_adds 100 = .ok (.aload_n 0, 1) := by decide +kernel
theorem dX7_adds_101 : decode cX7_adds 101 = .ok (.getfield 45, 3) := by decide +kernel
theorem dX7_adds_104 : decode cX7_adds 104 = .ok (.iload 6, 2) := by decide +kernel
theorem dX7_adds_106 : decode cX7_adds 106 = .ok (.invokevirtual 208, 3) := by decide +kernel
theorem dX7_adds_109 : decode cX7_adds 109 = .ok (.iinc 6 1, 3) := by decide +kernel
theorem dX7_adds_112 : decode cX7_adds 112 = .ok (.goto (-43), 3) := by decide +kernel
theorem dX7_adds_115 : decode cX7_adds 115 = .ok (.aload_n 0, 1) := by decide +kernel
theorem dX7_adds_116 : decode cX7_adds 116 = .ok (.iload_n 1, 1) := by decide +kernel
theorem dX7_adds_117 : decode cX7_adds 117 = .ok (.iload 5, 2) := by decide +kernel
theorem dX7_adds_119 : decode cX7_adds 119 = .ok (.invokevirtual 184, 3) := by decide +kernel
theorem dX7_adds_122 : decode cX7_adds 122 = .ok (.ireturn, 1) := by decide +kernel
theorem dX7_appends_0 : decode cX7_appends 0 = .ok (.iload_n 1, 1) := by decide +kernel
theorem dX7_appends_1 : decode cX7_appends 1 = .ok (.invokestatic 86, 3) := by decide +kernel
theorem dX7_appends_4 : decode cX7_appends 4 = .ok (.ifCond .eq 17, 3) := by decide +kernel
theorem dX7_appends_7 : decode cX7_appends 7 = .ok (.iload_n 2, 1) := by decide +kernel
theorem dX7_appends_8 : decode cX7_appends 8 = .ok (.invokestatic 86, 3) := by decide +kernel
theorem dX7_appends_11 : decode cX7_appends 11 = .ok (.ifCond .eq 10, 3) := by decide +kernel
theorem dX7_appends_14 : decode cX7_appends 14 = .ok (.iload_n 3, 1) := by decide +kernel
theorem dX7_appends_15 : decode cX7_appends 15 = .ok (.invokestatic 86, 3) := by decide +kernel
theorem dX7_appends_18 : decode cX7_appends 18 = .ok (.ifCond .ne 5, 3) := by decide +kernel
theorem dX7_appends_21 : decode cX7_appends 21 = .ok (.iconst (-1), 1) := by decide +kernel
theorem dX7_appends_22 : decode cX7_appends 22 = .ok (.ireturn, 1) := by decide +kernel
theorem dX7_appends_23 : decode cX7_appends 23 = .ok (.aload_n 0, 1) := by decide +kernel
theorem dX7_appends_24 : decode cX7_appends 24 = .ok (.getfield 53, 3) := by decide +kernel
theorem dX7_appends_27 : decode cX7_appends 27 = .ok (.iload_n 1, 1) := by decide +kernel
theorem dX7_appends_28 : decode cX7_appends 28 = .ok (.iaload, 1) := by decide +kernel
theorem dX7_appends_29 : decode cX7_appends 29 = .ok (.aload_n 0, 1) := by decide +kernel
theorem dX7_appends_30 : decode cX7_appends 30 = .ok (.getfield 53, 3) := by decide +kernel
theorem dX7_appends_33 : decode cX7_appends 33 = .ok (.iload_n 2, 1) := by decide +kernel
theorem dX7_appends_34 : decode cX7_appends 34 = .ok (.iaload, 1) := by decide +kernel
theorem dX7_appends_35 : decode cX7_appends 35 = .ok (.iadd, 1) := by decide +kernel
theorem dX7_appends_36 : decode cX7_appends 36 = .ok (.istore 4, 2) := by decide +kernel
theorem dX7_appends_38 : decode cX7_appends 38 = .ok (.iload 4, 2) := by decide +kernel
theorem dX7_appends_40 : decode cX7_appends 40 = .ok (.sipush 255, 3) := by decide +kernel
theorem dX7_appends_43 : decode cX7_appends 43 = .ok (.if_icmp .le 6, 3) := by decide +kernel
theorem dX7_appends_46 : decode cX7_appends 46 = .ok (.bipush (-2), 2) := by decide +kernel
theorem dX7_appends_48 : decode cX7_appends 48 = .ok (.ireturn, 1) := by decide +kernel
theorem dX7_appends_49 : decode cX7_appends 49 = .ok (.aload_n 0, 1) := by decide +kernel
theorem dX7_appends_50 : decode cX7_appends 50 = .ok (.invokevirtual 120, 3) := by decide +kernel
theorem dX7_appends_53 : decode cX7_appends 53 = .ok (.istore 5, 2) := by decide +kernel
theorem dX7_appends_55 : decode cX7_appends 55 = .ok (.aload_n 0, 1) := by decide +kernel
theorem dX7_appends_56 : decode cX7_appends 56 = .ok (.getfield 10, 3) := by decide +kernel
theorem dX7_appends_59 : decode cX7_appends 59 = .ok (.aload_n 0, 1) := by decide +kernel
theorem dX7_appends_60 : decode cX7_appends 60 = .ok (.getfield 49, 3) := by decide +kernel
theorem dX7_appends_63 : decode cX7_appends 63 = .ok (.iload_n 2, 1) := by decide +kernel
theorem dX7_appends_64 : decode cX7_appends 64 = .ok (.iaload, 1) := by decide +kernel
theorem dX7_appends_65 : decode cX7_appends 65 = .ok (.aload_n 0, 1) := by decide +kernel
theorem dX7_appends_66 : decode cX7_appends 66 = .ok (.getfield 53, 3) := by decide +kernel
theorem dX7_appends_69 : decode cX7_appends 69 = .ok (.iload_n 2, 1) := by decide +kernel
theorem dX7_appends_70 : decode cX7_appends 70 = .ok (.iaload, 1) := by decide +kernel
theorem dX7_appends_71 : decode cX7_appends 71 = .ok (.aload_n 0, 1) := by decide +kernel
theorem dX7_appends_72 : decode cX7_appends 72 = .ok (.getfield 59, 3) := by decide +kernel
theorem dX7_appends_75 : decode cX7_appends 75 = .ok (.invokevirtual 201, 3) := by decide +kernel
theorem dX7_appends_78 : decode cX7_appends 78 = .ok (.aload_n 0, 1) := by decide +kernel
theorem dX7_appends_79 : decode cX7_appends 79 = .ok (.iload_n 3, 1) := by decide +kernel
theorem dX7_appends_80 : decode cX7_appends 80 = .ok (.aload_n 0, 1) := by decide +kernel
theorem dX7_appends_81 : decode cX7_appends 81 = .ok (.getfield 10, 3) := by decide +kernel
theorem dX7_appends_84 : decode cX7_appends 84 = .ok (.aload_n 0, 1) := by decide +kernel
theorem dX7_appends_85 : decode cX7_appends 85 = .ok (.getfield 49, 3) := by decide +kernel
theorem dX7_appends_88 : decode cX7_appends 88 = .ok (.iload_n 1, 1) := by decide +kernel
theorem dX7_appends_89 : decode cX7_appends 89 = .ok (.iaload, 1) := by decide +kernel
theorem dX7_appends_90 : decode cX7_appends 90 = .ok (.aload_n 0, 1) := by decide +kernel
theorem dX7_appends_91 : decode cX7_appends 91 = .ok (.getfield 53, 3) := by decide +kernel
theorem dX7_appends_94 : decode cX7_appends 94 = .ok (.iload_n 1, 1) := by decide +kernel
theorem dX7_appends_95 : decode cX7_appends 95 = .ok (.iaload, 1) := by decide +kernel
theorem dX7_appends_96 : decode cX7_appends 96 = .ok (.aload_n 0, 1) := by decide +kernel
theorem dX7_appends_97 : decode cX7_appends 97 = .ok (.getfield 59, 3) := by decide +kernel
theorem dX7_appends_100 : decode cX7_appends 100 = .ok (.aload_n 0, 1) := by decide +kernel
theorem dX7_appends_101 : decode cX7_appends 101 = .ok (.getfield 53, 3) := by decide +kernel
theorem dX7_appends_104 : decode cX7_appends 104 = .ok (.iload_n 2, 1) := by decide +kernel
theorem dX7_appends_105 : decode cX7_appends 105 = .ok (.iaload, 1) := by decide +kernel
theorem dX7_appends_106 : decode cX7_appends 106 = .ok (.iconst 1, 1) := by decide +kernel
theorem dX7_appends_107 : decode cX7_appends 107 = .ok (.invokevirtual 212, 3) := by decide +kernel
theorem dX7_appends_110 : decode cX7_appends 110 = .ok (.iload 4, 2) := by decide +kernel
theorem dX7_appends_112 : decode cX7_appends 112 = .ok (.invokevirtual 126, 3) := by decide +kernel
theorem dX7_appends_115 : decode cX7_appends 115 = .ok (.pop, 1) := by decide +kernel
theorem dX7_appends_116 : decode cX7_appends 116 = .ok (.aload_n 0, 1) := by decide +kernel
theorem dX7_appends_117 : decode cX7_appends 117 = .ok (.getfield 10, 3) := by decide +kernel
theorem dX7_appends_120 : decode cX7_appends 120 = .ok (.getfield 130, 3) := by decide +kernel
theorem dX7_appends_123 : decode cX7_appends 123 = .ok (.iload 5, 2) := by decide +kernel
theorem dX7_appends_125 : decode cX7_appends 125 = .ok (.isub, 1) := by decide +kernel
theorem dX7_appends_126 : decode cX7_appends 126 = .ok (.ireturn, 1) := by decide +kernel
theorem dX7_turned_0 : decode cX7_turned 0 = .ok (.iload_n 1, 1) := by decide +kernel
theorem dX7_turned_1 : decode cX7_turned 1 = .ok (.invokestatic 86, 3) := by decide +kernel
theorem dX7_turned_4 : decode cX7_turned 4 = .ok (.ifCond .eq 21, 3) := by decide +kernel
theorem dX7_turned_7 : decode cX7_turned 7 = .ok (.iload_n 3, 1) := by decide +kernel
theorem dX7_turned_8 : decode cX7_turned 8 = .ok (.invokestatic 86, 3) := by decide +kernel
theorem dX7_turned_11 : decode cX7_turned 11 = .ok (.ifCond .eq 14, 3) := by decide +kernel
theorem dX7_turned_14 : decode cX7_turned 14 = .ok (.iload_n 2, 1) := by decide +kernel
theorem dX7_turned_15 : decode cX7_turned 15 = .ok (.ifCond .lt 10, 3) := by decide +kernel
theorem dX7_turned_18 : decode cX7_turned 18 = .ok (.iload_n 2, 1) := by decide +kernel
theorem dX7_turned_19 : decode cX7_turned 19 = .ok (.sipush 255, 3) := by decide +kernel
theorem dX7_turned_22 : decode cX7_turned 22 = .ok (.if_icmp .le 5, 3) := by decide +kernel
theorem dX7_turned_25 : decode cX7_turned 25 = .ok (.iconst (-1), 1) := by decide +kernel
theorem dX7_turned_26 : decode cX7_turned 26 = .ok (.ireturn, 1) := by decide +kernel
theorem dX7_turned_27 : decode cX7_turned 27 = .ok (.aload_n 0, 1) := by decide +kernel
theorem dX7_turned_28 : decode cX7_turned 28 = .ok (.getfield 53, 3) := by decide +kernel
theorem dX7_turned_31 : decode cX7_turned 31 = .ok (.iload_n 1, 1) := by decide +kernel
theorem dX7_turned_32 : decode cX7_turned 32 = .ok (.iaload, 1) := by decide +kernel
theorem dX7_turned_33 : decode cX7_turned 33 = .ok (.istore 4, 2) := by decide +kernel
theorem dX7_turned_35 : decode cX7_turned 35 = .ok (.iload 4, 2) := by decide +kernel
theorem dX7_turned_37 : decode cX7_turned 37 = .ok (.ifCond .ne 6, 3) := by decide +kernel
theorem dX7_turned_40 : decode cX7_turned 40 = .ok (.bipush (-2), 2) := by decide +kernel
theorem dX7_turned_42 : decode cX7_turned 42 = .ok (.ireturn, 1) := by decide +kernel
theorem dX7_turned_43 : decode cX7_turned 43 = .ok (.aload_n 0, 1) := by decide +kernel
theorem dX7_turned_44 : decode cX7_turned 44 = .ok (.invokevirtual 120, 3) := by decide +kernel
theorem dX7_turned_47 : decode cX7_turned 47 = .ok (.istore 5, 2) := by decide +kernel
theorem dX7_turned_49 : decode cX7_turned 49 = .ok (.aload_n 0, 1) := by decide +kernel
theorem dX7_turned_50 : decode cX7_turned 50 = .ok (.getfield 49, 3) := by decide +kernel
theorem dX7_turned_53 : decode cX7_turned 53 = .ok (.iload_n 1, 1) := by decide +kernel
theorem dX7_turned_54 : decode cX7_turned 54 = .ok (.iaload, 1) := by decide +kernel
theorem dX7_turned_55 : decode cX7_turned 55 = .ok (.istore 6, 2) := by decide +kernel
theorem dX7_turned_57 : decode cX7_turned 57 = .ok (.iconst 0, 1) := by decide +kernel
theorem dX7_turned_58 : decode cX7_turned 58 = .ok (.istore 7, 2) := by decide +kernel
theorem dX7_turned_60 : decode cX7_turned 60 = .ok (.iload 7, 2) := by decide +kernel
theorem dX7_turned_62 : decode cX7_turned 62 = .ok (.iload_n 2, 1) := by decide +kernel
theorem dX7_turned_63 : decode cX7_turned 63 = .ok (.if_icmp .ge 48, 3) := by decide +kernel
theorem dX7_turned_66 : decode cX7_turned 66 = .ok (.aload_n 0, 1) := by decide +kernel
theorem dX7_turned_67 : decode cX7_turned 67 = .ok (.getfield 10, 3) := by decide +kernel
theorem dX7_turned_70 : decode cX7_turned 70 = .ok (.iload 6, 2) := by decide +kernel
theorem dX7_turned_72 : decode cX7_turned 72 = .ok (.invokevirtual 216, 3) := by decide +kernel
theorem dX7_turned_75 : decode cX7_turned 75 = .ok (.istore 8, 2) := by decide +kernel
theorem dX7_turned_77 : decode cX7_turned 77 = .ok (.aload_n 0, 1) := by decide +kernel
theorem dX7_turned_78 : decode cX7_turned 78 = .ok (.getfield 10, 3) := by decide +kernel
theorem dX7_turned_81 : decode cX7_turned 81 = .ok (.iload 8, 2) := by decide +kernel
theorem dX7_turned_83 : decode cX7_turned 83 = .ok (.aload_n 0, 1) := by decide +kernel
theorem dX7_turned_84 : decode cX7_turned 84 = .ok (.getfield 10, 3) := by decide +kernel
theorem dX7_turned_87 : decode cX7_turned 87 = .ok (.iload 6, 2) := by decide +kernel
theorem dX7_turned_89 : decode cX7_turned 89 = .ok (.iload 4, 2) := by decide +kernel
theorem dX7_turned_91 : decode cX7_turned 91 = .ok (.iconst 2, 1) := by decide +kernel
theorem dX7_turned_92 : decode cX7_turned 92 = .ok (.invokevirtual 219, 3) := by decide +kernel
theorem dX7_turned_95 : decode cX7_turned 95 = .ok (.iload 4, 2) := by decide +kernel
theorem dX7_turned_97 : decode cX7_turned 97 = .ok (.iconst 1, 1) := by decide +kernel
theorem dX7_turned_98 : decode cX7_turned 98 = .ok (.isub, 1) := by decide +kernel
theorem dX7_turned_99 : decode cX7_turned 99 = .ok (.iconst 1, 1) := by decide +kernel
theorem dX7_turned_100 : decode cX7_turned 100 = .ok (.invokevirtual 222, 3) := by decide +kernel
theorem dX7_turned_103 : decode cX7_turned 103 = .ok (.istore 6, 2) := by decide +kernel
theorem dX7_turned_105 : decode cX7_turned 105 = .ok (.iinc 7 1, 3) := by decide +kernel
theorem dX7_turned_108 : decode cX7_turned 108 = .ok (.goto (-48), 3) := by decide +kernel
theorem dX7_turned_111 : decode cX7_turned 111 = .ok (.aload_n 0, 1) := by decide +kernel
theorem dX7_turned_112 : decode cX7_turned 112 = .ok (.iload_n 3, 1) := by decide +kernel
theorem dX7_turned_113 : decode cX7_turned 113 = .ok (.iload 6, 2) := by decide +kernel
theorem dX7_turned_115 : decode cX7_turned 115 = .ok (.iload 4, 2) := by decide +kernel
theorem dX7_turned_117 : decode cX7_turned 117 = .ok (.invokevirtual 126, 3) := by decide +kernel
theorem dX7_turned_120 : decode cX7_turned 120 = .ok (.pop, 1) := by decide +kernel
theorem dX7_turned_121 : decode cX7_turned 121 = .ok (.aload_n 0, 1) := by decide +kernel
theorem dX7_turned_122 : decode cX7_turned 122 = .ok (.getfield 10, 3) := by decide +kernel
theorem dX7_turned_125 : decode cX7_turned 125 = .ok (.getfield 130, 3) := by decide +kernel
theorem dX7_turned_128 : decode cX7_turned 128 = .ok (.iload 5, 2) := by decide +kernel
theorem dX7_turned_130 : decode cX7_turned 130 = .ok (.isub, 1) := by decide +kernel
theorem dX7_turned_131 : decode cX7_turned 131 = .ok (.ireturn, 1) := by decide +kernel
theorem dX7_reverses_0 : decode cX7_reverses 0 = .ok (.iload_n 1, 1) := by decide +kernel
theorem dX7_reverses_1 : decode cX7_reverses 1 = .ok (.invokestatic 86, 3) := by decide +kernel
theorem dX7_reverses_4 : decode cX7_reverses 4 = .ok (.ifCond .eq 10, 3) := by decide +kernel
theorem dX7_reverses_7 : decode cX7_reverses 7 = .ok (.iload_n 2, 1) := by decide +kernel
theorem dX7_reverses_8 : decode cX7_reverses 8 = .ok (.invokestatic 86, 3) := by decide +kernel
theorem dX7_reverses_11 : decode cX7_reverses 11 = .ok (.ifCond .ne 5, 3) := by decide +kernel
theorem dX7_reverses_14 : decode cX7_reverses 14 = .ok (.iconst (-1), 1) := by decide +kernel
theorem dX7_reverses_15 : decode cX7_reverses 15 = .ok (.ireturn, 1) := by decide +kernel
theorem dX7_reverses_16 : decode cX7_reverses 16 = .ok (.aload_n 0, 1) := by decide +kernel
theorem dX7_reverses_17 : decode cX7_reverses 17 = .ok (.getfield 53, 3) := by decide +kernel
theorem dX7_reverses_20 : decode cX7_reverses 20 = .ok (.iload_n 1, 1) := by decide +kernel
theorem dX7_reverses_21 : decode cX7_reverses 21 = .ok (.iaload, 1) := by decide +kernel
theorem dX7_reverses_22 : decode cX7_reverses 22 = .ok (.istore_n 3, 1) := by decide +kernel
theorem dX7_reverses_23 : decode cX7_reverses 23 = .ok (.aload_n 0, 1) := by decide +kernel
theorem dX7_reverses_24 : decode cX7_reverses 24 = .ok (.getfield 10, 3) := by decide +kernel
theorem dX7_reverses_27 : decode cX7_reverses 27 = .ok (.aload_n 0, 1) := by decide +kernel
theorem dX7_reverses_28 : decode cX7_reverses 28 = .ok (.getfield 49, 3) := by decide +kernel
theorem dX7_reverses_31 : decode cX7_reverses 31 = .ok (.iload_n 1, 1) := by decide +kernel
theorem dX7_reverses_32 : decode cX7_reverses 32 = .ok (.iaload, 1) := by decide +kernel
theorem dX7_reverses_33 : decode cX7_reverses 33 = .ok (.iload_n 3, 1) := by decide +kernel
theorem dX7_reverses_34 : decode cX7_reverses 34 = .ok (.aload_n 0, 1) := by decide +kernel
theorem dX7_reverses_35 : decode cX7_reverses 35 = .ok (.getfield 56, 3) := by decide +kernel
theorem dX7_reverses_38 : decode cX7_reverses 38 = .ok (.invokevirtual 201, 3) := by decide +kernel
theorem dX7_reverses_41 : decode cX7_reverses 41 = .ok (.iconst 0, 1) := by decide +kernel
theorem dX7_reverses_42 : decode cX7_reverses 42 = .ok (.istore 4, 2) := by decide +kernel
theorem dX7_reverses_44 : decode cX7_reverses 44 = .ok (.iload 4, 2) := by decide +kernel
theorem dX7_reverses_46 : decode cX7_reverses 46 = .ok (.iload_n 3, 1) := by decide +kernel
theorem dX7_reverses_47 : decode cX7_reverses 47 = .ok (.if_icmp .ge 27, 3) := by decide +kernel
theorem dX7_reverses_50 : decode cX7_reverses 50 = .ok (.aload_n 0, 1) := by decide +kernel
theorem dX7_reverses_51 : decode cX7_reverses 51 = .ok (.getfield 62, 3) := by decide +kernel
theorem dX7_reverses_54 : decode cX7_reverses 54 = .ok (.iload 4, 2) := by decide +kernel
theorem dX7_reverses_56 : decode cX7_reverses 56 = .ok (.aload_n 0, 1) := by decide +kernel
theorem dX7_reverses_57 : decode cX7_reverses 57 = .ok (.getfield 56, 3) := by decide +kernel
theorem dX7_reverses_60 : decode cX7_reverses 60 = .ok (.iload_n 3, 1) := by decide +kernel
theorem dX7_reverses_61 : decode cX7_reverses 61 = .ok (.iconst 1, 1) := by decide +kernel
theorem dX7_reverses_62 : decode cX7_reverses 62 = .ok (.isub, 1) := by decide +kernel
theorem dX7_reverses_63 : decode cX7_reverses 63 = .ok (.iload 4, 2) := by decide +kernel
theorem dX7_reverses_65 : decode cX7_reverses 65 = .ok (.isub, 1) := by decide +kernel
theorem dX7_reverses_66 : decode cX7_reverses 66 = .ok (.iaload, 1) := by decide +kernel
theorem dX7_reverses_67 : decode cX7_reverses 67 = .ok (.iastore, 1) := by decide +kernel
theorem dX7_reverses_68 : decode cX7_reverses 68 = .ok (.iinc 4 1, 3) := by decide +kernel
theorem dX7_reverses_71 : decode cX7_reverses 71 = .ok (.goto (-27), 3) := by decide +kernel
theorem dX7_reverses_74 : decode cX7_reverses 74 = .ok (.aload_n 0, 1) := by decide +kernel
theorem dX7_reverses_75 : decode cX7_reverses 75 = .ok (.iload_n 2, 1) := by decide +kernel
theorem dX7_reverses_76 : decode cX7_reverses 76 = .ok (.iload_n 3, 1) := by decide +kernel
theorem dX7_reverses_77 : decode cX7_reverses 77 = .ok (.invokevirtual 89, 3) := by decide +kernel
theorem dX7_reverses_80 : decode cX7_reverses 80 = .ok (.ireturn, 1) := by decide +kernel
theorem dX7_keeps_0 : decode cX7_keeps 0 = .ok (.aload_n 0, 1) := by decide +kernel
theorem dX7_keeps_1 : decode cX7_keeps 1 = .ok (.iload_n 1, 1) := by decide +kernel
theorem dX7_keeps_2 : decode cX7_keeps 2 = .ok (.iconst 0, 1) := by decide +kernel
theorem dX7_keeps_3 : decode cX7_keeps 3 = .ok (.iload_n 2, 1) := by decide +kernel
theorem dX7_keeps_4 : decode cX7_keeps 4 = .ok (.invokevirtual 194, 3) := by decide +kernel
theorem dX7_keeps_7 : decode cX7_keeps 7 = .ok (.ifCond .eq 10, 3) := by decide +kernel
theorem dX7_keeps_10 : decode cX7_keeps 10 = .ok (.iload_n 3, 1) := by decide +kernel
theorem dX7_keeps_11 : decode cX7_keeps 11 = .ok (.invokestatic 86, 3) := by decide +kernel
theorem dX7_keeps_14 : decode cX7_keeps 14 = .ok (.ifCond .ne 5, 3) := by decide +kernel
theorem dX7_keeps_17 : decode cX7_keeps 17 = .ok (.iconst (-1), 1) := by decide +kernel
theorem dX7_keeps_18 : decode cX7_keeps 18 = .ok (.ireturn, 1) := by decide +kernel
theorem dX7_keeps_19 : decode cX7_keeps 19 = .ok (.aload_n 0, 1) := by decide +kernel
theorem dX7_keeps_20 : decode cX7_keeps 20 = .ok (.invokevirtual 120, 3) := by decide +kernel
theorem dX7_keeps_23 : decode cX7_keeps 23 = .ok (.istore 4, 2) := by decide +kernel
theorem dX7_keeps_25 : decode cX7_keeps 25 = .ok (.aload_n 0, 1) := by decide +kernel
theorem dX7_keeps_26 : decode cX7_keeps 26 = .ok (.iload_n 3, 1) := by decide +kernel
theorem dX7_keeps_27 : decode cX7_keeps 27 = .ok (.aload_n 0, 1) := by decide +kernel
theorem dX7_keeps_28 : decode cX7_keeps 28 = .ok (.getfield 10, 3) := by decide +kernel
theorem dX7_keeps_31 : decode cX7_keeps 31 = .ok (.aload_n 0, 1) := by decide +kernel
theorem dX7_keeps_32 : decode cX7_keeps 32 = .ok (.getfield 49, 3) := by decide +kernel
theorem dX7_keeps_35 : decode cX7_keeps 35 = .ok (.iload_n 1, 1) := by decide +kernel
theorem dX7_keeps_36 : decode cX7_keeps 36 = .ok (.iaload, 1) := by decide +kernel
theorem dX7_keeps_37 : decode cX7_keeps 37 = .ok (.aload_n 0, 1) := by decide +kernel
theorem dX7_keeps_38 : decode cX7_keeps 38 = .ok (.getfield 53, 3) := by decide +kernel
theorem dX7_keeps_41 : decode cX7_keeps 41 = .ok (.iload_n 1, 1) := by decide +kernel
theorem dX7_keeps_42 : decode cX7_keeps 42 = .ok (.iaload, 1) := by decide +kernel
theorem dX7_keeps_43 : decode cX7_keeps 43 = .ok (.aload_n 0, 1) := by decide +kernel
theorem dX7_keeps_44 : decode cX7_keeps 44 = .ok (.getfield 53, 3) := by decide +kernel
theorem dX7_keeps_47 : decode cX7_keeps 47 = .ok (.iload_n 1, 1) := by decide +kernel
theorem dX7_keeps_48 : decode cX7_keeps 48 = .ok (.iaload, 1) := by decide +kernel
theorem dX7_keeps_49 : decode cX7_keeps 49 = .ok (.iload_n 2, 1) := by decide +kernel
theorem dX7_keeps_50 : decode cX7_keeps 50 = .ok (.isub, 1) := by decide +kernel
theorem dX7_keeps_51 : decode cX7_keeps 51 = .ok (.iconst 3, 1) := by decide +kernel
theorem dX7_keeps_52 : decode cX7_keeps 52 = .ok (.invokevirtual 225, 3) := by decide +kernel
theorem dX7_keeps_55 : decode cX7_keeps 55 = .ok (.iload_n 2, 1) := by decide +kernel
theorem dX7_keeps_56 : decode cX7_keeps 56 = .ok (.invokevirtual 126, 3) := by decide +kernel
theorem dX7_keeps_59 : decode cX7_keeps 59 = .ok (.pop, 1) := by decide +kernel
theorem dX7_keeps_60 : decode cX7_keeps 60 = .ok (.aload_n 0, 1) := by decide +kernel
theorem dX7_keeps_61 : decode cX7_keeps 61 = .ok (.getfield 10, 3) := by decide +kernel
theorem dX7_keeps_64 : decode cX7_keeps 64 = .ok (.getfield 130, 3) := by decide +kernel
theorem dX7_keeps_67 : decode cX7_keeps 67 = .ok (.iload 4, 2) := by decide +kernel
theorem dX7_keeps_69 : decode cX7_keeps 69 = .ok (.isub, 1) := by decide +kernel
theorem dX7_keeps_70 : decode cX7_keeps 70 = .ok (.ireturn, 1) := by decide +kernel
theorem dX7_skips_0 : decode cX7_skips 0 = .ok (.aload_n 0, 1) := by decide +kernel
theorem dX7_skips_1 : decode cX7_skips 1 = .ok (.iload_n 1, 1) := by decide +kernel
theorem dX7_skips_2 : decode cX7_skips 2 = .ok (.iconst 0, 1) := by decide +kernel
theorem dX7_skips_3 : decode cX7_skips 3 = .ok (.iload_n 2, 1) := by decide +kernel
theorem dX7_skips_4 : decode cX7_skips 4 = .ok (.invokevirtual 194, 3) := by decide +kernel
theorem dX7_skips_7 : decode cX7_skips 7 = .ok (.ifCond .eq 10, 3) := by decide +kernel
theorem dX7_skips_10 : decode cX7_skips 10 = .ok (.iload_n 3, 1) := by decide +kernel
theorem dX7_skips_11 : decode cX7_skips 11 = .ok (.invokestatic 86, 3) := by decide +kernel
theorem dX7_skips_14 : decode cX7_skips 14 = .ok (.ifCond .ne 5, 3) := by decide +kernel
theorem dX7_skips_17 : decode cX7_skips 17 = .ok (.iconst (-1), 1) := by decide +kernel
theorem dX7_skips_18 : decode cX7_skips 18 = .ok (.ireturn, 1) := by decide +kernel
theorem dX7_skips_19 : decode cX7_skips 19 = .ok (.aload_n 0, 1) := by decide +kernel
theorem dX7_skips_20 : decode cX7_skips 20 = .ok (.invokevirtual 120, 3) := by decide +kernel
theorem dX7_skips_23 : decode cX7_skips 23 = .ok (.istore 4, 2) := by decide +kernel
theorem dX7_skips_25 : decode cX7_skips 25 = .ok (.aload_n 0, 1) := by decide +kernel
theorem dX7_skips_26 : decode cX7_skips 26 = .ok (.iload_n 3, 1) := by decide +kernel
theorem dX7_skips_27 : decode cX7_skips 27 = .ok (.aload_n 0, 1) := by decide +kernel
theorem dX7_skips_28 : decode cX7_skips 28 = .ok (.getfield 10, 3) := by decide +kernel
theorem dX7_skips_31 : decode cX7_skips 31 = .ok (.aload_n 0, 1) := by decide +kernel
theorem dX7_skips_32 : decode cX7_skips 32 = .ok (.getfield 49, 3) := by decide +kernel
theorem dX7_skips_35 : decode cX7_skips 35 = .ok (.iload_n 1, 1) := by decide +kernel
theorem dX7_skips_36 : decode cX7_skips 36 = .ok (.iaload, 1) := by decide +kernel
theorem dX7_skips_37 : decode cX7_skips 37 = .ok (.aload_n 0, 1) := by decide +kernel
theorem dX7_skips_38 : decode cX7_skips 38 = .ok (.getfield 53, 3) := by decide +kernel
theorem dX7_skips_41 : decode cX7_skips 41 = .ok (.iload_n 1, 1) := by decide +kernel
theorem dX7_skips_42 : decode cX7_skips 42 = .ok (.iaload, 1) := by decide +kernel
theorem dX7_skips_43 : decode cX7_skips 43 = .ok (.iload_n 2, 1) := by decide +kernel
theorem dX7_skips_44 : decode cX7_skips 44 = .ok (.iconst 2, 1) := by decide +kernel
theorem dX7_skips_45 : decode cX7_skips 45 = .ok (.invokevirtual 225, 3) := by decide +kernel
theorem dX7_skips_48 : decode cX7_skips 48 = .ok (.aload_n 0, 1) := by decide +kernel
theorem dX7_skips_49 : decode cX7_skips 49 = .ok (.getfield 53, 3) := by decide +kernel
theorem dX7_skips_52 : decode cX7_skips 52 = .ok (.iload_n 1, 1) := by decide +kernel
theorem dX7_skips_53 : decode cX7_skips 53 = .ok (.iaload, 1) := by decide +kernel
theorem dX7_skips_54 : decode cX7_skips 54 = .ok (.iload_n 2, 1) := by decide +kernel
theorem dX7_skips_55 : decode cX7_skips 55 = .ok (.isub, 1) := by decide +kernel
theorem dX7_skips_56 : decode cX7_skips 56 = .ok (.invokevirtual 126, 3) := by decide +kernel
theorem dX7_skips_59 : decode cX7_skips 59 = .ok (.pop, 1) := by decide +kernel
theorem dX7_skips_60 : decode cX7_skips 60 = .ok (.aload_n 0, 1) := by decide +kernel
theorem dX7_skips_61 : decode cX7_skips 61 = .ok (.getfield 10, 3) := by decide +kernel
theorem dX7_skips_64 : decode cX7_skips 64 = .ok (.getfield 130, 3) := by decide +kernel
theorem dX7_skips_67 : decode cX7_skips 67 = .ok (.iload 4, 2) := by decide +kernel
theorem dX7_skips_69 : decode cX7_skips 69 = .ok (.isub, 1) := by decide +kernel
theorem dX7_skips_70 : decode cX7_skips 70 = .ok (.ireturn, 1) := by decide +kernel
theorem dX7_slips_0 : decode cX7_slips 0 = .ok (.aload_n 0, 1) := by decide +kernel
theorem dX7_slips_1 : decode cX7_slips 1 = .ok (.iload_n 1, 1) := by decide +kernel
theorem dX7_slips_2 : decode cX7_slips 2 = .ok (.iconst 0, 1) := by decide +kernel
theorem dX7_slips_3 : decode cX7_slips 3 = .ok (.iload_n 2, 1) := by decide +kernel
theorem dX7_slips_4 : decode cX7_slips 4 = .ok (.invokevirtual 194, 3) := by decide +kernel
theorem dX7_slips_7 : decode cX7_slips 7 = .ok (.ifCond .eq 18, 3) := by decide +kernel
theorem dX7_slips_10 : decode cX7_slips 10 = .ok (.iload_n 3, 1) := by decide +kernel
theorem dX7_slips_11 : decode cX7_slips 11 = .ok (.invokestatic 117, 3) := by decide +kernel
theorem dX7_slips_14 : decode cX7_slips 14 = .ok (.ifCond .eq 11, 3) := by decide +kernel
theorem dX7_slips_17 : decode cX7_slips 17 = .ok (.iload 4, 2) := by decide +kernel
theorem dX7_slips_19 : decode cX7_slips 19 = .ok (.invokestatic 86, 3) := by decide +kernel
theorem dX7_slips_22 : decode cX7_slips 22 = .ok (.ifCond .ne 5, 3) := by decide +kernel
theorem dX7_slips_25 : decode cX7_slips 25 = .ok (.iconst (-1), 1) := by decide +kernel
theorem dX7_slips_26 : decode cX7_slips 26 = .ok (.ireturn, 1) := by decide +kernel
theorem dX7_slips_27 : decode cX7_slips 27 = .ok (.aload_n 0, 1) := by decide +kernel
theorem dX7_slips_28 : decode cX7_slips 28 = .ok (.getfield 53, 3) := by decide +kernel
theorem dX7_slips_31 : decode cX7_slips 31 = .ok (.iload_n 1, 1) := by decide +kernel
theorem dX7_slips_32 : decode cX7_slips 32 = .ok (.iaload, 1) := by decide +kernel
theorem dX7_slips_33 : decode cX7_slips 33 = .ok (.istore 5, 2) := by decide +kernel
theorem dX7_slips_35 : decode cX7_slips 35 = .ok (.iload 5, 2) := by decide +kernel
theorem dX7_slips_37 : decode cX7_slips 37 = .ok (.sipush 255, 3) := by decide +kernel
theorem dX7_slips_40 : decode cX7_slips 40 = .ok (.if_icmp .ne 6, 3) := by decide +kernel
theorem dX7_slips_43 : decode cX7_slips 43 = .ok (.bipush (-2), 2) := by decide +kernel
theorem dX7_slips_45 : decode cX7_slips 45 = .ok (.ireturn, 1) := by decide +kernel
theorem dX7_slips_46 : decode cX7_slips 46 = .ok (.aload_n 0, 1) := by decide +kernel
theorem dX7_slips_47 : decode cX7_slips 47 = .ok (.getfield 10, 3) := by decide +kernel
theorem dX7_slips_50 : decode cX7_slips 50 = .ok (.aload_n 0, 1) := by decide +kernel
theorem dX7_slips_51 : decode cX7_slips 51 = .ok (.getfield 49, 3) := by decide +kernel
theorem dX7_slips_54 : decode cX7_slips 54 = .ok (.iload_n 1, 1) := by decide +kernel
theorem dX7_slips_55 : decode cX7_slips 55 = .ok (.iaload, 1) := by decide +kernel
theorem dX7_slips_56 : decode cX7_slips 56 = .ok (.iload 5, 2) := by decide +kernel
theorem dX7_slips_58 : decode cX7_slips 58 = .ok (.aload_n 0, 1) := by decide +kernel
theorem dX7_slips_59 : decode cX7_slips 59 = .ok (.getfield 56, 3) := by decide +kernel
theorem dX7_slips_62 : decode cX7_slips 62 = .ok (.invokevirtual 201, 3) := by decide +kernel
theorem dX7_slips_65 : decode cX7_slips 65 = .ok (.iconst 0, 1) := by decide +kernel
theorem dX7_slips_66 : decode cX7_slips 66 = .ok (.istore 6, 2) := by decide +kernel
theorem dX7_slips_68 : decode cX7_slips 68 = .ok (.iload 6, 2) := by decide +kernel
theorem dX7_slips_70 : decode cX7_slips 70 = .ok (.iload 5, 2) := by decide +kernel
theorem dX7_slips_72 : decode cX7_slips 72 = .ok (.if_icmp .ge 36, 3) := by decide +kernel
theorem dX7_slips_75 : decode cX7_slips 75 = .ok (.aload_n 0, 1) := by decide +kernel
theorem dX7_slips_76 : decode cX7_slips 76 = .ok (.getfield 62, 3) := by decide +kernel
theorem dX7_slips_79 : decode cX7_slips 79 = .ok (.iload 6, 2) := by decide +kernel
theorem dX7_slips_81 : decode cX7_slips 81 = .ok (.iload_n 2, 1) := by decide +kernel
theorem dX7_slips_82 : decode cX7_slips 82 = .ok (.if_icmp .ge 8, 3) := by decide +kernel
theorem dX7_slips_85 : decode cX7_slips 85 = .ok (.iload 6, 2) := by decide +kernel
theorem dX7_slips_87 : decode cX7_slips 87 = .ok (.goto 7, 3) := by decide +kernel
theorem dX7_slips_90 : decode cX7_slips 90 = .ok (.iload 6, 2) := by decide +kernel
theorem dX7_slips_92 : decode cX7_slips 92 = .ok (.iconst 1, 1) := by decide +kernel
theorem dX7_slips_93 : decode cX7_slips 93 = .ok (.iadd, 1) := by decide +kernel
theorem dX7_slips_94 : decode cX7_slips 94 = .ok (.aload_n 0, 1) := by decide +kernel
theorem dX7_slips_95 : decode cX7_slips 95 = .ok (.getfield 56, 3) := by decide +kernel
theorem dX7_slips_98 : decode cX7_slips 98 = .ok (.iload 6, 2) := by decide +kernel
theorem dX7_slips_100 : decode cX7_slips 100 = .ok (.iaload, 1) := by decide +kernel
theorem dX7_slips_101 : decode cX7_slips 101 = .ok (.iastore, 1) := by decide +kernel
theorem dX7_slips_102 : decode cX7_slips 102 = .ok (.iinc 6 1, 3) := by decide +kernel
theorem dX7_slips_105 : decode cX7_slips 105 = .ok (.goto (-37), 3) := by decide +kernel
theorem dX7_slips_108 : decode cX7_slips 108 = .ok (.aload_n 0, 1) := by decide +kernel
theorem dX7_slips_109 : decode cX7_slips 109 = .ok (.getfield 62, 3) := by decide +kernel
theorem dX7_slips_112 : decode cX7_slips 112 = .ok (.iload_n 2, 1) := by decide +kernel
theorem dX7_slips_113 : decode cX7_slips 113 = .ok (.iload_n 3, 1) := by decide +kernel
theorem dX7_slips_114 : decode cX7_slips 114 = .ok (.iastore, 1) := by decide +kernel
theorem dX7_slips_115 : decode cX7_slips 115 = .ok (.aload_n 0, 1) := by decide +kernel
theorem dX7_slips_116 : decode cX7_slips 116 = .ok (.iload 4, 2) := by decide +kernel
theorem dX7_slips_118 : decode cX7_slips 118 = .ok (.iload 5, 2) := by decide +kernel
theorem dX7_slips_120 : decode cX7_slips 120 = .ok (.iconst 1, 1) := by decide +kernel
theorem dX7_slips_121 : decode cX7_slips 121 = .ok (.iadd, 1) := by decide +kernel
theorem dX7_slips_122 : decode cX7_slips 122 = .ok (.invokevirtual 89, 3) := by decide +kernel
theorem dX7_slips_125 : decode cX7_slips 125 = .ok (.ireturn, 1) := by decide +kernel
theorem dX7_swaps_0 : decode cX7_swaps 0 = .ok (.aload_n 0, 1) := by decide +kernel
theorem dX7_swaps_1 : decode cX7_swaps 1 = .ok (.iload_n 1, 1) := by decide +kernel
theorem dX7_swaps_2 : decode cX7_swaps 2 = .ok (.iload_n 2, 1) := by decide +kernel
theorem dX7_swaps_3 : decode cX7_swaps 3 = .ok (.invokevirtual 165, 3) := by decide +kernel
theorem dX7_swaps_6 : decode cX7_swaps 6 = .ok (.ifCond .eq 20, 3) := by decide +kernel
theorem dX7_swaps_9 : decode cX7_swaps 9 = .ok (.aload_n 0, 1) := by decide +kernel
theorem dX7_swaps_10 : decode cX7_swaps 10 = .ok (.iload_n 1, 1) := by decide +kernel
theorem dX7_swaps_11 : decode cX7_swaps 11 = .ok (.iload_n 3, 1) := by decide +kernel
theorem dX7_swaps_12 : decode cX7_swaps 12 = .ok (.invokevirtual 165, 3) := by decide +kernel
theorem dX7_swaps_15 : decode cX7_swaps 15 = .ok (.ifCond .eq 11, 3) := by decide +kernel
theorem dX7_swaps_18 : decode cX7_swaps 18 = .ok (.iload 4, 2) := by decide +kernel
theorem dX7_swaps_20 : decode cX7_swaps 20 = .ok (.invokestatic 86, 3) := by decide +kernel
theorem dX7_swaps_23 : decode cX7_swaps 23 = .ok (.ifCond .ne 5, 3) := by decide +kernel
theorem dX7_swaps_26 : decode cX7_swaps 26 = .ok (.iconst (-1), 1) := by decide +kernel
theorem dX7_swaps_27 : decode cX7_swaps 27 = .ok (.ireturn, 1) := by decide +kernel
theorem dX7_swaps_28 : decode cX7_swaps 28 = .ok (.aload_n 0, 1) := by decide +kernel
theorem dX7_swaps_29 : decode cX7_swaps 29 = .ok (.iload_n 1, 1) := by decide +kernel
theorem dX7_swaps_30 : decode cX7_swaps 30 = .ok (.iload_n 1, 1) := by decide +kernel
theorem dX7_swaps_31 : decode cX7_swaps 31 = .ok (.invokevirtual 177, 3) := by decide +kernel
theorem dX7_swaps_34 : decode cX7_swaps 34 = .ok (.aload_n 0, 1) := by decide +kernel
theorem dX7_swaps_35 : decode cX7_swaps 35 = .ok (.getfield 56, 3) := by decide +kernel
theorem dX7_swaps_38 : decode cX7_swaps 38 = .ok (.iload_n 2, 1) := by decide +kernel
theorem dX7_swaps_39 : decode cX7_swaps 39 = .ok (.iaload, 1) := by decide +kernel
theorem dX7_swaps_40 : decode cX7_swaps 40 = .ok (.istore 5, 2) := by decide +kernel
theorem dX7_swaps_42 : decode cX7_swaps 42 = .ok (.aload_n 0, 1) := by decide +kernel
theorem dX7_swaps_43 : decode cX7_swaps 43 = .ok (.getfield 56, 3) := by decide +kernel
theorem dX7_swaps_46 : decode cX7_swaps 46 = .ok (.iload_n 2, 1) := by decide +kernel
theorem dX7_swaps_47 : decode cX7_swaps 47 = .ok (.aload_n 0, 1) := by decide +kernel
theorem dX7_swaps_48 : decode cX7_swaps 48 = .ok (.getfield 56, 3) := by decide +kernel
theorem dX7_swaps_51 : decode cX7_swaps 51 = .ok (.iload_n 3, 1) := by decide +kernel
theorem dX7_swaps_52 : decode cX7_swaps 52 = .ok (.iaload, 1) := by decide +kernel
theorem dX7_swaps_53 : decode cX7_swaps 53 = .ok (.iastore, 1) := by decide +kernel
theorem dX7_swaps_54 : decode cX7_swaps 54 = .ok (.aload_n 0, 1) := by decide +kernel
theorem dX7_swaps_55 : decode cX7_swaps 55 = .ok (.getfield 56, 3) := by decide +kernel
theorem dX7_swaps_58 : decode cX7_swaps 58 = .ok (.iload_n 3, 1) := by decide +kernel
theorem dX7_swaps_59 : decode cX7_swaps 59 = .ok (.iload 5, 2) := by decide +kernel
theorem dX7_swaps_61 : decode cX7_swaps 61 = .ok (.iastore, 1) := by decide +kernel
theorem dX7_swaps_62 : decode cX7_swaps 62 = .ok (.aload_n 0, 1) := by decide +kernel
theorem dX7_swaps_63 : decode cX7_swaps 63 = .ok (.aload_n 0, 1) := by decide +kernel
theorem dX7_swaps_64 : decode cX7_swaps 64 = .ok (.getfield 53, 3) := by decide +kernel
theorem dX7_swaps_67 : decode cX7_swaps 67 = .ok (.iload_n 1, 1) := by decide +kernel
theorem dX7_swaps_68 : decode cX7_swaps 68 = .ok (.iaload, 1) := by decide +kernel
theorem dX7_swaps_69 : decode cX7_swaps 69 = .ok (.invokevirtual 181, 3) := by decide +kernel
theorem dX7_swaps_72 : decode cX7_swaps 72 = .ok (.pop, 1) := by decide +kernel
theorem dX7_swaps_73 : decode cX7_swaps 73 = .ok (.aload_n 0, 1) := by decide +kernel
theorem dX7_swaps_74 : decode cX7_swaps 74 = .ok (.iload_n 1, 1) := by decide +kernel
theorem dX7_swaps_75 : decode cX7_swaps 75 = .ok (.iload 4, 2) := by decide +kernel
theorem dX7_swaps_77 : decode cX7_swaps 77 = .ok (.invokevirtual 184, 3) := by decide +kernel
theorem dX7_swaps_80 : decode cX7_swaps 80 = .ok (.ireturn, 1) := by decide +kernel
theorem dX7_zips_0 : decode cX7_zips 0 = .ok (.iload_n 1, 1) := by decide +kernel
theorem dX7_zips_1 : decode cX7_zips 1 = .ok (.invokestatic 86, 3) := by decide +kernel
theorem dX7_zips_4 : decode cX7_zips 4 = .ok (.ifCond .eq 27, 3) := by decide +kernel
theorem dX7_zips_7 : decode cX7_zips 7 = .ok (.iload_n 2, 1) := by decide +kernel
theorem dX7_zips_8 : decode cX7_zips 8 = .ok (.invokestatic 86, 3) := by decide +kernel
theorem dX7_zips_11 : decode cX7_zips 11 = .ok (.ifCond .eq 20, 3) := by decide +kernel
theorem dX7_zips_14 : decode cX7_zips 14 = .ok (.iload_n 3, 1) := by decide +kernel
theorem dX7_zips_15 : decode cX7_zips 15 = .ok (.ifCond .lt 16, 3) := by decide +kernel
theorem dX7_zips_18 : decode cX7_zips 18 = .ok (.iload_n 3, 1) := by decide +kernel
theorem dX7_zips_19 : decode cX7_zips 19 = .ok (.iconst 3, 1) := by decide +kernel
theorem dX7_zips_20 : decode cX7_zips 20 = .ok (.if_icmp .gt 11, 3) := by decide +kernel
theorem dX7_zips_23 : decode cX7_zips 23 = .ok (.iload 4, 2) := by decide +kernel
theorem dX7_zips_25 : decode cX7_zips 25 = .ok (.invokestatic 86, 3) := by decide +kernel
theorem dX7_zips_28 : decode cX7_zips 28 = .ok (.ifCond .ne 5, 3) := by decide +kernel
theorem dX7_zips_31 : decode cX7_zips 31 = .ok (.iconst (-1), 1) := by decide +kernel
theorem dX7_zips_32 : decode cX7_zips 32 = .ok (.ireturn, 1) := by decide +kernel
theorem dX7_zips_33 : decode cX7_zips 33 = .ok (.aload_n 0, 1) := by decide +kernel
theorem dX7_zips_34 : decode cX7_zips 34 = .ok (.iload_n 1, 1) := by decide +kernel
theorem dX7_zips_35 : decode cX7_zips 35 = .ok (.iload_n 2, 1) := by decide +kernel
theorem dX7_zips_36 : decode cX7_zips 36 = .ok (.invokevirtual 177, 3) := by decide +kernel
theorem dX7_zips_39 : decode cX7_zips 39 = .ok (.aload_n 0, 1) := by decide +kernel
theorem dX7_zips_40 : decode cX7_zips 40 = .ok (.getfield 53, 3) := by decide +kernel
theorem dX7_zips_43 : decode cX7_zips 43 = .ok (.iload_n 1, 1) := by decide +kernel
theorem dX7_zips_44 : decode cX7_zips 44 = .ok (.iaload, 1) := by decide +kernel
theorem dX7_zips_45 : decode cX7_zips 45 = .ok (.aload_n 0, 1) := by decide +kernel
theorem dX7_zips_46 : decode cX7_zips 46 = .ok (.getfield 53, 3) := by decide +kernel
theorem dX7_zips_49 : decode cX7_zips 49 = .ok (.iload_n 2, 1) := by decide +kernel
theorem dX7_zips_50 : decode cX7_zips 50 = .ok (.iaload, 1) := by decide +kernel
theorem dX7_zips_51 : decode cX7_zips 51 = .ok (.invokestatic 228, 3) := by decide +kernel
theorem dX7_zips_54 : decode cX7_zips 54 = .ok (.istore 5, 2) := by decide +kernel
theorem dX7_zips_56 : decode cX7_zips 56 = .ok (.iconst 0, 1) := by decide +kernel
theorem dX7_zips_57 : decode cX7_zips 57 = .ok (.istore 6, 2) := by decide +kernel
theorem dX7_zips_59 : decode cX7_zips 59 = .ok (.iload 6, 2) := by decide +kernel
theorem dX7_zips_61 : decode cX7_zips 61 = .ok (.iload 5, 2) := by decide +kernel
theorem dX7_zips_63 : decode cX7_zips 63 = .ok (.if_icmp .ge 34, 3) := by decide +kernel
theorem dX7_zips_66 : decode cX7_zips 66 = .ok (.aload_n 0, 1) := by decide +kernel
theorem dX7_zips_67 : decode cX7_zips 67 = .ok (.getfield 62, 3) := by decide +kernel
theorem dX7_zips_70 : decode cX7_zips 70 = .ok (.iload 6, 2) := by decide +kernel
theorem dX7_zips_72 : decode cX7_zips 72 = .ok (.aload_n 0, 1) := by decide +kernel
theorem dX7_zips_73 : decode cX7_zips 73 = .ok (.getfield 56, 3) := by decide +kernel
theorem dX7_zips_76 : decode cX7_zips 76 = .ok (.iload 6, 2) := by decide +kernel
theorem dX7_zips_78 : decode cX7_zips 78 = .ok (.iaload, 1) := by decide +kernel
theorem dX7_zips_79 : decode cX7_zips 79 = .ok (.aload_n 0, 1) := by decide +kernel
theorem dX7_zips_80 : decode cX7_zips 80 = .ok (.getfield 59, 3) := by decide +kernel
theorem dX7_zips_83 : decode cX7_zips 83 = .ok (.iload 6, 2) := by decide +kernel
theorem dX7_zips_85 : decode cX7_zips 85 = .ok (.iaload, 1) := by decide +kernel
theorem dX7_zips_86 : decode cX7_zips 86 = .ok (.iload_n 3, 1) := by decide +kernel
theorem dX7_zips_87 : decode cX7_zips 87 = .ok (.invokestatic 233, 3) := by decide +kernel
theorem dX7_zips_90 : decode cX7_zips 90 = .ok (.iastore, 1) := by decide +kernel
theorem dX7_zips_91 : decode cX7_zips 91 = .ok (.iinc 6 1, 3) := by decide +kernel
theorem dX7_zips_94 : decode cX7_zips 94 = .ok (.goto (-35), 3) := by decide +kernel
theorem dX7_zips_97 : decode cX7_zips 97 = .ok (.aload_n 0, 1) := by decide +kernel
theorem dX7_zips_98 : decode cX7_zips 98 = .ok (.iload 4, 2) := by decide +kernel
theorem dX7_zips_100 : decode cX7_zips 100 = .ok (.iload 5, 2) := by decide +kernel
theorem dX7_zips_102 : decode cX7_zips 102 = .ok (.invokevirtual 89, 3) := by decide +kernel
theorem dX7_zips_105 : decode cX7_zips 105 = .ok (.ireturn, 1) := by decide +kernel
theorem dX7_parts_0 : decode cX7_parts 0 = .ok (.aload_n 0, 1) := by decide +kernel
theorem dX7_parts_1 : decode cX7_parts 1 = .ok (.iload_n 1, 1) := by decide +kernel
theorem dX7_parts_2 : decode cX7_parts 2 = .ok (.iconst 0, 1) := by decide +kernel
theorem dX7_parts_3 : decode cX7_parts 3 = .ok (.iload_n 2, 1) := by decide +kernel
theorem dX7_parts_4 : decode cX7_parts 4 = .ok (.invokevirtual 194, 3) := by decide +kernel
theorem dX7_parts_7 : decode cX7_parts 7 = .ok (.ifCond .eq 18, 3) := by decide +kernel
theorem dX7_parts_10 : decode cX7_parts 10 = .ok (.iload_n 3, 1) := by decide +kernel
theorem dX7_parts_11 : decode cX7_parts 11 = .ok (.invokestatic 86, 3) := by decide +kernel
theorem dX7_parts_14 : decode cX7_parts 14 = .ok (.ifCond .eq 11, 3) := by decide +kernel
theorem dX7_parts_17 : decode cX7_parts 17 = .ok (.iload 4, 2) := by decide +kernel
theorem dX7_parts_19 : decode cX7_parts 19 = .ok (.invokestatic 86, 3) := by decide +kernel
theorem dX7_parts_22 : decode cX7_parts 22 = .ok (.ifCond .ne 5, 3) := by decide +kernel
theorem dX7_parts_25 : decode cX7_parts 25 = .ok (.iconst (-1), 1) := by decide +kernel
theorem dX7_parts_26 : decode cX7_parts 26 = .ok (.ireturn, 1) := by decide +kernel
theorem dX7_parts_27 : decode cX7_parts 27 = .ok (.iload_n 3, 1) := by decide +kernel
theorem dX7_parts_28 : decode cX7_parts 28 = .ok (.iload 4, 2) := by decide +kernel
theorem dX7_parts_30 : decode cX7_parts 30 = .ok (.if_icmp .ne 6, 3) := by decide +kernel
theorem dX7_parts_33 : decode cX7_parts 33 = .ok (.bipush (-2), 2) := by decide +kernel
theorem dX7_parts_35 : decode cX7_parts 35 = .ok (.ireturn, 1) := by decide +kernel
theorem dX7_parts_36 : decode cX7_parts 36 = .ok (.aload_n 0, 1) := by decide +kernel
theorem dX7_parts_37 : decode cX7_parts 37 = .ok (.getfield 49, 3) := by decide +kernel
theorem dX7_parts_40 : decode cX7_parts 40 = .ok (.iload_n 1, 1) := by decide +kernel
theorem dX7_parts_41 : decode cX7_parts 41 = .ok (.iaload, 1) := by decide +kernel
theorem dX7_parts_42 : decode cX7_parts 42 = .ok (.istore 5, 2) := by decide +kernel
theorem dX7_parts_44 : decode cX7_parts 44 = .ok (.aload_n 0, 1) := by decide +kernel
theorem dX7_parts_45 : decode cX7_parts 45 = .ok (.getfield 53, 3) := by decide +kernel
theorem dX7_parts_48 : decode cX7_parts 48 = .ok (.iload_n 1, 1) := by decide +kernel
theorem dX7_parts_49 : decode cX7_parts 49 = .ok (.iaload, 1) := by decide +kernel
theorem dX7_parts_50 : decode cX7_parts 50 = .ok (.istore 6, 2) := by decide +kernel
theorem dX7_parts_52 : decode cX7_parts 52 = .ok (.aload_n 0, 1) := by decide +kernel
theorem dX7_parts_53 : decode cX7_parts 53 = .ok (.invokevirtual 120, 3) := by decide +kernel
theorem dX7_parts_56 : decode cX7_parts 56 = .ok (.istore 7, 2) := by decide +kernel
theorem dX7_parts_58 : decode cX7_parts 58 = .ok (.aload_n 0, 1) := by decide +kernel
theorem dX7_parts_59 : decode cX7_parts 59 = .ok (.iload_n 3, 1) := by decide +kernel
theorem dX7_parts_60 : decode cX7_parts 60 = .ok (.aload_n 0, 1) := by decide +kernel
theorem dX7_parts_61 : decode cX7_parts 61 = .ok (.getfield 10, 3) := by decide +kernel
theorem dX7_parts_64 : decode cX7_parts 64 = .ok (.iload 5, 2) := by decide +kernel
theorem dX7_parts_66 : decode cX7_parts 66 = .ok (.iload 6, 2) := by decide +kernel
theorem dX7_parts_68 : decode cX7_parts 68 = .ok (.iload 6, 2) := by decide +kernel
theorem dX7_parts_70 : decode cX7_parts 70 = .ok (.iload_n 2, 1) := by decide +kernel
theorem dX7_parts_71 : decode cX7_parts 71 = .ok (.isub, 1) := by decide +kernel
theorem dX7_parts_72 : decode cX7_parts 72 = .ok (.iconst 3, 1) := by decide +kernel
theorem dX7_parts_73 : decode cX7_parts 73 = .ok (.invokevirtual 225, 3) := by decide +kernel
theorem dX7_parts_76 : decode cX7_parts 76 = .ok (.iload_n 2, 1) := by decide +kernel
theorem dX7_parts_77 : decode cX7_parts 77 = .ok (.invokevirtual 126, 3) := by decide +kernel
theorem dX7_parts_80 : decode cX7_parts 80 = .ok (.pop, 1) := by decide +kernel
theorem dX7_parts_81 : decode cX7_parts 81 = .ok (.aload_n 0, 1) := by decide +kernel
theorem dX7_parts_82 : decode cX7_parts 82 = .ok (.iload 4, 2) := by decide +kernel
theorem dX7_parts_84 : decode cX7_parts 84 = .ok (.aload_n 0, 1) := by decide +kernel
theorem dX7_parts_85 : decode cX7_parts 85 = .ok (.getfield 10, 3) := by decide +kernel
theorem dX7_parts_88 : decode cX7_parts 88 = .ok (.iload 5, 2) := by decide +kernel
theorem dX7_parts_90 : decode cX7_parts 90 = .ok (.iload 6, 2) := by decide +kernel
theorem dX7_parts_92 : decode cX7_parts 92 = .ok (.iload_n 2, 1) := by decide +kernel
theorem dX7_parts_93 : decode cX7_parts 93 = .ok (.iconst 2, 1) := by decide +kernel
theorem dX7_parts_94 : decode cX7_parts 94 = .ok (.invokevirtual 225, 3) := by decide +kernel
theorem dX7_parts_97 : decode cX7_parts 97 = .ok (.iload 6, 2) := by decide +kernel
theorem dX7_parts_99 : decode cX7_parts 99 = .ok (.iload_n 2, 1) := by decide +kernel
theorem dX7_parts_100 : decode cX7_parts 100 = .ok (.isub, 1) := by decide +kernel
theorem dX7_parts_101 : decode cX7_parts 101 = .ok (.invokevirtual 126, 3) := by decide +kernel
theorem dX7_parts_104 : decode cX7_parts 104 = .ok (.pop, 1) := by decide +kernel
theorem dX7_parts_105 : decode cX7_parts 105 = .ok (.aload_n 0, 1) := by decide +kernel
theorem dX7_parts_106 : decode cX7_parts 106 = .ok (.getfield 10, 3) := by decide +kernel
theorem dX7_parts_109 : decode cX7_parts 109 = .ok (.getfield 130, 3) := by decide +kernel
theorem dX7_parts_112 : decode cX7_parts 112 = .ok (.iload 7, 2) := by decide +kernel
theorem dX7_parts_114 : decode cX7_parts 114 = .ok (.isub, 1) := by decide +kernel
theorem dX7_parts_115 : decode cX7_parts 115 = .ok (.ireturn, 1) := by decide +kernel
theorem dX7_sorts_0 : decode cX7_sorts 0 = .ok (.iload_n 1, 1) := by decide +kernel
theorem dX7_sorts_1 : decode cX7_sorts 1 = .ok (.invokestatic 86, 3) := by decide +kernel
theorem dX7_sorts_4 : decode cX7_sorts 4 = .ok (.ifCond .eq 10, 3) := by decide +kernel
theorem dX7_sorts_7 : decode cX7_sorts 7 = .ok (.iload_n 2, 1) := by decide +kernel
theorem dX7_sorts_8 : decode cX7_sorts 8 = .ok (.invokestatic 86, 3) := by decide +kernel
theorem dX7_sorts_11 : decode cX7_sorts 11 = .ok (.ifCond .ne 5, 3) := by decide +kernel
theorem dX7_sorts_14 : decode cX7_sorts 14 = .ok (.iconst (-1), 1) := by decide +kernel
theorem dX7_sorts_15 : decode cX7_sorts 15 = .ok (.ireturn, 1) := by decide +kernel
theorem dX7_sorts_16 : decode cX7_sorts 16 = .ok (.aload_n 0, 1) := by decide +kernel
theorem dX7_sorts_17 : decode cX7_sorts 17 = .ok (.getfield 53, 3) := by decide +kernel
theorem dX7_sorts_20 : decode cX7_sorts 20 = .ok (.iload_n 1, 1) := by decide +kernel
theorem dX7_sorts_21 : decode cX7_sorts 21 = .ok (.iaload, 1) := by decide +kernel
theorem dX7_sorts_22 : decode cX7_sorts 22 = .ok (.istore_n 3, 1) := by decide +kernel
theorem dX7_sorts_23 : decode cX7_sorts 23 = .ok (.aload_n 0, 1) := by decide +kernel
theorem dX7_sorts_24 : decode cX7_sorts 24 = .ok (.getfield 10, 3) := by decide +kernel
theorem dX7_sorts_27 : decode cX7_sorts 27 = .ok (.aload_n 0, 1) := by decide +kernel
theorem dX7_sorts_28 : decode cX7_sorts 28 = .ok (.getfield 49, 3) := by decide +kernel
theorem dX7_sorts_31 : decode cX7_sorts 31 = .ok (.iload_n 1, 1) := by decide +kernel
theorem dX7_sorts_32 : decode cX7_sorts 32 = .ok (.iaload, 1) := by decide +kernel
theorem dX7_sorts_33 : decode cX7_sorts 33 = .ok (.iload_n 3, 1) := by decide +kernel
theorem dX7_sorts_34 : decode cX7_sorts 34 = .ok (.aload_n 0, 1) := by decide +kernel
theorem dX7_sorts_35 : decode cX7_sorts 35 = .ok (.getfield 56, 3) := by decide +kernel
theorem dX7_sorts_38 : decode cX7_sorts 38 = .ok (.invokevirtual 201, 3) := by decide +kernel
theorem dX7_sorts_41 : decode cX7_sorts 41 = .ok (.aload_n 0, 1) := by decide +kernel
theorem dX7_sorts_42 : decode cX7_sorts 42 = .ok (.iload_n 3, 1) := by decide +kernel
theorem dX7_sorts_43 : decode cX7_sorts 43 = .ok (.invokevirtual 236, 3) := by decide +kernel
theorem dX7_sorts_46 : decode cX7_sorts 46 = .ok (.iconst 0, 1) := by decide +kernel
theorem dX7_sorts_47 : decode cX7_sorts 47 = .ok (.istore 4, 2) := by decide +kernel
theorem dX7_sorts_49 : decode cX7_sorts 49 = .ok (.iconst 0, 1) := by decide +kernel
theorem dX7_sorts_50 : decode cX7_sorts 50 = .ok (.istore 5, 2) := by decide +kernel
theorem dX7_sorts_52 : decode cX7_sorts 52 = .ok (.iload 5, 2) := by decide +kernel
theorem dX7_sorts_54 : decode cX7_sorts 54 = .ok (.iload_n 3, 1) := by decide +kernel
theorem dX7_sorts_55 : decode cX7_sorts 55 = .ok (.if_icmp .ge 36, 3) := by decide +kernel
theorem dX7_sorts_58 : decode cX7_sorts 58 = .ok (.iload 4, 2) := by decide +kernel
theorem dX7_sorts_60 : decode cX7_sorts 60 = .ok (.aload_n 0, 1) := by decide +kernel
theorem dX7_sorts_61 : decode cX7_sorts 61 = .ok (.getfield 62, 3) := by decide +kernel
theorem dX7_sorts_64 : decode cX7_sorts 64 = .ok (.iload 5, 2) := by decide +kernel
theorem dX7_sorts_66 : decode cX7_sorts 66 = .ok (.iaload, 1) := by decide +kernel
theorem dX7_sorts_67 : decode cX7_sorts 67 = .ok (.aload_n 0, 1) := by decide +kernel
theorem dX7_sorts_68 : decode cX7_sorts 68 = .ok (.getfield 56, 3) := by decide +kernel
theorem dX7_sorts_71 : decode cX7_sorts 71 = .ok (.iload 5, 2) := by decide +kernel
theorem dX7_sorts_73 : decode cX7_sorts 73 = .ok (.iaload, 1) := by decide +kernel
theorem dX7_sorts_74 : decode cX7_sorts 74 = .ok (.if_icmp .eq 7, 3) := by decide +kernel
theorem dX7_sorts_77 : decode cX7_sorts 77 = .ok (.iconst 1, 1) := by decide +kernel
theorem dX7_sorts_78 : decode cX7_sorts 78 = .ok (.goto 4, 3) := by decide +kernel
theorem dX7_sorts_81 : decode cX7_sorts 81 = .ok (.iconst 0, 1) := by decide +kernel
theorem dX7_sorts_82 : decode cX7_sorts 82 = .ok (.iadd, 1) := by decide +kernel
theorem dX7_sorts_83 : decode cX7_sorts 83 = .ok (.istore 4, 2) := by decide +kernel
theorem dX7_sorts_85 : decode cX7_sorts 85 = .ok (.iinc 5 1, 3) := by decide +kernel
theorem dX7_sorts_88 : decode cX7_sorts 88 = .ok (.goto (-36), 3) := by decide +kernel
theorem dX7_sorts_91 : decode cX7_sorts 91 = .ok (.aload_n 0, 1) := by decide +kernel
theorem dX7_sorts_92 : decode cX7_sorts 92 = .ok (.getfield 19, 3) := by decide +kernel
theorem dX7_sorts_95 : decode cX7_sorts 95 = .ok (.iload 4, 2) := by decide +kernel
theorem dX7_sorts_97 : decode cX7_sorts 97 = .ok (.i2l, 1) := by decide +kernel
theorem dX7_sorts_98 : decode cX7_sorts 98 = .ok (.invokevirtual 171, 3) := by decide +kernel
theorem dX7_sorts_101 : decode cX7_sorts 101 = .ok (.aload_n 0, 1) := by decide +kernel
theorem dX7_sorts_102 : decode cX7_sorts 102 = .ok (.iload_n 2, 1) := by decide +kernel
theorem dX7_sorts_103 : decode cX7_sorts 103 = .ok (.iload_n 3, 1) := by decide +kernel
theorem dX7_sorts_104 : decode cX7_sorts 104 = .ok (.invokevirtual 89, 3) := by decide +kernel
theorem dX7_sorts_107 : decode cX7_sorts 107 = .ok (.ireturn, 1) := by decide +kernel
theorem dX7_merges_0 : decode cX7_merges 0 = .ok (.iload_n 1, 1) := by decide +kernel
theorem dX7_merges_1 : decode cX7_merges 1 = .ok (.invokestatic 86, 3) := by decide +kernel
theorem dX7_merges_4 : decode cX7_merges 4 = .ok (.ifCond .eq 17, 3) := by decide +kernel
theorem dX7_merges_7 : decode cX7_merges 7 = .ok (.iload_n 2, 1) := by decide +kernel
theorem dX7_merges_8 : decode cX7_merges 8 = .ok (.invokestatic 86, 3) := by decide +kernel
theorem dX7_merges_11 : decode cX7_merges 11 = .ok (.ifCond .eq 10, 3) := by decide +kernel
theorem dX7_merges_14 : decode cX7_merges 14 = .ok (.iload_n 3, 1) := by decide +kernel
theorem dX7_merges_15 : decode cX7_merges 15 = .ok (.invokestatic 86, 3) := by decide +kernel
theorem dX7_merges_18 : decode cX7_merges 18 = .ok (.ifCond .ne 5, 3) := by decide +kernel
theorem dX7_merges_21 : decode cX7_merges 21 = .ok (.iconst (-1), 1) := by decide +kernel
theorem dX7_merges_22 : decode cX7_merges 22 = .ok (.ireturn, 1) := by decide +kernel
theorem dX7_merges_23 : decode cX7_merges 23 = .ok (.aload_n 0, 1) := by decide +kernel
theorem dX7_merges_24 : decode cX7_merges 24 = .ok (.getfield 53, 3) := by decide +kernel
theorem dX7_merges_27 : decode cX7_merges 27 = .ok (.iload_n 1, 1) := by decide +kernel
theorem dX7_merges_28 : decode cX7_merges 28 = .ok (.iaload, 1) := by decide +kernel
theorem dX7_merges_29 : decode cX7_merges 29 = .ok (.aload_n 0, 1) := by decide +kernel
theorem dX7_merges_30 : decode cX7_merges 30 = .ok (.getfield 53, 3) := by decide +kernel
theorem dX7_merges_33 : decode cX7_merges 33 = .ok (.iload_n 2, 1) := by decide +kernel
theorem dX7_merges_34 : decode cX7_merges 34 = .ok (.iaload, 1) := by decide +kernel
theorem dX7_merges_35 : decode cX7_merges 35 = .ok (.iadd, 1) := by decide +kernel
theorem dX7_merges_36 : decode cX7_merges 36 = .ok (.istore 4, 2) := by decide +kernel
theorem dX7_merges_38 : decode cX7_merges 38 = .ok (.iload 4, 2) := by decide +kernel
theorem dX7_merges_40 : decode cX7_merges 40 = .ok (.sipush 255, 3) := by decide +kernel
theorem dX7_merges_43 : decode cX7_merges 43 = .ok (.if_icmp .le 6, 3) := by decide +kernel
theorem dX7_merges_46 : decode cX7_merges 46 = .ok (.bipush (-2), 2) := by decide +kernel
theorem dX7_merges_48 : decode cX7_merges 48 = .ok (.ireturn, 1) := by decide +kernel
theorem dX7_merges_49 : decode cX7_merges 49 = .ok (.aload_n 0, 1) := by decide +kernel
theorem dX7_merges_50 : decode cX7_merges 50 = .ok (.iload_n 1, 1) := by decide +kernel
theorem dX7_merges_51 : decode cX7_merges 51 = .ok (.iload_n 2, 1) := by decide +kernel
theorem dX7_merges_52 : decode cX7_merges 52 = .ok (.invokevirtual 177, 3) := by decide +kernel
theorem dX7_merges_55 : decode cX7_merges 55 = .ok (.iconst 0, 1) := by decide +kernel
theorem dX7_merges_56 : decode cX7_merges 56 = .ok (.istore 5, 2) := by decide +kernel
theorem dX7_merges_58 : decode cX7_merges 58 = .ok (.iconst 0, 1) := by decide +kernel
theorem dX7_merges_59 : decode cX7_merges 59 = .ok (.istore 6, 2) := by decide +kernel
theorem dX7_merges_61 : decode cX7_merges 61 = .ok (.iconst 0, 1) := by decide +kernel
theorem dX7_merges_62 : decode cX7_merges 62 = .ok (.istore 7, 2) := by decide +kernel
theorem dX7_merges_64 : decode cX7_merges 64 = .ok (.iload 7, 2) := by decide +kernel
theorem dX7_merges_66 : decode cX7_merges 66 = .ok (.iload 4, 2) := by decide +kernel
theorem dX7_merges_68 : decode cX7_merges 68 = .ok (.if_icmp .ge 85, 3) := by decide +kernel
theorem dX7_merges_71 : decode cX7_merges 71 = .ok (.iload 6, 2) := by decide +kernel
theorem dX7_merges_73 : decode cX7_merges 73 = .ok (.aload_n 0, 1) := by decide +kernel
theorem dX7_merges_74 : decode cX7_merges 74 = .ok (.getfield 53, 3) := by decide +kernel
theorem dX7_merges_77 : decode cX7_merges 77 = .ok (.iload_n 2, 1) := by decide +kernel
theorem dX7_merges_78 : decode cX7_merges 78 = .ok (.iaload, 1) := by decide +kernel
theorem dX7_merges_79 : decode cX7_merges 79 = .ok (.if_icmp .ge 31, 3) := by decide +kernel
theorem dX7_merges_82 : decode cX7_merges 82 = .ok (.iload 5, 2) := by decide +kernel
theorem dX7_merges_84 : decode cX7_merges 84 = .ok (.aload_n 0, 1) := by decide +kernel
theorem dX7_merges_85 : decode cX7_merges 85 = .ok (.getfield 53, 3) := by decide +kernel
theorem dX7_merges_88 : decode cX7_merges 88 = .ok (.iload_n 1, 1) := by decide +kernel
theorem dX7_merges_89 : decode cX7_merges 89 = .ok (.iaload, 1) := by decide +kernel
theorem dX7_merges_90 : decode cX7_merges 90 = .ok (.if_icmp .ge 40, 3) := by decide +kernel
theorem dX7_merges_93 : decode cX7_merges 93 = .ok (.aload_n 0, 1) := by decide +kernel
theorem dX7_merges_94 : decode cX7_merges 94 = .ok (.getfield 56, 3) := by decide +kernel
theorem dX7_merges_97 : decode cX7_merges 97 = .ok (.iload 5, 2) := by decide +kernel
theorem dX7_merges_99 : decode cX7_merges 99 = .ok (.iaload, 1) := by decide +kernel
theorem dX7_merges_100 : decode cX7_merges 100 = .ok (.aload_n 0, 1) := by decide +kernel
theorem dX7_merges_101 : decode cX7_merges 101 = .ok (.getfield 59, 3) := by decide +kernel
theorem dX7_merges_104 : decode cX7_merges 104 = .ok (.iload 6, 2) := by decide +kernel
theorem dX7_merges_106 : decode cX7_merges 106 = .ok (.iaload, 1) := by decide +kernel
theorem dX7_merges_107 : decode cX7_merges 107 = .ok (.if_icmp .gt 23, 3) := by decide +kernel
theorem dX7_merges_110 : decode cX7_merges 110 = .ok (.aload_n 0, 1) := by decide +kernel
theorem dX7_merges_111 : decode cX7_merges 111 = .ok (.getfield 62, 3) := by decide +kernel
theorem dX7_merges_114 : decode cX7_merges 114 = .ok (.iload 7, 2) := by decide +kernel
theorem dX7_merges_116 : decode cX7_merges 116 = .ok (.aload_n 0, 1) := by decide +kernel
theorem dX7_merges_117 : decode cX7_merges 117 = .ok (.getfield 56, 3) := by decide +kernel
theorem dX7_merges_120 : decode cX7_merges 120 = .ok (.iload 5, 2) := by decide +kernel
theorem dX7_merges_122 : decode cX7_merges 122 = .ok (.iaload, 1) := by decide +kernel
theorem dX7_merges_123 : decode cX7_merges 123 = .ok (.iastore, 1) := by decide +kernel
theorem dX7_merges_124 : decode cX7_merges 124 = .ok (.iinc 5 1, 3) := by decide +kernel
theorem dX7_merges_127 : decode cX7_merges 127 = .ok (.goto 20, 3) := by decide +kernel
theorem dX7_merges_130 : decode cX7_merges 130 = .ok (.aload_n 0, 1) := by decide +kernel
theorem dX7_merges_131 : decode cX7_merges 131 = .ok (.getfield 62, 3) := by decide +kernel
theorem dX7_merges_134 : decode cX7_merges 134 = .ok (.iload 7, 2) := by decide +kernel
theorem dX7_merges_136 : decode cX7_merges 136 = .ok (.aload_n 0, 1) := by decide +kernel
theorem dX7_merges_137 : decode cX7_merges 137 = .ok (.getfield 59, 3) := by decide +kernel
theorem dX7_merges_140 : decode cX7_merges 140 = .ok (.iload 6, 2) := by decide +kernel
theorem dX7_merges_142 : decode cX7_merges 142 = .ok (.iaload, 1) := by decide +kernel
theorem dX7_merges_143 : decode cX7_merges 143 = .ok (.iastore, 1) := by decide +kernel
theorem dX7_merges_144 : decode cX7_merges 144 = .ok (.iinc 6 1, 3) := by decide +kernel
theorem dX7_merges_147 : decode cX7_merges 147 = .ok (.iinc 7 1, 3) := by decide +kernel
theorem dX7_merges_150 : decode cX7_merges 150 = .ok (.goto (-86), 3) := by decide +kernel
theorem dX7_merges_153 : decode cX7_merges 153 = .ok (.aload_n 0, 1) := by decide +kernel
theorem dX7_merges_154 : decode cX7_merges 154 = .ok (.iload_n 3, 1) := by decide +kernel
theorem dX7_merges_155 : decode cX7_merges 155 = .ok (.iload 4, 2) := by decide +kernel
theorem dX7_merges_157 : decode cX7_merges 157 = .ok (.invokevirtual 89, 3) := by decide +kernel
theorem dX7_merges_160 : decode cX7_merges 160 = .ok (.ireturn, 1) := by decide +kernel
theorem dX7_picks_0 : decode cX7_picks 0 = .ok (.iload_n 1, 1) := by decide +kernel
theorem dX7_picks_1 : decode cX7_picks 1 = .ok (.invokestatic 86, 3) := by decide +kernel
theorem dX7_picks_4 : decode cX7_picks 4 = .ok (.ifCond .eq 25, 3) := by decide +kernel
theorem dX7_picks_7 : decode cX7_picks 7 = .ok (.iload_n 2, 1) := by decide +kernel
theorem dX7_picks_8 : decode cX7_picks 8 = .ok (.invokestatic 117, 3) := by decide +kernel
theorem dX7_picks_11 : decode cX7_picks 11 = .ok (.ifCond .eq 18, 3) := by decide +kernel
theorem dX7_picks_14 : decode cX7_picks 14 = .ok (.iload_n 3, 1) := by decide +kernel
theorem dX7_picks_15 : decode cX7_picks 15 = .ok (.invokestatic 117, 3) := by decide +kernel
theorem dX7_picks_18 : decode cX7_picks 18 = .ok (.ifCond .eq 11, 3) := by decide +kernel
theorem dX7_picks_21 : decode cX7_picks 21 = .ok (.iload 4, 2) := by decide +kernel
theorem dX7_picks_23 : decode cX7_picks 23 = .ok (.invokestatic 86, 3) := by decide +kernel
theorem dX7_picks_26 : decode cX7_picks 26 = .ok (.ifCond .ne 5, 3) := by decide +kernel
theorem dX7_picks_29 : decode cX7_picks 29 = .ok (.iconst (-1), 1) := by decide +kernel
theorem dX7_picks_30 : decode cX7_picks 30 = .ok (.ireturn, 1) := by decide +kernel
theorem dX7_picks_31 : decode cX7_picks 31 = .ok (.aload_n 0, 1) := by decide +kernel
theorem dX7_picks_32 : decode cX7_picks 32 = .ok (.getfield 10, 3) := by decide +kernel
theorem dX7_picks_35 : decode cX7_picks 35 = .ok (.aload_n 0, 1) := by decide +kernel
theorem dX7_picks_36 : decode cX7_picks 36 = .ok (.getfield 49, 3) := by decide +kernel
theorem dX7_picks_39 : decode cX7_picks 39 = .ok (.iload_n 1, 1) := by decide +kernel
theorem dX7_picks_40 : decode cX7_picks 40 = .ok (.iaload, 1) := by decide +kernel
theorem dX7_picks_41 : decode cX7_picks 41 = .ok (.aload_n 0, 1) := by decide +kernel
theorem dX7_picks_42 : decode cX7_picks 42 = .ok (.getfield 53, 3) := by decide +kernel
theorem dX7_picks_45 : decode cX7_picks 45 = .ok (.iload_n 1, 1) := by decide +kernel
theorem dX7_picks_46 : decode cX7_picks 46 = .ok (.iaload, 1) := by decide +kernel
theorem dX7_picks_47 : decode cX7_picks 47 = .ok (.aload_n 0, 1) := by decide +kernel
theorem dX7_picks_48 : decode cX7_picks 48 = .ok (.getfield 56, 3) := by decide +kernel
theorem dX7_picks_51 : decode cX7_picks 51 = .ok (.invokevirtual 201, 3) := by decide +kernel
theorem dX7_picks_54 : decode cX7_picks 54 = .ok (.iconst 0, 1) := by decide +kernel
theorem dX7_picks_55 : decode cX7_picks 55 = .ok (.istore 5, 2) := by decide +kernel
theorem dX7_picks_57 : decode cX7_picks 57 = .ok (.iconst 0, 1) := by decide +kernel
theorem dX7_picks_58 : decode cX7_picks 58 = .ok (.istore 6, 2) := by decide +kernel
theorem dX7_picks_60 : decode cX7_picks 60 = .ok (.iload 6, 2) := by decide +kernel
theorem dX7_picks_62 : decode cX7_picks 62 = .ok (.aload_n 0, 1) := by decide +kernel
theorem dX7_picks_63 : decode cX7_picks 63 = .ok (.getfield 53, 3) := by decide +kernel
theorem dX7_picks_66 : decode cX7_picks 66 = .ok (.iload_n 1, 1) := by decide +kernel
theorem dX7_picks_67 : decode cX7_picks 67 = .ok (.iaload, 1) := by decide +kernel
theorem dX7_picks_68 : decode cX7_picks 68 = .ok (.if_icmp .ge 48, 3) := by decide +kernel
theorem dX7_picks_71 : decode cX7_picks 71 = .ok (.aload_n 0, 1) := by decide +kernel
theorem dX7_picks_72 : decode cX7_picks 72 = .ok (.getfield 56, 3) := by decide +kernel
theorem dX7_picks_75 : decode cX7_picks 75 = .ok (.iload 6, 2) := by decide +kernel
theorem dX7_picks_77 : decode cX7_picks 77 = .ok (.iaload, 1) := by decide +kernel
theorem dX7_picks_78 : decode cX7_picks 78 = .ok (.iload_n 2, 1) := by decide +kernel
theorem dX7_picks_79 : decode cX7_picks 79 = .ok (.if_icmp .lt 31, 3) := by decide +kernel
theorem dX7_picks_82 : decode cX7_picks 82 = .ok (.aload_n 0, 1) := by decide +kernel
theorem dX7_picks_83 : decode cX7_picks 83 = .ok (.getfield 56, 3) := by decide +kernel
theorem dX7_picks_86 : decode cX7_picks 86 = .ok (.iload 6, 2) := by decide +kernel
theorem dX7_picks_88 : decode cX7_picks 88 = .ok (.iaload, 1) := by decide +kernel
theorem dX7_picks_89 : decode cX7_picks 89 = .ok (.iload_n 3, 1) := by decide +kernel
theorem dX7_picks_90 : decode cX7_picks 90 = .ok (.if_icmp .gt 20, 3) := by decide +kernel
theorem dX7_picks_93 : decode cX7_picks 93 = .ok (.aload_n 0, 1) := by decide +kernel
theorem dX7_picks_94 : decode cX7_picks 94 = .ok (.getfield 62, 3) := by decide +kernel
theorem dX7_picks_97 : decode cX7_picks 97 = .ok (.iload 5, 2) := by decide +kernel
theorem dX7_picks_99 : decode cX7_picks 99 = .ok (.aload_n 0, 1) := by decide +kernel
theorem dX7_picks_100 : decode cX7_picks 100 = .ok (.getfield 56, 3) := by decide +kernel
theorem dX7_picks_103 : decode cX7_picks 103 = .ok (.iload 6, 2) := by decide +kernel
theorem dX7_picks_105 : decode cX7_picks 105 = .ok (.iaload, 1) := by decide +kernel
theorem dX7_picks_106 : decode cX7_picks 106 = .ok (.iastore, 1) := by decide +kernel
theorem dX7_picks_107 : decode cX7_picks 107 = .ok (.iinc 5 1, 3) := by decide +kernel
theorem dX7_picks_110 : decode cX7_picks 110 = .ok (.iinc 6 1, 3) := by decide +kernel
theorem dX7_picks_113 : decode cX7_picks 113 = .ok (.goto (-53), 3) := by decide +kernel
theorem dX7_picks_116 : decode cX7_picks 116 = .ok (.aload_n 0, 1) := by decide +kernel
theorem dX7_picks_117 : decode cX7_picks 117 = .ok (.iload 4, 2) := by decide +kernel
theorem dX7_picks_119 : decode cX7_picks 119 = .ok (.iload 5, 2) := by decide +kernel
theorem dX7_picks_121 : decode cX7_picks 121 = .ok (.invokevirtual 89, 3) := by decide +kernel
theorem dX7_picks_124 : decode cX7_picks 124 = .ok (.ireturn, 1) := by decide +kernel
theorem dX7_mirrors_0 : decode cX7_mirrors 0 = .ok (.iload_n 1, 1) := by decide +kernel
theorem dX7_mirrors_1 : decode cX7_mirrors 1 = .ok (.invokestatic 86, 3) := by decide +kernel
theorem dX7_mirrors_4 : decode cX7_mirrors 4 = .ok (.ifCond .eq 10, 3) := by decide +kernel
theorem dX7_mirrors_7 : decode cX7_mirrors 7 = .ok (.iload_n 2, 1) := by decide +kernel
theorem dX7_mirrors_8 : decode cX7_mirrors 8 = .ok (.invokestatic 86, 3) := by decide +kernel
theorem dX7_mirrors_11 : decode cX7_mirrors 11 = .ok (.ifCond .ne 5, 3) := by decide +kernel
theorem dX7_mirrors_14 : decode cX7_mirrors 14 = .ok (.iconst (-1), 1) := by decide +kernel
theorem dX7_mirrors_15 : decode cX7_mirrors 15 = .ok (.ireturn, 1) := by decide +kernel
theorem dX7_mirrors_16 : decode cX7_mirrors 16 = .ok (.aload_n 0, 1) := by decide +kernel
theorem dX7_mirrors_17 : decode cX7_mirrors 17 = .ok (.getfield 53, 3) := by decide +kernel
theorem dX7_mirrors_20 : decode cX7_mirrors 20 = .ok (.iload_n 1, 1) := by decide +kernel
theorem dX7_mirrors_21 : decode cX7_mirrors 21 = .ok (.iaload, 1) := by decide +kernel
theorem dX7_mirrors_22 : decode cX7_mirrors 22 = .ok (.aload_n 0, 1) := by decide +kernel
theorem dX7_mirrors_23 : decode cX7_mirrors 23 = .ok (.getfield 53, 3) := by decide +kernel
theorem dX7_mirrors_26 : decode cX7_mirrors 26 = .ok (.iload_n 1, 1) := by decide +kernel
theorem dX7_mirrors_27 : decode cX7_mirrors 27 = .ok (.iaload, 1) := by decide +kernel
theorem dX7_mirrors_28 : decode cX7_mirrors 28 = .ok (.iconst 1, 1) := by decide +kernel
theorem dX7_mirrors_29 : decode cX7_mirrors 29 = .ok (.iadd, 1) := by decide +kernel
theorem dX7_mirrors_30 : decode cX7_mirrors 30 = .ok (.iand, 1) := by decide +kernel
theorem dX7_mirrors_31 : decode cX7_mirrors 31 = .ok (.ifCond .eq 6, 3) := by decide +kernel
theorem dX7_mirrors_34 : decode cX7_mirrors 34 = .ok (.bipush (-2), 2) := by decide +kernel
theorem dX7_mirrors_36 : decode cX7_mirrors 36 = .ok (.ireturn, 1) := by decide +kernel
theorem dX7_mirrors_37 : decode cX7_mirrors 37 = .ok (.aload_n 0, 1) := by decide +kernel
theorem dX7_mirrors_38 : decode cX7_mirrors 38 = .ok (.invokevirtual 120, 3) := by decide +kernel
theorem dX7_mirrors_41 : decode cX7_mirrors 41 = .ok (.pop, 1) := by decide +kernel
theorem dX7_mirrors_42 : decode cX7_mirrors 42 = .ok (.aload_n 0, 1) := by decide +kernel
theorem dX7_mirrors_43 : decode cX7_mirrors 43 = .ok (.iload_n 2, 1) := by decide +kernel
theorem dX7_mirrors_44 : decode cX7_mirrors 44 = .ok (.aload_n 0, 1) := by decide +kernel
theorem dX7_mirrors_45 : decode cX7_mirrors 45 = .ok (.getfield 10, 3) := by decide +kernel
theorem dX7_mirrors_48 : decode cX7_mirrors 48 = .ok (.aload_n 0, 1) := by decide +kernel
theorem dX7_mirrors_49 : decode cX7_mirrors 49 = .ok (.getfield 49, 3) := by decide +kernel
theorem dX7_mirrors_52 : decode cX7_mirrors 52 = .ok (.iload_n 1, 1) := by decide +kernel
theorem dX7_mirrors_53 : decode cX7_mirrors 53 = .ok (.iaload, 1) := by decide +kernel
theorem dX7_mirrors_54 : decode cX7_mirrors 54 = .ok (.aload_n 0, 1) := by decide +kernel
theorem dX7_mirrors_55 : decode cX7_mirrors 55 = .ok (.getfield 53, 3) := by decide +kernel
theorem dX7_mirrors_58 : decode cX7_mirrors 58 = .ok (.iload_n 1, 1) := by decide +kernel
theorem dX7_mirrors_59 : decode cX7_mirrors 59 = .ok (.iaload, 1) := by decide +kernel
theorem dX7_mirrors_60 : decode cX7_mirrors 60 = .ok (.invokevirtual 239, 3) := by decide +kernel
theorem dX7_mirrors_63 : decode cX7_mirrors 63 = .ok (.aload_n 0, 1) := by decide +kernel
theorem dX7_mirrors_64 : decode cX7_mirrors 64 = .ok (.getfield 53, 3) := by decide +kernel
theorem dX7_mirrors_67 : decode cX7_mirrors 67 = .ok (.iload_n 1, 1) := by decide +kernel
theorem dX7_mirrors_68 : decode cX7_mirrors 68 = .ok (.iaload, 1) := by decide +kernel
theorem dX7_mirrors_69 : decode cX7_mirrors 69 = .ok (.invokevirtual 126, 3) := by decide +kernel
theorem dX7_mirrors_72 : decode cX7_mirrors 72 = .ok (.ireturn, 1) := by decide +kernel
theorem dX7_heap_0 : decode cX7_heap 0 = .ok (.iload_n 1, 1) := by decide +kernel
theorem dX7_heap_1 : decode cX7_heap 1 = .ok (.invokestatic 86, 3) := by decide +kernel
theorem dX7_heap_4 : decode cX7_heap 4 = .ok (.ifCond .ne 5, 3) := by decide +kernel
theorem dX7_heap_7 : decode cX7_heap 7 = .ok (.iconst (-1), 1) := by decide +kernel
theorem dX7_heap_8 : decode cX7_heap 8 = .ok (.ireturn, 1) := by decide +kernel
theorem dX7_heap_9 : decode cX7_heap 9 = .ok (.aload_n 0, 1) := by decide +kernel
theorem dX7_heap_10 : decode cX7_heap 10 = .ok (.getfield 10, 3) := by decide +kernel
theorem dX7_heap_13 : decode cX7_heap 13 = .ok (.aload_n 0, 1) := by decide +kernel
theorem dX7_heap_14 : decode cX7_heap 14 = .ok (.getfield 49, 3) := by decide +kernel
theorem dX7_heap_17 : decode cX7_heap 17 = .ok (.iload_n 1, 1) := by decide +kernel
theorem dX7_heap_18 : decode cX7_heap 18 = .ok (.iaload, 1) := by decide +kernel
theorem dX7_heap_19 : decode cX7_heap 19 = .ok (.aload_n 0, 1) := by decide +kernel
theorem dX7_heap_20 : decode cX7_heap 20 = .ok (.getfield 53, 3) := by decide +kernel
theorem dX7_heap_23 : decode cX7_heap 23 = .ok (.iload_n 1, 1) := by decide +kernel
theorem dX7_heap_24 : decode cX7_heap 24 = .ok (.iaload, 1) := by decide +kernel
theorem dX7_heap_25 : decode cX7_heap 25 = .ok (.aload_n 0, 1) := by decide +kernel
theorem dX7_heap_26 : decode cX7_heap 26 = .ok (.getfield 56, 3) := by decide +kernel
theorem dX7_heap_29 : decode cX7_heap 29 = .ok (.invokevirtual 201, 3) := by decide +kernel
theorem dX7_heap_32 : decode cX7_heap 32 = .ok (.iconst (-1), 1) := by decide +kernel
theorem dX7_heap_33 : decode cX7_heap 33 = .ok (.istore_n 2, 1) := by decide +kernel
theorem dX7_heap_34 : decode cX7_heap 34 = .ok (.iconst 1, 1) := by decide +kernel
theorem dX7_heap_35 : decode cX7_heap 35 = .ok (.istore_n 3, 1) := by decide +kernel
theorem dX7_heap_36 : decode cX7_heap 36 = .ok (.iload_n 3, 1) := by decide +kernel
theorem dX7_heap_37 : decode cX7_heap 37 = .ok (.aload_n 0, 1) := by decide +kernel
theorem dX7_heap_38 : decode cX7_heap 38 = .ok (.getfield 53, 3) := by decide +kernel
theorem dX7_heap_41 : decode cX7_heap 41 = .ok (.iload_n 1, 1) := by decide +kernel
theorem dX7_heap_42 : decode cX7_heap 42 = .ok (.iaload, 1) := by decide +kernel
theorem dX7_heap_43 : decode cX7_heap 43 = .ok (.if_icmp .ge 34, 3) := by decide +kernel
theorem dX7_heap_46 : decode cX7_heap 46 = .ok (.iload_n 2, 1) := by decide +kernel
theorem dX7_heap_47 : decode cX7_heap 47 = .ok (.iconst (-1), 1) := by decide +kernel
theorem dX7_heap_48 : decode cX7_heap 48 = .ok (.if_icmp .ne 29, 3) := by decide +kernel
theorem dX7_heap_51 : decode cX7_heap 51 = .ok (.aload_n 0, 1) := by decide +kernel
theorem dX7_heap_52 : decode cX7_heap 52 = .ok (.getfield 56, 3) := by decide +kernel
theorem dX7_heap_55 : decode cX7_heap 55 = .ok (.iload_n 3, 1) := by decide +kernel
theorem dX7_heap_56 : decode cX7_heap 56 = .ok (.iaload, 1) := by decide +kernel
theorem dX7_heap_57 : decode cX7_heap 57 = .ok (.aload_n 0, 1) := by decide +kernel
theorem dX7_heap_58 : decode cX7_heap 58 = .ok (.getfield 56, 3) := by decide +kernel
theorem dX7_heap_61 : decode cX7_heap 61 = .ok (.iload_n 3, 1) := by decide +kernel
theorem dX7_heap_62 : decode cX7_heap 62 = .ok (.invokestatic 242, 3) := by decide +kernel
theorem dX7_heap_65 : decode cX7_heap 65 = .ok (.iaload, 1) := by decide +kernel
theorem dX7_heap_66 : decode cX7_heap 66 = .ok (.if_icmp .ge 5, 3) := by decide +kernel
theorem dX7_heap_69 : decode cX7_heap 69 = .ok (.iload_n 3, 1) := by decide +kernel
theorem dX7_heap_70 : decode cX7_heap 70 = .ok (.istore_n 2, 1) := by decide +kernel
theorem dX7_heap_71 : decode cX7_heap 71 = .ok (.iinc 3 1, 3) := by decide +kernel
theorem dX7_heap_74 : decode cX7_heap 74 = .ok (.goto (-38), 3) := by decide +kernel
theorem dX7_heap_77 : decode cX7_heap 77 = .ok (.aload_n 0, 1) := by decide +kernel
theorem dX7_heap_78 : decode cX7_heap 78 = .ok (.getfield 19, 3) := by decide +kernel
theorem dX7_heap_81 : decode cX7_heap 81 = .ok (.iload_n 2, 1) := by decide +kernel
theorem dX7_heap_82 : decode cX7_heap 82 = .ok (.i2l, 1) := by decide +kernel
theorem dX7_heap_83 : decode cX7_heap 83 = .ok (.invokevirtual 171, 3) := by decide +kernel
theorem dX7_heap_86 : decode cX7_heap 86 = .ok (.iload_n 2, 1) := by decide +kernel
theorem dX7_heap_87 : decode cX7_heap 87 = .ok (.iconst (-1), 1) := by decide +kernel
theorem dX7_heap_88 : decode cX7_heap 88 = .ok (.if_icmp .ne 7, 3) := by decide +kernel
theorem dX7_heap_91 : decode cX7_heap 91 = .ok (.iconst 1, 1) := by decide +kernel
theorem dX7_heap_92 : decode cX7_heap 92 = .ok (.goto 4, 3) := by decide +kernel
theorem dX7_heap_95 : decode cX7_heap 95 = .ok (.iconst 0, 1) := by decide +kernel
theorem dX7_heap_96 : decode cX7_heap 96 = .ok (.ireturn, 1) := by decide +kernel
theorem dX7_push_0 : decode cX7_push 0 = .ok (.aload_n 0, 1) := by decide +kernel
theorem dX7_push_1 : decode cX7_push 1 = .ok (.iload_n 1, 1) := by decide +kernel
theorem dX7_push_2 : decode cX7_push 2 = .ok (.iload_n 2, 1) := by decide +kernel
theorem dX7_push_3 : decode cX7_push 3 = .ok (.iload_n 3, 1) := by decide +kernel
theorem dX7_push_4 : decode cX7_push 4 = .ok (.iconst 4, 1) := by decide +kernel
theorem dX7_push_5 : decode cX7_push 5 = .ok (.invokevirtual 187, 3) := by decide +kernel
theorem dX7_push_8 : decode cX7_push 8 = .ok (.ireturn, 1) := by decide +kernel
theorem dX7_pop_0 : decode cX7_pop 0 = .ok (.iload_n 1, 1) := by decide +kernel
theorem dX7_pop_1 : decode cX7_pop 1 = .ok (.invokestatic 86, 3) := by decide +kernel
theorem dX7_pop_4 : decode cX7_pop 4 = .ok (.ifCond .eq 10, 3) := by decide +kernel
theorem dX7_pop_7 : decode cX7_pop 7 = .ok (.iload_n 2, 1) := by decide +kernel
theorem dX7_pop_8 : decode cX7_pop 8 = .ok (.invokestatic 86, 3) := by decide +kernel
theorem dX7_pop_11 : decode cX7_pop 11 = .ok (.ifCond .ne 5, 3) := by decide +kernel
theorem dX7_pop_14 : decode cX7_pop 14 = .ok (.iconst (-1), 1) := by decide +kernel
theorem dX7_pop_15 : decode cX7_pop 15 = .ok (.ireturn, 1) := by decide +kernel
theorem dX7_pop_16 : decode cX7_pop 16 = .ok (.aload_n 0, 1) := by decide +kernel
theorem dX7_pop_17 : decode cX7_pop 17 = .ok (.getfield 53, 3) := by decide +kernel
theorem dX7_pop_20 : decode cX7_pop 20 = .ok (.iload_n 1, 1) := by decide +kernel
theorem dX7_pop_21 : decode cX7_pop 21 = .ok (.iaload, 1) := by decide +kernel
theorem dX7_pop_22 : decode cX7_pop 22 = .ok (.istore_n 3, 1) := by decide +kernel
theorem dX7_pop_23 : decode cX7_pop 23 = .ok (.iload_n 3, 1) := by decide +kernel
theorem dX7_pop_24 : decode cX7_pop 24 = .ok (.ifCond .ne 6, 3) := by decide +kernel
theorem dX7_pop_27 : decode cX7_pop 27 = .ok (.bipush (-2), 2) := by decide +kernel
theorem dX7_pop_29 : decode cX7_pop 29 = .ok (.ireturn, 1) := by decide +kernel
theorem dX7_pop_30 : decode cX7_pop 30 = .ok (.aload_n 0, 1) := by decide +kernel
theorem dX7_pop_31 : decode cX7_pop 31 = .ok (.getfield 19, 3) := by decide +kernel
theorem dX7_pop_34 : decode cX7_pop 34 = .ok (.aload_n 0, 1) := by decide +kernel
theorem dX7_pop_35 : decode cX7_pop 35 = .ok (.getfield 10, 3) := by decide +kernel
theorem dX7_pop_38 : decode cX7_pop 38 = .ok (.aload_n 0, 1) := by decide +kernel
theorem dX7_pop_39 : decode cX7_pop 39 = .ok (.getfield 49, 3) := by decide +kernel
theorem dX7_pop_42 : decode cX7_pop 42 = .ok (.iload_n 1, 1) := by decide +kernel
theorem dX7_pop_43 : decode cX7_pop 43 = .ok (.iaload, 1) := by decide +kernel
theorem dX7_pop_44 : decode cX7_pop 44 = .ok (.invokevirtual 216, 3) := by decide +kernel
theorem dX7_pop_47 : decode cX7_pop 47 = .ok (.i2l, 1) := by decide +kernel
theorem dX7_pop_48 : decode cX7_pop 48 = .ok (.invokevirtual 171, 3) := by decide +kernel
theorem dX7_pop_51 : decode cX7_pop 51 = .ok (.aload_n 0, 1) := by decide +kernel
theorem dX7_pop_52 : decode cX7_pop 52 = .ok (.invokevirtual 120, 3) := by decide +kernel
theorem dX7_pop_55 : decode cX7_pop 55 = .ok (.istore 4, 2) := by decide +kernel
theorem dX7_pop_57 : decode cX7_pop 57 = .ok (.aload_n 0, 1) := by decide +kernel
theorem dX7_pop_58 : decode cX7_pop 58 = .ok (.iload_n 2, 1) := by decide +kernel
theorem dX7_pop_59 : decode cX7_pop 59 = .ok (.aload_n 0, 1) := by decide +kernel
theorem dX7_pop_60 : decode cX7_pop 60 = .ok (.getfield 10, 3) := by decide +kernel
theorem dX7_pop_63 : decode cX7_pop 63 = .ok (.aload_n 0, 1) := by decide +kernel
theorem dX7_pop_64 : decode cX7_pop 64 = .ok (.getfield 49, 3) := by decide +kernel
theorem dX7_pop_67 : decode cX7_pop 67 = .ok (.iload_n 1, 1) := by decide +kernel
theorem dX7_pop_68 : decode cX7_pop 68 = .ok (.iaload, 1) := by decide +kernel
theorem dX7_pop_69 : decode cX7_pop 69 = .ok (.iload_n 3, 1) := by decide +kernel
theorem dX7_pop_70 : decode cX7_pop 70 = .ok (.invokevirtual 245, 3) := by decide +kernel
theorem dX7_pop_73 : decode cX7_pop 73 = .ok (.iload_n 3, 1) := by decide +kernel
theorem dX7_pop_74 : decode cX7_pop 74 = .ok (.iconst 1, 1) := by decide +kernel
theorem dX7_pop_75 : decode cX7_pop 75 = .ok (.isub, 1) := by decide +kernel
theorem dX7_pop_76 : decode cX7_pop 76 = .ok (.invokevirtual 126, 3) := by decide +kernel
theorem dX7_pop_79 : decode cX7_pop 79 = .ok (.pop, 1) := by decide +kernel
theorem dX7_pop_80 : decode cX7_pop 80 = .ok (.aload_n 0, 1) := by decide +kernel
theorem dX7_pop_81 : decode cX7_pop 81 = .ok (.getfield 10, 3) := by decide +kernel
theorem dX7_pop_84 : decode cX7_pop 84 = .ok (.getfield 130, 3) := by decide +kernel
theorem dX7_pop_87 : decode cX7_pop 87 = .ok (.iload 4, 2) := by decide +kernel
theorem dX7_pop_89 : decode cX7_pop 89 = .ok (.isub, 1) := by decide +kernel
theorem dX7_pop_90 : decode cX7_pop 90 = .ok (.ireturn, 1) := by decide +kernel
theorem dX7_heaps_0 : decode cX7_heaps 0 = .ok (.iload_n 1, 1) := by decide +kernel
theorem dX7_heaps_1 : decode cX7_heaps 1 = .ok (.invokestatic 86, 3) := by decide +kernel
theorem dX7_heaps_4 : decode cX7_heaps 4 = .ok (.ifCond .eq 10, 3) := by decide +kernel
theorem dX7_heaps_7 : decode cX7_heaps 7 = .ok (.iload_n 2, 1) := by decide +kernel
theorem dX7_heaps_8 : decode cX7_heaps 8 = .ok (.invokestatic 86, 3) := by decide +kernel
theorem dX7_heaps_11 : decode cX7_heaps 11 = .ok (.ifCond .ne 5, 3) := by decide +kernel
theorem dX7_heaps_14 : decode cX7_heaps 14 = .ok (.iconst (-1), 1) := by decide +kernel
theorem dX7_heaps_15 : decode cX7_heaps 15 = .ok (.ireturn, 1) := by decide +kernel
theorem dX7_heaps_16 : decode cX7_heaps 16 = .ok (.aload_n 0, 1) := by decide +kernel
theorem dX7_heaps_17 : decode cX7_heaps 17 = .ok (.invokevirtual 120, 3) := by decide +kernel
theorem dX7_heaps_20 : decode cX7_heaps 20 = .ok (.istore_n 3, 1) := by decide +kernel
theorem dX7_heaps_21 : decode cX7_heaps 21 = .ok (.aload_n 0, 1) := by decide +kernel
theorem dX7_heaps_22 : decode cX7_heaps 22 = .ok (.getfield 10, 3) := by decide +kernel
theorem dX7_heaps_25 : decode cX7_heaps 25 = .ok (.aload_n 0, 1) := by decide +kernel
theorem dX7_heaps_26 : decode cX7_heaps 26 = .ok (.getfield 49, 3) := by decide +kernel
theorem dX7_heaps_29 : decode cX7_heaps 29 = .ok (.iload_n 1, 1) := by decide +kernel
theorem dX7_heaps_30 : decode cX7_heaps 30 = .ok (.iaload, 1) := by decide +kernel
theorem dX7_heaps_31 : decode cX7_heaps 31 = .ok (.aload_n 0, 1) := by decide +kernel
theorem dX7_heaps_32 : decode cX7_heaps 32 = .ok (.getfield 53, 3) := by decide +kernel
theorem dX7_heaps_35 : decode cX7_heaps 35 = .ok (.iload_n 1, 1) := by decide +kernel
theorem dX7_heaps_36 : decode cX7_heaps 36 = .ok (.iaload, 1) := by decide +kernel
theorem dX7_heaps_37 : decode cX7_heaps 37 = .ok (.aload_n 0, 1) := by decide +kernel
theorem dX7_heaps_38 : decode cX7_heaps 38 = .ok (.getfield 56, 3) := by decide +kernel
theorem dX7_heaps_41 : decode cX7_heaps 41 = .ok (.invokevirtual 201, 3) := by decide +kernel
theorem dX7_heaps_44 : decode cX7_heaps 44 = .ok (.aload_n 0, 1) := by decide +kernel
theorem dX7_heaps_45 : decode cX7_heaps 45 = .ok (.iload_n 2, 1) := by decide +kernel
theorem dX7_heaps_46 : decode cX7_heaps 46 = .ok (.aload_n 0, 1) := by decide +kernel
theorem dX7_heaps_47 : decode cX7_heaps 47 = .ok (.getfield 10, 3) := by decide +kernel
theorem dX7_heaps_50 : decode cX7_heaps 50 = .ok (.iconst 0, 1) := by decide +kernel
theorem dX7_heaps_51 : decode cX7_heaps 51 = .ok (.iconst 0, 1) := by decide +kernel
theorem dX7_heaps_52 : decode cX7_heaps 52 = .ok (.aload_n 0, 1) := by decide +kernel
theorem dX7_heaps_53 : decode cX7_heaps 53 = .ok (.getfield 56, 3) := by decide +kernel
theorem dX7_heaps_56 : decode cX7_heaps 56 = .ok (.aload_n 0, 1) := by decide +kernel
theorem dX7_heaps_57 : decode cX7_heaps 57 = .ok (.getfield 53, 3) := by decide +kernel
theorem dX7_heaps_60 : decode cX7_heaps 60 = .ok (.iload_n 1, 1) := by decide +kernel
theorem dX7_heaps_61 : decode cX7_heaps 61 = .ok (.iaload, 1) := by decide +kernel
theorem dX7_heaps_62 : decode cX7_heaps 62 = .ok (.iconst 4, 1) := by decide +kernel
theorem dX7_heaps_63 : decode cX7_heaps 63 = .ok (.invokevirtual 212, 3) := by decide +kernel
theorem dX7_heaps_66 : decode cX7_heaps 66 = .ok (.aload_n 0, 1) := by decide +kernel
theorem dX7_heaps_67 : decode cX7_heaps 67 = .ok (.getfield 53, 3) := by decide +kernel
theorem dX7_heaps_70 : decode cX7_heaps 70 = .ok (.iload_n 1, 1) := by decide +kernel
theorem dX7_heaps_71 : decode cX7_heaps 71 = .ok (.iaload, 1) := by decide +kernel
theorem dX7_heaps_72 : decode cX7_heaps 72 = .ok (.invokevirtual 126, 3) := by decide +kernel
theorem dX7_heaps_75 : decode cX7_heaps 75 = .ok (.pop, 1) := by decide +kernel
theorem dX7_heaps_76 : decode cX7_heaps 76 = .ok (.aload_n 0, 1) := by decide +kernel
theorem dX7_heaps_77 : decode cX7_heaps 77 = .ok (.getfield 10, 3) := by decide +kernel
theorem dX7_heaps_80 : decode cX7_heaps 80 = .ok (.getfield 130, 3) := by decide +kernel
theorem dX7_heaps_83 : decode cX7_heaps 83 = .ok (.iload_n 3, 1) := by decide +kernel
theorem dX7_heaps_84 : decode cX7_heaps 84 = .ok (.isub, 1) := by decide +kernel
theorem dX7_heaps_85 : decode cX7_heaps 85 = .ok (.ireturn, 1) := by decide +kernel
theorem dX7_numbers_0 : decode cX7_numbers 0 = .ok (.aload_n 0, 1) := by decide +kernel
theorem dX7_numbers_1 : decode cX7_numbers 1 = .ok (.iload_n 1, 1) := by decide +kernel
theorem dX7_numbers_2 : decode cX7_numbers 2 = .ok (.iconst 0, 1) := by decide +kernel
theorem dX7_numbers_3 : decode cX7_numbers 3 = .ok (.iload_n 2, 1) := by decide +kernel
theorem dX7_numbers_4 : decode cX7_numbers 4 = .ok (.invokevirtual 194, 3) := by decide +kernel
theorem dX7_numbers_7 : decode cX7_numbers 7 = .ok (.ifCond .ne 5, 3) := by decide +kernel
theorem dX7_numbers_10 : decode cX7_numbers 10 = .ok (.iconst (-1), 1) := by decide +kernel
theorem dX7_numbers_11 : decode cX7_numbers 11 = .ok (.ireturn, 1) := by decide +kernel
theorem dX7_numbers_12 : decode cX7_numbers 12 = .ok (.aload_n 0, 1) := by decide +kernel
theorem dX7_numbers_13 : decode cX7_numbers 13 = .ok (.getfield 10, 3) := by decide +kernel
theorem dX7_numbers_16 : decode cX7_numbers 16 = .ok (.aload_n 0, 1) := by decide +kernel
theorem dX7_numbers_17 : decode cX7_numbers 17 = .ok (.getfield 49, 3) := by decide +kernel
theorem dX7_numbers_20 : decode cX7_numbers 20 = .ok (.iload_n 1, 1) := by decide +kernel
theorem dX7_numbers_21 : decode cX7_numbers 21 = .ok (.iaload, 1) := by decide +kernel
theorem dX7_numbers_22 : decode cX7_numbers 22 = .ok (.aload_n 0, 1) := by decide +kernel
theorem dX7_numbers_23 : decode cX7_numbers 23 = .ok (.getfield 53, 3) := by decide +kernel
theorem dX7_numbers_26 : decode cX7_numbers 26 = .ok (.iload_n 1, 1) := by decide +kernel
theorem dX7_numbers_27 : decode cX7_numbers 27 = .ok (.iaload, 1) := by decide +kernel
theorem dX7_numbers_28 : decode cX7_numbers 28 = .ok (.aload_n 0, 1) := by decide +kernel
theorem dX7_numbers_29 : decode cX7_numbers 29 = .ok (.getfield 56, 3) := by decide +kernel
theorem dX7_numbers_32 : decode cX7_numbers 32 = .ok (.invokevirtual 201, 3) := by decide +kernel
theorem dX7_numbers_35 : decode cX7_numbers 35 = .ok (.bipush 16, 2) := by decide +kernel
theorem dX7_numbers_37 : decode cX7_numbers 37 = .ok (.aload_n 0, 1) := by decide +kernel
theorem dX7_numbers_38 : decode cX7_numbers 38 = .ok (.getfield 53, 3) := by decide +kernel
theorem dX7_numbers_41 : decode cX7_numbers 41 = .ok (.iload_n 1, 1) := by decide +kernel
theorem dX7_numbers_42 : decode cX7_numbers 42 = .ok (.iaload, 1) := by decide +kernel
theorem dX7_numbers_43 : decode cX7_numbers 43 = .ok (.iload_n 2, 1) := by decide +kernel
theorem dX7_numbers_44 : decode cX7_numbers 44 = .ok (.isub, 1) := by decide +kernel
theorem dX7_numbers_45 : decode cX7_numbers 45 = .ok (.invokestatic 228, 3) := by decide +kernel
theorem dX7_numbers_48 : decode cX7_numbers 48 = .ok (.istore_n 3, 1) := by decide +kernel
theorem dX7_numbers_49 : decode cX7_numbers 49 = .ok (.aload_n 0, 1) := by decide +kernel
theorem dX7_numbers_50 : decode cX7_numbers 50 = .ok (.getfield 19, 3) := by decide +kernel
theorem dX7_numbers_53 : decode cX7_numbers 53 = .ok (.invokevirtual 248, 3) := by decide +kernel
theorem dX7_numbers_56 : decode cX7_numbers 56 = .ok (.iload_n 2, 1) := by decide +kernel
theorem dX7_numbers_57 : decode cX7_numbers 57 = .ok (.istore 4, 2) := by decide +kernel
theorem dX7_numbers_59 : decode cX7_numbers 59 = .ok (.iload 4, 2) := by decide +kernel
theorem dX7_numbers_61 : decode cX7_numbers 61 = .ok (.iload_n 2, 1) := by decide +kernel
theorem dX7_numbers_62 : decode cX7_numbers 62 = .ok (.iload_n 3, 1) := by decide +kernel
theorem dX7_numbers_63 : decode cX7_numbers 63 = .ok (.iadd, 1) := by decide +kernel
theorem dX7_numbers_64 : decode cX7_numbers 64 = .ok (.if_icmp .ge 24, 3) := by decide +kernel
theorem dX7_numbers_67 : decode cX7_numbers 67 = .ok (.aload_n 0, 1) := by decide +kernel
theorem dX7_numbers_68 : decode cX7_numbers 68 = .ok (.getfield 19, 3) := by decide +kernel
theorem dX7_numbers_71 : decode cX7_numbers 71 = .ok (.aload_n 0, 1) := by decide +kernel
theorem dX7_numbers_72 : decode cX7_numbers 72 = .ok (.getfield 56, 3) := by decide +kernel
theorem dX7_numbers_75 : decode cX7_numbers 75 = .ok (.iload 4, 2) := by decide +kernel
theorem dX7_numbers_77 : decode cX7_numbers 77 = .ok (.iaload, 1) := by decide +kernel
theorem dX7_numbers_78 : decode cX7_numbers 78 = .ok (.i2l, 1) := by decide +kernel
theorem dX7_numbers_79 : decode cX7_numbers 79 = .ok (.invokevirtual 249, 3) := by decide +kernel
theorem dX7_numbers_82 : decode cX7_numbers 82 = .ok (.iinc 4 1, 3) := by decide +kernel
theorem dX7_numbers_85 : decode cX7_numbers 85 = .ok (.goto (-26), 3) := by decide +kernel
theorem dX7_numbers_88 : decode cX7_numbers 88 = .ok (.iload_n 3, 1) := by decide +kernel
theorem dX7_numbers_89 : decode cX7_numbers 89 = .ok (.ireturn, 1) := by decide +kernel
theorem dX7_sum_0 : decode cX7_sum 0 = .ok (.aload_n 0, 1) := by decide +kernel
theorem dX7_sum_1 : decode cX7_sum 1 = .ok (.iload_n 1, 1) := by decide +kernel
theorem dX7_sum_2 : decode cX7_sum 2 = .ok (.iload_n 2, 1) := by decide +kernel
theorem dX7_sum_3 : decode cX7_sum 3 = .ok (.iload_n 3, 1) := by decide +kernel
theorem dX7_sum_4 : decode cX7_sum 4 = .ok (.invokevirtual 194, 3) := by decide +kernel
theorem dX7_sum_7 : decode cX7_sum 7 = .ok (.ifCond .ne 6, 3) := by decide +kernel
theorem dX7_sum_10 : decode cX7_sum 10 = .ok (.ldc 252, 2) := by decide +kernel
theorem dX7_sum_12 : decode cX7_sum 12 = .ok (.ireturn, 1) := by decide +kernel
theorem dX7_sum_13 : decode cX7_sum 13 = .ok (.aload_n 0, 1) := by decide +kernel
theorem dX7_sum_14 : decode cX7_sum 14 = .ok (.getfield 10, 3) := by decide +kernel
theorem dX7_sum_17 : decode cX7_sum 17 = .ok (.aload_n 0, 1) := by decide +kernel
theorem dX7_sum_18 : decode cX7_sum 18 = .ok (.getfield 49, 3) := by decide +kernel
theorem dX7_sum_21 : decode cX7_sum 21 = .ok (.iload_n 1, 1) := by decide +kernel
theorem dX7_sum_22 : decode cX7_sum 22 = .ok (.iaload, 1) := by decide +kernel
theorem dX7_sum_23 : decode cX7_sum 23 = .ok (.aload_n 0, 1) := by decide +kernel
theorem dX7_sum_24 : decode cX7_sum 24 = .ok (.getfield 53, 3) := by decide +kernel
theorem dX7_sum_27 : decode cX7_sum 27 = .ok (.iload_n 1, 1) := by decide +kernel
theorem dX7_sum_28 : decode cX7_sum 28 = .ok (.iaload, 1) := by decide +kernel
theorem dX7_sum_29 : decode cX7_sum 29 = .ok (.aload_n 0, 1) := by decide +kernel
theorem dX7_sum_30 : decode cX7_sum 30 = .ok (.getfield 56, 3) := by decide +kernel
theorem dX7_sum_33 : decode cX7_sum 33 = .ok (.invokevirtual 201, 3) := by decide +kernel
theorem dX7_sum_36 : decode cX7_sum 36 = .ok (.aload_n 0, 1) := by decide +kernel
theorem dX7_sum_37 : decode cX7_sum 37 = .ok (.getfield 19, 3) := by decide +kernel
theorem dX7_sum_40 : decode cX7_sum 40 = .ok (.invokevirtual 248, 3) := by decide +kernel
theorem dX7_sum_43 : decode cX7_sum 43 = .ok (.iload_n 2, 1) := by decide +kernel
theorem dX7_sum_44 : decode cX7_sum 44 = .ok (.iload_n 3, 1) := by decide +kernel
theorem dX7_sum_45 : decode cX7_sum 45 = .ok (.if_icmp .ne 5, 3) := by decide +kernel
theorem dX7_sum_48 : decode cX7_sum 48 = .ok (.iconst 0, 1) := by decide +kernel
theorem dX7_sum_49 : decode cX7_sum 49 = .ok (.ireturn, 1) := by decide +kernel
theorem dX7_sum_50 : decode cX7_sum 50 = .ok (.iload_n 2, 1) := by decide +kernel
theorem dX7_sum_51 : decode cX7_sum 51 = .ok (.istore 4, 2) := by decide +kernel
theorem dX7_sum_53 : decode cX7_sum 53 = .ok (.iload_n 2, 1) := by decide +kernel
theorem dX7_sum_54 : decode cX7_sum 54 = .ok (.istore 5, 2) := by decide +kernel
theorem dX7_sum_56 : decode cX7_sum 56 = .ok (.iconst 0, 1) := by decide +kernel
theorem dX7_sum_57 : decode cX7_sum 57 = .ok (.istore 6, 2) := by decide +kernel
theorem dX7_sum_59 : decode cX7_sum 59 = .ok (.iload_n 2, 1) := by decide +kernel
theorem dX7_sum_60 : decode cX7_sum 60 = .ok (.istore 7, 2) := by decide +kernel
theorem dX7_sum_62 : decode cX7_sum 62 = .ok (.iload 7, 2) := by decide +kernel
theorem dX7_sum_64 : decode cX7_sum 64 = .ok (.iload_n 3, 1) := by decide +kernel
theorem dX7_sum_65 : decode cX7_sum 65 = .ok (.if_icmp .ge 73, 3) := by decide +kernel
theorem dX7_sum_68 : decode cX7_sum 68 = .ok (.iload 6, 2) := by decide +kernel
theorem dX7_sum_70 : decode cX7_sum 70 = .ok (.aload_n 0, 1) := by decide +kernel
theorem dX7_sum_71 : decode cX7_sum 71 = .ok (.getfield 56, 3) := by decide +kernel
theorem dX7_sum_74 : decode cX7_sum 74 = .ok (.iload 7, 2) := by decide +kernel
theorem dX7_sum_76 : decode cX7_sum 76 = .ok (.iaload, 1) := by decide +kernel
theorem dX7_sum_77 : decode cX7_sum 77 = .ok (.iadd, 1) := by decide +kernel
theorem dX7_sum_78 : decode cX7_sum 78 = .ok (.istore 6, 2) := by decide +kernel
theorem dX7_sum_80 : decode cX7_sum 80 = .ok (.aload_n 0, 1) := by decide +kernel
theorem dX7_sum_81 : decode cX7_sum 81 = .ok (.getfield 56, 3) := by decide +kernel
theorem dX7_sum_84 : decode cX7_sum 84 = .ok (.iload 7, 2) := by decide +kernel
theorem dX7_sum_86 : decode cX7_sum 86 = .ok (.iaload, 1) := by decide +kernel
theorem dX7_sum_87 : decode cX7_sum 87 = .ok (.aload_n 0, 1) := by decide +kernel
theorem dX7_sum_88 : decode cX7_sum 88 = .ok (.getfield 56, 3) := by decide +kernel
theorem dX7_sum_91 : decode cX7_sum 91 = .ok (.iload 4, 2) := by decide +kernel
theorem dX7_sum_93 : decode cX7_sum 93 = .ok (.iaload, 1) := by decide +kernel
theorem dX7_sum_94 : decode cX7_sum 94 = .ok (.if_icmp .ge 8, 3) := by decide +kernel
theorem dX7_sum_97 : decode cX7_sum 97 = .ok (.iload 7, 2) := by decide +kernel
theorem dX7_sum_99 : decode cX7_sum 99 = .ok (.goto 5, 3) := by decide +kernel
theorem dX7_sum_102 : decode cX7_sum 102 = .ok (.iload 4, 2) := by decide +kernel
theorem dX7_sum_104 : decode cX7_sum 104 = .ok (.istore 4, 2) := by decide +kernel
theorem dX7_sum_106 : decode cX7_sum 106 = .ok (.aload_n 0, 1) := by decide +kernel
theorem dX7_sum_107 : decode cX7_sum 107 = .ok (.getfield 56, 3) := by decide +kernel
theorem dX7_sum_110 : decode cX7_sum 110 = .ok (.iload 7, 2) := by decide +kernel
theorem dX7_sum_112 : decode cX7_sum 112 = .ok (.iaload, 1) := by decide +kernel
theorem dX7_sum_113 : decode cX7_sum 113 = .ok (.aload_n 0, 1) := by decide +kernel
theorem dX7_sum_114 : decode cX7_sum 114 = .ok (.getfield 56, 3) := by decide +kernel
theorem dX7_sum_117 : decode cX7_sum 117 = .ok (.iload 5, 2) := by decide +kernel
theorem dX7_sum_119 : decode cX7_sum 119 = .ok (.iaload, 1) := by decide +kernel
theorem dX7_sum_120 : decode cX7_sum 120 = .ok (.if_icmp .le 8, 3) := by decide +kernel
theorem dX7_sum_123 : decode cX7_sum 123 = .ok (.iload 7, 2) := by decide +kernel
theorem dX7_sum_125 : decode cX7_sum 125 = .ok (.goto 5, 3) := by decide +kernel
theorem dX7_sum_128 : decode cX7_sum 128 = .ok (.iload 5, 2) := by decide +kernel
theorem dX7_sum_130 : decode cX7_sum 130 = .ok (.istore 5, 2) := by decide +kernel
theorem dX7_sum_132 : decode cX7_sum 132 = .ok (.iinc 7 1, 3) := by decide +kernel
theorem dX7_sum_135 : decode cX7_sum 135 = .ok (.goto (-73), 3) := by decide +kernel
theorem dX7_sum_138 : decode cX7_sum 138 = .ok (.aload_n 0, 1) := by decide +kernel
theorem dX7_sum_139 : decode cX7_sum 139 = .ok (.getfield 19, 3) := by decide +kernel
theorem dX7_sum_142 : decode cX7_sum 142 = .ok (.aload_n 0, 1) := by decide +kernel
theorem dX7_sum_143 : decode cX7_sum 143 = .ok (.getfield 56, 3) := by decide +kernel
theorem dX7_sum_146 : decode cX7_sum 146 = .ok (.iload 4, 2) := by decide +kernel
theorem dX7_sum_148 : decode cX7_sum 148 = .ok (.iaload, 1) := by decide +kernel
theorem dX7_sum_149 : decode cX7_sum 149 = .ok (.i2l, 1) := by decide +kernel
theorem dX7_sum_150 : decode cX7_sum 150 = .ok (.aload_n 0, 1) := by decide +kernel
theorem dX7_sum_151 : decode cX7_sum 151 = .ok (.getfield 56, 3) := by decide +kernel
theorem dX7_sum_154 : decode cX7_sum 154 = .ok (.iload 5, 2) := by decide +kernel
theorem dX7_sum_156 : decode cX7_sum 156 = .ok (.iaload, 1) := by decide +kernel
theorem dX7_sum_157 : decode cX7_sum 157 = .ok (.i2l, 1) := by decide +kernel
theorem dX7_sum_158 : decode cX7_sum 158 = .ok (.invokevirtual 162, 3) := by decide +kernel
theorem dX7_sum_161 : decode cX7_sum 161 = .ok (.aload_n 0, 1) := by decide +kernel
theorem dX7_sum_162 : decode cX7_sum 162 = .ok (.getfield 19, 3) := by decide +kernel
theorem dX7_sum_165 : decode cX7_sum 165 = .ok (.iload 4, 2) := by decide +kernel
theorem dX7_sum_167 : decode cX7_sum 167 = .ok (.i2l, 1) := by decide +kernel
theorem dX7_sum_168 : decode cX7_sum 168 = .ok (.invokevirtual 249, 3) := by decide +kernel
theorem dX7_sum_171 : decode cX7_sum 171 = .ok (.aload_n 0, 1) := by decide +kernel
theorem dX7_sum_172 : decode cX7_sum 172 = .ok (.getfield 19, 3) := by decide +kernel
theorem dX7_sum_175 : decode cX7_sum 175 = .ok (.iload 5, 2) := by decide +kernel
theorem dX7_sum_177 : decode cX7_sum 177 = .ok (.i2l, 1) := by decide +kernel
theorem dX7_sum_178 : decode cX7_sum 178 = .ok (.invokevirtual 249, 3) := by decide +kernel
theorem dX7_sum_181 : decode cX7_sum 181 = .ok (.iload 6, 2) := by decide +kernel
theorem dX7_sum_183 : decode cX7_sum 183 = .ok (.ireturn, 1) := by decide +kernel
theorem dX7_finds_0 : decode cX7_finds 0 = .ok (.iload_n 1, 1) := by decide +kernel
theorem dX7_finds_1 : decode cX7_finds 1 = .ok (.invokestatic 86, 3) := by decide +kernel
theorem dX7_finds_4 : decode cX7_finds 4 = .ok (.ifCond .eq 10, 3) := by decide +kernel
theorem dX7_finds_7 : decode cX7_finds 7 = .ok (.iload_n 2, 1) := by decide +kernel
theorem dX7_finds_8 : decode cX7_finds 8 = .ok (.invokestatic 117, 3) := by decide +kernel
theorem dX7_finds_11 : decode cX7_finds 11 = .ok (.ifCond .ne 5, 3) := by decide +kernel
theorem dX7_finds_14 : decode cX7_finds 14 = .ok (.iconst (-1), 1) := by decide +kernel
theorem dX7_finds_15 : decode cX7_finds 15 = .ok (.ireturn, 1) := by decide +kernel
theorem dX7_finds_16 : decode cX7_finds 16 = .ok (.aload_n 0, 1) := by decide +kernel
theorem dX7_finds_17 : decode cX7_finds 17 = .ok (.getfield 10, 3) := by decide +kernel
theorem dX7_finds_20 : decode cX7_finds 20 = .ok (.aload_n 0, 1) := by decide +kernel
theorem dX7_finds_21 : decode cX7_finds 21 = .ok (.getfield 49, 3) := by decide +kernel
theorem dX7_finds_24 : decode cX7_finds 24 = .ok (.iload_n 1, 1) := by decide +kernel
theorem dX7_finds_25 : decode cX7_finds 25 = .ok (.iaload, 1) := by decide +kernel
theorem dX7_finds_26 : decode cX7_finds 26 = .ok (.aload_n 0, 1) := by decide +kernel
theorem dX7_finds_27 : decode cX7_finds 27 = .ok (.getfield 53, 3) := by decide +kernel
theorem dX7_finds_30 : decode cX7_finds 30 = .ok (.iload_n 1, 1) := by decide +kernel
theorem dX7_finds_31 : decode cX7_finds 31 = .ok (.iaload, 1) := by decide +kernel
theorem dX7_finds_32 : decode cX7_finds 32 = .ok (.aload_n 0, 1) := by decide +kernel
theorem dX7_finds_33 : decode cX7_finds 33 = .ok (.getfield 56, 3) := by decide +kernel
theorem dX7_finds_36 : decode cX7_finds 36 = .ok (.invokevirtual 201, 3) := by decide +kernel
theorem dX7_finds_39 : decode cX7_finds 39 = .ok (.iconst 0, 1) := by decide +kernel
theorem dX7_finds_40 : decode cX7_finds 40 = .ok (.istore_n 3, 1) := by decide +kernel
theorem dX7_finds_41 : decode cX7_finds 41 = .ok (.iconst (-1), 1) := by decide +kernel
theorem dX7_finds_42 : decode cX7_finds 42 = .ok (.istore 4, 2) := by decide +kernel
theorem dX7_finds_44 : decode cX7_finds 44 = .ok (.iconst (-1), 1) := by decide +kernel
theorem dX7_finds_45 : decode cX7_finds 45 = .ok (.istore 5, 2) := by decide +kernel
theorem dX7_finds_47 : decode cX7_finds 47 = .ok (.iconst 0, 1) := by decide +kernel
theorem dX7_finds_48 : decode cX7_finds 48 = .ok (.istore 6, 2) := by decide +kernel
theorem dX7_finds_50 : decode cX7_finds 50 = .ok (.iload 6, 2) := by decide +kernel
theorem dX7_finds_52 : decode cX7_finds 52 = .ok (.aload_n 0, 1) := by decide +kernel
theorem dX7_finds_53 : decode cX7_finds 53 = .ok (.getfield 53, 3) := by decide +kernel
theorem dX7_finds_56 : decode cX7_finds 56 = .ok (.iload_n 1, 1) := by decide +kernel
theorem dX7_finds_57 : decode cX7_finds 57 = .ok (.iaload, 1) := by decide +kernel
theorem dX7_finds_58 : decode cX7_finds 58 = .ok (.if_icmp .ge 40, 3) := by decide +kernel
theorem dX7_finds_61 : decode cX7_finds 61 = .ok (.aload_n 0, 1) := by decide +kernel
theorem dX7_finds_62 : decode cX7_finds 62 = .ok (.getfield 56, 3) := by decide +kernel
theorem dX7_finds_65 : decode cX7_finds 65 = .ok (.iload 6, 2) := by decide +kernel
theorem dX7_finds_67 : decode cX7_finds 67 = .ok (.iaload, 1) := by decide +kernel
theorem dX7_finds_68 : decode cX7_finds 68 = .ok (.iload_n 2, 1) := by decide +kernel
theorem dX7_finds_69 : decode cX7_finds 69 = .ok (.if_icmp .ne 23, 3) := by decide +kernel
theorem dX7_finds_72 : decode cX7_finds 72 = .ok (.iload_n 3, 1) := by decide +kernel
theorem dX7_finds_73 : decode cX7_finds 73 = .ok (.ifCond .ne 8, 3) := by decide +kernel
theorem dX7_finds_76 : decode cX7_finds 76 = .ok (.iload 6, 2) := by decide +kernel
theorem dX7_finds_78 : decode cX7_finds 78 = .ok (.goto 5, 3) := by decide +kernel
theorem dX7_finds_81 : decode cX7_finds 81 = .ok (.iload 4, 2) := by decide +kernel
theorem dX7_finds_83 : decode cX7_finds 83 = .ok (.istore 4, 2) := by decide +kernel
theorem dX7_finds_85 : decode cX7_finds 85 = .ok (.iload 6, 2) := by decide +kernel
theorem dX7_finds_87 : decode cX7_finds 87 = .ok (.istore 5, 2) := by decide +kernel
theorem dX7_finds_89 : decode cX7_finds 89 = .ok (.iinc 3 1, 3) := by decide +kernel
theorem dX7_finds_92 : decode cX7_finds 92 = .ok (.iinc 6 1, 3) := by decide +kernel
theorem dX7_finds_95 : decode cX7_finds 95 = .ok (.goto (-45), 3) := by decide +kernel
theorem dX7_finds_98 : decode cX7_finds 98 = .ok (.iload_n 3, 1) := by decide +kernel
theorem dX7_finds_99 : decode cX7_finds 99 = .ok (.ifCond .ne 6, 3) := by decide +kernel
theorem dX7_finds_102 : decode cX7_finds 102 = .ok (.bipush (-2), 2) := by decide +kernel
theorem dX7_finds_104 : decode cX7_finds 104 = .ok (.ireturn, 1) := by decide +kernel
theorem dX7_finds_105 : decode cX7_finds 105 = .ok (.aload_n 0, 1) := by decide +kernel
theorem dX7_finds_106 : decode cX7_finds 106 = .ok (.getfield 19, 3) := by decide +kernel
theorem dX7_finds_109 : decode cX7_finds 109 = .ok (.iload_n 3, 1) := by decide +kernel
theorem dX7_finds_110 : decode cX7_finds 110 = .ok (.i2l, 1) := by decide +kernel
theorem dX7_finds_111 : decode cX7_finds 111 = .ok (.iload 5, 2) := by decide +kernel
theorem dX7_finds_113 : decode cX7_finds 113 = .ok (.i2l, 1) := by decide +kernel
theorem dX7_finds_114 : decode cX7_finds 114 = .ok (.invokevirtual 162, 3) := by decide +kernel
theorem dX7_finds_117 : decode cX7_finds 117 = .ok (.iload 4, 2) := by decide +kernel
theorem dX7_finds_119 : decode cX7_finds 119 = .ok (.ireturn, 1) := by decide +kernel
theorem dX7_same_0 : decode cX7_same 0 = .ok (.iload_n 1, 1) := by decide +kernel
theorem dX7_same_1 : decode cX7_same 1 = .ok (.invokestatic 86, 3) := by decide +kernel
theorem dX7_same_4 : decode cX7_same 4 = .ok (.ifCond .eq 10, 3) := by decide +kernel
theorem dX7_same_7 : decode cX7_same 7 = .ok (.iload_n 2, 1) := by decide +kernel
theorem dX7_same_8 : decode cX7_same 8 = .ok (.invokestatic 86, 3) := by decide +kernel
theorem dX7_same_11 : decode cX7_same 11 = .ok (.ifCond .ne 5, 3) := by decide +kernel
theorem dX7_same_14 : decode cX7_same 14 = .ok (.iconst (-1), 1) := by decide +kernel
theorem dX7_same_15 : decode cX7_same 15 = .ok (.ireturn, 1) := by decide +kernel
theorem dX7_same_16 : decode cX7_same 16 = .ok (.aload_n 0, 1) := by decide +kernel
theorem dX7_same_17 : decode cX7_same 17 = .ok (.iload_n 1, 1) := by decide +kernel
theorem dX7_same_18 : decode cX7_same 18 = .ok (.iload_n 2, 1) := by decide +kernel
theorem dX7_same_19 : decode cX7_same 19 = .ok (.invokevirtual 177, 3) := by decide +kernel
theorem dX7_same_22 : decode cX7_same 22 = .ok (.aload_n 0, 1) := by decide +kernel
theorem dX7_same_23 : decode cX7_same 23 = .ok (.getfield 53, 3) := by decide +kernel
theorem dX7_same_26 : decode cX7_same 26 = .ok (.iload_n 1, 1) := by decide +kernel
theorem dX7_same_27 : decode cX7_same 27 = .ok (.iaload, 1) := by decide +kernel
theorem dX7_same_28 : decode cX7_same 28 = .ok (.aload_n 0, 1) := by decide +kernel
theorem dX7_same_29 : decode cX7_same 29 = .ok (.getfield 53, 3) := by decide +kernel
theorem dX7_same_32 : decode cX7_same 32 = .ok (.iload_n 2, 1) := by decide +kernel
theorem dX7_same_33 : decode cX7_same 33 = .ok (.iaload, 1) := by decide +kernel
theorem dX7_same_34 : decode cX7_same 34 = .ok (.invokestatic 228, 3) := by decide +kernel
theorem dX7_same_37 : decode cX7_same 37 = .ok (.istore_n 3, 1) := by decide +kernel
theorem dX7_same_38 : decode cX7_same 38 = .ok (.iconst 0, 1) := by decide +kernel
theorem dX7_same_39 : decode cX7_same 39 = .ok (.istore 4, 2) := by decide +kernel
theorem dX7_same_41 : decode cX7_same 41 = .ok (.iload 4, 2) := by decide +kernel
theorem dX7_same_43 : decode cX7_same 43 = .ok (.iload_n 3, 1) := by decide +kernel
theorem dX7_same_44 : decode cX7_same 44 = .ok (.if_icmp .ge 26, 3) := by decide +kernel
theorem dX7_same_47 : decode cX7_same 47 = .ok (.aload_n 0, 1) := by decide +kernel
theorem dX7_same_48 : decode cX7_same 48 = .ok (.getfield 56, 3) := by decide +kernel
theorem dX7_same_51 : decode cX7_same 51 = .ok (.iload 4, 2) := by decide +kernel
theorem dX7_same_53 : decode cX7_same 53 = .ok (.iaload, 1) := by decide +kernel
theorem dX7_same_54 : decode cX7_same 54 = .ok (.aload_n 0, 1) := by decide +kernel
theorem dX7_same_55 : decode cX7_same 55 = .ok (.getfield 59, 3) := by decide +kernel
theorem dX7_same_58 : decode cX7_same 58 = .ok (.iload 4, 2) := by decide +kernel
theorem dX7_same_60 : decode cX7_same 60 = .ok (.iaload, 1) := by decide +kernel
theorem dX7_same_61 : decode cX7_same 61 = .ok (.if_icmp .ne 9, 3) := by decide +kernel
theorem dX7_same_64 : decode cX7_same 64 = .ok (.iinc 4 1, 3) := by decide +kernel
theorem dX7_same_67 : decode cX7_same 67 = .ok (.goto (-26), 3) := by decide +kernel
theorem dX7_same_70 : decode cX7_same 70 = .ok (.iload 4, 2) := by decide +kernel
theorem dX7_same_72 : decode cX7_same 72 = .ok (.aload_n 0, 1) := by decide +kernel
theorem dX7_same_73 : decode cX7_same 73 = .ok (.getfield 53, 3) := by decide +kernel
theorem dX7_same_76 : decode cX7_same 76 = .ok (.iload_n 1, 1) := by decide +kernel
theorem dX7_same_77 : decode cX7_same 77 = .ok (.iaload, 1) := by decide +kernel
theorem dX7_same_78 : decode cX7_same 78 = .ok (.if_icmp .ne 18, 3) := by decide +kernel
theorem dX7_same_81 : decode cX7_same 81 = .ok (.iload 4, 2) := by decide +kernel
theorem dX7_same_83 : decode cX7_same 83 = .ok (.aload_n 0, 1) := by decide +kernel
theorem dX7_same_84 : decode cX7_same 84 = .ok (.getfield 53, 3) := by decide +kernel
theorem dX7_same_87 : decode cX7_same 87 = .ok (.iload_n 2, 1) := by decide +kernel
theorem dX7_same_88 : decode cX7_same 88 = .ok (.iaload, 1) := by decide +kernel
theorem dX7_same_89 : decode cX7_same 89 = .ok (.if_icmp .ne 7, 3) := by decide +kernel
theorem dX7_same_92 : decode cX7_same 92 = .ok (.iconst 1, 1) := by decide +kernel
theorem dX7_same_93 : decode cX7_same 93 = .ok (.goto 4, 3) := by decide +kernel
theorem dX7_same_96 : decode cX7_same 96 = .ok (.iconst 0, 1) := by decide +kernel
theorem dX7_same_97 : decode cX7_same 97 = .ok (.istore 5, 2) := by decide +kernel
theorem dX7_same_99 : decode cX7_same 99 = .ok (.aload_n 0, 1) := by decide +kernel
theorem dX7_same_100 : decode cX7_same 100 = .ok (.getfield 19, 3) := by decide +kernel
theorem dX7_same_103 : decode cX7_same 103 = .ok (.iload 5, 2) := by decide +kernel
theorem dX7_same_105 : decode cX7_same 105 = .ok (.ifCond .eq 9, 3) := by decide +kernel
theorem dX7_same_108 : decode cX7_same 108 = .ok (.ldc2_w 157, 3) := by decide +kernel
theorem dX7_same_111 : decode cX7_same 111 = .ok (.goto 6, 3) := by decide +kernel
theorem dX7_same_114 : decode cX7_same 114 = .ok (.iload 4, 2) := by decide +kernel
theorem dX7_same_116 : decode cX7_same 116 = .ok (.i2l, 1) := by decide +kernel
theorem dX7_same_117 : decode cX7_same 117 = .ok (.aload_n 0, 1) := by decide +kernel
theorem dX7_same_118 : decode cX7_same 118 = .ok (.iload_n 1, 1) := by decide +kernel
theorem dX7_same_119 : decode cX7_same 119 = .ok (.iload_n 2, 1) := by decide +kernel
theorem dX7_same_120 : decode cX7_same 120 = .ok (.invokevirtual 253, 3) := by decide +kernel
theorem dX7_same_123 : decode cX7_same 123 = .ok (.i2l, 1) := by decide +kernel
theorem dX7_same_124 : decode cX7_same 124 = .ok (.invokevirtual 162, 3) := by decide +kernel
theorem dX7_same_127 : decode cX7_same 127 = .ok (.iload 5, 2) := by decide +kernel
theorem dX7_same_129 : decode cX7_same 129 = .ok (.ifCond .eq 7, 3) := by decide +kernel
theorem dX7_same_132 : decode cX7_same 132 = .ok (.iconst 1, 1) := by decide +kernel
theorem dX7_same_133 : decode cX7_same 133 = .ok (.goto 4, 3) := by decide +kernel
theorem dX7_same_136 : decode cX7_same 136 = .ok (.iconst 0, 1) := by decide +kernel
theorem dX7_same_137 : decode cX7_same 137 = .ok (.ireturn, 1) := by decide +kernel
theorem dX7_search_0 : decode cX7_search 0 = .ok (.iload_n 1, 1) := by decide +kernel
theorem dX7_search_1 : decode cX7_search 1 = .ok (.invokestatic 86, 3) := by decide +kernel
theorem dX7_search_4 : decode cX7_search 4 = .ok (.ifCond .eq 10, 3) := by decide +kernel
theorem dX7_search_7 : decode cX7_search 7 = .ok (.iload_n 2, 1) := by decide +kernel
theorem dX7_search_8 : decode cX7_search 8 = .ok (.invokestatic 117, 3) := by decide +kernel
theorem dX7_search_11 : decode cX7_search 11 = .ok (.ifCond .ne 5, 3) := by decide +kernel
theorem dX7_search_14 : decode cX7_search 14 = .ok (.iconst (-1), 1) := by decide +kernel
theorem dX7_search_15 : decode cX7_search 15 = .ok (.ireturn, 1) := by decide +kernel
theorem dX7_search_16 : decode cX7_search 16 = .ok (.aload_n 0, 1) := by decide +kernel
theorem dX7_search_17 : decode cX7_search 17 = .ok (.getfield 10, 3) := by decide +kernel
theorem dX7_search_20 : decode cX7_search 20 = .ok (.aload_n 0, 1) := by decide +kernel
theorem dX7_search_21 : decode cX7_search 21 = .ok (.getfield 49, 3) := by decide +kernel
theorem dX7_search_24 : decode cX7_search 24 = .ok (.iload_n 1, 1) := by decide +kernel
theorem dX7_search_25 : decode cX7_search 25 = .ok (.iaload, 1) := by decide +kernel
theorem dX7_search_26 : decode cX7_search 26 = .ok (.aload_n 0, 1) := by decide +kernel
theorem dX7_search_27 : decode cX7_search 27 = .ok (.getfield 53, 3) := by decide +kernel
theorem dX7_search_30 : decode cX7_search 30 = .ok (.iload_n 1, 1) := by decide +kernel
theorem dX7_search_31 : decode cX7_search 31 = .ok (.iaload, 1) := by decide +kernel
theorem dX7_search_32 : decode cX7_search 32 = .ok (.aload_n 0, 1) := by decide +kernel
theorem dX7_search_33 : decode cX7_search 33 = .ok (.getfield 56, 3) := by decide +kernel
theorem dX7_search_36 : decode cX7_search 36 = .ok (.invokevirtual 201, 3) := by decide +kernel
theorem dX7_search_39 : decode cX7_search 39 = .ok (.iconst 0, 1) := by decide +kernel
theorem dX7_search_40 : decode cX7_search 40 = .ok (.istore_n 3, 1) := by decide +kernel
theorem dX7_search_41 : decode cX7_search 41 = .ok (.aload_n 0, 1) := by decide +kernel
theorem dX7_search_42 : decode cX7_search 42 = .ok (.getfield 53, 3) := by decide +kernel
theorem dX7_search_45 : decode cX7_search 45 = .ok (.iload_n 1, 1) := by decide +kernel
theorem dX7_search_46 : decode cX7_search 46 = .ok (.iaload, 1) := by decide +kernel
theorem dX7_search_47 : decode cX7_search 47 = .ok (.istore 4, 2) := by decide +kernel
theorem dX7_search_49 : decode cX7_search 49 = .ok (.iconst 0, 1) := by decide +kernel
theorem dX7_search_50 : decode cX7_search 50 = .ok (.istore 5, 2) := by decide +kernel
theorem dX7_search_52 : decode cX7_search 52 = .ok (.iload_n 3, 1) := by decide +kernel
theorem dX7_search_53 : decode cX7_search 53 = .ok (.iload 4, 2) := by decide +kernel
theorem dX7_search_55 : decode cX7_search 55 = .ok (.if_icmp .ge 40, 3) := by decide +kernel
theorem dX7_search_58 : decode cX7_search 58 = .ok (.iload_n 3, 1) := by decide +kernel
theorem dX7_search_59 : decode cX7_search 59 = .ok (.iload 4, 2) := by decide +kernel
theorem dX7_search_61 : decode cX7_search 61 = .ok (.iadd, 1) := by decide +kernel
theorem dX7_search_62 : decode cX7_search 62 = .ok (.iconst 2, 1) := by decide +kernel
theorem dX7_search_63 : decode cX7_search 63 = .ok (.idiv, 1) := by decide +kernel
theorem dX7_search_64 : decode cX7_search 64 = .ok (.istore 6, 2) := by decide +kernel
theorem dX7_search_66 : decode cX7_search 66 = .ok (.iinc 5 1, 3) := by decide +kernel
theorem dX7_search_69 : decode cX7_search 69 = .ok (.aload_n 0, 1) := by decide +kernel
theorem dX7_search_70 : decode cX7_search 70 = .ok (.getfield 56, 3) := by decide +kernel
theorem dX7_search_73 : decode cX7_search 73 = .ok (.iload 6, 2) := by decide +kernel
theorem dX7_search_75 : decode cX7_search 75 = .ok (.iaload, 1) := by decide +kernel
theorem dX7_search_76 : decode cX7_search 76 = .ok (.iload_n 2, 1) := by decide +kernel
theorem dX7_search_77 : decode cX7_search 77 = .ok (.if_icmp .ge 11, 3) := by decide +kernel
theorem dX7_search_80 : decode cX7_search 80 = .ok (.iload 6, 2) := by decide +kernel
theorem dX7_search_82 : decode cX7_search 82 = .ok (.iconst 1, 1) := by decide +kernel
theorem dX7_search_83 : decode cX7_search 83 = .ok (.iadd, 1) := by decide +kernel
theorem dX7_search_84 : decode cX7_search 84 = .ok (.istore_n 3, 1) := by decide +kernel
theorem dX7_search_85 : decode cX7_search 85 = .ok (.goto 7, 3) := by decide +kernel
theorem dX7_search_88 : decode cX7_search 88 = .ok (.iload 6, 2) := by decide +kernel
theorem dX7_search_90 : decode cX7_search 90 = .ok (.istore 4, 2) := by decide +kernel
theorem dX7_search_92 : decode cX7_search 92 = .ok (.goto (-40), 3) := by decide +kernel
theorem dX7_search_95 : decode cX7_search 95 = .ok (.aload_n 0, 1) := by decide +kernel
theorem dX7_search_96 : decode cX7_search 96 = .ok (.getfield 19, 3) := by decide +kernel
theorem dX7_search_99 : decode cX7_search 99 = .ok (.iload 5, 2) := by decide +kernel
theorem dX7_search_101 : decode cX7_search 101 = .ok (.i2l, 1) := by decide +kernel
theorem dX7_search_102 : decode cX7_search 102 = .ok (.iload_n 3, 1) := by decide +kernel
theorem dX7_search_103 : decode cX7_search 103 = .ok (.aload_n 0, 1) := by decide +kernel
theorem dX7_search_104 : decode cX7_search 104 = .ok (.getfield 53, 3) := by decide +kernel
theorem dX7_search_107 : decode cX7_search 107 = .ok (.iload_n 1, 1) := by decide +kernel
theorem dX7_search_108 : decode cX7_search 108 = .ok (.iaload, 1) := by decide +kernel
theorem dX7_search_109 : decode cX7_search 109 = .ok (.if_icmp .ge 17, 3) := by decide +kernel
theorem dX7_search_112 : decode cX7_search 112 = .ok (.aload_n 0, 1) := by decide +kernel
theorem dX7_search_113 : decode cX7_search 113 = .ok (.getfield 56, 3) := by decide +kernel
theorem dX7_search_116 : decode cX7_search 116 = .ok (.iload_n 3, 1) := by decide +kernel
theorem dX7_search_117 : decode cX7_search 117 = .ok (.iaload, 1) := by decide +kernel
theorem dX7_search_118 : decode cX7_search 118 = .ok (.iload_n 2, 1) := by decide +kernel
theorem dX7_search_119 : decode cX7_search 119 = .ok (.if_icmp .ne 7, 3) := by decide +kernel
theorem dX7_search_122 : decode cX7_search 122 = .ok (.lconst 1, 1) := by decide +kernel
theorem dX7_search_123 : decode cX7_search 123 = .ok (.goto 4, 3) := by decide +kernel
theorem dX7_search_126 : decode cX7_search 126 = .ok (.lconst 0, 1) := by decide +kernel
theorem dX7_search_127 : decode cX7_search 127 = .ok (.invokevirtual 162, 3) := by decide +kernel
theorem dX7_search_130 : decode cX7_search 130 = .ok (.iload_n 3, 1) := by decide +kernel
theorem dX7_search_131 : decode cX7_search 131 = .ok (.ireturn, 1) := by decide +kernel
theorem dX7_reaches_0 : decode cX7_reaches 0 = .ok (.iload_n 1, 1) := by decide +kernel
theorem dX7_reaches_1 : decode cX7_reaches 1 = .ok (.invokestatic 86, 3) := by decide +kernel
theorem dX7_reaches_4 : decode cX7_reaches 4 = .ok (.ifCond .ne 5, 3) := by decide +kernel
theorem dX7_reaches_7 : decode cX7_reaches 7 = .ok (.iconst (-1), 1) := by decide +kernel
theorem dX7_reaches_8 : decode cX7_reaches 8 = .ok (.ireturn, 1) := by decide +kernel
theorem dX7_reaches_9 : decode cX7_reaches 9 = .ok (.aload_n 0, 1) := by decide +kernel
theorem dX7_reaches_10 : decode cX7_reaches 10 = .ok (.getfield 10, 3) := by decide +kernel
theorem dX7_reaches_13 : decode cX7_reaches 13 = .ok (.aload_n 0, 1) := by decide +kernel
theorem dX7_reaches_14 : decode cX7_reaches 14 = .ok (.getfield 49, 3) := by decide +kernel
theorem dX7_reaches_17 : decode cX7_reaches 17 = .ok (.iload_n 1, 1) := by decide +kernel
theorem dX7_reaches_18 : decode cX7_reaches 18 = .ok (.iaload, 1) := by decide +kernel
theorem dX7_reaches_19 : decode cX7_reaches 19 = .ok (.aload_n 0, 1) := by decide +kernel
theorem dX7_reaches_20 : decode cX7_reaches 20 = .ok (.getfield 53, 3) := by decide +kernel
theorem dX7_reaches_23 : decode cX7_reaches 23 = .ok (.iload_n 1, 1) := by decide +kernel
theorem dX7_reaches_24 : decode cX7_reaches 24 = .ok (.iaload, 1) := by decide +kernel
theorem dX7_reaches_25 : decode cX7_reaches 25 = .ok (.aload_n 0, 1) := by decide +kernel
theorem dX7_reaches_26 : decode cX7_reaches 26 = .ok (.getfield 56, 3) := by decide +kernel
theorem dX7_reaches_29 : decode cX7_reaches 29 = .ok (.invokevirtual 201, 3) := by decide +kernel
theorem dX7_reaches_32 : decode cX7_reaches 32 = .ok (.iconst 0, 1) := by decide +kernel
theorem dX7_reaches_33 : decode cX7_reaches 33 = .ok (.istore_n 3, 1) := by decide +kernel
theorem dX7_reaches_34 : decode cX7_reaches 34 = .ok (.iconst 0, 1) := by decide +kernel
theorem dX7_reaches_35 : decode cX7_reaches 35 = .ok (.istore 4, 2) := by decide +kernel
theorem dX7_reaches_37 : decode cX7_reaches 37 = .ok (.iload 4, 2) := by decide +kernel
theorem dX7_reaches_39 : decode cX7_reaches 39 = .ok (.aload_n 0, 1) := by decide +kernel
theorem dX7_reaches_40 : decode cX7_reaches 40 = .ok (.getfield 53, 3) := by decide +kernel
theorem dX7_reaches_43 : decode cX7_reaches 43 = .ok (.iload_n 1, 1) := by decide +kernel
theorem dX7_reaches_44 : decode cX7_reaches 44 = .ok (.iaload, 1) := by decide +kernel
theorem dX7_reaches_45 : decode cX7_reaches 45 = .ok (.if_icmp .ge 24, 3) := by decide +kernel
theorem dX7_reaches_48 : decode cX7_reaches 48 = .ok (.iload_n 3, 1) := by decide +kernel
theorem dX7_reaches_49 : decode cX7_reaches 49 = .ok (.iload_n 2, 1) := by decide +kernel
theorem dX7_reaches_50 : decode cX7_reaches 50 = .ok (.if_icmp .ge 19, 3) := by decide +kernel
theorem dX7_reaches_53 : decode cX7_reaches 53 = .ok (.iload_n 3, 1) := by decide +kernel
theorem dX7_reaches_54 : decode cX7_reaches 54 = .ok (.aload_n 0, 1) := by decide +kernel
theorem dX7_reaches_55 : decode cX7_reaches 55 = .ok (.getfield 56, 3) := by decide +kernel
theorem dX7_reaches_58 : decode cX7_reaches 58 = .ok (.iload 4, 2) := by decide +kernel
theorem dX7_reaches_60 : decode cX7_reaches 60 = .ok (.iaload, 1) := by decide +kernel
theorem dX7_reaches_61 : decode cX7_reaches 61 = .ok (.iadd, 1) := by decide +kernel
theorem dX7_reaches_62 : decode cX7_reaches 62 = .ok (.istore_n 3, 1) := by decide +kernel
theorem dX7_reaches_63 : decode cX7_reaches 63 = .ok (.iinc 4 1, 3) := by decide +kernel
theorem dX7_reaches_66 : decode cX7_reaches 66 = .ok (.goto (-29), 3) := by decide +kernel
theorem dX7_reaches_69 : decode cX7_reaches 69 = .ok (.iload_n 3, 1) := by decide +kernel
theorem dX7_reaches_70 : decode cX7_reaches 70 = .ok (.iload_n 2, 1) := by decide +kernel
theorem dX7_reaches_71 : decode cX7_reaches 71 = .ok (.if_icmp .ge 6, 3) := by decide +kernel
theorem dX7_reaches_74 : decode cX7_reaches 74 = .ok (.bipush (-2), 2) := by decide +kernel
theorem dX7_reaches_76 : decode cX7_reaches 76 = .ok (.ireturn, 1) := by decide +kernel
theorem dX7_reaches_77 : decode cX7_reaches 77 = .ok (.aload_n 0, 1) := by decide +kernel
theorem dX7_reaches_78 : decode cX7_reaches 78 = .ok (.getfield 19, 3) := by decide +kernel
theorem dX7_reaches_81 : decode cX7_reaches 81 = .ok (.iload_n 3, 1) := by decide +kernel
theorem dX7_reaches_82 : decode cX7_reaches 82 = .ok (.i2l, 1) := by decide +kernel
theorem dX7_reaches_83 : decode cX7_reaches 83 = .ok (.invokevirtual 171, 3) := by decide +kernel
theorem dX7_reaches_86 : decode cX7_reaches 86 = .ok (.iload 4, 2) := by decide +kernel
theorem dX7_reaches_88 : decode cX7_reaches 88 = .ok (.ireturn, 1) := by decide +kernel
theorem dX7_occurs_0 : decode cX7_occurs 0 = .ok (.iload_n 1, 1) := by decide +kernel
theorem dX7_occurs_1 : decode cX7_occurs 1 = .ok (.invokestatic 86, 3) := by decide +kernel
theorem dX7_occurs_4 : decode cX7_occurs 4 = .ok (.ifCond .eq 10, 3) := by decide +kernel
theorem dX7_occurs_7 : decode cX7_occurs 7 = .ok (.iload_n 2, 1) := by decide +kernel
theorem dX7_occurs_8 : decode cX7_occurs 8 = .ok (.invokestatic 86, 3) := by decide +kernel
theorem dX7_occurs_11 : decode cX7_occurs 11 = .ok (.ifCond .ne 5, 3) := by decide +kernel
theorem dX7_occurs_14 : decode cX7_occurs 14 = .ok (.iconst (-1), 1) := by decide +kernel
theorem dX7_occurs_15 : decode cX7_occurs 15 = .ok (.ireturn, 1) := by decide +kernel
theorem dX7_occurs_16 : decode cX7_occurs 16 = .ok (.aload_n 0, 1) := by decide +kernel
theorem dX7_occurs_17 : decode cX7_occurs 17 = .ok (.iload_n 1, 1) := by decide +kernel
theorem dX7_occurs_18 : decode cX7_occurs 18 = .ok (.iload_n 2, 1) := by decide +kernel
theorem dX7_occurs_19 : decode cX7_occurs 19 = .ok (.invokevirtual 177, 3) := by decide +kernel
theorem dX7_occurs_22 : decode cX7_occurs 22 = .ok (.iconst 0, 1) := by decide +kernel
theorem dX7_occurs_23 : decode cX7_occurs 23 = .ok (.istore_n 3, 1) := by decide +kernel
theorem dX7_occurs_24 : decode cX7_occurs 24 = .ok (.iconst (-1), 1) := by decide +kernel
theorem dX7_occurs_25 : decode cX7_occurs 25 = .ok (.istore 4, 2) := by decide +kernel
theorem dX7_occurs_27 : decode cX7_occurs 27 = .ok (.iconst (-1), 1) := by decide +kernel
theorem dX7_occurs_28 : decode cX7_occurs 28 = .ok (.istore 5, 2) := by decide +kernel
theorem dX7_occurs_30 : decode cX7_occurs 30 = .ok (.iconst 0, 1) := by decide +kernel
theorem dX7_occurs_31 : decode cX7_occurs 31 = .ok (.istore 6, 2) := by decide +kernel
theorem dX7_occurs_33 : decode cX7_occurs 33 = .ok (.iload 6, 2) := by decide +kernel
theorem dX7_occurs_35 : decode cX7_occurs 35 = .ok (.aload_n 0, 1) := by decide +kernel
theorem dX7_occurs_36 : decode cX7_occurs 36 = .ok (.getfield 53, 3) := by decide +kernel
theorem dX7_occurs_39 : decode cX7_occurs 39 = .ok (.iload_n 2, 1) := by decide +kernel
theorem dX7_occurs_40 : decode cX7_occurs 40 = .ok (.iaload, 1) := by decide +kernel
theorem dX7_occurs_41 : decode cX7_occurs 41 = .ok (.iadd, 1) := by decide +kernel
theorem dX7_occurs_42 : decode cX7_occurs 42 = .ok (.aload_n 0, 1) := by decide +kernel
theorem dX7_occurs_43 : decode cX7_occurs 43 = .ok (.getfield 53, 3) := by decide +kernel
theorem dX7_occurs_46 : decode cX7_occurs 46 = .ok (.iload_n 1, 1) := by decide +kernel
theorem dX7_occurs_47 : decode cX7_occurs 47 = .ok (.iaload, 1) := by decide +kernel
theorem dX7_occurs_48 : decode cX7_occurs 48 = .ok (.if_icmp .gt 44, 3) := by decide +kernel
theorem dX7_occurs_51 : decode cX7_occurs 51 = .ok (.aload_n 0, 1) := by decide +kernel
theorem dX7_occurs_52 : decode cX7_occurs 52 = .ok (.iload 6, 2) := by decide +kernel
theorem dX7_occurs_54 : decode cX7_occurs 54 = .ok (.aload_n 0, 1) := by decide +kernel
theorem dX7_occurs_55 : decode cX7_occurs 55 = .ok (.getfield 53, 3) := by decide +kernel
theorem dX7_occurs_58 : decode cX7_occurs 58 = .ok (.iload_n 2, 1) := by decide +kernel
theorem dX7_occurs_59 : decode cX7_occurs 59 = .ok (.iaload, 1) := by decide +kernel
theorem dX7_occurs_60 : decode cX7_occurs 60 = .ok (.invokevirtual 256, 3) := by decide +kernel
theorem dX7_occurs_63 : decode cX7_occurs 63 = .ok (.ifCond .eq 23, 3) := by decide +kernel
theorem dX7_occurs_66 : decode cX7_occurs 66 = .ok (.iload_n 3, 1) := by decide +kernel
theorem dX7_occurs_67 : decode cX7_occurs 67 = .ok (.ifCond .ne 8, 3) := by decide +kernel
theorem dX7_occurs_70 : decode cX7_occurs 70 = .ok (.iload 6, 2) := by decide +kernel
theorem dX7_occurs_72 : decode cX7_occurs 72 = .ok (.goto 5, 3) := by decide +kernel
theorem dX7_occurs_75 : decode cX7_occurs 75 = .ok (.iload 4, 2) := by decide +kernel
theorem dX7_occurs_77 : decode cX7_occurs 77 = .ok (.istore 4, 2) := by decide +kernel
theorem dX7_occurs_79 : decode cX7_occurs 79 = .ok (.iload 6, 2) := by decide +kernel
theorem dX7_occurs_81 : decode cX7_occurs 81 = .ok (.istore 5, 2) := by decide +kernel
theorem dX7_occurs_83 : decode cX7_occurs 83 = .ok (.iinc 3 1, 3) := by decide +kernel
theorem dX7_occurs_86 : decode cX7_occurs 86 = .ok (.iinc 6 1, 3) := by decide +kernel
theorem dX7_occurs_89 : decode cX7_occurs 89 = .ok (.goto (-56), 3) := by decide +kernel
theorem dX7_occurs_92 : decode cX7_occurs 92 = .ok (.aload_n 0, 1) := by decide +kernel
theorem dX7_occurs_93 : decode cX7_occurs 93 = .ok (.getfield 19, 3) := by decide +kernel
theorem dX7_occurs_96 : decode cX7_occurs 96 = .ok (.iload 4, 2) := by decide +kernel
theorem dX7_occurs_98 : decode cX7_occurs 98 = .ok (.i2l, 1) := by decide +kernel
theorem dX7_occurs_99 : decode cX7_occurs 99 = .ok (.iload 5, 2) := by decide +kernel
theorem dX7_occurs_101 : decode cX7_occurs 101 = .ok (.i2l, 1) := by decide +kernel
theorem dX7_occurs_102 : decode cX7_occurs 102 = .ok (.invokevirtual 162, 3) := by decide +kernel
theorem dX7_occurs_105 : decode cX7_occurs 105 = .ok (.iload_n 3, 1) := by decide +kernel
theorem dX7_occurs_106 : decode cX7_occurs 106 = .ok (.ireturn, 1) := by decide +kernel
theorem dX7_differs_0 : decode cX7_differs 0 = .ok (.iload_n 1, 1) := by decide +kernel
theorem dX7_differs_1 : decode cX7_differs 1 = .ok (.invokestatic 86, 3) := by decide +kernel
theorem dX7_differs_4 : decode cX7_differs 4 = .ok (.ifCond .eq 10, 3) := by decide +kernel
theorem dX7_differs_7 : decode cX7_differs 7 = .ok (.iload_n 2, 1) := by decide +kernel
theorem dX7_differs_8 : decode cX7_differs 8 = .ok (.invokestatic 86, 3) := by decide +kernel
theorem dX7_differs_11 : decode cX7_differs 11 = .ok (.ifCond .ne 5, 3) := by decide +kernel
theorem dX7_differs_14 : decode cX7_differs 14 = .ok (.iconst (-1), 1) := by decide +kernel
theorem dX7_differs_15 : decode cX7_differs 15 = .ok (.ireturn, 1) := by decide +kernel
theorem dX7_differs_16 : decode cX7_differs 16 = .ok (.aload_n 0, 1) := by decide +kernel
theorem dX7_differs_17 : decode cX7_differs 17 = .ok (.getfield 53, 3) := by decide +kernel
theorem dX7_differs_20 : decode cX7_differs 20 = .ok (.iload_n 1, 1) := by decide +kernel
theorem dX7_differs_21 : decode cX7_differs 21 = .ok (.iaload, 1) := by decide +kernel
theorem dX7_differs_22 : decode cX7_differs 22 = .ok (.aload_n 0, 1) := by decide +kernel
theorem dX7_differs_23 : decode cX7_differs 23 = .ok (.getfield 53, 3) := by decide +kernel
theorem dX7_differs_26 : decode cX7_differs 26 = .ok (.iload_n 2, 1) := by decide +kernel
theorem dX7_differs_27 : decode cX7_differs 27 = .ok (.iaload, 1) := by decide +kernel
theorem dX7_differs_28 : decode cX7_differs 28 = .ok (.if_icmp .eq 6, 3) := by decide +kernel
theorem dX7_differs_31 : decode cX7_differs 31 = .ok (.bipush (-2), 2) := by decide +kernel
theorem dX7_differs_33 : decode cX7_differs 33 = .ok (.ireturn, 1) := by decide +kernel
theorem dX7_differs_34 : decode cX7_differs 34 = .ok (.aload_n 0, 1) := by decide +kernel
theorem dX7_differs_35 : decode cX7_differs 35 = .ok (.iload_n 1, 1) := by decide +kernel
theorem dX7_differs_36 : decode cX7_differs 36 = .ok (.iload_n 2, 1) := by decide +kernel
theorem dX7_differs_37 : decode cX7_differs 37 = .ok (.invokevirtual 177, 3) := by decide +kernel
theorem dX7_differs_40 : decode cX7_differs 40 = .ok (.aload_n 0, 1) := by decide +kernel
theorem dX7_differs_41 : decode cX7_differs 41 = .ok (.getfield 19, 3) := by decide +kernel
theorem dX7_differs_44 : decode cX7_differs 44 = .ok (.aload_n 0, 1) := by decide +kernel
theorem dX7_differs_45 : decode cX7_differs 45 = .ok (.aload_n 0, 1) := by decide +kernel
theorem dX7_differs_46 : decode cX7_differs 46 = .ok (.getfield 53, 3) := by decide +kernel
theorem dX7_differs_49 : decode cX7_differs 49 = .ok (.iload_n 1, 1) := by decide +kernel
theorem dX7_differs_50 : decode cX7_differs 50 = .ok (.iaload, 1) := by decide +kernel
theorem dX7_differs_51 : decode cX7_differs 51 = .ok (.invokevirtual 181, 3) := by decide +kernel
theorem dX7_differs_54 : decode cX7_differs 54 = .ok (.i2l, 1) := by decide +kernel
theorem dX7_differs_55 : decode cX7_differs 55 = .ok (.invokevirtual 171, 3) := by decide +kernel
theorem dX7_differs_58 : decode cX7_differs 58 = .ok (.aload_n 0, 1) := by decide +kernel
theorem dX7_differs_59 : decode cX7_differs 59 = .ok (.getfield 45, 3) := by decide +kernel
theorem dX7_differs_62 : decode cX7_differs 62 = .ok (.getfield 259, 3) := by decide +kernel
theorem dX7_differs_65 : decode cX7_differs 65 = .ok (.ireturn, 1) := by decide +kernel
theorem dX7_written_0 : decode cX7_written 0 = .ok (.iload_n 1, 1) := by decide +kernel
theorem dX7_written_1 : decode cX7_written 1 = .ok (.invokestatic 86, 3) := by decide +kernel
theorem dX7_written_4 : decode cX7_written 4 = .ok (.ifCond .eq 8, 3) := by decide +kernel
theorem dX7_written_7 : decode cX7_written 7 = .ok (.iload_n 2, 1) := by decide +kernel
theorem dX7_written_8 : decode cX7_written 8 = .ok (.iconst (-1), 1) := by decide +kernel
theorem dX7_written_9 : decode cX7_written 9 = .ok (.if_icmp .ge 5, 3) := by decide +kernel
theorem dX7_written_12 : decode cX7_written 12 = .ok (.iconst (-1), 1) := by decide +kernel
theorem dX7_written_13 : decode cX7_written 13 = .ok (.ireturn, 1) := by decide +kernel
theorem dX7_written_14 : decode cX7_written 14 = .ok (.aload_n 0, 1) := by decide +kernel
theorem dX7_written_15 : decode cX7_written 15 = .ok (.getfield 10, 3) := by decide +kernel
theorem dX7_written_18 : decode cX7_written 18 = .ok (.aload_n 0, 1) := by decide +kernel
theorem dX7_written_19 : decode cX7_written 19 = .ok (.getfield 49, 3) := by decide +kernel
theorem dX7_written_22 : decode cX7_written 22 = .ok (.iload_n 1, 1) := by decide +kernel
theorem dX7_written_23 : decode cX7_written 23 = .ok (.iaload, 1) := by decide +kernel
theorem dX7_written_24 : decode cX7_written 24 = .ok (.aload_n 0, 1) := by decide +kernel
theorem dX7_written_25 : decode cX7_written 25 = .ok (.getfield 53, 3) := by decide +kernel
theorem dX7_written_28 : decode cX7_written 28 = .ok (.iload_n 1, 1) := by decide +kernel
theorem dX7_written_29 : decode cX7_written 29 = .ok (.iaload, 1) := by decide +kernel
theorem dX7_written_30 : decode cX7_written 30 = .ok (.aload_n 0, 1) := by decide +kernel
theorem dX7_written_31 : decode cX7_written 31 = .ok (.getfield 56, 3) := by decide +kernel
theorem dX7_written_34 : decode cX7_written 34 = .ok (.invokevirtual 201, 3) := by decide +kernel
theorem dX7_written_37 : decode cX7_written 37 = .ok (.aload_n 0, 1) := by decide +kernel
theorem dX7_written_38 : decode cX7_written 38 = .ok (.getfield 38, 3) := by decide +kernel
theorem dX7_written_41 : decode cX7_written 41 = .ok (.iload_n 2, 1) := by decide +kernel
theorem dX7_written_42 : decode cX7_written 42 = .ok (.invokevirtual 262, 3) := by decide +kernel
theorem dX7_written_45 : decode cX7_written 45 = .ok (.aload_n 0, 1) := by decide +kernel
theorem dX7_written_46 : decode cX7_written 46 = .ok (.getfield 38, 3) := by decide +kernel
theorem dX7_written_49 : decode cX7_written 49 = .ok (.aload_n 0, 1) := by decide +kernel
theorem dX7_written_50 : decode cX7_written 50 = .ok (.getfield 56, 3) := by decide +kernel
theorem dX7_written_53 : decode cX7_written 53 = .ok (.aload_n 0, 1) := by decide +kernel
theorem dX7_written_54 : decode cX7_written 54 = .ok (.getfield 53, 3) := by decide +kernel
theorem dX7_written_57 : decode cX7_written 57 = .ok (.iload_n 1, 1) := by decide +kernel
theorem dX7_written_58 : decode cX7_written 58 = .ok (.iaload, 1) := by decide +kernel
theorem dX7_written_59 : decode cX7_written 59 = .ok (.iconst 0, 1) := by decide +kernel
theorem dX7_written_60 : decode cX7_written 60 = .ok (.iconst 1, 1) := by decide +kernel
theorem dX7_written_61 : decode cX7_written 61 = .ok (.invokestatic 264, 3) := by decide +kernel
theorem dX7_written_64 : decode cX7_written 64 = .ok (.iload_n 2, 1) := by decide +kernel
theorem dX7_written_65 : decode cX7_written 65 = .ok (.iconst (-1), 1) := by decide +kernel
theorem dX7_written_66 : decode cX7_written 66 = .ok (.if_icmp .ne 13, 3) := by decide +kernel
theorem dX7_written_69 : decode cX7_written 69 = .ok (.aload_n 0, 1) := by decide +kernel
theorem dX7_written_70 : decode cX7_written 70 = .ok (.getfield 38, 3) := by decide +kernel
theorem dX7_written_73 : decode cX7_written 73 = .ok (.getfield 268, 3) := by decide +kernel
theorem dX7_written_76 : decode cX7_written 76 = .ok (.goto 10, 3) := by decide +kernel
theorem dX7_written_79 : decode cX7_written 79 = .ok (.aload_n 0, 1) := by decide +kernel
theorem dX7_written_80 : decode cX7_written 80 = .ok (.getfield 38, 3) := by decide +kernel
theorem dX7_written_83 : decode cX7_written 83 = .ok (.getfield 271, 3) := by decide +kernel
theorem dX7_written_86 : decode cX7_written 86 = .ok (.ireturn, 1) := by decide +kernel
theorem dX7_costs_0 : decode cX7_costs 0 = .ok (.iload_n 1, 1) := by decide +kernel
theorem dX7_costs_1 : decode cX7_costs 1 = .ok (.ifCond .lt 19, 3) := by decide +kernel
theorem dX7_costs_4 : decode cX7_costs 4 = .ok (.iload_n 1, 1) := by decide +kernel
theorem dX7_costs_5 : decode cX7_costs 5 = .ok (.sipush 255, 3) := by decide +kernel
theorem dX7_costs_8 : decode cX7_costs 8 = .ok (.if_icmp .gt 12, 3) := by decide +kernel
theorem dX7_costs_11 : decode cX7_costs 11 = .ok (.iload_n 2, 1) := by decide +kernel
theorem dX7_costs_12 : decode cX7_costs 12 = .ok (.ifCond .lt 8, 3) := by decide +kernel
theorem dX7_costs_15 : decode cX7_costs 15 = .ok (.iload_n 2, 1) := by decide +kernel
theorem dX7_costs_16 : decode cX7_costs 16 = .ok (.iconst 5, 1) := by decide +kernel
theorem dX7_costs_17 : decode cX7_costs 17 = .ok (.if_icmp .le 5, 3) := by decide +kernel
theorem dX7_costs_20 : decode cX7_costs 20 = .ok (.iconst (-1), 1) := by decide +kernel
theorem dX7_costs_21 : decode cX7_costs 21 = .ok (.ireturn, 1) := by decide +kernel
theorem dX7_costs_22 : decode cX7_costs 22 = .ok (.iload_n 2, 1) := by decide +kernel
theorem dX7_costs_23 : decode cX7_costs 23 = .ok (.iconst 2, 1) := by decide +kernel
theorem dX7_costs_24 : decode cX7_costs 24 = .ok (.if_icmp .eq 8, 3) := by decide +kernel
theorem dX7_costs_27 : decode cX7_costs 27 = .ok (.iload_n 2, 1) := by decide +kernel
theorem dX7_costs_28 : decode cX7_costs 28 = .ok (.iconst 3, 1) := by decide +kernel
theorem dX7_costs_29 : decode cX7_costs 29 = .ok (.if_icmp .ne 7, 3) := by decide +kernel
theorem dX7_costs_32 : decode cX7_costs 32 = .ok (.iconst 1, 1) := by decide +kernel
theorem dX7_costs_33 : decode cX7_costs 33 = .ok (.goto 4, 3) := by decide +kernel
theorem dX7_costs_36 : decode cX7_costs 36 = .ok (.iconst 0, 1) := by decide +kernel
theorem dX7_costs_37 : decode cX7_costs 37 = .ok (.istore_n 3, 1) := by decide +kernel
theorem dX7_costs_38 : decode cX7_costs 38 = .ok (.iload_n 2, 1) := by decide +kernel
theorem dX7_costs_39 : decode cX7_costs 39 = .ok (.ifCond .eq 13, 3) := by decide +kernel
theorem dX7_costs_42 : decode cX7_costs 42 = .ok (.iload_n 2, 1) := by decide +kernel
theorem dX7_costs_43 : decode cX7_costs 43 = .ok (.iconst 1, 1) := by decide +kernel
theorem dX7_costs_44 : decode cX7_costs 44 = .ok (.if_icmp .eq 8, 3) := by decide +kernel
theorem dX7_costs_47 : decode cX7_costs 47 = .ok (.iload_n 2, 1) := by decide +kernel
theorem dX7_costs_48 : decode cX7_costs 48 = .ok (.iconst 4, 1) := by decide +kernel
theorem dX7_costs_49 : decode cX7_costs 49 = .ok (.if_icmp .ne 7, 3) := by decide +kernel
theorem dX7_costs_52 : decode cX7_costs 52 = .ok (.iconst 1, 1) := by decide +kernel
theorem dX7_costs_53 : decode cX7_costs 53 = .ok (.goto 4, 3) := by decide +kernel
theorem dX7_costs_56 : decode cX7_costs 56 = .ok (.iconst 0, 1) := by decide +kernel
theorem dX7_costs_57 : decode cX7_costs 57 = .ok (.istore 4, 2) := by decide +kernel
theorem dX7_costs_59 : decode cX7_costs 59 = .ok (.iload_n 3, 1) := by decide +kernel
theorem dX7_costs_60 : decode cX7_costs 60 = .ok (.ifCond .eq 7, 3) := by decide +kernel
theorem dX7_costs_63 : decode cX7_costs 63 = .ok (.iload_n 1, 1) := by decide +kernel
theorem dX7_costs_64 : decode cX7_costs 64 = .ok (.ifCond .eq 15, 3) := by decide +kernel
theorem dX7_costs_67 : decode cX7_costs 67 = .ok (.iload 4, 2) := by decide +kernel
theorem dX7_costs_69 : decode cX7_costs 69 = .ok (.ifCond .eq 13, 3) := by decide +kernel
theorem dX7_costs_72 : decode cX7_costs 72 = .ok (.iload_n 1, 1) := by decide +kernel
theorem dX7_costs_73 : decode cX7_costs 73 = .ok (.sipush 255, 3) := by decide +kernel
theorem dX7_costs_76 : decode cX7_costs 76 = .ok (.if_icmp .ne 6, 3) := by decide +kernel
theorem dX7_costs_79 : decode cX7_costs 79 = .ok (.bipush (-2), 2) := by decide +kernel
theorem dX7_costs_81 : decode cX7_costs 81 = .ok (.ireturn, 1) := by decide +kernel
theorem dX7_costs_82 : decode cX7_costs 82 = .ok (.iload_n 1, 1) := by decide +kernel
theorem dX7_costs_83 : decode cX7_costs 83 = .ok (.iload_n 2, 1) := by decide +kernel
theorem dX7_costs_84 : decode cX7_costs 84 = .ok (.invokestatic 274, 3) := by decide +kernel
theorem dX7_costs_87 : decode cX7_costs 87 = .ok (.ireturn, 1) := by decide +kernel
theorem dX7_twins_0 : decode cX7_twins 0 = .ok (.iload_n 1, 1) := by decide +kernel
theorem dX7_twins_1 : decode cX7_twins 1 = .ok (.invokestatic 86, 3) := by decide +kernel
theorem dX7_twins_4 : decode cX7_twins 4 = .ok (.ifCond .ne 5, 3) := by decide +kernel
theorem dX7_twins_7 : decode cX7_twins 7 = .ok (.iconst (-1), 1) := by decide +kernel
theorem dX7_twins_8 : decode cX7_twins 8 = .ok (.ireturn, 1) := by decide +kernel
theorem dX7_twins_9 : decode cX7_twins 9 = .ok (.aload_n 0, 1) := by decide +kernel
theorem dX7_twins_10 : decode cX7_twins 10 = .ok (.getfield 10, 3) := by decide +kernel
theorem dX7_twins_13 : decode cX7_twins 13 = .ok (.invokevirtual 277, 3) := by decide +kernel
theorem dX7_twins_16 : decode cX7_twins 16 = .ok (.aload_n 0, 1) := by decide +kernel
theorem dX7_twins_17 : decode cX7_twins 17 = .ok (.getfield 10, 3) := by decide +kernel
theorem dX7_twins_20 : decode cX7_twins 20 = .ok (.aload_n 0, 1) := by decide +kernel
theorem dX7_twins_21 : decode cX7_twins 21 = .ok (.getfield 49, 3) := by decide +kernel
theorem dX7_twins_24 : decode cX7_twins 24 = .ok (.iload_n 1, 1) := by decide +kernel
theorem dX7_twins_25 : decode cX7_twins 25 = .ok (.iaload, 1) := by decide +kernel
theorem dX7_twins_26 : decode cX7_twins 26 = .ok (.aload_n 0, 1) := by decide +kernel
theorem dX7_twins_27 : decode cX7_twins 27 = .ok (.getfield 53, 3) := by decide +kernel
theorem dX7_twins_30 : decode cX7_twins 30 = .ok (.iload_n 1, 1) := by decide +kernel
theorem dX7_twins_31 : decode cX7_twins 31 = .ok (.iaload, 1) := by decide +kernel
theorem dX7_twins_32 : decode cX7_twins 32 = .ok (.invokevirtual 280, 3) := by decide +kernel
theorem dX7_twins_35 : decode cX7_twins 35 = .ok (.iconst 0, 1) := by decide +kernel
theorem dX7_twins_36 : decode cX7_twins 36 = .ok (.istore_n 2, 1) := by decide +kernel
theorem dX7_twins_37 : decode cX7_twins 37 = .ok (.iconst 0, 1) := by decide +kernel
theorem dX7_twins_38 : decode cX7_twins 38 = .ok (.istore_n 3, 1) := by decide +kernel
theorem dX7_twins_39 : decode cX7_twins 39 = .ok (.iconst 0, 1) := by decide +kernel
theorem dX7_twins_40 : decode cX7_twins 40 = .ok (.istore 4, 2) := by decide +kernel
theorem dX7_twins_42 : decode cX7_twins 42 = .ok (.iconst 0, 1) := by decide +kernel
theorem dX7_twins_43 : decode cX7_twins 43 = .ok (.istore 5, 2) := by decide +kernel
theorem dX7_twins_45 : decode cX7_twins 45 = .ok (.iload 5, 2) := by decide +kernel
theorem dX7_twins_47 : decode cX7_twins 47 = .ok (.aload_n 0, 1) := by decide +kernel
theorem dX7_twins_48 : decode cX7_twins 48 = .ok (.getfield 53, 3) := by decide +kernel
theorem dX7_twins_51 : decode cX7_twins 51 = .ok (.iload_n 1, 1) := by decide +kernel
theorem dX7_twins_52 : decode cX7_twins 52 = .ok (.iaload, 1) := by decide +kernel
theorem dX7_twins_53 : decode cX7_twins 53 = .ok (.if_icmp .ge 57, 3) := by decide +kernel
theorem dX7_twins_56 : decode cX7_twins 56 = .ok (.aload_n 0, 1) := by decide +kernel
theorem dX7_twins_57 : decode cX7_twins 57 = .ok (.getfield 10, 3) := by decide +kernel
theorem dX7_twins_60 : decode cX7_twins 60 = .ok (.iload 5, 2) := by decide +kernel
theorem dX7_twins_62 : decode cX7_twins 62 = .ok (.invokevirtual 283, 3) := by decide +kernel
theorem dX7_twins_65 : decode cX7_twins 65 = .ok (.istore 6, 2) := by decide +kernel
theorem dX7_twins_67 : decode cX7_twins 67 = .ok (.iload_n 2, 1) := by decide +kernel
theorem dX7_twins_68 : decode cX7_twins 68 = .ok (.iload 6, 2) := by decide +kernel
theorem dX7_twins_70 : decode cX7_twins 70 = .ok (.iconst 1, 1) := by decide +kernel
theorem dX7_twins_71 : decode cX7_twins 71 = .ok (.if_icmp .ne 7, 3) := by decide +kernel
theorem dX7_twins_74 : decode cX7_twins 74 = .ok (.iconst 1, 1) := by decide +kernel
theorem dX7_twins_75 : decode cX7_twins 75 = .ok (.goto 4, 3) := by decide +kernel
theorem dX7_twins_78 : decode cX7_twins 78 = .ok (.iconst 0, 1) := by decide +kernel
theorem dX7_twins_79 : decode cX7_twins 79 = .ok (.iadd, 1) := by decide +kernel
theorem dX7_twins_80 : decode cX7_twins 80 = .ok (.istore_n 2, 1) := by decide +kernel
theorem dX7_twins_81 : decode cX7_twins 81 = .ok (.iload_n 3, 1) := by decide +kernel
theorem dX7_twins_82 : decode cX7_twins 82 = .ok (.iload 6, 2) := by decide +kernel
theorem dX7_twins_84 : decode cX7_twins 84 = .ok (.iconst 2, 1) := by decide +kernel
theorem dX7_twins_85 : decode cX7_twins 85 = .ok (.if_icmp .ne 7, 3) := by decide +kernel
theorem dX7_twins_88 : decode cX7_twins 88 = .ok (.iconst 1, 1) := by decide +kernel
theorem dX7_twins_89 : decode cX7_twins 89 = .ok (.goto 4, 3) := by decide +kernel
theorem dX7_twins_92 : decode cX7_twins 92 = .ok (.iconst 0, 1) := by decide +kernel
theorem dX7_twins_93 : decode cX7_twins 93 = .ok (.iadd, 1) := by decide +kernel
theorem dX7_twins_94 : decode cX7_twins 94 = .ok (.istore_n 3, 1) := by decide +kernel
theorem dX7_twins_95 : decode cX7_twins 95 = .ok (.iload 4, 2) := by decide +kernel
theorem dX7_twins_97 : decode cX7_twins 97 = .ok (.iload 6, 2) := by decide +kernel
theorem dX7_twins_99 : decode cX7_twins 99 = .ok (.invokestatic 286, 3) := by decide +kernel
theorem dX7_twins_102 : decode cX7_twins 102 = .ok (.istore 4, 2) := by decide +kernel
theorem dX7_twins_104 : decode cX7_twins 104 = .ok (.iinc 5 1, 3) := by decide +kernel
theorem dX7_twins_107 : decode cX7_twins 107 = .ok (.goto (-62), 3) := by decide +kernel
theorem dX7_twins_110 : decode cX7_twins 110 = .ok (.aload_n 0, 1) := by decide +kernel
theorem dX7_twins_111 : decode cX7_twins 111 = .ok (.getfield 19, 3) := by decide +kernel
theorem dX7_twins_114 : decode cX7_twins 114 = .ok (.iload 4, 2) := by decide +kernel
theorem dX7_twins_116 : decode cX7_twins 116 = .ok (.i2l, 1) := by decide +kernel
theorem dX7_twins_117 : decode cX7_twins 117 = .ok (.aload_n 0, 1) := by decide +kernel
theorem dX7_twins_118 : decode cX7_twins 118 = .ok (.getfield 53, 3) := by decide +kernel
theorem dX7_twins_121 : decode cX7_twins 121 = .ok (.iload_n 1, 1) := by decide +kernel
theorem dX7_twins_122 : decode cX7_twins 122 = .ok (.iaload, 1) := by decide +kernel
theorem dX7_twins_123 : decode cX7_twins 123 = .ok (.iload_n 2, 1) := by decide +kernel
theorem dX7_twins_124 : decode cX7_twins 124 = .ok (.isub, 1) := by decide +kernel
theorem dX7_twins_125 : decode cX7_twins 125 = .ok (.i2l, 1) := by decide +kernel
theorem dX7_twins_126 : decode cX7_twins 126 = .ok (.invokevirtual 162, 3) := by decide +kernel
theorem dX7_twins_129 : decode cX7_twins 129 = .ok (.iload_n 3, 1) := by decide +kernel
theorem dX7_twins_130 : decode cX7_twins 130 = .ok (.ireturn, 1) := by decide +kernel
theorem dX7_nodes_0 : decode cX7_nodes 0 = .ok (.aload_n 0, 1) := by decide +kernel
theorem dX7_nodes_1 : decode cX7_nodes 1 = .ok (.getfield 10, 3) := by decide +kernel
theorem dX7_nodes_4 : decode cX7_nodes 4 = .ok (.invokevirtual 277, 3) := by decide +kernel
theorem dX7_nodes_7 : decode cX7_nodes 7 = .ok (.iconst 0, 1) := by decide +kernel
theorem dX7_nodes_8 : decode cX7_nodes 8 = .ok (.istore_n 1, 1) := by decide +kernel
theorem dX7_nodes_9 : decode cX7_nodes 9 = .ok (.iconst 0, 1) := by decide +kernel
theorem dX7_nodes_10 : decode cX7_nodes 10 = .ok (.istore_n 2, 1) := by decide +kernel
theorem dX7_nodes_11 : decode cX7_nodes 11 = .ok (.iconst 0, 1) := by decide +kernel
theorem dX7_nodes_12 : decode cX7_nodes 12 = .ok (.istore_n 3, 1) := by decide +kernel
theorem dX7_nodes_13 : decode cX7_nodes 13 = .ok (.iconst 0, 1) := by decide +kernel
theorem dX7_nodes_14 : decode cX7_nodes 14 = .ok (.istore 4, 2) := by decide +kernel
theorem dX7_nodes_16 : decode cX7_nodes 16 = .ok (.iload 4, 2) := by decide +kernel
theorem dX7_nodes_18 : decode cX7_nodes 18 = .ok (.bipush 6, 2) := by decide +kernel
theorem dX7_nodes_20 : decode cX7_nodes 20 = .ok (.if_icmp .ge 116, 3) := by decide +kernel
theorem dX7_nodes_23 : decode cX7_nodes 23 = .ok (.aload_n 0, 1) := by decide +kernel
theorem dX7_nodes_24 : decode cX7_nodes 24 = .ok (.getfield 10, 3) := by decide +kernel
theorem dX7_nodes_27 : decode cX7_nodes 27 = .ok (.aload_n 0, 1) := by decide +kernel
theorem dX7_nodes_28 : decode cX7_nodes 28 = .ok (.getfield 49, 3) := by decide +kernel
theorem dX7_nodes_31 : decode cX7_nodes 31 = .ok (.iload 4, 2) := by decide +kernel
theorem dX7_nodes_33 : decode cX7_nodes 33 = .ok (.iaload, 1) := by decide +kernel
theorem dX7_nodes_34 : decode cX7_nodes 34 = .ok (.aload_n 0, 1) := by decide +kernel
theorem dX7_nodes_35 : decode cX7_nodes 35 = .ok (.getfield 53, 3) := by decide +kernel
theorem dX7_nodes_38 : decode cX7_nodes 38 = .ok (.iload 4, 2) := by decide +kernel
theorem dX7_nodes_40 : decode cX7_nodes 40 = .ok (.iaload, 1) := by decide +kernel
theorem dX7_nodes_41 : decode cX7_nodes 41 = .ok (.invokevirtual 280, 3) := by decide +kernel
theorem dX7_nodes_44 : decode cX7_nodes 44 = .ok (.iconst 0, 1) := by decide +kernel
theorem dX7_nodes_45 : decode cX7_nodes 45 = .ok (.istore 5, 2) := by decide +kernel
theorem dX7_nodes_47 : decode cX7_nodes 47 = .ok (.iload 5, 2) := by decide +kernel
theorem dX7_nodes_49 : decode cX7_nodes 49 = .ok (.aload_n 0, 1) := by decide +kernel
theorem dX7_nodes_50 : decode cX7_nodes 50 = .ok (.getfield 53, 3) := by decide +kernel
theorem dX7_nodes_53 : decode cX7_nodes 53 = .ok (.iload 4, 2) := by decide +kernel
theorem dX7_nodes_55 : decode cX7_nodes 55 = .ok (.iaload, 1) := by decide +kernel
theorem dX7_nodes_56 : decode cX7_nodes 56 = .ok (.if_icmp .ge 64, 3) := by decide +kernel
theorem dX7_nodes_59 : decode cX7_nodes 59 = .ok (.aload_n 0, 1) := by decide +kernel
theorem dX7_nodes_60 : decode cX7_nodes 60 = .ok (.getfield 10, 3) := by decide +kernel
theorem dX7_nodes_63 : decode cX7_nodes 63 = .ok (.iload 5, 2) := by decide +kernel
theorem dX7_nodes_65 : decode cX7_nodes 65 = .ok (.iconst 1, 1) := by decide +kernel
theorem dX7_nodes_66 : decode cX7_nodes 66 = .ok (.iload 4, 2) := by decide +kernel
theorem dX7_nodes_68 : decode cX7_nodes 68 = .ok (.ishl, 1) := by decide +kernel
theorem dX7_nodes_69 : decode cX7_nodes 69 = .ok (.invokevirtual 289, 3) := by decide +kernel
theorem dX7_nodes_72 : decode cX7_nodes 72 = .ok (.istore 6, 2) := by decide +kernel
theorem dX7_nodes_74 : decode cX7_nodes 74 = .ok (.iload_n 1, 1) := by decide +kernel
theorem dX7_nodes_75 : decode cX7_nodes 75 = .ok (.iload 6, 2) := by decide +kernel
theorem dX7_nodes_77 : decode cX7_nodes 77 = .ok (.ifCond .ne 7, 3) := by decide +kernel
theorem dX7_nodes_80 : decode cX7_nodes 80 = .ok (.iconst 1, 1) := by decide +kernel
theorem dX7_nodes_81 : decode cX7_nodes 81 = .ok (.goto 4, 3) := by decide +kernel
theorem dX7_nodes_84 : decode cX7_nodes 84 = .ok (.iconst 0, 1) := by decide +kernel
theorem dX7_nodes_85 : decode cX7_nodes 85 = .ok (.iadd, 1) := by decide +kernel
theorem dX7_nodes_86 : decode cX7_nodes 86 = .ok (.istore_n 1, 1) := by decide +kernel
theorem dX7_nodes_87 : decode cX7_nodes 87 = .ok (.iload_n 2, 1) := by decide +kernel
theorem dX7_nodes_88 : decode cX7_nodes 88 = .ok (.iload 6, 2) := by decide +kernel
theorem dX7_nodes_90 : decode cX7_nodes 90 = .ok (.iconst 1, 1) := by decide +kernel
theorem dX7_nodes_91 : decode cX7_nodes 91 = .ok (.iload 4, 2) := by decide +kernel
theorem dX7_nodes_93 : decode cX7_nodes 93 = .ok (.ishl, 1) := by decide +kernel
theorem dX7_nodes_94 : decode cX7_nodes 94 = .ok (.iand, 1) := by decide +kernel
theorem dX7_nodes_95 : decode cX7_nodes 95 = .ok (.ifCond .ne 16, 3) := by decide +kernel
theorem dX7_nodes_98 : decode cX7_nodes 98 = .ok (.iload 6, 2) := by decide +kernel
theorem dX7_nodes_100 : decode cX7_nodes 100 = .ok (.invokestatic 292, 3) := by decide +kernel
theorem dX7_nodes_103 : decode cX7_nodes 103 = .ok (.iconst 1, 1) := by decide +kernel
theorem dX7_nodes_104 : decode cX7_nodes 104 = .ok (.if_icmp .ne 7, 3) := by decide +kernel
theorem dX7_nodes_107 : decode cX7_nodes 107 = .ok (.iconst 1, 1) := by decide +kernel
theorem dX7_nodes_108 : decode cX7_nodes 108 = .ok (.goto 4, 3) := by decide +kernel
theorem dX7_nodes_111 : decode cX7_nodes 111 = .ok (.iconst 0, 1) := by decide +kernel
theorem dX7_nodes_112 : decode cX7_nodes 112 = .ok (.iadd, 1) := by decide +kernel
theorem dX7_nodes_113 : decode cX7_nodes 113 = .ok (.istore_n 2, 1) := by decide +kernel
theorem dX7_nodes_114 : decode cX7_nodes 114 = .ok (.iinc 5 1, 3) := by decide +kernel
theorem dX7_nodes_117 : decode cX7_nodes 117 = .ok (.goto (-70), 3) := by decide +kernel
theorem dX7_nodes_120 : decode cX7_nodes 120 = .ok (.iload_n 3, 1) := by decide +kernel
theorem dX7_nodes_121 : decode cX7_nodes 121 = .ok (.aload_n 0, 1) := by decide +kernel
theorem dX7_nodes_122 : decode cX7_nodes 122 = .ok (.getfield 53, 3) := by decide +kernel
theorem dX7_nodes_125 : decode cX7_nodes 125 = .ok (.iload 4, 2) := by decide +kernel
theorem dX7_nodes_127 : decode cX7_nodes 127 = .ok (.iaload, 1) := by decide +kernel
theorem dX7_nodes_128 : decode cX7_nodes 128 = .ok (.iadd, 1) := by decide +kernel
theorem dX7_nodes_129 : decode cX7_nodes 129 = .ok (.istore_n 3, 1) := by decide +kernel
theorem dX7_nodes_130 : decode cX7_nodes 130 = .ok (.iinc 4 1, 3) := by decide +kernel
theorem dX7_nodes_133 : decode cX7_nodes 133 = .ok (.goto (-117), 3) := by decide +kernel
theorem dX7_nodes_136 : decode cX7_nodes 136 = .ok (.aload_n 0, 1) := by decide +kernel
theorem dX7_nodes_137 : decode cX7_nodes 137 = .ok (.getfield 19, 3) := by decide +kernel
theorem dX7_nodes_140 : decode cX7_nodes 140 = .ok (.iload_n 2, 1) := by decide +kernel
theorem dX7_nodes_141 : decode cX7_nodes 141 = .ok (.i2l, 1) := by decide +kernel
theorem dX7_nodes_142 : decode cX7_nodes 142 = .ok (.iload_n 3, 1) := by decide +kernel
theorem dX7_nodes_143 : decode cX7_nodes 143 = .ok (.i2l, 1) := by decide +kernel
theorem dX7_nodes_144 : decode cX7_nodes 144 = .ok (.invokevirtual 162, 3) := by decide +kernel
theorem dX7_nodes_147 : decode cX7_nodes 147 = .ok (.iload_n 1, 1) := by decide +kernel
theorem dX7_nodes_148 : decode cX7_nodes 148 = .ok (.ireturn, 1) := by decide +kernel
theorem dX7_own_0 : decode cX7_own 0 = .ok (.iload_n 1, 1) := by decide +kernel
theorem dX7_own_1 : decode cX7_own 1 = .ok (.invokestatic 86, 3) := by decide +kernel
theorem dX7_own_4 : decode cX7_own 4 = .ok (.ifCond .ne 5, 3) := by decide +kernel
theorem dX7_own_7 : decode cX7_own 7 = .ok (.iconst (-1), 1) := by decide +kernel
theorem dX7_own_8 : decode cX7_own 8 = .ok (.ireturn, 1) := by decide +kernel
theorem dX7_own_9 : decode cX7_own 9 = .ok (.aload_n 0, 1) := by decide +kernel
theorem dX7_own_10 : decode cX7_own 10 = .ok (.getfield 10, 3) := by decide +kernel
theorem dX7_own_13 : decode cX7_own 13 = .ok (.invokevirtual 277, 3) := by decide +kernel
theorem dX7_own_16 : decode cX7_own 16 = .ok (.iconst 0, 1) := by decide +kernel
theorem dX7_own_17 : decode cX7_own 17 = .ok (.istore_n 2, 1) := by decide +kernel
theorem dX7_own_18 : decode cX7_own 18 = .ok (.iload_n 2, 1) := by decide +kernel
theorem dX7_own_19 : decode cX7_own 19 = .ok (.bipush 6, 2) := by decide +kernel
theorem dX7_own_21 : decode cX7_own 21 = .ok (.if_icmp .ge 20, 3) := by decide +kernel
theorem dX7_own_24 : decode cX7_own 24 = .ok (.iload_n 2, 1) := by decide +kernel
theorem dX7_own_25 : decode cX7_own 25 = .ok (.iload_n 1, 1) := by decide +kernel
theorem dX7_own_26 : decode cX7_own 26 = .ok (.if_icmp .eq 9, 3) := by decide +kernel
theorem dX7_own_29 : decode cX7_own 29 = .ok (.aload_n 0, 1) := by decide +kernel
theorem dX7_own_30 : decode cX7_own 30 = .ok (.iload_n 2, 1) := by decide +kernel
theorem dX7_own_31 : decode cX7_own 31 = .ok (.iconst 1, 1) := by decide +kernel
theorem dX7_own_32 : decode cX7_own 32 = .ok (.invokevirtual 297, 3) := by decide +kernel
theorem dX7_own_35 : decode cX7_own 35 = .ok (.iinc 2 1, 3) := by decide +kernel
theorem dX7_own_38 : decode cX7_own 38 = .ok (.goto (-20), 3) := by decide +kernel
theorem dX7_own_41 : decode cX7_own 41 = .ok (.aload_n 0, 1) := by decide +kernel
theorem dX7_own_42 : decode cX7_own 42 = .ok (.getfield 10, 3) := by decide +kernel
theorem dX7_own_45 : decode cX7_own 45 = .ok (.aload_n 0, 1) := by decide +kernel
theorem dX7_own_46 : decode cX7_own 46 = .ok (.getfield 49, 3) := by decide +kernel
theorem dX7_own_49 : decode cX7_own 49 = .ok (.iload_n 1, 1) := by decide +kernel
theorem dX7_own_50 : decode cX7_own 50 = .ok (.iaload, 1) := by decide +kernel
theorem dX7_own_51 : decode cX7_own 51 = .ok (.aload_n 0, 1) := by decide +kernel
theorem dX7_own_52 : decode cX7_own 52 = .ok (.getfield 53, 3) := by decide +kernel
theorem dX7_own_55 : decode cX7_own 55 = .ok (.iload_n 1, 1) := by decide +kernel
theorem dX7_own_56 : decode cX7_own 56 = .ok (.iaload, 1) := by decide +kernel
theorem dX7_own_57 : decode cX7_own 57 = .ok (.invokevirtual 280, 3) := by decide +kernel
theorem dX7_own_60 : decode cX7_own 60 = .ok (.iconst 0, 1) := by decide +kernel
theorem dX7_own_61 : decode cX7_own 61 = .ok (.istore_n 2, 1) := by decide +kernel
theorem dX7_own_62 : decode cX7_own 62 = .ok (.iconst 0, 1) := by decide +kernel
theorem dX7_own_63 : decode cX7_own 63 = .ok (.istore_n 3, 1) := by decide +kernel
theorem dX7_own_64 : decode cX7_own 64 = .ok (.iconst 0, 1) := by decide +kernel
theorem dX7_own_65 : decode cX7_own 65 = .ok (.istore 4, 2) := by decide +kernel
theorem dX7_own_67 : decode cX7_own 67 = .ok (.iload 4, 2) := by decide +kernel
theorem dX7_own_69 : decode cX7_own 69 = .ok (.aload_n 0, 1) := by decide +kernel
theorem dX7_own_70 : decode cX7_own 70 = .ok (.getfield 53, 3) := by decide +kernel
theorem dX7_own_73 : decode cX7_own 73 = .ok (.iload_n 1, 1) := by decide +kernel
theorem dX7_own_74 : decode cX7_own 74 = .ok (.iaload, 1) := by decide +kernel
theorem dX7_own_75 : decode cX7_own 75 = .ok (.if_icmp .ge 49, 3) := by decide +kernel
theorem dX7_own_78 : decode cX7_own 78 = .ok (.aload_n 0, 1) := by decide +kernel
theorem dX7_own_79 : decode cX7_own 79 = .ok (.getfield 10, 3) := by decide +kernel
theorem dX7_own_82 : decode cX7_own 82 = .ok (.iload 4, 2) := by decide +kernel
theorem dX7_own_84 : decode cX7_own 84 = .ok (.iconst 2, 1) := by decide +kernel
theorem dX7_own_85 : decode cX7_own 85 = .ok (.invokevirtual 289, 3) := by decide +kernel
theorem dX7_own_88 : decode cX7_own 88 = .ok (.istore 5, 2) := by decide +kernel
theorem dX7_own_90 : decode cX7_own 90 = .ok (.iload_n 2, 1) := by decide +kernel
theorem dX7_own_91 : decode cX7_own 91 = .ok (.iload 5, 2) := by decide +kernel
theorem dX7_own_93 : decode cX7_own 93 = .ok (.iconst 2, 1) := by decide +kernel
theorem dX7_own_94 : decode cX7_own 94 = .ok (.iand, 1) := by decide +kernel
theorem dX7_own_95 : decode cX7_own 95 = .ok (.ifCond .ne 7, 3) := by decide +kernel
theorem dX7_own_98 : decode cX7_own 98 = .ok (.iconst 1, 1) := by decide +kernel
theorem dX7_own_99 : decode cX7_own 99 = .ok (.goto 4, 3) := by decide +kernel
theorem dX7_own_102 : decode cX7_own 102 = .ok (.iconst 0, 1) := by decide +kernel
theorem dX7_own_103 : decode cX7_own 103 = .ok (.iadd, 1) := by decide +kernel
theorem dX7_own_104 : decode cX7_own 104 = .ok (.istore_n 2, 1) := by decide +kernel
theorem dX7_own_105 : decode cX7_own 105 = .ok (.iload_n 3, 1) := by decide +kernel
theorem dX7_own_106 : decode cX7_own 106 = .ok (.iload 5, 2) := by decide +kernel
theorem dX7_own_108 : decode cX7_own 108 = .ok (.ifCond .ne 7, 3) := by decide +kernel
theorem dX7_own_111 : decode cX7_own 111 = .ok (.iconst 1, 1) := by decide +kernel
theorem dX7_own_112 : decode cX7_own 112 = .ok (.goto 4, 3) := by decide +kernel
theorem dX7_own_115 : decode cX7_own 115 = .ok (.iconst 0, 1) := by decide +kernel
theorem dX7_own_116 : decode cX7_own 116 = .ok (.iadd, 1) := by decide +kernel
theorem dX7_own_117 : decode cX7_own 117 = .ok (.istore_n 3, 1) := by decide +kernel
theorem dX7_own_118 : decode cX7_own 118 = .ok (.iinc 4 1, 3) := by decide +kernel
theorem dX7_own_121 : decode cX7_own 121 = .ok (.goto (-54), 3) := by decide +kernel
theorem dX7_own_124 : decode cX7_own 124 = .ok (.aload_n 0, 1) := by decide +kernel
theorem dX7_own_125 : decode cX7_own 125 = .ok (.getfield 19, 3) := by decide +kernel
theorem dX7_own_128 : decode cX7_own 128 = .ok (.iload_n 3, 1) := by decide +kernel
theorem dX7_own_129 : decode cX7_own 129 = .ok (.i2l, 1) := by decide +kernel
theorem dX7_own_130 : decode cX7_own 130 = .ok (.invokevirtual 171, 3) := by decide +kernel
theorem dX7_own_133 : decode cX7_own 133 = .ok (.iload_n 2, 1) := by decide +kernel
theorem dX7_own_134 : decode cX7_own 134 = .ok (.ireturn, 1) := by decide +kernel
theorem dX7_level_0 : decode cX7_level 0 = .ok (.iload_n 1, 1) := by decide +kernel
theorem dX7_level_1 : decode cX7_level 1 = .ok (.invokestatic 86, 3) := by decide +kernel
theorem dX7_level_4 : decode cX7_level 4 = .ok (.ifCond .eq 13, 3) := by decide +kernel
theorem dX7_level_7 : decode cX7_level 7 = .ok (.iload_n 2, 1) := by decide +kernel
theorem dX7_level_8 : decode cX7_level 8 = .ok (.ifCond .lt 9, 3) := by decide +kernel
theorem dX7_level_11 : decode cX7_level 11 = .ok (.iload_n 2, 1) := by decide +kernel
theorem dX7_level_12 : decode cX7_level 12 = .ok (.bipush 8, 2) := by decide +kernel
theorem dX7_level_14 : decode cX7_level 14 = .ok (.if_icmp .lt 5, 3) := by decide +kernel
theorem dX7_level_17 : decode cX7_level 17 = .ok (.iconst (-1), 1) := by decide +kernel
theorem dX7_level_18 : decode cX7_level 18 = .ok (.ireturn, 1) := by decide +kernel
theorem dX7_level_19 : decode cX7_level 19 = .ok (.aload_n 0, 1) := by decide +kernel
theorem dX7_level_20 : decode cX7_level 20 = .ok (.getfield 10, 3) := by decide +kernel
theorem dX7_level_23 : decode cX7_level 23 = .ok (.aload_n 0, 1) := by decide +kernel
theorem dX7_level_24 : decode cX7_level 24 = .ok (.getfield 49, 3) := by decide +kernel
theorem dX7_level_27 : decode cX7_level 27 = .ok (.iload_n 1, 1) := by decide +kernel
theorem dX7_level_28 : decode cX7_level 28 = .ok (.iaload, 1) := by decide +kernel
theorem dX7_level_29 : decode cX7_level 29 = .ok (.aload_n 0, 1) := by decide +kernel
theorem dX7_level_30 : decode cX7_level 30 = .ok (.getfield 53, 3) := by decide +kernel
theorem dX7_level_33 : decode cX7_level 33 = .ok (.iload_n 1, 1) := by decide +kernel
theorem dX7_level_34 : decode cX7_level 34 = .ok (.iaload, 1) := by decide +kernel
theorem dX7_level_35 : decode cX7_level 35 = .ok (.aload_n 0, 1) := by decide +kernel
theorem dX7_level_36 : decode cX7_level 36 = .ok (.getfield 56, 3) := by decide +kernel
theorem dX7_level_39 : decode cX7_level 39 = .ok (.invokevirtual 201, 3) := by decide +kernel
theorem dX7_level_42 : decode cX7_level 42 = .ok (.iconst 0, 1) := by decide +kernel
theorem dX7_level_43 : decode cX7_level 43 = .ok (.istore_n 3, 1) := by decide +kernel
theorem dX7_level_44 : decode cX7_level 44 = .ok (.iconst 0, 1) := by decide +kernel
theorem dX7_level_45 : decode cX7_level 45 = .ok (.istore 4, 2) := by decide +kernel
theorem dX7_level_47 : decode cX7_level 47 = .ok (.iconst 1, 1) := by decide +kernel
theorem dX7_level_48 : decode cX7_level 48 = .ok (.iload_n 2, 1) := by decide +kernel
theorem dX7_level_49 : decode cX7_level 49 = .ok (.ishl, 1) := by decide +kernel
theorem dX7_level_50 : decode cX7_level 50 = .ok (.iconst 1, 1) := by decide +kernel
theorem dX7_level_51 : decode cX7_level 51 = .ok (.isub, 1) := by decide +kernel
theorem dX7_level_52 : decode cX7_level 52 = .ok (.istore 5, 2) := by decide +kernel
theorem dX7_level_54 : decode cX7_level 54 = .ok (.iload 5, 2) := by decide +kernel
theorem dX7_level_56 : decode cX7_level 56 = .ok (.aload_n 0, 1) := by decide +kernel
theorem dX7_level_57 : decode cX7_level 57 = .ok (.getfield 53, 3) := by decide +kernel
theorem dX7_level_60 : decode cX7_level 60 = .ok (.iload_n 1, 1) := by decide +kernel
theorem dX7_level_61 : decode cX7_level 61 = .ok (.iaload, 1) := by decide +kernel
theorem dX7_level_62 : decode cX7_level 62 = .ok (.if_icmp .ge 34, 3) := by decide +kernel
theorem dX7_level_65 : decode cX7_level 65 = .ok (.iload 5, 2) := by decide +kernel
theorem dX7_level_67 : decode cX7_level 67 = .ok (.iconst 2, 1) := by decide +kernel
theorem dX7_level_68 : decode cX7_level 68 = .ok (.iload_n 2, 1) := by decide +kernel
theorem dX7_level_69 : decode cX7_level 69 = .ok (.ishl, 1) := by decide +kernel
theorem dX7_level_70 : decode cX7_level 70 = .ok (.iconst 1, 1) := by decide +kernel
theorem dX7_level_71 : decode cX7_level 71 = .ok (.isub, 1) := by decide +kernel
theorem dX7_level_72 : decode cX7_level 72 = .ok (.if_icmp .ge 24, 3) := by decide +kernel
theorem dX7_level_75 : decode cX7_level 75 = .ok (.iload 4, 2) := by decide +kernel
theorem dX7_level_77 : decode cX7_level 77 = .ok (.aload_n 0, 1) := by decide +kernel
theorem dX7_level_78 : decode cX7_level 78 = .ok (.getfield 56, 3) := by decide +kernel
theorem dX7_level_81 : decode cX7_level 81 = .ok (.iload 5, 2) := by decide +kernel
theorem dX7_level_83 : decode cX7_level 83 = .ok (.iaload, 1) := by decide +kernel
theorem dX7_level_84 : decode cX7_level 84 = .ok (.iadd, 1) := by decide +kernel
theorem dX7_level_85 : decode cX7_level 85 = .ok (.istore 4, 2) := by decide +kernel
theorem dX7_level_87 : decode cX7_level 87 = .ok (.iinc 3 1, 3) := by decide +kernel
theorem dX7_level_90 : decode cX7_level 90 = .ok (.iinc 5 1, 3) := by decide +kernel
theorem dX7_level_93 : decode cX7_level 93 = .ok (.goto (-39), 3) := by decide +kernel
theorem dX7_level_96 : decode cX7_level 96 = .ok (.aload_n 0, 1) := by decide +kernel
theorem dX7_level_97 : decode cX7_level 97 = .ok (.getfield 19, 3) := by decide +kernel
theorem dX7_level_100 : decode cX7_level 100 = .ok (.iload 4, 2) := by decide +kernel
theorem dX7_level_102 : decode cX7_level 102 = .ok (.i2l, 1) := by decide +kernel
theorem dX7_level_103 : decode cX7_level 103 = .ok (.invokevirtual 171, 3) := by decide +kernel
theorem dX7_level_106 : decode cX7_level 106 = .ok (.iload_n 3, 1) := by decide +kernel
theorem dX7_level_107 : decode cX7_level 107 = .ok (.ireturn, 1) := by decide +kernel
theorem dX7_ways_0 : decode cX7_ways 0 = .ok (.iload_n 1, 1) := by decide +kernel
theorem dX7_ways_1 : decode cX7_ways 1 = .ok (.invokestatic 86, 3) := by decide +kernel
theorem dX7_ways_4 : decode cX7_ways 4 = .ok (.ifCond .eq 12, 3) := by decide +kernel
theorem dX7_ways_7 : decode cX7_ways 7 = .ok (.lload_n 2, 1) := by decide +kernel
theorem dX7_ways_8 : decode cX7_ways 8 = .ok (.bipush 62, 2) := by decide +kernel
theorem dX7_ways_10 : decode cX7_ways 10 = .ok (.lushr, 1) := by decide +kernel
theorem dX7_ways_11 : decode cX7_ways 11 = .ok (.lconst 0, 1) := by decide +kernel
theorem dX7_ways_12 : decode cX7_ways 12 = .ok (.lcmp, 1) := by decide +kernel
theorem dX7_ways_13 : decode cX7_ways 13 = .ok (.ifCond .eq 5, 3) := by decide +kernel
theorem dX7_ways_16 : decode cX7_ways 16 = .ok (.iconst (-1), 1) := by decide +kernel
theorem dX7_ways_17 : decode cX7_ways 17 = .ok (.ireturn, 1) := by decide +kernel
theorem dX7_ways_18 : decode cX7_ways 18 = .ok (.aload_n 0, 1) := by decide +kernel
theorem dX7_ways_19 : decode cX7_ways 19 = .ok (.getfield 45, 3) := by decide +kernel
theorem dX7_ways_22 : decode cX7_ways 22 = .ok (.invokevirtual 198, 3) := by decide +kernel
theorem dX7_ways_25 : decode cX7_ways 25 = .ok (.iconst 0, 1) := by decide +kernel
theorem dX7_ways_26 : decode cX7_ways 26 = .ok (.istore 4, 2) := by decide +kernel
theorem dX7_ways_28 : decode cX7_ways 28 = .ok (.iload 4, 2) := by decide +kernel
theorem dX7_ways_30 : decode cX7_ways 30 = .ok (.bipush 62, 2) := by decide +kernel
theorem dX7_ways_32 : decode cX7_ways 32 = .ok (.if_icmp .ge 40, 3) := by decide +kernel
theorem dX7_ways_35 : decode cX7_ways 35 = .ok (.iload 4, 2) := by decide +kernel
theorem dX7_ways_37 : decode cX7_ways 37 = .ok (.aload_n 0, 1) := by decide +kernel
theorem dX7_ways_38 : decode cX7_ways 38 = .ok (.getfield 53, 3) := by decide +kernel
theorem dX7_ways_41 : decode cX7_ways 41 = .ok (.iload_n 1, 1) := by decide +kernel
theorem dX7_ways_42 : decode cX7_ways 42 = .ok (.iaload, 1) := by decide +kernel
theorem dX7_ways_43 : decode cX7_ways 43 = .ok (.if_icmp .ge 29, 3) := by decide +kernel
theorem dX7_ways_46 : decode cX7_ways 46 = .ok (.lload_n 2, 1) := by decide +kernel
theorem dX7_ways_47 : decode cX7_ways 47 = .ok (.iload 4, 2) := by decide +kernel
theorem dX7_ways_49 : decode cX7_ways 49 = .ok (.lushr, 1) := by decide +kernel
theorem dX7_ways_50 : decode cX7_ways 50 = .ok (.lconst 1, 1) := by decide +kernel
theorem dX7_ways_51 : decode cX7_ways 51 = .ok (.land, 1) := by decide +kernel
theorem dX7_ways_52 : decode cX7_ways 52 = .ok (.lconst 1, 1) := by decide +kernel
theorem dX7_ways_53 : decode cX7_ways 53 = .ok (.lcmp, 1) := by decide +kernel
theorem dX7_ways_54 : decode cX7_ways 54 = .ok (.ifCond .ne 12, 3) := by decide +kernel
theorem dX7_ways_57 : decode cX7_ways 57 = .ok (.aload_n 0, 1) := by decide +kernel
theorem dX7_ways_58 : decode cX7_ways 58 = .ok (.getfield 45, 3) := by decide +kernel
theorem dX7_ways_61 : decode cX7_ways 61 = .ok (.iload 4, 2) := by decide +kernel
theorem dX7_ways_63 : decode cX7_ways 63 = .ok (.invokevirtual 208, 3) := by decide +kernel
theorem dX7_ways_66 : decode cX7_ways 66 = .ok (.iinc 4 1, 3) := by decide +kernel
theorem dX7_ways_69 : decode cX7_ways 69 = .ok (.goto (-41), 3) := by decide +kernel
theorem dX7_ways_72 : decode cX7_ways 72 = .ok (.aload_n 0, 1) := by decide +kernel
theorem dX7_ways_73 : decode cX7_ways 73 = .ok (.getfield 45, 3) := by decide +kernel
theorem dX7_ways_76 : decode cX7_ways 76 = .ok (.getfield 259, 3) := by decide +kernel
theorem dX7_ways_79 : decode cX7_ways 79 = .ok (.ireturn, 1) := by decide +kernel
theorem dX7_count_0 : decode cX7_count 0 = .ok (.iload_n 1, 1) := by decide +kernel
theorem dX7_count_1 : decode cX7_count 1 = .ok (.tableswitch 66 0 4 #[35, 40, 48, 56, 64], 35) := by decide +kernel
theorem dX7_count_36 : decode cX7_count 36 = .ok (.aload_n 0, 1) := by decide +kernel
theorem dX7_count_37 : decode cX7_count 37 = .ok (.invokevirtual 300, 3) := by decide +kernel
theorem dX7_count_40 : decode cX7_count 40 = .ok (.ireturn, 1) := by decide +kernel
theorem dX7_count_41 : decode cX7_count 41 = .ok (.aload_n 0, 1) := by decide +kernel
theorem dX7_count_42 : decode cX7_count 42 = .ok (.getfield 10, 3) := by decide +kernel
theorem dX7_count_45 : decode cX7_count 45 = .ok (.getfield 130, 3) := by decide +kernel
theorem dX7_count_48 : decode cX7_count 48 = .ok (.ireturn, 1) := by decide +kernel
theorem dX7_count_49 : decode cX7_count 49 = .ok (.aload_n 0, 1) := by decide +kernel
theorem dX7_count_50 : decode cX7_count 50 = .ok (.getfield 19, 3) := by decide +kernel
theorem dX7_count_53 : decode cX7_count 53 = .ok (.getfield 303, 3) := by decide +kernel
theorem dX7_count_56 : decode cX7_count 56 = .ok (.ireturn, 1) := by decide +kernel
theorem dX7_count_57 : decode cX7_count 57 = .ok (.aload_n 0, 1) := by decide +kernel
theorem dX7_count_58 : decode cX7_count 58 = .ok (.getfield 34, 3) := by decide +kernel
theorem dX7_count_61 : decode cX7_count 61 = .ok (.getfield 306, 3) := by decide +kernel
theorem dX7_count_64 : decode cX7_count 64 = .ok (.ireturn, 1) := by decide +kernel
theorem dX7_count_65 : decode cX7_count 65 = .ok (.iconst 1, 1) := by decide +kernel
theorem dX7_count_66 : decode cX7_count 66 = .ok (.ireturn, 1) := by decide +kernel
theorem dX7_count_67 : decode cX7_count 67 = .ok (.iconst (-1), 1) := by decide +kernel
theorem dX7_count_68 : decode cX7_count 68 = .ok (.ireturn, 1) := by decide +kernel
theorem dX7_row_0 : decode cX7_row 0 = .ok (.iload_n 1, 1) := by decide +kernel
theorem dX7_row_1 : decode cX7_row 1 = .ok (.ifCond .lt 14, 3) := by decide +kernel
theorem dX7_row_4 : decode cX7_row 4 = .ok (.iload_n 1, 1) := by decide +kernel
theorem dX7_row_5 : decode cX7_row 5 = .ok (.aload_n 0, 1) := by decide +kernel
theorem dX7_row_6 : decode cX7_row 6 = .ok (.getfield 19, 3) := by decide +kernel
theorem dX7_row_9 : decode cX7_row 9 = .ok (.getfield 303, 3) := by decide +kernel
theorem dX7_row_12 : decode cX7_row 12 = .ok (.if_icmp .lt 14, 3) := by decide +kernel
theorem dX7_row_15 : decode cX7_row 15 = .ok (.new 307, 3) := by decide +kernel
theorem dX7_row_18 : decode cX7_row 18 = .ok (.dup, 1) := by decide +kernel
theorem dX7_row_19 : decode cX7_row 19 = .ok (.ldc_w 309, 3) := by decide +kernel
theorem dX7_row_22 : decode cX7_row 22 = .ok (.invokespecial 311, 3) := by decide +kernel
theorem dX7_row_25 : decode cX7_row 25 = .ok (.athrow, 1) := by decide +kernel
theorem dX7_row_26 : decode cX7_row 26 = .ok (.aload_n 0, 1) := by decide +kernel
theorem dX7_row_27 : decode cX7_row 27 = .ok (.getfield 19, 3) := by decide +kernel
theorem dX7_row_30 : decode cX7_row 30 = .ok (.getfield 314, 3) := by decide +kernel
theorem dX7_row_33 : decode cX7_row 33 = .ok (.iload_n 1, 1) := by decide +kernel
theorem dX7_row_34 : decode cX7_row 34 = .ok (.laload, 1) := by decide +kernel
theorem dX7_row_35 : decode cX7_row 35 = .ok (.lreturn, 1) := by decide +kernel
theorem dX7_isPlace_0 : decode cX7_isPlace 0 = .ok (.iload_n 0, 1) := by decide +kernel
theorem dX7_isPlace_1 : decode cX7_isPlace 1 = .ok (.ifCond .lt 13, 3) := by decide +kernel
theorem dX7_isPlace_4 : decode cX7_isPlace 4 = .ok (.iload_n 0, 1) := by decide +kernel
theorem dX7_isPlace_5 : decode cX7_isPlace 5 = .ok (.bipush 6, 2) := by decide +kernel
theorem dX7_isPlace_7 : decode cX7_isPlace 7 = .ok (.if_icmp .ge 7, 3) := by decide +kernel
theorem dX7_isPlace_10 : decode cX7_isPlace 10 = .ok (.iconst 1, 1) := by decide +kernel
theorem dX7_isPlace_11 : decode cX7_isPlace 11 = .ok (.goto 4, 3) := by decide +kernel
theorem dX7_isPlace_14 : decode cX7_isPlace 14 = .ok (.iconst 0, 1) := by decide +kernel
theorem dX7_isPlace_15 : decode cX7_isPlace 15 = .ok (.ireturn, 1) := by decide +kernel
theorem dX7_isNumber_0 : decode cX7_isNumber 0 = .ok (.iload_n 0, 1) := by decide +kernel
theorem dX7_isNumber_1 : decode cX7_isNumber 1 = .ok (.sipush (-999), 3) := by decide +kernel
theorem dX7_isNumber_4 : decode cX7_isNumber 4 = .ok (.if_icmp .lt 14, 3) := by decide +kernel
theorem dX7_isNumber_7 : decode cX7_isNumber 7 = .ok (.iload_n 0, 1) := by decide +kernel
theorem dX7_isNumber_8 : decode cX7_isNumber 8 = .ok (.sipush 999, 3) := by decide +kernel
theorem dX7_isNumber_11 : decode cX7_isNumber 11 = .ok (.if_icmp .gt 7, 3) := by decide +kernel
theorem dX7_isNumber_14 : decode cX7_isNumber 14 = .ok (.iconst 1, 1) := by decide +kernel
theorem dX7_isNumber_15 : decode cX7_isNumber 15 = .ok (.goto 4, 3) := by decide +kernel
theorem dX7_isNumber_18 : decode cX7_isNumber 18 = .ok (.iconst 0, 1) := by decide +kernel
theorem dX7_isNumber_19 : decode cX7_isNumber 19 = .ok (.ireturn, 1) := by decide +kernel
theorem dX7_isIndex_0 : decode cX7_isIndex 0 = .ok (.iload_n 1, 1) := by decide +kernel
theorem dX7_isIndex_1 : decode cX7_isIndex 1 = .ok (.invokestatic 86, 3) := by decide +kernel
theorem dX7_isIndex_4 : decode cX7_isIndex 4 = .ok (.ifCond .eq 21, 3) := by decide +kernel
theorem dX7_isIndex_7 : decode cX7_isIndex 7 = .ok (.iload_n 2, 1) := by decide +kernel
theorem dX7_isIndex_8 : decode cX7_isIndex 8 = .ok (.ifCond .lt 17, 3) := by decide +kernel
theorem dX7_isIndex_11 : decode cX7_isIndex 11 = .ok (.iload_n 2, 1) := by decide +kernel
theorem dX7_isIndex_12 : decode cX7_isIndex 12 = .ok (.aload_n 0, 1) := by decide +kernel
theorem dX7_isIndex_13 : decode cX7_isIndex 13 = .ok (.getfield 53, 3) := by decide +kernel
theorem dX7_isIndex_16 : decode cX7_isIndex 16 = .ok (.iload_n 1, 1) := by decide +kernel
theorem dX7_isIndex_17 : decode cX7_isIndex 17 = .ok (.iaload, 1) := by decide +kernel
theorem dX7_isIndex_18 : decode cX7_isIndex 18 = .ok (.if_icmp .ge 7, 3) := by decide +kernel
theorem dX7_isIndex_21 : decode cX7_isIndex 21 = .ok (.iconst 1, 1) := by decide +kernel
theorem dX7_isIndex_22 : decode cX7_isIndex 22 = .ok (.goto 4, 3) := by decide +kernel
theorem dX7_isIndex_25 : decode cX7_isIndex 25 = .ok (.iconst 0, 1) := by decide +kernel
theorem dX7_isIndex_26 : decode cX7_isIndex 26 = .ok (.ireturn, 1) := by decide +kernel
theorem dX7_isRange_0 : decode cX7_isRange 0 = .ok (.iload_n 1, 1) := by decide +kernel
theorem dX7_isRange_1 : decode cX7_isRange 1 = .ok (.invokestatic 86, 3) := by decide +kernel
theorem dX7_isRange_4 : decode cX7_isRange 4 = .ok (.ifCond .eq 26, 3) := by decide +kernel
theorem dX7_isRange_7 : decode cX7_isRange 7 = .ok (.iload_n 2, 1) := by decide +kernel
theorem dX7_isRange_8 : decode cX7_isRange 8 = .ok (.ifCond .lt 22, 3) := by decide +kernel
theorem dX7_isRange_11 : decode cX7_isRange 11 = .ok (.iload_n 3, 1) := by decide +kernel
theorem dX7_isRange_12 : decode cX7_isRange 12 = .ok (.iload_n 2, 1) := by decide +kernel
theorem dX7_isRange_13 : decode cX7_isRange 13 = .ok (.if_icmp .lt 17, 3) := by decide +kernel
theorem dX7_isRange_16 : decode cX7_isRange 16 = .ok (.iload_n 3, 1) := by decide +kernel
theorem dX7_isRange_17 : decode cX7_isRange 17 = .ok (.aload_n 0, 1) := by decide +kernel
theorem dX7_isRange_18 : decode cX7_isRange 18 = .ok (.getfield 53, 3) := by decide +kernel
theorem dX7_isRange_21 : decode cX7_isRange 21 = .ok (.iload_n 1, 1) := by decide +kernel
theorem dX7_isRange_22 : decode cX7_isRange 22 = .ok (.iaload, 1) := by decide +kernel
theorem dX7_isRange_23 : decode cX7_isRange 23 = .ok (.if_icmp .gt 7, 3) := by decide +kernel
theorem dX7_isRange_26 : decode cX7_isRange 26 = .ok (.iconst 1, 1) := by decide +kernel
theorem dX7_isRange_27 : decode cX7_isRange 27 = .ok (.goto 4, 3) := by decide +kernel
theorem dX7_isRange_30 : decode cX7_isRange 30 = .ok (.iconst 0, 1) := by decide +kernel
theorem dX7_isRange_31 : decode cX7_isRange 31 = .ok (.ireturn, 1) := by decide +kernel
theorem dX7_held_0 : decode cX7_held 0 = .ok (.sipush (-999), 3) := by decide +kernel
theorem dX7_held_3 : decode cX7_held 3 = .ok (.sipush 999, 3) := by decide +kernel
theorem dX7_held_6 : decode cX7_held 6 = .ok (.iload_n 0, 1) := by decide +kernel
theorem dX7_held_7 : decode cX7_held 7 = .ok (.invokestatic 228, 3) := by decide +kernel
theorem dX7_held_10 : decode cX7_held 10 = .ok (.invokestatic 286, 3) := by decide +kernel
theorem dX7_held_13 : decode cX7_held 13 = .ok (.ireturn, 1) := by decide +kernel
theorem dX7_begin_0 : decode cX7_begin 0 = .ok (.aload_n 0, 1) := by decide +kernel
theorem dX7_begin_1 : decode cX7_begin 1 = .ok (.getfield 10, 3) := by decide +kernel
theorem dX7_begin_4 : decode cX7_begin 4 = .ok (.invokevirtual 318, 3) := by decide +kernel
theorem dX7_begin_7 : decode cX7_begin 7 = .ok (.ifCond .ne 43, 3) := by decide +kernel
theorem dX7_begin_10 : decode cX7_begin 10 = .ok (.aload_n 0, 1) := by decide +kernel
theorem dX7_begin_11 : decode cX7_begin 11 = .ok (.getfield 10, 3) := by decide +kernel
theorem dX7_begin_14 : decode cX7_begin 14 = .ok (.invokevirtual 321, 3) := by decide +kernel
theorem dX7_begin_17 : decode cX7_begin 17 = .ok (.iconst 0, 1) := by decide +kernel
theorem dX7_begin_18 : decode cX7_begin 18 = .ok (.istore_n 1, 1) := by decide +kernel
theorem dX7_begin_19 : decode cX7_begin 19 = .ok (.iload_n 1, 1) := by decide +kernel
theorem dX7_begin_20 : decode cX7_begin 20 = .ok (.bipush 6, 2) := by decide +kernel
theorem dX7_begin_22 : decode cX7_begin 22 = .ok (.if_icmp .ge 28, 3) := by decide +kernel
theorem dX7_begin_25 : decode cX7_begin 25 = .ok (.aload_n 0, 1) := by decide +kernel
theorem dX7_begin_26 : decode cX7_begin 26 = .ok (.getfield 10, 3) := by decide +kernel
theorem dX7_begin_29 : decode cX7_begin 29 = .ok (.aload_n 0, 1) := by decide +kernel
theorem dX7_begin_30 : decode cX7_begin 30 = .ok (.getfield 49, 3) := by decide +kernel
theorem dX7_begin_33 : decode cX7_begin 33 = .ok (.iload_n 1, 1) := by decide +kernel
theorem dX7_begin_34 : decode cX7_begin 34 = .ok (.iaload, 1) := by decide +kernel
theorem dX7_begin_35 : decode cX7_begin 35 = .ok (.aload_n 0, 1) := by decide +kernel
theorem dX7_begin_36 : decode cX7_begin 36 = .ok (.getfield 53, 3) := by decide +kernel
theorem dX7_begin_39 : decode cX7_begin 39 = .ok (.iload_n 1, 1) := by decide +kernel
theorem dX7_begin_40 : decode cX7_begin 40 = .ok (.iaload, 1) := by decide +kernel
theorem dX7_begin_41 : decode cX7_begin 41 = .ok (.invokevirtual 324, 3) := by decide +kernel
theorem dX7_begin_44 : decode cX7_begin 44 = .ok (.iinc 1 1, 3) := by decide +kernel
theorem dX7_begin_47 : decode cX7_begin 47 = .ok (.goto (-28), 3) := by decide +kernel
theorem dX7_begin_50 : decode cX7_begin 50 = .ok (.aload_n 0, 1) := by decide +kernel
theorem dX7_begin_51 : decode cX7_begin 51 = .ok (.getfield 10, 3) := by decide +kernel
theorem dX7_begin_54 : decode cX7_begin 54 = .ok (.getfield 130, 3) := by decide +kernel
theorem dX7_begin_57 : decode cX7_begin 57 = .ok (.ireturn, 1) := by decide +kernel
theorem dX7_keep_0 : decode cX7_keep 0 = .ok (.aload_n 0, 1) := by decide +kernel
theorem dX7_keep_1 : decode cX7_keep 1 = .ok (.getfield 49, 3) := by decide +kernel
theorem dX7_keep_4 : decode cX7_keep 4 = .ok (.iload_n 1, 1) := by decide +kernel
theorem dX7_keep_5 : decode cX7_keep 5 = .ok (.iload_n 2, 1) := by decide +kernel
theorem dX7_keep_6 : decode cX7_keep 6 = .ok (.iastore, 1) := by decide +kernel
theorem dX7_keep_7 : decode cX7_keep 7 = .ok (.aload_n 0, 1) := by decide +kernel
theorem dX7_keep_8 : decode cX7_keep 8 = .ok (.getfield 53, 3) := by decide +kernel
theorem dX7_keep_11 : decode cX7_keep 11 = .ok (.iload_n 1, 1) := by decide +kernel
theorem dX7_keep_12 : decode cX7_keep 12 = .ok (.iload_n 3, 1) := by decide +kernel
theorem dX7_keep_13 : decode cX7_keep 13 = .ok (.iastore, 1) := by decide +kernel
theorem dX7_keep_14 : decode cX7_keep 14 = .ok (.iload_n 3, 1) := by decide +kernel
theorem dX7_keep_15 : decode cX7_keep 15 = .ok (.ireturn, 1) := by decide +kernel
theorem dX7_build_0 : decode cX7_build 0 = .ok (.aload_n 0, 1) := by decide +kernel
theorem dX7_build_1 : decode cX7_build 1 = .ok (.invokevirtual 120, 3) := by decide +kernel
theorem dX7_build_4 : decode cX7_build 4 = .ok (.pop, 1) := by decide +kernel
theorem dX7_build_5 : decode cX7_build 5 = .ok (.aload_n 0, 1) := by decide +kernel
theorem dX7_build_6 : decode cX7_build 6 = .ok (.iload_n 1, 1) := by decide +kernel
theorem dX7_build_7 : decode cX7_build 7 = .ok (.aload_n 0, 1) := by decide +kernel
theorem dX7_build_8 : decode cX7_build 8 = .ok (.getfield 10, 3) := by decide +kernel
theorem dX7_build_11 : decode cX7_build 11 = .ok (.aload_n 0, 1) := by decide +kernel
theorem dX7_build_12 : decode cX7_build 12 = .ok (.getfield 62, 3) := by decide +kernel
theorem dX7_build_15 : decode cX7_build 15 = .ok (.iload_n 2, 1) := by decide +kernel
theorem dX7_build_16 : decode cX7_build 16 = .ok (.invokevirtual 327, 3) := by decide +kernel
theorem dX7_build_19 : decode cX7_build 19 = .ok (.iload_n 2, 1) := by decide +kernel
theorem dX7_build_20 : decode cX7_build 20 = .ok (.invokevirtual 126, 3) := by decide +kernel
theorem dX7_build_23 : decode cX7_build 23 = .ok (.ireturn, 1) := by decide +kernel
theorem dX7_readBoth_0 : decode cX7_readBoth 0 = .ok (.aload_n 0, 1) := by decide +kernel
theorem dX7_readBoth_1 : decode cX7_readBoth 1 = .ok (.getfield 10, 3) := by decide +kernel
theorem dX7_readBoth_4 : decode cX7_readBoth 4 = .ok (.aload_n 0, 1) := by decide +kernel
theorem dX7_readBoth_5 : decode cX7_readBoth 5 = .ok (.getfield 49, 3) := by decide +kernel
theorem dX7_readBoth_8 : decode cX7_readBoth 8 = .ok (.iload_n 1, 1) := by decide +kernel
theorem dX7_readBoth_9 : decode cX7_readBoth 9 = .ok (.iaload, 1) := by decide +kernel
theorem dX7_readBoth_10 : decode cX7_readBoth 10 = .ok (.aload_n 0, 1) := by decide +kernel
theorem dX7_readBoth_11 : decode cX7_readBoth 11 = .ok (.getfield 53, 3) := by decide +kernel
theorem dX7_readBoth_14 : decode cX7_readBoth 14 = .ok (.iload_n 1, 1) := by decide +kernel
theorem dX7_readBoth_15 : decode cX7_readBoth 15 = .ok (.iaload, 1) := by decide +kernel
theorem dX7_readBoth_16 : decode cX7_readBoth 16 = .ok (.aload_n 0, 1) := by decide +kernel
theorem dX7_readBoth_17 : decode cX7_readBoth 17 = .ok (.getfield 56, 3) := by decide +kernel
theorem dX7_readBoth_20 : decode cX7_readBoth 20 = .ok (.invokevirtual 201, 3) := by decide +kernel
theorem dX7_readBoth_23 : decode cX7_readBoth 23 = .ok (.aload_n 0, 1) := by decide +kernel
theorem dX7_readBoth_24 : decode cX7_readBoth 24 = .ok (.getfield 10, 3) := by decide +kernel
theorem dX7_readBoth_27 : decode cX7_readBoth 27 = .ok (.aload_n 0, 1) := by decide +kernel
theorem dX7_readBoth_28 : decode cX7_readBoth 28 = .ok (.getfield 49, 3) := by decide +kernel
theorem dX7_readBoth_31 : decode cX7_readBoth 31 = .ok (.iload_n 2, 1) := by decide +kernel
theorem dX7_readBoth_32 : decode cX7_readBoth 32 = .ok (.iaload, 1) := by decide +kernel
theorem dX7_readBoth_33 : decode cX7_readBoth 33 = .ok (.aload_n 0, 1) := by decide +kernel
theorem dX7_readBoth_34 : decode cX7_readBoth 34 = .ok (.getfield 53, 3) := by decide +kernel
theorem dX7_readBoth_37 : decode cX7_readBoth 37 = .ok (.iload_n 2, 1) := by decide +kernel
theorem dX7_readBoth_38 : decode cX7_readBoth 38 = .ok (.iaload, 1) := by decide +kernel
theorem dX7_readBoth_39 : decode cX7_readBoth 39 = .ok (.aload_n 0, 1) := by decide +kernel
theorem dX7_readBoth_40 : decode cX7_readBoth 40 = .ok (.getfield 59, 3) := by decide +kernel
theorem dX7_readBoth_43 : decode cX7_readBoth 43 = .ok (.invokevirtual 201, 3) := by decide +kernel
theorem dX7_readBoth_46 : decode cX7_readBoth 46 = .ok (.return_, 1) := by decide +kernel
theorem dX7_putOne_0 : decode cX7_putOne 0 = .ok (.iload_n 1, 1) := by decide +kernel
theorem dX7_putOne_1 : decode cX7_putOne 1 = .ok (.invokestatic 86, 3) := by decide +kernel
theorem dX7_putOne_4 : decode cX7_putOne 4 = .ok (.ifCond .eq 17, 3) := by decide +kernel
theorem dX7_putOne_7 : decode cX7_putOne 7 = .ok (.iload_n 2, 1) := by decide +kernel
theorem dX7_putOne_8 : decode cX7_putOne 8 = .ok (.invokestatic 117, 3) := by decide +kernel
theorem dX7_putOne_11 : decode cX7_putOne 11 = .ok (.ifCond .eq 10, 3) := by decide +kernel
theorem dX7_putOne_14 : decode cX7_putOne 14 = .ok (.iload_n 3, 1) := by decide +kernel
theorem dX7_putOne_15 : decode cX7_putOne 15 = .ok (.invokestatic 86, 3) := by decide +kernel
theorem dX7_putOne_18 : decode cX7_putOne 18 = .ok (.ifCond .ne 5, 3) := by decide +kernel
theorem dX7_putOne_21 : decode cX7_putOne 21 = .ok (.iconst (-1), 1) := by decide +kernel
theorem dX7_putOne_22 : decode cX7_putOne 22 = .ok (.ireturn, 1) := by decide +kernel
theorem dX7_putOne_23 : decode cX7_putOne 23 = .ok (.aload_n 0, 1) := by decide +kernel
theorem dX7_putOne_24 : decode cX7_putOne 24 = .ok (.getfield 53, 3) := by decide +kernel
theorem dX7_putOne_27 : decode cX7_putOne 27 = .ok (.iload_n 1, 1) := by decide +kernel
theorem dX7_putOne_28 : decode cX7_putOne 28 = .ok (.iaload, 1) := by decide +kernel
theorem dX7_putOne_29 : decode cX7_putOne 29 = .ok (.sipush 255, 3) := by decide +kernel
theorem dX7_putOne_32 : decode cX7_putOne 32 = .ok (.if_icmp .ne 6, 3) := by decide +kernel
theorem dX7_putOne_35 : decode cX7_putOne 35 = .ok (.bipush (-2), 2) := by decide +kernel
theorem dX7_putOne_37 : decode cX7_putOne 37 = .ok (.ireturn, 1) := by decide +kernel
theorem dX7_putOne_38 : decode cX7_putOne 38 = .ok (.aload_n 0, 1) := by decide +kernel
theorem dX7_putOne_39 : decode cX7_putOne 39 = .ok (.invokevirtual 120, 3) := by decide +kernel
theorem dX7_putOne_42 : decode cX7_putOne 42 = .ok (.istore 5, 2) := by decide +kernel
theorem dX7_putOne_44 : decode cX7_putOne 44 = .ok (.aload_n 0, 1) := by decide +kernel
theorem dX7_putOne_45 : decode cX7_putOne 45 = .ok (.iload_n 3, 1) := by decide +kernel
theorem dX7_putOne_46 : decode cX7_putOne 46 = .ok (.aload_n 0, 1) := by decide +kernel
theorem dX7_putOne_47 : decode cX7_putOne 47 = .ok (.getfield 10, 3) := by decide +kernel
theorem dX7_putOne_50 : decode cX7_putOne 50 = .ok (.iload_n 2, 1) := by decide +kernel
theorem dX7_putOne_51 : decode cX7_putOne 51 = .ok (.aload_n 0, 1) := by decide +kernel
theorem dX7_putOne_52 : decode cX7_putOne 52 = .ok (.getfield 49, 3) := by decide +kernel
theorem dX7_putOne_55 : decode cX7_putOne 55 = .ok (.iload_n 1, 1) := by decide +kernel
theorem dX7_putOne_56 : decode cX7_putOne 56 = .ok (.iaload, 1) := by decide +kernel
theorem dX7_putOne_57 : decode cX7_putOne 57 = .ok (.aload_n 0, 1) := by decide +kernel
theorem dX7_putOne_58 : decode cX7_putOne 58 = .ok (.getfield 53, 3) := by decide +kernel
theorem dX7_putOne_61 : decode cX7_putOne 61 = .ok (.iload_n 1, 1) := by decide +kernel
theorem dX7_putOne_62 : decode cX7_putOne 62 = .ok (.iaload, 1) := by decide +kernel
theorem dX7_putOne_63 : decode cX7_putOne 63 = .ok (.iload 4, 2) := by decide +kernel
theorem dX7_putOne_65 : decode cX7_putOne 65 = .ok (.invokevirtual 222, 3) := by decide +kernel
theorem dX7_putOne_68 : decode cX7_putOne 68 = .ok (.aload_n 0, 1) := by decide +kernel
theorem dX7_putOne_69 : decode cX7_putOne 69 = .ok (.getfield 53, 3) := by decide +kernel
theorem dX7_putOne_72 : decode cX7_putOne 72 = .ok (.iload_n 1, 1) := by decide +kernel
theorem dX7_putOne_73 : decode cX7_putOne 73 = .ok (.iaload, 1) := by decide +kernel
theorem dX7_putOne_74 : decode cX7_putOne 74 = .ok (.iconst 1, 1) := by decide +kernel
theorem dX7_putOne_75 : decode cX7_putOne 75 = .ok (.iadd, 1) := by decide +kernel
theorem dX7_putOne_76 : decode cX7_putOne 76 = .ok (.invokevirtual 126, 3) := by decide +kernel
theorem dX7_putOne_79 : decode cX7_putOne 79 = .ok (.pop, 1) := by decide +kernel
theorem dX7_putOne_80 : decode cX7_putOne 80 = .ok (.aload_n 0, 1) := by decide +kernel
theorem dX7_putOne_81 : decode cX7_putOne 81 = .ok (.getfield 10, 3) := by decide +kernel
theorem dX7_putOne_84 : decode cX7_putOne 84 = .ok (.getfield 130, 3) := by decide +kernel
theorem dX7_putOne_87 : decode cX7_putOne 87 = .ok (.iload 5, 2) := by decide +kernel
theorem dX7_putOne_89 : decode cX7_putOne 89 = .ok (.isub, 1) := by decide +kernel
theorem dX7_putOne_90 : decode cX7_putOne 90 = .ok (.ireturn, 1) := by decide +kernel
theorem dX7_takeOne_0 : decode cX7_takeOne 0 = .ok (.aload_n 0, 1) := by decide +kernel
theorem dX7_takeOne_1 : decode cX7_takeOne 1 = .ok (.getfield 19, 3) := by decide +kernel
theorem dX7_takeOne_4 : decode cX7_takeOne 4 = .ok (.aload_n 0, 1) := by decide +kernel
theorem dX7_takeOne_5 : decode cX7_takeOne 5 = .ok (.getfield 10, 3) := by decide +kernel
theorem dX7_takeOne_8 : decode cX7_takeOne 8 = .ok (.aload_n 0, 1) := by decide +kernel
theorem dX7_takeOne_9 : decode cX7_takeOne 9 = .ok (.getfield 49, 3) := by decide +kernel
theorem dX7_takeOne_12 : decode cX7_takeOne 12 = .ok (.iload_n 1, 1) := by decide +kernel
theorem dX7_takeOne_13 : decode cX7_takeOne 13 = .ok (.iaload, 1) := by decide +kernel
theorem dX7_takeOne_14 : decode cX7_takeOne 14 = .ok (.iload_n 2, 1) := by decide +kernel
theorem dX7_takeOne_15 : decode cX7_takeOne 15 = .ok (.invokevirtual 168, 3) := by decide +kernel
theorem dX7_takeOne_18 : decode cX7_takeOne 18 = .ok (.i2l, 1) := by decide +kernel
theorem dX7_takeOne_19 : decode cX7_takeOne 19 = .ok (.invokevirtual 171, 3) := by decide +kernel
theorem dX7_takeOne_22 : decode cX7_takeOne 22 = .ok (.aload_n 0, 1) := by decide +kernel
theorem dX7_takeOne_23 : decode cX7_takeOne 23 = .ok (.invokevirtual 120, 3) := by decide +kernel
theorem dX7_takeOne_26 : decode cX7_takeOne 26 = .ok (.istore 5, 2) := by decide +kernel
theorem dX7_takeOne_28 : decode cX7_takeOne 28 = .ok (.aload_n 0, 1) := by decide +kernel
theorem dX7_takeOne_29 : decode cX7_takeOne 29 = .ok (.iload_n 3, 1) := by decide +kernel
theorem dX7_takeOne_30 : decode cX7_takeOne 30 = .ok (.aload_n 0, 1) := by decide +kernel
theorem dX7_takeOne_31 : decode cX7_takeOne 31 = .ok (.getfield 10, 3) := by decide +kernel
theorem dX7_takeOne_34 : decode cX7_takeOne 34 = .ok (.aload_n 0, 1) := by decide +kernel
theorem dX7_takeOne_35 : decode cX7_takeOne 35 = .ok (.getfield 49, 3) := by decide +kernel
theorem dX7_takeOne_38 : decode cX7_takeOne 38 = .ok (.iload_n 1, 1) := by decide +kernel
theorem dX7_takeOne_39 : decode cX7_takeOne 39 = .ok (.iaload, 1) := by decide +kernel
theorem dX7_takeOne_40 : decode cX7_takeOne 40 = .ok (.aload_n 0, 1) := by decide +kernel
theorem dX7_takeOne_41 : decode cX7_takeOne 41 = .ok (.getfield 53, 3) := by decide +kernel
theorem dX7_takeOne_44 : decode cX7_takeOne 44 = .ok (.iload_n 1, 1) := by decide +kernel
theorem dX7_takeOne_45 : decode cX7_takeOne 45 = .ok (.iaload, 1) := by decide +kernel
theorem dX7_takeOne_46 : decode cX7_takeOne 46 = .ok (.iload 4, 2) := by decide +kernel
theorem dX7_takeOne_48 : decode cX7_takeOne 48 = .ok (.invokevirtual 219, 3) := by decide +kernel
theorem dX7_takeOne_51 : decode cX7_takeOne 51 = .ok (.aload_n 0, 1) := by decide +kernel
theorem dX7_takeOne_52 : decode cX7_takeOne 52 = .ok (.getfield 53, 3) := by decide +kernel
theorem dX7_takeOne_55 : decode cX7_takeOne 55 = .ok (.iload_n 1, 1) := by decide +kernel
theorem dX7_takeOne_56 : decode cX7_takeOne 56 = .ok (.iaload, 1) := by decide +kernel
theorem dX7_takeOne_57 : decode cX7_takeOne 57 = .ok (.iconst 1, 1) := by decide +kernel
theorem dX7_takeOne_58 : decode cX7_takeOne 58 = .ok (.isub, 1) := by decide +kernel
theorem dX7_takeOne_59 : decode cX7_takeOne 59 = .ok (.invokevirtual 126, 3) := by decide +kernel
theorem dX7_takeOne_62 : decode cX7_takeOne 62 = .ok (.pop, 1) := by decide +kernel
theorem dX7_takeOne_63 : decode cX7_takeOne 63 = .ok (.aload_n 0, 1) := by decide +kernel
theorem dX7_takeOne_64 : decode cX7_takeOne 64 = .ok (.getfield 10, 3) := by decide +kernel
theorem dX7_takeOne_67 : decode cX7_takeOne 67 = .ok (.getfield 130, 3) := by decide +kernel
theorem dX7_takeOne_70 : decode cX7_takeOne 70 = .ok (.iload 5, 2) := by decide +kernel
theorem dX7_takeOne_72 : decode cX7_takeOne 72 = .ok (.isub, 1) := by decide +kernel
theorem dX7_takeOne_73 : decode cX7_takeOne 73 = .ok (.ireturn, 1) := by decide +kernel
theorem dX7_renew_0 : decode cX7_renew 0 = .ok (.aload_n 0, 1) := by decide +kernel
theorem dX7_renew_1 : decode cX7_renew 1 = .ok (.invokevirtual 120, 3) := by decide +kernel
theorem dX7_renew_4 : decode cX7_renew 4 = .ok (.istore_n 3, 1) := by decide +kernel
theorem dX7_renew_5 : decode cX7_renew 5 = .ok (.aload_n 0, 1) := by decide +kernel
theorem dX7_renew_6 : decode cX7_renew 6 = .ok (.iload_n 2, 1) := by decide +kernel
theorem dX7_renew_7 : decode cX7_renew 7 = .ok (.aload_n 0, 1) := by decide +kernel
theorem dX7_renew_8 : decode cX7_renew 8 = .ok (.getfield 10, 3) := by decide +kernel
theorem dX7_renew_11 : decode cX7_renew 11 = .ok (.aload_n 0, 1) := by decide +kernel
theorem dX7_renew_12 : decode cX7_renew 12 = .ok (.getfield 49, 3) := by decide +kernel
theorem dX7_renew_15 : decode cX7_renew 15 = .ok (.iload_n 1, 1) := by decide +kernel
theorem dX7_renew_16 : decode cX7_renew 16 = .ok (.iaload, 1) := by decide +kernel
theorem dX7_renew_17 : decode cX7_renew 17 = .ok (.aload_n 0, 1) := by decide +kernel
theorem dX7_renew_18 : decode cX7_renew 18 = .ok (.getfield 53, 3) := by decide +kernel
theorem dX7_renew_21 : decode cX7_renew 21 = .ok (.iload_n 1, 1) := by decide +kernel
theorem dX7_renew_22 : decode cX7_renew 22 = .ok (.iaload, 1) := by decide +kernel
theorem dX7_renew_23 : decode cX7_renew 23 = .ok (.aload_n 0, 1) := by decide +kernel
theorem dX7_renew_24 : decode cX7_renew 24 = .ok (.getfield 45, 3) := by decide +kernel
theorem dX7_renew_27 : decode cX7_renew 27 = .ok (.aload_n 0, 1) := by decide +kernel
theorem dX7_renew_28 : decode cX7_renew 28 = .ok (.getfield 56, 3) := by decide +kernel
theorem dX7_renew_31 : decode cX7_renew 31 = .ok (.invokevirtual 331, 3) := by decide +kernel
theorem dX7_renew_34 : decode cX7_renew 34 = .ok (.aload_n 0, 1) := by decide +kernel
theorem dX7_renew_35 : decode cX7_renew 35 = .ok (.getfield 53, 3) := by decide +kernel
theorem dX7_renew_38 : decode cX7_renew 38 = .ok (.iload_n 1, 1) := by decide +kernel
theorem dX7_renew_39 : decode cX7_renew 39 = .ok (.iaload, 1) := by decide +kernel
theorem dX7_renew_40 : decode cX7_renew 40 = .ok (.invokevirtual 126, 3) := by decide +kernel
theorem dX7_renew_43 : decode cX7_renew 43 = .ok (.pop, 1) := by decide +kernel
theorem dX7_renew_44 : decode cX7_renew 44 = .ok (.aload_n 0, 1) := by decide +kernel
theorem dX7_renew_45 : decode cX7_renew 45 = .ok (.getfield 10, 3) := by decide +kernel
theorem dX7_renew_48 : decode cX7_renew 48 = .ok (.getfield 130, 3) := by decide +kernel
theorem dX7_renew_51 : decode cX7_renew 51 = .ok (.iload_n 3, 1) := by decide +kernel
theorem dX7_renew_52 : decode cX7_renew 52 = .ok (.isub, 1) := by decide +kernel
theorem dX7_renew_53 : decode cX7_renew 53 = .ok (.ireturn, 1) := by decide +kernel
theorem dX7_markUnlike_0 : decode cX7_markUnlike 0 = .ok (.aload_n 0, 1) := by decide +kernel
theorem dX7_markUnlike_1 : decode cX7_markUnlike 1 = .ok (.getfield 45, 3) := by decide +kernel
theorem dX7_markUnlike_4 : decode cX7_markUnlike 4 = .ok (.invokevirtual 198, 3) := by decide +kernel
theorem dX7_markUnlike_7 : decode cX7_markUnlike 7 = .ok (.iconst 0, 1) := by decide +kernel
theorem dX7_markUnlike_8 : decode cX7_markUnlike 8 = .ok (.istore_n 2, 1) := by decide +kernel
theorem dX7_markUnlike_9 : decode cX7_markUnlike 9 = .ok (.iconst 0, 1) := by decide +kernel
theorem dX7_markUnlike_10 : decode cX7_markUnlike 10 = .ok (.istore_n 3, 1) := by decide +kernel
theorem dX7_markUnlike_11 : decode cX7_markUnlike 11 = .ok (.iload_n 3, 1) := by decide +kernel
theorem dX7_markUnlike_12 : decode cX7_markUnlike 12 = .ok (.iload_n 1, 1) := by decide +kernel
theorem dX7_markUnlike_13 : decode cX7_markUnlike 13 = .ok (.if_icmp .ge 35, 3) := by decide +kernel
theorem dX7_markUnlike_16 : decode cX7_markUnlike 16 = .ok (.aload_n 0, 1) := by decide +kernel
theorem dX7_markUnlike_17 : decode cX7_markUnlike 17 = .ok (.getfield 56, 3) := by decide +kernel
theorem dX7_markUnlike_20 : decode cX7_markUnlike 20 = .ok (.iload_n 3, 1) := by decide +kernel
theorem dX7_markUnlike_21 : decode cX7_markUnlike 21 = .ok (.iaload, 1) := by decide +kernel
theorem dX7_markUnlike_22 : decode cX7_markUnlike 22 = .ok (.aload_n 0, 1) := by decide +kernel
theorem dX7_markUnlike_23 : decode cX7_markUnlike 23 = .ok (.getfield 59, 3) := by decide +kernel
theorem dX7_markUnlike_26 : decode cX7_markUnlike 26 = .ok (.iload_n 3, 1) := by decide +kernel
theorem dX7_markUnlike_27 : decode cX7_markUnlike 27 = .ok (.iaload, 1) := by decide +kernel
theorem dX7_markUnlike_28 : decode cX7_markUnlike 28 = .ok (.if_icmp .eq 14, 3) := by decide +kernel
theorem dX7_markUnlike_31 : decode cX7_markUnlike 31 = .ok (.aload_n 0, 1) := by decide +kernel
theorem dX7_markUnlike_32 : decode cX7_markUnlike 32 = .ok (.getfield 45, 3) := by decide +kernel
theorem dX7_markUnlike_35 : decode cX7_markUnlike 35 = .ok (.iload_n 3, 1) := by decide +kernel
theorem dX7_markUnlike_36 : decode cX7_markUnlike 36 = .ok (.invokevirtual 208, 3) := by decide +kernel
theorem dX7_markUnlike_39 : decode cX7_markUnlike 39 = .ok (.iinc 2 1, 3) := by decide +kernel
theorem dX7_markUnlike_42 : decode cX7_markUnlike 42 = .ok (.iinc 3 1, 3) := by decide +kernel
theorem dX7_markUnlike_45 : decode cX7_markUnlike 45 = .ok (.goto (-34), 3) := by decide +kernel
theorem dX7_markUnlike_48 : decode cX7_markUnlike 48 = .ok (.iload_n 2, 1) := by decide +kernel
theorem dX7_markUnlike_49 : decode cX7_markUnlike 49 = .ok (.ireturn, 1) := by decide +kernel
theorem dX7_joined_0 : decode cX7_joined 0 = .ok (.iload_n 2, 1) := by decide +kernel
theorem dX7_joined_1 : decode cX7_joined 1 = .ok (.tableswitch 47 0 2 #[27, 34, 41], 27) := by decide +kernel
theorem dX7_joined_28 : decode cX7_joined 28 = .ok (.iload_n 0, 1) := by decide +kernel
theorem dX7_joined_29 : decode cX7_joined 29 = .ok (.iload_n 1, 1) := by decide +kernel
theorem dX7_joined_30 : decode cX7_joined 30 = .ok (.iadd, 1) := by decide +kernel
theorem dX7_joined_31 : decode cX7_joined 31 = .ok (.invokestatic 205, 3) := by decide +kernel
theorem dX7_joined_34 : decode cX7_joined 34 = .ok (.ireturn, 1) := by decide +kernel
theorem dX7_joined_35 : decode cX7_joined 35 = .ok (.iload_n 0, 1) := by decide +kernel
theorem dX7_joined_36 : decode cX7_joined 36 = .ok (.iload_n 1, 1) := by decide +kernel
theorem dX7_joined_37 : decode cX7_joined 37 = .ok (.isub, 1) := by decide +kernel
theorem dX7_joined_38 : decode cX7_joined 38 = .ok (.invokestatic 205, 3) := by decide +kernel
theorem dX7_joined_41 : decode cX7_joined 41 = .ok (.ireturn, 1) := by decide +kernel
theorem dX7_joined_42 : decode cX7_joined 42 = .ok (.iload_n 0, 1) := by decide +kernel
theorem dX7_joined_43 : decode cX7_joined 43 = .ok (.iload_n 1, 1) := by decide +kernel
theorem dX7_joined_44 : decode cX7_joined 44 = .ok (.invokestatic 228, 3) := by decide +kernel
theorem dX7_joined_47 : decode cX7_joined 47 = .ok (.ireturn, 1) := by decide +kernel
theorem dX7_joined_48 : decode cX7_joined 48 = .ok (.iload_n 0, 1) := by decide +kernel
theorem dX7_joined_49 : decode cX7_joined 49 = .ok (.iload_n 1, 1) := by decide +kernel
theorem dX7_joined_50 : decode cX7_joined 50 = .ok (.invokestatic 286, 3) := by decide +kernel
theorem dX7_joined_53 : decode cX7_joined 53 = .ok (.ireturn, 1) := by decide +kernel
theorem dX7_sortInto_0 : decode cX7_sortInto 0 = .ok (.aload_n 0, 1) := by decide +kernel
theorem dX7_sortInto_1 : decode cX7_sortInto 1 = .ok (.getfield 65, 3) := by decide +kernel
theorem dX7_sortInto_4 : decode cX7_sortInto 4 = .ok (.iconst 0, 1) := by decide +kernel
theorem dX7_sortInto_5 : decode cX7_sortInto 5 = .ok (.invokestatic 335, 3) := by decide +kernel
theorem dX7_sortInto_8 : decode cX7_sortInto 8 = .ok (.iconst 0, 1) := by decide +kernel
theorem dX7_sortInto_9 : decode cX7_sortInto 9 = .ok (.istore_n 2, 1) := by decide +kernel
theorem dX7_sortInto_10 : decode cX7_sortInto 10 = .ok (.iload_n 2, 1) := by decide +kernel
theorem dX7_sortInto_11 : decode cX7_sortInto 11 = .ok (.iload_n 1, 1) := by decide +kernel
theorem dX7_sortInto_12 : decode cX7_sortInto 12 = .ok (.if_icmp .ge 28, 3) := by decide +kernel
theorem dX7_sortInto_15 : decode cX7_sortInto 15 = .ok (.aload_n 0, 1) := by decide +kernel
theorem dX7_sortInto_16 : decode cX7_sortInto 16 = .ok (.getfield 65, 3) := by decide +kernel
theorem dX7_sortInto_19 : decode cX7_sortInto 19 = .ok (.aload_n 0, 1) := by decide +kernel
theorem dX7_sortInto_20 : decode cX7_sortInto 20 = .ok (.getfield 56, 3) := by decide +kernel
theorem dX7_sortInto_23 : decode cX7_sortInto 23 = .ok (.iload_n 2, 1) := by decide +kernel
theorem dX7_sortInto_24 : decode cX7_sortInto 24 = .ok (.iaload, 1) := by decide +kernel
theorem dX7_sortInto_25 : decode cX7_sortInto 25 = .ok (.sipush 999, 3) := by decide +kernel
theorem dX7_sortInto_28 : decode cX7_sortInto 28 = .ok (.iadd, 1) := by decide +kernel
theorem dX7_sortInto_29 : decode cX7_sortInto 29 = .ok (.dup2, 1) := by decide +kernel
theorem dX7_sortInto_30 : decode cX7_sortInto 30 = .ok (.iaload, 1) := by decide +kernel
theorem dX7_sortInto_31 : decode cX7_sortInto 31 = .ok (.iconst 1, 1) := by decide +kernel
theorem dX7_sortInto_32 : decode cX7_sortInto 32 = .ok (.iadd, 1) := by decide +kernel
theorem dX7_sortInto_33 : decode cX7_sortInto 33 = .ok (.iastore, 1) := by decide +kernel
theorem dX7_sortInto_34 : decode cX7_sortInto 34 = .ok (.iinc 2 1, 3) := by decide +kernel
theorem dX7_sortInto_37 : decode cX7_sortInto 37 = .ok (.goto (-27), 3) := by decide +kernel
theorem dX7_sortInto_40 : decode cX7_sortInto 40 = .ok (.iconst 0, 1) := by decide +kernel
theorem dX7_sortInto_41 : decode cX7_sortInto 41 = .ok (.istore_n 2, 1) := by decide +kernel
theorem dX7_sortInto_42 : decode cX7_sortInto 42 = .ok (.iconst 0, 1) := by decide +kernel
theorem dX7_sortInto_43 : decode cX7_sortInto 43 = .ok (.istore_n 3, 1) := by decide +kernel
theorem dX7_sortInto_44 : decode cX7_sortInto 44 = .ok (.iload_n 3, 1) := by decide +kernel
theorem dX7_sortInto_45 : decode cX7_sortInto 45 = .ok (.aload_n 0, 1) := by decide +kernel
theorem dX7_sortInto_46 : decode cX7_sortInto 46 = .ok (.getfield 65, 3) := by decide +kernel
theorem dX7_sortInto_49 : decode cX7_sortInto 49 = .ok (.arraylength, 1) := by decide +kernel
theorem dX7_sortInto_50 : decode cX7_sortInto 50 = .ok (.if_icmp .ge 42, 3) := by decide +kernel
theorem dX7_sortInto_53 : decode cX7_sortInto 53 = .ok (.aload_n 0, 1) := by decide +kernel
theorem dX7_sortInto_54 : decode cX7_sortInto 54 = .ok (.getfield 65, 3) := by decide +kernel
theorem dX7_sortInto_57 : decode cX7_sortInto 57 = .ok (.iload_n 3, 1) := by decide +kernel
theorem dX7_sortInto_58 : decode cX7_sortInto 58 = .ok (.iaload, 1) := by decide +kernel
theorem dX7_sortInto_59 : decode cX7_sortInto 59 = .ok (.istore 4, 2) := by decide +kernel
theorem dX7_sortInto_61 : decode cX7_sortInto 61 = .ok (.iload 4, 2) := by decide +kernel
theorem dX7_sortInto_63 : decode cX7_sortInto 63 = .ok (.ifCond .le 23, 3) := by decide +kernel
theorem dX7_sortInto_66 : decode cX7_sortInto 66 = .ok (.aload_n 0, 1) := by decide +kernel
theorem dX7_sortInto_67 : decode cX7_sortInto 67 = .ok (.getfield 62, 3) := by decide +kernel
theorem dX7_sortInto_70 : decode cX7_sortInto 70 = .ok (.iload_n 2, 1) := by decide +kernel
theorem dX7_sortInto_71 : decode cX7_sortInto 71 = .ok (.iload_n 3, 1) := by decide +kernel
theorem dX7_sortInto_72 : decode cX7_sortInto 72 = .ok (.sipush 999, 3) := by decide +kernel
theorem dX7_sortInto_75 : decode cX7_sortInto 75 = .ok (.isub, 1) := by decide +kernel
theorem dX7_sortInto_76 : decode cX7_sortInto 76 = .ok (.iastore, 1) := by decide +kernel
theorem dX7_sortInto_77 : decode cX7_sortInto 77 = .ok (.iinc 2 1, 3) := by decide +kernel
theorem dX7_sortInto_80 : decode cX7_sortInto 80 = .ok (.iinc 4 (-1), 3) := by decide +kernel
theorem dX7_sortInto_83 : decode cX7_sortInto 83 = .ok (.goto (-22), 3) := by decide +kernel
theorem dX7_sortInto_86 : decode cX7_sortInto 86 = .ok (.iinc 3 1, 3) := by decide +kernel
theorem dX7_sortInto_89 : decode cX7_sortInto 89 = .ok (.goto (-45), 3) := by decide +kernel
theorem dX7_sortInto_92 : decode cX7_sortInto 92 = .ok (.return_, 1) := by decide +kernel
theorem dX7_standsAt_0 : decode cX7_standsAt 0 = .ok (.iconst 0, 1) := by decide +kernel
theorem dX7_standsAt_1 : decode cX7_standsAt 1 = .ok (.istore_n 3, 1) := by decide +kernel
theorem dX7_standsAt_2 : decode cX7_standsAt 2 = .ok (.iload_n 3, 1) := by decide +kernel
theorem dX7_standsAt_3 : decode cX7_standsAt 3 = .ok (.iload_n 2, 1) := by decide +kernel
theorem dX7_standsAt_4 : decode cX7_standsAt 4 = .ok (.if_icmp .ge 26, 3) := by decide +kernel
theorem dX7_standsAt_7 : decode cX7_standsAt 7 = .ok (.aload_n 0, 1) := by decide +kernel
theorem dX7_standsAt_8 : decode cX7_standsAt 8 = .ok (.getfield 56, 3) := by decide +kernel
theorem dX7_standsAt_11 : decode cX7_standsAt 11 = .ok (.iload_n 1, 1) := by decide +kernel
theorem dX7_standsAt_12 : decode cX7_standsAt 12 = .ok (.iload_n 3, 1) := by decide +kernel
theorem dX7_standsAt_13 : decode cX7_standsAt 13 = .ok (.iadd, 1) := by decide +kernel
theorem dX7_standsAt_14 : decode cX7_standsAt 14 = .ok (.iaload, 1) := by decide +kernel
theorem dX7_standsAt_15 : decode cX7_standsAt 15 = .ok (.aload_n 0, 1) := by decide +kernel
theorem dX7_standsAt_16 : decode cX7_standsAt 16 = .ok (.getfield 59, 3) := by decide +kernel
theorem dX7_standsAt_19 : decode cX7_standsAt 19 = .ok (.iload_n 3, 1) := by decide +kernel
theorem dX7_standsAt_20 : decode cX7_standsAt 20 = .ok (.iaload, 1) := by decide +kernel
theorem dX7_standsAt_21 : decode cX7_standsAt 21 = .ok (.if_icmp .ne 9, 3) := by decide +kernel
theorem dX7_standsAt_24 : decode cX7_standsAt 24 = .ok (.iinc 3 1, 3) := by decide +kernel
theorem dX7_standsAt_27 : decode cX7_standsAt 27 = .ok (.goto (-25), 3) := by decide +kernel
theorem dX7_standsAt_30 : decode cX7_standsAt 30 = .ok (.iload_n 3, 1) := by decide +kernel
theorem dX7_standsAt_31 : decode cX7_standsAt 31 = .ok (.iload_n 2, 1) := by decide +kernel
theorem dX7_standsAt_32 : decode cX7_standsAt 32 = .ok (.if_icmp .ne 7, 3) := by decide +kernel
theorem dX7_standsAt_35 : decode cX7_standsAt 35 = .ok (.iconst 1, 1) := by decide +kernel
theorem dX7_standsAt_36 : decode cX7_standsAt 36 = .ok (.goto 4, 3) := by decide +kernel
theorem dX7_standsAt_39 : decode cX7_standsAt 39 = .ok (.iconst 0, 1) := by decide +kernel
theorem dX7_standsAt_40 : decode cX7_standsAt 40 = .ok (.ireturn, 1) := by decide +kernel
theorem dX7_seeAll_0 : decode cX7_seeAll 0 = .ok (.aload_n 0, 1) := by decide +kernel
theorem dX7_seeAll_1 : decode cX7_seeAll 1 = .ok (.getfield 10, 3) := by decide +kernel
theorem dX7_seeAll_4 : decode cX7_seeAll 4 = .ok (.aload_n 0, 1) := by decide +kernel
theorem dX7_seeAll_5 : decode cX7_seeAll 5 = .ok (.getfield 49, 3) := by decide +kernel
theorem dX7_seeAll_8 : decode cX7_seeAll 8 = .ok (.iload_n 1, 1) := by decide +kernel
theorem dX7_seeAll_9 : decode cX7_seeAll 9 = .ok (.iaload, 1) := by decide +kernel
theorem dX7_seeAll_10 : decode cX7_seeAll 10 = .ok (.aload_n 0, 1) := by decide +kernel
theorem dX7_seeAll_11 : decode cX7_seeAll 11 = .ok (.getfield 53, 3) := by decide +kernel
theorem dX7_seeAll_14 : decode cX7_seeAll 14 = .ok (.iload_n 1, 1) := by decide +kernel
theorem dX7_seeAll_15 : decode cX7_seeAll 15 = .ok (.iaload, 1) := by decide +kernel
theorem dX7_seeAll_16 : decode cX7_seeAll 16 = .ok (.invokevirtual 280, 3) := by decide +kernel
theorem dX7_seeAll_19 : decode cX7_seeAll 19 = .ok (.iconst 0, 1) := by decide +kernel
theorem dX7_seeAll_20 : decode cX7_seeAll 20 = .ok (.istore_n 3, 1) := by decide +kernel
theorem dX7_seeAll_21 : decode cX7_seeAll 21 = .ok (.iload_n 3, 1) := by decide +kernel
theorem dX7_seeAll_22 : decode cX7_seeAll 22 = .ok (.aload_n 0, 1) := by decide +kernel
theorem dX7_seeAll_23 : decode cX7_seeAll 23 = .ok (.getfield 53, 3) := by decide +kernel
theorem dX7_seeAll_26 : decode cX7_seeAll 26 = .ok (.iload_n 1, 1) := by decide +kernel
theorem dX7_seeAll_27 : decode cX7_seeAll 27 = .ok (.iaload, 1) := by decide +kernel
theorem dX7_seeAll_28 : decode cX7_seeAll 28 = .ok (.if_icmp .ge 19, 3) := by decide +kernel
theorem dX7_seeAll_31 : decode cX7_seeAll 31 = .ok (.aload_n 0, 1) := by decide +kernel
theorem dX7_seeAll_32 : decode cX7_seeAll 32 = .ok (.getfield 10, 3) := by decide +kernel
theorem dX7_seeAll_35 : decode cX7_seeAll 35 = .ok (.iload_n 3, 1) := by decide +kernel
theorem dX7_seeAll_36 : decode cX7_seeAll 36 = .ok (.iload_n 2, 1) := by decide +kernel
theorem dX7_seeAll_37 : decode cX7_seeAll 37 = .ok (.invokevirtual 289, 3) := by decide +kernel
theorem dX7_seeAll_40 : decode cX7_seeAll 40 = .ok (.pop, 1) := by decide +kernel
theorem dX7_seeAll_41 : decode cX7_seeAll 41 = .ok (.iinc 3 1, 3) := by decide +kernel
theorem dX7_seeAll_44 : decode cX7_seeAll 44 = .ok (.goto (-23), 3) := by decide +kernel
theorem dX7_seeAll_47 : decode cX7_seeAll 47 = .ok (.return_, 1) := by decide +kernel
theorem dX7_nodesInBoth_0 : decode cX7_nodesInBoth 0 = .ok (.aload_n 0, 1) := by decide +kernel
theorem dX7_nodesInBoth_1 : decode cX7_nodesInBoth 1 = .ok (.getfield 10, 3) := by decide +kernel
theorem dX7_nodesInBoth_4 : decode cX7_nodesInBoth 4 = .ok (.invokevirtual 277, 3) := by decide +kernel
theorem dX7_nodesInBoth_7 : decode cX7_nodesInBoth 7 = .ok (.aload_n 0, 1) := by decide +kernel
theorem dX7_nodesInBoth_8 : decode cX7_nodesInBoth 8 = .ok (.iload_n 1, 1) := by decide +kernel
theorem dX7_nodesInBoth_9 : decode cX7_nodesInBoth 9 = .ok (.iconst 1, 1) := by decide +kernel
theorem dX7_nodesInBoth_10 : decode cX7_nodesInBoth 10 = .ok (.invokevirtual 297, 3) := by decide +kernel
theorem dX7_nodesInBoth_13 : decode cX7_nodesInBoth 13 = .ok (.aload_n 0, 1) := by decide +kernel
theorem dX7_nodesInBoth_14 : decode cX7_nodesInBoth 14 = .ok (.getfield 10, 3) := by decide +kernel
theorem dX7_nodesInBoth_17 : decode cX7_nodesInBoth 17 = .ok (.aload_n 0, 1) := by decide +kernel
theorem dX7_nodesInBoth_18 : decode cX7_nodesInBoth 18 = .ok (.getfield 49, 3) := by decide +kernel
theorem dX7_nodesInBoth_21 : decode cX7_nodesInBoth 21 = .ok (.iload_n 2, 1) := by decide +kernel
theorem dX7_nodesInBoth_22 : decode cX7_nodesInBoth 22 = .ok (.iaload, 1) := by decide +kernel
theorem dX7_nodesInBoth_23 : decode cX7_nodesInBoth 23 = .ok (.aload_n 0, 1) := by decide +kernel
theorem dX7_nodesInBoth_24 : decode cX7_nodesInBoth 24 = .ok (.getfield 53, 3) := by decide +kernel
theorem dX7_nodesInBoth_27 : decode cX7_nodesInBoth 27 = .ok (.iload_n 2, 1) := by decide +kernel
theorem dX7_nodesInBoth_28 : decode cX7_nodesInBoth 28 = .ok (.iaload, 1) := by decide +kernel
theorem dX7_nodesInBoth_29 : decode cX7_nodesInBoth 29 = .ok (.invokevirtual 280, 3) := by decide +kernel
theorem dX7_nodesInBoth_32 : decode cX7_nodesInBoth 32 = .ok (.iconst 0, 1) := by decide +kernel
theorem dX7_nodesInBoth_33 : decode cX7_nodesInBoth 33 = .ok (.istore_n 3, 1) := by decide +kernel
theorem dX7_nodesInBoth_34 : decode cX7_nodesInBoth 34 = .ok (.iconst 0, 1) := by decide +kernel
theorem dX7_nodesInBoth_35 : decode cX7_nodesInBoth 35 = .ok (.istore 4, 2) := by decide +kernel
theorem dX7_nodesInBoth_37 : decode cX7_nodesInBoth 37 = .ok (.iload 4, 2) := by decide +kernel
theorem dX7_nodesInBoth_39 : decode cX7_nodesInBoth 39 = .ok (.aload_n 0, 1) := by decide +kernel
theorem dX7_nodesInBoth_40 : decode cX7_nodesInBoth 40 = .ok (.getfield 53, 3) := by decide +kernel
theorem dX7_nodesInBoth_43 : decode cX7_nodesInBoth 43 = .ok (.iload_n 2, 1) := by decide +kernel
theorem dX7_nodesInBoth_44 : decode cX7_nodesInBoth 44 = .ok (.iaload, 1) := by decide +kernel
theorem dX7_nodesInBoth_45 : decode cX7_nodesInBoth 45 = .ok (.if_icmp .ge 31, 3) := by decide +kernel
theorem dX7_nodesInBoth_48 : decode cX7_nodesInBoth 48 = .ok (.iload_n 3, 1) := by decide +kernel
theorem dX7_nodesInBoth_49 : decode cX7_nodesInBoth 49 = .ok (.aload_n 0, 1) := by decide +kernel
theorem dX7_nodesInBoth_50 : decode cX7_nodesInBoth 50 = .ok (.getfield 10, 3) := by decide +kernel
theorem dX7_nodesInBoth_53 : decode cX7_nodesInBoth 53 = .ok (.iload 4, 2) := by decide +kernel
theorem dX7_nodesInBoth_55 : decode cX7_nodesInBoth 55 = .ok (.iconst 2, 1) := by decide +kernel
theorem dX7_nodesInBoth_56 : decode cX7_nodesInBoth 56 = .ok (.invokevirtual 289, 3) := by decide +kernel
theorem dX7_nodesInBoth_59 : decode cX7_nodesInBoth 59 = .ok (.iconst 1, 1) := by decide +kernel
theorem dX7_nodesInBoth_60 : decode cX7_nodesInBoth 60 = .ok (.if_icmp .ne 7, 3) := by decide +kernel
theorem dX7_nodesInBoth_63 : decode cX7_nodesInBoth 63 = .ok (.iconst 1, 1) := by decide +kernel
theorem dX7_nodesInBoth_64 : decode cX7_nodesInBoth 64 = .ok (.goto 4, 3) := by decide +kernel
theorem dX7_nodesInBoth_67 : decode cX7_nodesInBoth 67 = .ok (.iconst 0, 1) := by decide +kernel
theorem dX7_nodesInBoth_68 : decode cX7_nodesInBoth 68 = .ok (.iadd, 1) := by decide +kernel
theorem dX7_nodesInBoth_69 : decode cX7_nodesInBoth 69 = .ok (.istore_n 3, 1) := by decide +kernel
theorem dX7_nodesInBoth_70 : decode cX7_nodesInBoth 70 = .ok (.iinc 4 1, 3) := by decide +kernel
theorem dX7_nodesInBoth_73 : decode cX7_nodesInBoth 73 = .ok (.goto (-36), 3) := by decide +kernel
theorem dX7_nodesInBoth_76 : decode cX7_nodesInBoth 76 = .ok (.iload_n 3, 1) := by decide +kernel
theorem dX7_nodesInBoth_77 : decode cX7_nodesInBoth 77 = .ok (.ireturn, 1) := by decide +kernel
theorem dX7_placesInUse_0 : decode cX7_placesInUse 0 = .ok (.iconst 0, 1) := by decide +kernel
theorem dX7_placesInUse_1 : decode cX7_placesInUse 1 = .ok (.istore_n 1, 1) := by decide +kernel
theorem dX7_placesInUse_2 : decode cX7_placesInUse 2 = .ok (.iconst 0, 1) := by decide +kernel
theorem dX7_placesInUse_3 : decode cX7_placesInUse 3 = .ok (.istore_n 2, 1) := by decide +kernel
theorem dX7_placesInUse_4 : decode cX7_placesInUse 4 = .ok (.iload_n 2, 1) := by decide +kernel
theorem dX7_placesInUse_5 : decode cX7_placesInUse 5 = .ok (.bipush 6, 2) := by decide +kernel
theorem dX7_placesInUse_7 : decode cX7_placesInUse 7 = .ok (.if_icmp .ge 28, 3) := by decide +kernel
theorem dX7_placesInUse_10 : decode cX7_placesInUse 10 = .ok (.iload_n 1, 1) := by decide +kernel
theorem dX7_placesInUse_11 : decode cX7_placesInUse 11 = .ok (.aload_n 0, 1) := by decide +kernel
theorem dX7_placesInUse_12 : decode cX7_placesInUse 12 = .ok (.getfield 53, 3) := by decide +kernel
theorem dX7_placesInUse_15 : decode cX7_placesInUse 15 = .ok (.iload_n 2, 1) := by decide +kernel
theorem dX7_placesInUse_16 : decode cX7_placesInUse 16 = .ok (.iaload, 1) := by decide +kernel
theorem dX7_placesInUse_17 : decode cX7_placesInUse 17 = .ok (.ifCond .le 9, 3) := by decide +kernel
theorem dX7_placesInUse_20 : decode cX7_placesInUse 20 = .ok (.iconst 1, 1) := by decide +kernel
theorem dX7_placesInUse_21 : decode cX7_placesInUse 21 = .ok (.iload_n 2, 1) := by decide +kernel
theorem dX7_placesInUse_22 : decode cX7_placesInUse 22 = .ok (.ishl, 1) := by decide +kernel
theorem dX7_placesInUse_23 : decode cX7_placesInUse 23 = .ok (.goto 4, 3) := by decide +kernel
theorem dX7_placesInUse_26 : decode cX7_placesInUse 26 = .ok (.iconst 0, 1) := by decide +kernel
theorem dX7_placesInUse_27 : decode cX7_placesInUse 27 = .ok (.ior, 1) := by decide +kernel
theorem dX7_placesInUse_28 : decode cX7_placesInUse 28 = .ok (.istore_n 1, 1) := by decide +kernel
theorem dX7_placesInUse_29 : decode cX7_placesInUse 29 = .ok (.iinc 2 1, 3) := by decide +kernel
theorem dX7_placesInUse_32 : decode cX7_placesInUse 32 = .ok (.goto (-28), 3) := by decide +kernel
theorem dX7_placesInUse_35 : decode cX7_placesInUse 35 = .ok (.iload_n 1, 1) := by decide +kernel
theorem dX7_placesInUse_36 : decode cX7_placesInUse 36 = .ok (.ireturn, 1) := by decide +kernel
theorem dX8_init_0 : decode cX8_init 0 = .ok (.aload_n 0, 1) := by decide +kernel
theorem dX8_init_1 : decode cX8_init 1 = .ok (.invokespecial 1, 3) := by decide +kernel
theorem dX8_init_4 : decode cX8_init 4 = .ok (.aload_n 0, 1) := by decide +kernel
theorem dX8_init_5 : decode cX8_init 5 = .ok (.sipush 2560, 3) := by decide +kernel
theorem dX8_init_8 : decode cX8_init 8 = .ok (.newarray .int, 2) := by decide +kernel
theorem dX8_init_10 : decode cX8_init 10 = .ok (.putfield 7, 3) := by decide +kernel
theorem dX8_init_13 : decode cX8_init 13 = .ok (.aload_n 0, 1) := by decide +kernel
theorem dX8_init_14 : decode cX8_init 14 = .ok (.sipush 2560, 3) := by decide +kernel
theorem dX8_init_17 : decode cX8_init 17 = .ok (.newarray .int, 2) := by decide +kernel
theorem dX8_init_19 : decode cX8_init 19 = .ok (.putfield 13, 3) := by decide +kernel
theorem dX8_init_22 : decode cX8_init 22 = .ok (.aload_n 0, 1) := by decide +kernel
theorem dX8_init_23 : decode cX8_init 23 = .ok (.bipush 10, 2) := by decide +kernel
theorem dX8_init_25 : decode cX8_init 25 = .ok (.newarray .int, 2) := by decide +kernel
theorem dX8_init_27 : decode cX8_init 27 = .ok (.putfield 16, 3) := by decide +kernel
theorem dX8_init_30 : decode cX8_init 30 = .ok (.aload_n 0, 1) := by decide +kernel
theorem dX8_init_31 : decode cX8_init 31 = .ok (.sipush 200, 3) := by decide +kernel
theorem dX8_init_34 : decode cX8_init 34 = .ok (.newarray .byte, 2) := by decide +kernel
theorem dX8_init_36 : decode cX8_init 36 = .ok (.putfield 19, 3) := by decide +kernel
theorem dX8_init_39 : decode cX8_init 39 = .ok (.aload_n 0, 1) := by decide +kernel
theorem dX8_init_40 : decode cX8_init 40 = .ok (.bipush 32, 2) := by decide +kernel
theorem dX8_init_42 : decode cX8_init 42 = .ok (.newarray .long, 2) := by decide +kernel
theorem dX8_init_44 : decode cX8_init 44 = .ok (.putfield 23, 3) := by decide +kernel
theorem dX8_init_47 : decode cX8_init 47 = .ok (.aload_n 0, 1) := by decide +kernel
theorem dX8_init_48 : decode cX8_init 48 = .ok (.bipush 8, 2) := by decide +kernel
theorem dX8_init_50 : decode cX8_init 50 = .ok (.newarray .int, 2) := by decide +kernel
theorem dX8_init_52 : decode cX8_init 52 = .ok (.putfield 27, 3) := by decide +kernel
theorem dX8_init_55 : decode cX8_init 55 = .ok (.aload_n 0, 1) := by decide +kernel
theorem dX8_init_56 : decode cX8_init 56 = .ok (.sipush 256, 3) := by decide +kernel
theorem dX8_init_59 : decode cX8_init 59 = .ok (.newarray .boolean, 2) := by decide +kernel
theorem dX8_init_61 : decode cX8_init 61 = .ok (.putfield 30, 3) := by decide +kernel
theorem dX8_init_64 : decode cX8_init 64 = .ok (.aload_n 0, 1) := by decide +kernel
theorem dX8_init_65 : decode cX8_init 65 = .ok (.sipush 200, 3) := by decide +kernel
theorem dX8_init_68 : decode cX8_init 68 = .ok (.newarray .int, 2) := by decide +kernel
theorem dX8_init_70 : decode cX8_init 70 = .ok (.putfield 34, 3) := by decide +kernel
theorem dX8_init_73 : decode cX8_init 73 = .ok (.aload_n 0, 1) := by decide +kernel
theorem dX8_init_74 : decode cX8_init 74 = .ok (.sipush 200, 3) := by decide +kernel
theorem dX8_init_77 : decode cX8_init 77 = .ok (.newarray .int, 2) := by decide +kernel
theorem dX8_init_79 : decode cX8_init 79 = .ok (.putfield 37, 3) := by decide +kernel
theorem dX8_init_82 : decode cX8_init 82 = .ok (.aload_n 0, 1) := by decide +kernel
theorem dX8_init_83 : decode cX8_init 83 = .ok (.sipush 200, 3) := by decide +kernel
theorem dX8_init_86 : decode cX8_init 86 = .ok (.newarray .int, 2) := by decide +kernel
theorem dX8_init_88 : decode cX8_init 88 = .ok (.putfield 40, 3) := by decide +kernel
theorem dX8_init_91 : decode cX8_init 91 = .ok (.aload_n 0, 1) := by decide +kernel
theorem dX8_init_92 : decode cX8_init 92 = .ok (.sipush 200, 3) := by decide +kernel
theorem dX8_init_95 : decode cX8_init 95 = .ok (.newarray .int, 2) := by decide +kernel
theorem dX8_init_97 : decode cX8_init 97 = .ok (.putfield 43, 3) := by decide +kernel
theorem dX8_init_100 : decode cX8_init 100 = .ok (.aload_n 0, 1) := by decide +kernel
theorem dX8_init_101 : decode cX8_init 101 = .ok (.sipush 400, 3) := by decide +kernel
theorem dX8_init_104 : decode cX8_init 104 = .ok (.newarray .int, 2) := by decide +kernel
theorem dX8_init_106 : decode cX8_init 106 = .ok (.putfield 46, 3) := by decide +kernel
theorem dX8_init_109 : decode cX8_init 109 = .ok (.aload_n 0, 1) := by decide +kernel
theorem dX8_init_110 : decode cX8_init 110 = .ok (.sipush 200, 3) := by decide +kernel
theorem dX8_init_113 : decode cX8_init 113 = .ok (.newarray .int, 2) := by decide +kernel
theorem dX8_init_115 : decode cX8_init 115 = .ok (.putfield 49, 3) := by decide +kernel
theorem dX8_init_118 : decode cX8_init 118 = .ok (.aload_n 0, 1) := by decide +kernel
theorem dX8_init_119 : decode cX8_init 119 = .ok (.sipush 200, 3) := by decide +kernel
theorem dX8_init_122 : decode cX8_init 122 = .ok (.newarray .int, 2) := by decide +kernel
theorem dX8_init_124 : decode cX8_init 124 = .ok (.putfield 52, 3) := by decide +kernel
theorem dX8_init_127 : decode cX8_init 127 = .ok (.return_, 1) := by decide +kernel
theorem dX8_thrown_0 : decode cX8_thrown 0 = .ok (.aload_n 0, 1) := by decide +kernel
theorem dX8_thrown_1 : decode cX8_thrown 1 = .ok (.getfield 55, 3) := by decide +kernel
theorem dX8_thrown_4 : decode cX8_thrown 4 = .ok (.ireturn, 1) := by decide +kernel
theorem dX8_in_0 : decode cX8_in 0 = .ok (.lload_n 0, 1) := by decide +kernel
theorem dX8_in_1 : decode cX8_in 1 = .ok (.lload_n 2, 1) := by decide +kernel
theorem dX8_in_2 : decode cX8_in 2 = .ok (.lcmp, 1) := by decide +kernel
theorem dX8_in_3 : decode cX8_in 3 = .ok (.ifCond .lt 14, 3) := by decide +kernel
theorem dX8_in_6 : decode cX8_in 6 = .ok (.lload_n 0, 1) := by decide +kernel
theorem dX8_in_7 : decode cX8_in 7 = .ok (.lload 4, 2) := by decide +kernel
theorem dX8_in_9 : decode cX8_in 9 = .ok (.lcmp, 1) := by decide +kernel
theorem dX8_in_10 : decode cX8_in 10 = .ok (.ifCond .gt 7, 3) := by decide +kernel
theorem dX8_in_13 : decode cX8_in 13 = .ok (.iconst 1, 1) := by decide +kernel
theorem dX8_in_14 : decode cX8_in 14 = .ok (.goto 4, 3) := by decide +kernel
theorem dX8_in_17 : decode cX8_in 17 = .ok (.iconst 0, 1) := by decide +kernel
theorem dX8_in_18 : decode cX8_in 18 = .ok (.ireturn, 1) := by decide +kernel
theorem dX8_lost_0 : decode cX8_lost 0 = .ok (.aload_n 0, 1) := by decide +kernel
theorem dX8_lost_1 : decode cX8_lost 1 = .ok (.iconst 1, 1) := by decide +kernel
theorem dX8_lost_2 : decode cX8_lost 2 = .ok (.putfield 55, 3) := by decide +kernel
theorem dX8_lost_5 : decode cX8_lost 5 = .ok (.iconst 0, 1) := by decide +kernel
theorem dX8_lost_6 : decode cX8_lost 6 = .ok (.ireturn, 1) := by decide +kernel
theorem dX8_tell_0 : decode cX8_tell 0 = .ok (.aload_n 0, 1) := by decide +kernel
theorem dX8_tell_1 : decode cX8_tell 1 = .ok (.getfield 23, 3) := by decide +kernel
theorem dX8_tell_4 : decode cX8_tell 4 = .ok (.aload_n 0, 1) := by decide +kernel
theorem dX8_tell_5 : decode cX8_tell 5 = .ok (.getfield 59, 3) := by decide +kernel
theorem dX8_tell_8 : decode cX8_tell 8 = .ok (.lload_n 1, 1) := by decide +kernel
theorem dX8_tell_9 : decode cX8_tell 9 = .ok (.lastore, 1) := by decide +kernel
theorem dX8_tell_10 : decode cX8_tell 10 = .ok (.aload_n 0, 1) := by decide +kernel
theorem dX8_tell_11 : decode cX8_tell 11 = .ok (.dup, 1) := by decide +kernel
theorem dX8_tell_12 : decode cX8_tell 12 = .ok (.getfield 59, 3) := by decide +kernel
theorem dX8_tell_15 : decode cX8_tell 15 = .ok (.iconst 1, 1) := by decide +kernel
theorem dX8_tell_16 : decode cX8_tell 16 = .ok (.iadd, 1) := by decide +kernel
theorem dX8_tell_17 : decode cX8_tell 17 = .ok (.putfield 59, 3) := by decide +kernel
theorem dX8_tell_20 : decode cX8_tell 20 = .ok (.return_, 1) := by decide +kernel
theorem dX8_sign_0 : decode cX8_sign 0 = .ok (.aload_n 0, 1) := by decide +kernel
theorem dX8_sign_1 : decode cX8_sign 1 = .ok (.iconst 0, 1) := by decide +kernel
theorem dX8_sign_2 : decode cX8_sign 2 = .ok (.putfield 55, 3) := by decide +kernel
theorem dX8_sign_5 : decode cX8_sign 5 = .ok (.aload_n 0, 1) := by decide +kernel
theorem dX8_sign_6 : decode cX8_sign 6 = .ok (.getfield 62, 3) := by decide +kernel
theorem dX8_sign_9 : decode cX8_sign 9 = .ok (.iconst 4, 1) := by decide +kernel
theorem dX8_sign_10 : decode cX8_sign 10 = .ok (.iadd, 1) := by decide +kernel
theorem dX8_sign_11 : decode cX8_sign 11 = .ok (.sipush 200, 3) := by decide +kernel
theorem dX8_sign_14 : decode cX8_sign 14 = .ok (.if_icmp .le 5, 3) := by decide +kernel
theorem dX8_sign_17 : decode cX8_sign 17 = .ok (.iconst (-1), 1) := by decide +kernel
theorem dX8_sign_18 : decode cX8_sign 18 = .ok (.ireturn, 1) := by decide +kernel
theorem dX8_sign_19 : decode cX8_sign 19 = .ok (.iconst 3, 1) := by decide +kernel
theorem dX8_sign_20 : decode cX8_sign 20 = .ok (.istore_n 2, 1) := by decide +kernel
theorem dX8_sign_21 : decode cX8_sign 21 = .ok (.iload_n 2, 1) := by decide +kernel
theorem dX8_sign_22 : decode cX8_sign 22 = .ok (.ifCond .lt 32, 3) := by decide +kernel
theorem dX8_sign_25 : decode cX8_sign 25 = .ok (.aload_n 0, 1) := by decide +kernel
theorem dX8_sign_26 : decode cX8_sign 26 = .ok (.getfield 19, 3) := by decide +kernel
theorem dX8_sign_29 : decode cX8_sign 29 = .ok (.aload_n 0, 1) := by decide +kernel
theorem dX8_sign_30 : decode cX8_sign 30 = .ok (.dup, 1) := by decide +kernel
theorem dX8_sign_31 : decode cX8_sign 31 = .ok (.getfield 62, 3) := by decide +kernel
theorem dX8_sign_34 : decode cX8_sign 34 = .ok (.dup_x1, 1) := by decide +kernel
theorem dX8_sign_35 : decode cX8_sign 35 = .ok (.iconst 1, 1) := by decide +kernel
theorem dX8_sign_36 : decode cX8_sign 36 = .ok (.iadd, 1) := by decide +kernel
theorem dX8_sign_37 : decode cX8_sign 37 = .ok (.putfield 62, 3) := by decide +kernel
theorem dX8_sign_40 : decode cX8_sign 40 = .ok (.iload_n 1, 1) := by decide +kernel
theorem dX8_sign_41 : decode cX8_sign 41 = .ok (.bipush 8, 2) := by decide +kernel
theorem dX8_sign_43 : decode cX8_sign 43 = .ok (.iload_n 2, 1) := by decide +kernel
theorem dX8_sign_44 : decode cX8_sign 44 = .ok (.imul, 1) := by decide +kernel
theorem dX8_sign_45 : decode cX8_sign 45 = .ok (.ishr, 1) := by decide +kernel
theorem dX8_sign_46 : decode cX8_sign 46 = .ok (.i2b, 1) := by decide +kernel
theorem dX8_sign_47 : decode cX8_sign 47 = .ok (.bastore, 1) := by decide +kernel
theorem dX8_sign_48 : decode cX8_sign 48 = .ok (.iinc 2 (-1), 3) := by decide +kernel
theorem dX8_sign_51 : decode cX8_sign 51 = .ok (.goto (-30), 3) := by decide +kernel
theorem dX8_sign_54 : decode cX8_sign 54 = .ok (.aload_n 0, 1) := by decide +kernel
theorem dX8_sign_55 : decode cX8_sign 55 = .ok (.getfield 62, 3) := by decide +kernel
theorem dX8_sign_58 : decode cX8_sign 58 = .ok (.ireturn, 1) := by decide +kernel
theorem dX8_end_0 : decode cX8_end 0 = .ok (.aload_n 0, 1) := by decide +kernel
theorem dX8_end_1 : decode cX8_end 1 = .ok (.iconst 0, 1) := by decide +kernel
theorem dX8_end_2 : decode cX8_end 2 = .ok (.putfield 55, 3) := by decide +kernel
theorem dX8_end_5 : decode cX8_end 5 = .ok (.iload_n 1, 1) := by decide +kernel
theorem dX8_end_6 : decode cX8_end 6 = .ok (.i2l, 1) := by decide +kernel
theorem dX8_end_7 : decode cX8_end 7 = .ok (.lconst 0, 1) := by decide +kernel
theorem dX8_end_8 : decode cX8_end 8 = .ok (.aload_n 0, 1) := by decide +kernel
theorem dX8_end_9 : decode cX8_end 9 = .ok (.getfield 62, 3) := by decide +kernel
theorem dX8_end_12 : decode cX8_end 12 = .ok (.i2l, 1) := by decide +kernel
theorem dX8_end_13 : decode cX8_end 13 = .ok (.invokestatic 65, 3) := by decide +kernel
theorem dX8_end_16 : decode cX8_end 16 = .ok (.ifCond .ne 5, 3) := by decide +kernel
theorem dX8_end_19 : decode cX8_end 19 = .ok (.iconst 0, 1) := by decide +kernel
theorem dX8_end_20 : decode cX8_end 20 = .ok (.ireturn, 1) := by decide +kernel
theorem dX8_end_21 : decode cX8_end 21 = .ok (.aload_n 0, 1) := by decide +kernel
theorem dX8_end_22 : decode cX8_end 22 = .ok (.iload_n 1, 1) := by decide +kernel
theorem dX8_end_23 : decode cX8_end 23 = .ok (.putfield 62, 3) := by decide +kernel
theorem dX8_end_26 : decode cX8_end 26 = .ok (.iconst 1, 1) := by decide +kernel
theorem dX8_end_27 : decode cX8_end 27 = .ok (.ireturn, 1) := by decide +kernel
theorem dX8_isPlace_0 : decode cX8_isPlace 0 = .ok (.iload_n 0, 1) := by decide +kernel
theorem dX8_isPlace_1 : decode cX8_isPlace 1 = .ok (.i2l, 1) := by decide +kernel
theorem dX8_isPlace_2 : decode cX8_isPlace 2 = .ok (.lconst 0, 1) := by decide +kernel
theorem dX8_isPlace_3 : decode cX8_isPlace 3 = .ok (.ldc2_w 69, 3) := by decide +kernel
theorem dX8_isPlace_6 : decode cX8_isPlace 6 = .ok (.invokestatic 65, 3) := by decide +kernel
theorem dX8_isPlace_9 : decode cX8_isPlace 9 = .ok (.ireturn, 1) := by decide +kernel
theorem dX8_isNumber_0 : decode cX8_isNumber 0 = .ok (.iload_n 0, 1) := by decide +kernel
theorem dX8_isNumber_1 : decode cX8_isNumber 1 = .ok (.i2l, 1) := by decide +kernel
theorem dX8_isNumber_2 : decode cX8_isNumber 2 = .ok (.ldc2_w 71, 3) := by decide +kernel
theorem dX8_isNumber_5 : decode cX8_isNumber 5 = .ok (.ldc2_w 73, 3) := by decide +kernel
theorem dX8_isNumber_8 : decode cX8_isNumber 8 = .ok (.invokestatic 65, 3) := by decide +kernel
theorem dX8_isNumber_11 : decode cX8_isNumber 11 = .ok (.ireturn, 1) := by decide +kernel
theorem dX8_isIndex_0 : decode cX8_isIndex 0 = .ok (.iload_n 2, 1) := by decide +kernel
theorem dX8_isIndex_1 : decode cX8_isIndex 1 = .ok (.i2l, 1) := by decide +kernel
theorem dX8_isIndex_2 : decode cX8_isIndex 2 = .ok (.lconst 0, 1) := by decide +kernel
theorem dX8_isIndex_3 : decode cX8_isIndex 3 = .ok (.aload_n 0, 1) := by decide +kernel
theorem dX8_isIndex_4 : decode cX8_isIndex 4 = .ok (.getfield 16, 3) := by decide +kernel
theorem dX8_isIndex_7 : decode cX8_isIndex 7 = .ok (.iload_n 1, 1) := by decide +kernel
theorem dX8_isIndex_8 : decode cX8_isIndex 8 = .ok (.iaload, 1) := by decide +kernel
theorem dX8_isIndex_9 : decode cX8_isIndex 9 = .ok (.iconst 1, 1) := by decide +kernel
theorem dX8_isIndex_10 : decode cX8_isIndex 10 = .ok (.isub, 1) := by decide +kernel
theorem dX8_isIndex_11 : decode cX8_isIndex 11 = .ok (.i2l, 1) := by decide +kernel
theorem dX8_isIndex_12 : decode cX8_isIndex 12 = .ok (.invokestatic 65, 3) := by decide +kernel
theorem dX8_isIndex_15 : decode cX8_isIndex 15 = .ok (.ireturn, 1) := by decide +kernel
theorem dX8_leftSize_0 : decode cX8_leftSize 0 = .ok (.iload_n 0, 1) := by decide +kernel
theorem dX8_leftSize_1 : decode cX8_leftSize 1 = .ok (.iconst 2, 1) := by decide +kernel
theorem dX8_leftSize_2 : decode cX8_leftSize 2 = .ok (.idiv, 1) := by decide +kernel
theorem dX8_leftSize_3 : decode cX8_leftSize 3 = .ok (.ireturn, 1) := by decide +kernel
theorem dX8_rightSize_0 : decode cX8_rightSize 0 = .ok (.iload_n 0, 1) := by decide +kernel
theorem dX8_rightSize_1 : decode cX8_rightSize 1 = .ok (.ifCond .le 11, 3) := by decide +kernel
theorem dX8_rightSize_4 : decode cX8_rightSize 4 = .ok (.iload_n 0, 1) := by decide +kernel
theorem dX8_rightSize_5 : decode cX8_rightSize 5 = .ok (.iconst 1, 1) := by decide +kernel
theorem dX8_rightSize_6 : decode cX8_rightSize 6 = .ok (.isub, 1) := by decide +kernel
theorem dX8_rightSize_7 : decode cX8_rightSize 7 = .ok (.iconst 2, 1) := by decide +kernel
theorem dX8_rightSize_8 : decode cX8_rightSize 8 = .ok (.idiv, 1) := by decide +kernel
theorem dX8_rightSize_9 : decode cX8_rightSize 9 = .ok (.goto 4, 3) := by decide +kernel
theorem dX8_rightSize_12 : decode cX8_rightSize 12 = .ok (.iconst 0, 1) := by decide +kernel
theorem dX8_rightSize_13 : decode cX8_rightSize 13 = .ok (.ireturn, 1) := by decide +kernel
theorem dX8_number_0 : decode cX8_number 0 = .ok (.aload_n 0, 1) := by decide +kernel
theorem dX8_number_1 : decode cX8_number 1 = .ok (.getfield 7, 3) := by decide +kernel
theorem dX8_number_4 : decode cX8_number 4 = .ok (.sipush 256, 3) := by decide +kernel
theorem dX8_number_7 : decode cX8_number 7 = .ok (.iload_n 1, 1) := by decide +kernel
theorem dX8_number_8 : decode cX8_number 8 = .ok (.imul, 1) := by decide +kernel
theorem dX8_number_9 : decode cX8_number 9 = .ok (.iload_n 2, 1) := by decide +kernel
theorem dX8_number_10 : decode cX8_number 10 = .ok (.iadd, 1) := by decide +kernel
theorem dX8_number_11 : decode cX8_number 11 = .ok (.iaload, 1) := by decide +kernel
theorem dX8_number_12 : decode cX8_number 12 = .ok (.ireturn, 1) := by decide +kernel
theorem dX8_node_0 : decode cX8_node 0 = .ok (.aload_n 0, 1) := by decide +kernel
theorem dX8_node_1 : decode cX8_node 1 = .ok (.getfield 13, 3) := by decide +kernel
theorem dX8_node_4 : decode cX8_node 4 = .ok (.sipush 256, 3) := by decide +kernel
theorem dX8_node_7 : decode cX8_node 7 = .ok (.iload_n 1, 1) := by decide +kernel
theorem dX8_node_8 : decode cX8_node 8 = .ok (.imul, 1) := by decide +kernel
theorem dX8_node_9 : decode cX8_node 9 = .ok (.iload_n 2, 1) := by decide +kernel
theorem dX8_node_10 : decode cX8_node 10 = .ok (.iadd, 1) := by decide +kernel
theorem dX8_node_11 : decode cX8_node 11 = .ok (.iaload, 1) := by decide +kernel
theorem dX8_node_12 : decode cX8_node 12 = .ok (.ireturn, 1) := by decide +kernel
theorem dX8_makes_0 : decode cX8_makes 0 = .ok (.aload_n 0, 1) := by decide +kernel
theorem dX8_makes_1 : decode cX8_makes 1 = .ok (.dup, 1) := by decide +kernel
theorem dX8_makes_2 : decode cX8_makes 2 = .ok (.getfield 75, 3) := by decide +kernel
theorem dX8_makes_5 : decode cX8_makes 5 = .ok (.iconst 1, 1) := by decide +kernel
theorem dX8_makes_6 : decode cX8_makes 6 = .ok (.iadd, 1) := by decide +kernel
theorem dX8_makes_7 : decode cX8_makes 7 = .ok (.putfield 75, 3) := by decide +kernel
theorem dX8_makes_10 : decode cX8_makes 10 = .ok (.aload_n 0, 1) := by decide +kernel
theorem dX8_makes_11 : decode cX8_makes 11 = .ok (.getfield 7, 3) := by decide +kernel
theorem dX8_makes_14 : decode cX8_makes 14 = .ok (.sipush 256, 3) := by decide +kernel
theorem dX8_makes_17 : decode cX8_makes 17 = .ok (.iload_n 1, 1) := by decide +kernel
theorem dX8_makes_18 : decode cX8_makes 18 = .ok (.imul, 1) := by decide +kernel
theorem dX8_makes_19 : decode cX8_makes 19 = .ok (.iload_n 2, 1) := by decide +kernel
theorem dX8_makes_20 : decode cX8_makes 20 = .ok (.iadd, 1) := by decide +kernel
theorem dX8_makes_21 : decode cX8_makes 21 = .ok (.iload_n 3, 1) := by decide +kernel
theorem dX8_makes_22 : decode cX8_makes 22 = .ok (.iastore, 1) := by decide +kernel
theorem dX8_makes_23 : decode cX8_makes 23 = .ok (.aload_n 0, 1) := by decide +kernel
theorem dX8_makes_24 : decode cX8_makes 24 = .ok (.getfield 13, 3) := by decide +kernel
theorem dX8_makes_27 : decode cX8_makes 27 = .ok (.sipush 256, 3) := by decide +kernel
theorem dX8_makes_30 : decode cX8_makes 30 = .ok (.iload_n 1, 1) := by decide +kernel
theorem dX8_makes_31 : decode cX8_makes 31 = .ok (.imul, 1) := by decide +kernel
theorem dX8_makes_32 : decode cX8_makes 32 = .ok (.iload_n 2, 1) := by decide +kernel
theorem dX8_makes_33 : decode cX8_makes 33 = .ok (.iadd, 1) := by decide +kernel
theorem dX8_makes_34 : decode cX8_makes 34 = .ok (.aload_n 0, 1) := by decide +kernel
theorem dX8_makes_35 : decode cX8_makes 35 = .ok (.getfield 75, 3) := by decide +kernel
theorem dX8_makes_38 : decode cX8_makes 38 = .ok (.iastore, 1) := by decide +kernel
theorem dX8_makes_39 : decode cX8_makes 39 = .ok (.return_, 1) := by decide +kernel
theorem dX8_shares_0 : decode cX8_shares 0 = .ok (.iconst 0, 1) := by decide +kernel
theorem dX8_shares_1 : decode cX8_shares 1 = .ok (.istore 8, 2) := by decide +kernel
theorem dX8_shares_3 : decode cX8_shares 3 = .ok (.iload 8, 2) := by decide +kernel
theorem dX8_shares_5 : decode cX8_shares 5 = .ok (.iload 4, 2) := by decide +kernel
theorem dX8_shares_7 : decode cX8_shares 7 = .ok (.if_icmp .ge 83, 3) := by decide +kernel
theorem dX8_shares_10 : decode cX8_shares 10 = .ok (.aload_n 0, 1) := by decide +kernel
theorem dX8_shares_11 : decode cX8_shares 11 = .ok (.getfield 7, 3) := by decide +kernel
theorem dX8_shares_14 : decode cX8_shares 14 = .ok (.sipush 256, 3) := by decide +kernel
theorem dX8_shares_17 : decode cX8_shares 17 = .ok (.iload 5, 2) := by decide +kernel
theorem dX8_shares_19 : decode cX8_shares 19 = .ok (.imul, 1) := by decide +kernel
theorem dX8_shares_20 : decode cX8_shares 20 = .ok (.iload 6, 2) := by decide +kernel
theorem dX8_shares_22 : decode cX8_shares 22 = .ok (.iadd, 1) := by decide +kernel
theorem dX8_shares_23 : decode cX8_shares 23 = .ok (.iload 7, 2) := by decide +kernel
theorem dX8_shares_25 : decode cX8_shares 25 = .ok (.iload 8, 2) := by decide +kernel
theorem dX8_shares_27 : decode cX8_shares 27 = .ok (.imul, 1) := by decide +kernel
theorem dX8_shares_28 : decode cX8_shares 28 = .ok (.iadd, 1) := by decide +kernel
theorem dX8_shares_29 : decode cX8_shares 29 = .ok (.aload_n 0, 1) := by decide +kernel
theorem dX8_shares_30 : decode cX8_shares 30 = .ok (.getfield 7, 3) := by decide +kernel
theorem dX8_shares_33 : decode cX8_shares 33 = .ok (.sipush 256, 3) := by decide +kernel
theorem dX8_shares_36 : decode cX8_shares 36 = .ok (.iload_n 1, 1) := by decide +kernel
theorem dX8_shares_37 : decode cX8_shares 37 = .ok (.imul, 1) := by decide +kernel
theorem dX8_shares_38 : decode cX8_shares 38 = .ok (.iload_n 2, 1) := by decide +kernel
theorem dX8_shares_39 : decode cX8_shares 39 = .ok (.iadd, 1) := by decide +kernel
theorem dX8_shares_40 : decode cX8_shares 40 = .ok (.iload_n 3, 1) := by decide +kernel
theorem dX8_shares_41 : decode cX8_shares 41 = .ok (.iload 8, 2) := by decide +kernel
theorem dX8_shares_43 : decode cX8_shares 43 = .ok (.imul, 1) := by decide +kernel
theorem dX8_shares_44 : decode cX8_shares 44 = .ok (.iadd, 1) := by decide +kernel
theorem dX8_shares_45 : decode cX8_shares 45 = .ok (.iaload, 1) := by decide +kernel
theorem dX8_shares_46 : decode cX8_shares 46 = .ok (.iastore, 1) := by decide +kernel
theorem dX8_shares_47 : decode cX8_shares 47 = .ok (.aload_n 0, 1) := by decide +kernel
theorem dX8_shares_48 : decode cX8_shares 48 = .ok (.getfield 13, 3) := by decide +kernel
theorem dX8_shares_51 : decode cX8_shares 51 = .ok (.sipush 256, 3) := by decide +kernel
theorem dX8_shares_54 : decode cX8_shares 54 = .ok (.iload 5, 2) := by decide +kernel
theorem dX8_shares_56 : decode cX8_shares 56 = .ok (.imul, 1) := by decide +kernel
theorem dX8_shares_57 : decode cX8_shares 57 = .ok (.iload 6, 2) := by decide +kernel
theorem dX8_shares_59 : decode cX8_shares 59 = .ok (.iadd, 1) := by decide +kernel
theorem dX8_shares_60 : decode cX8_shares 60 = .ok (.iload 7, 2) := by decide +kernel
theorem dX8_shares_62 : decode cX8_shares 62 = .ok (.iload 8, 2) := by decide +kernel
theorem dX8_shares_64 : decode cX8_shares 64 = .ok (.imul, 1) := by decide +kernel
theorem dX8_shares_65 : decode cX8_shares 65 = .ok (.iadd, 1) := by decide +kernel
theorem dX8_shares_66 : decode cX8_shares 66 = .ok (.aload_n 0, 1) := by decide +kernel
theorem dX8_shares_67 : decode cX8_shares 67 = .ok (.getfield 13, 3) := by decide +kernel
theorem dX8_shares_70 : decode cX8_shares 70 = .ok (.sipush 256, 3) := by decide +kernel
theorem dX8_shares_73 : decode cX8_shares 73 = .ok (.iload_n 1, 1) := by decide +kernel
theorem dX8_shares_74 : decode cX8_shares 74 = .ok (.imul, 1) := by decide +kernel
theorem dX8_shares_75 : decode cX8_shares 75 = .ok (.iload_n 2, 1) := by decide +kernel
theorem dX8_shares_76 : decode cX8_shares 76 = .ok (.iadd, 1) := by decide +kernel
theorem dX8_shares_77 : decode cX8_shares 77 = .ok (.iload_n 3, 1) := by decide +kernel
theorem dX8_shares_78 : decode cX8_shares 78 = .ok (.iload 8, 2) := by decide +kernel
theorem dX8_shares_80 : decode cX8_shares 80 = .ok (.imul, 1) := by decide +kernel
theorem dX8_shares_81 : decode cX8_shares 81 = .ok (.iadd, 1) := by decide +kernel
theorem dX8_shares_82 : decode cX8_shares 82 = .ok (.iaload, 1) := by decide +kernel
theorem dX8_shares_83 : decode cX8_shares 83 = .ok (.iastore, 1) := by decide +kernel
theorem dX8_shares_84 : decode cX8_shares 84 = .ok (.iinc 8 1, 3) := by decide +kernel
theorem dX8_shares_87 : decode cX8_shares 87 = .ok (.goto (-84), 3) := by decide +kernel
theorem dX8_shares_90 : decode cX8_shares 90 = .ok (.return_, 1) := by decide +kernel
theorem dX8_takes_0 : decode cX8_takes 0 = .ok (.aload_n 0, 1) := by decide +kernel
theorem dX8_takes_1 : decode cX8_takes 1 = .ok (.iload_n 1, 1) := by decide +kernel
theorem dX8_takes_2 : decode cX8_takes 2 = .ok (.iconst 0, 1) := by decide +kernel
theorem dX8_takes_3 : decode cX8_takes 3 = .ok (.iconst 1, 1) := by decide +kernel
theorem dX8_takes_4 : decode cX8_takes 4 = .ok (.aload_n 0, 1) := by decide +kernel
theorem dX8_takes_5 : decode cX8_takes 5 = .ok (.getfield 16, 3) := by decide +kernel
theorem dX8_takes_8 : decode cX8_takes 8 = .ok (.iload_n 1, 1) := by decide +kernel
theorem dX8_takes_9 : decode cX8_takes 9 = .ok (.iaload, 1) := by decide +kernel
theorem dX8_takes_10 : decode cX8_takes 10 = .ok (.iload_n 2, 1) := by decide +kernel
theorem dX8_takes_11 : decode cX8_takes 11 = .ok (.iconst 0, 1) := by decide +kernel
theorem dX8_takes_12 : decode cX8_takes 12 = .ok (.iconst 1, 1) := by decide +kernel
theorem dX8_takes_13 : decode cX8_takes 13 = .ok (.invokevirtual 78, 3) := by decide +kernel
theorem dX8_takes_16 : decode cX8_takes 16 = .ok (.aload_n 0, 1) := by decide +kernel
theorem dX8_takes_17 : decode cX8_takes 17 = .ok (.getfield 16, 3) := by decide +kernel
theorem dX8_takes_20 : decode cX8_takes 20 = .ok (.iload_n 2, 1) := by decide +kernel
theorem dX8_takes_21 : decode cX8_takes 21 = .ok (.aload_n 0, 1) := by decide +kernel
theorem dX8_takes_22 : decode cX8_takes 22 = .ok (.getfield 16, 3) := by decide +kernel
theorem dX8_takes_25 : decode cX8_takes 25 = .ok (.iload_n 1, 1) := by decide +kernel
theorem dX8_takes_26 : decode cX8_takes 26 = .ok (.iaload, 1) := by decide +kernel
theorem dX8_takes_27 : decode cX8_takes 27 = .ok (.iastore, 1) := by decide +kernel
theorem dX8_takes_28 : decode cX8_takes 28 = .ok (.return_, 1) := by decide +kernel
theorem dX8_asks_0 : decode cX8_asks 0 = .ok (.aload_n 0, 1) := by decide +kernel
theorem dX8_asks_1 : decode cX8_asks 1 = .ok (.iload_n 1, 1) := by decide +kernel
theorem dX8_asks_2 : decode cX8_asks 2 = .ok (.bipush 6, 2) := by decide +kernel
theorem dX8_asks_4 : decode cX8_asks 4 = .ok (.invokevirtual 82, 3) := by decide +kernel
theorem dX8_asks_7 : decode cX8_asks 7 = .ok (.aload_n 0, 1) := by decide +kernel
theorem dX8_asks_8 : decode cX8_asks 8 = .ok (.iload_n 1, 1) := by decide +kernel
theorem dX8_asks_9 : decode cX8_asks 9 = .ok (.bipush 7, 2) := by decide +kernel
theorem dX8_asks_11 : decode cX8_asks 11 = .ok (.invokevirtual 82, 3) := by decide +kernel
theorem dX8_asks_14 : decode cX8_asks 14 = .ok (.return_, 1) := by decide +kernel
theorem dX8_begins_0 : decode cX8_begins 0 = .ok (.aload_n 0, 1) := by decide +kernel
theorem dX8_begins_1 : decode cX8_begins 1 = .ok (.aload_n 0, 1) := by decide +kernel
theorem dX8_begins_2 : decode cX8_begins 2 = .ok (.getfield 75, 3) := by decide +kernel
theorem dX8_begins_5 : decode cX8_begins 5 = .ok (.putfield 86, 3) := by decide +kernel
theorem dX8_begins_8 : decode cX8_begins 8 = .ok (.return_, 1) := by decide +kernel
theorem dX8_ends_0 : decode cX8_ends 0 = .ok (.aload_n 0, 1) := by decide +kernel
theorem dX8_ends_1 : decode cX8_ends 1 = .ok (.bipush 7, 2) := by decide +kernel
theorem dX8_ends_3 : decode cX8_ends 3 = .ok (.iload_n 1, 1) := by decide +kernel
theorem dX8_ends_4 : decode cX8_ends 4 = .ok (.invokevirtual 82, 3) := by decide +kernel
theorem dX8_ends_7 : decode cX8_ends 7 = .ok (.aload_n 0, 1) := by decide +kernel
theorem dX8_ends_8 : decode cX8_ends 8 = .ok (.getfield 75, 3) := by decide +kernel
theorem dX8_ends_11 : decode cX8_ends 11 = .ok (.aload_n 0, 1) := by decide +kernel
theorem dX8_ends_12 : decode cX8_ends 12 = .ok (.getfield 86, 3) := by decide +kernel
theorem dX8_ends_15 : decode cX8_ends 15 = .ok (.isub, 1) := by decide +kernel
theorem dX8_ends_16 : decode cX8_ends 16 = .ok (.ireturn, 1) := by decide +kernel
theorem dX8_laysWay_0 : decode cX8_laysWay 0 = .ok (.iconst 0, 1) := by decide +kernel
theorem dX8_laysWay_1 : decode cX8_laysWay 1 = .ok (.istore_n 2, 1) := by decide +kernel
theorem dX8_laysWay_2 : decode cX8_laysWay 2 = .ok (.iconst 1, 1) := by decide +kernel
theorem dX8_laysWay_3 : decode cX8_laysWay 3 = .ok (.istore_n 3, 1) := by decide +kernel
theorem dX8_laysWay_4 : decode cX8_laysWay 4 = .ok (.iload_n 1, 1) := by decide +kernel
theorem dX8_laysWay_5 : decode cX8_laysWay 5 = .ok (.istore 4, 2) := by decide +kernel
theorem dX8_laysWay_7 : decode cX8_laysWay 7 = .ok (.aload_n 0, 1) := by decide +kernel
theorem dX8_laysWay_8 : decode cX8_laysWay 8 = .ok (.iconst 0, 1) := by decide +kernel
theorem dX8_laysWay_9 : decode cX8_laysWay 9 = .ok (.putfield 89, 3) := by decide +kernel
theorem dX8_laysWay_12 : decode cX8_laysWay 12 = .ok (.aload_n 0, 1) := by decide +kernel
theorem dX8_laysWay_13 : decode cX8_laysWay 13 = .ok (.iconst 0, 1) := by decide +kernel
theorem dX8_laysWay_14 : decode cX8_laysWay 14 = .ok (.putfield 92, 3) := by decide +kernel
theorem dX8_laysWay_17 : decode cX8_laysWay 17 = .ok (.iload 4, 2) := by decide +kernel
theorem dX8_laysWay_19 : decode cX8_laysWay 19 = .ok (.ifCond .le 102, 3) := by decide +kernel
theorem dX8_laysWay_22 : decode cX8_laysWay 22 = .ok (.aload_n 0, 1) := by decide +kernel
theorem dX8_laysWay_23 : decode cX8_laysWay 23 = .ok (.getfield 27, 3) := by decide +kernel
theorem dX8_laysWay_26 : decode cX8_laysWay 26 = .ok (.aload_n 0, 1) := by decide +kernel
theorem dX8_laysWay_27 : decode cX8_laysWay 27 = .ok (.getfield 89, 3) := by decide +kernel
theorem dX8_laysWay_30 : decode cX8_laysWay 30 = .ok (.iload_n 2, 1) := by decide +kernel
theorem dX8_laysWay_31 : decode cX8_laysWay 31 = .ok (.iastore, 1) := by decide +kernel
theorem dX8_laysWay_32 : decode cX8_laysWay 32 = .ok (.aload_n 0, 1) := by decide +kernel
theorem dX8_laysWay_33 : decode cX8_laysWay 33 = .ok (.dup, 1) := by decide +kernel
theorem dX8_laysWay_34 : decode cX8_laysWay 34 = .ok (.getfield 89, 3) := by decide +kernel
theorem dX8_laysWay_37 : decode cX8_laysWay 37 = .ok (.iconst 1, 1) := by decide +kernel
theorem dX8_laysWay_38 : decode cX8_laysWay 38 = .ok (.iadd, 1) := by decide +kernel
theorem dX8_laysWay_39 : decode cX8_laysWay 39 = .ok (.putfield 89, 3) := by decide +kernel
theorem dX8_laysWay_42 : decode cX8_laysWay 42 = .ok (.iload 4, 2) := by decide +kernel
theorem dX8_laysWay_44 : decode cX8_laysWay 44 = .ok (.iconst 2, 1) := by decide +kernel
theorem dX8_laysWay_45 : decode cX8_laysWay 45 = .ok (.irem, 1) := by decide +kernel
theorem dX8_laysWay_46 : decode cX8_laysWay 46 = .ok (.ifCond .ne 7, 3) := by decide +kernel
theorem dX8_laysWay_49 : decode cX8_laysWay 49 = .ok (.iconst 1, 1) := by decide +kernel
theorem dX8_laysWay_50 : decode cX8_laysWay 50 = .ok (.goto 4, 3) := by decide +kernel
theorem dX8_laysWay_53 : decode cX8_laysWay 53 = .ok (.iconst 0, 1) := by decide +kernel
theorem dX8_laysWay_54 : decode cX8_laysWay 54 = .ok (.istore 5, 2) := by decide +kernel
theorem dX8_laysWay_56 : decode cX8_laysWay 56 = .ok (.iload_n 2, 1) := by decide +kernel
theorem dX8_laysWay_57 : decode cX8_laysWay 57 = .ok (.iload 5, 2) := by decide +kernel
theorem dX8_laysWay_59 : decode cX8_laysWay 59 = .ok (.ifCond .eq 9, 3) := by decide +kernel
theorem dX8_laysWay_62 : decode cX8_laysWay 62 = .ok (.iconst 2, 1) := by decide +kernel
theorem dX8_laysWay_63 : decode cX8_laysWay 63 = .ok (.iload_n 3, 1) := by decide +kernel
theorem dX8_laysWay_64 : decode cX8_laysWay 64 = .ok (.imul, 1) := by decide +kernel
theorem dX8_laysWay_65 : decode cX8_laysWay 65 = .ok (.goto 4, 3) := by decide +kernel
theorem dX8_laysWay_68 : decode cX8_laysWay 68 = .ok (.iload_n 3, 1) := by decide +kernel
theorem dX8_laysWay_69 : decode cX8_laysWay 69 = .ok (.iadd, 1) := by decide +kernel
theorem dX8_laysWay_70 : decode cX8_laysWay 70 = .ok (.istore_n 2, 1) := by decide +kernel
theorem dX8_laysWay_71 : decode cX8_laysWay 71 = .ok (.iload 5, 2) := by decide +kernel
theorem dX8_laysWay_73 : decode cX8_laysWay 73 = .ok (.ifCond .eq 12, 3) := by decide +kernel
theorem dX8_laysWay_76 : decode cX8_laysWay 76 = .ok (.iload 4, 2) := by decide +kernel
theorem dX8_laysWay_78 : decode cX8_laysWay 78 = .ok (.iconst 2, 1) := by decide +kernel
theorem dX8_laysWay_79 : decode cX8_laysWay 79 = .ok (.isub, 1) := by decide +kernel
theorem dX8_laysWay_80 : decode cX8_laysWay 80 = .ok (.iconst 2, 1) := by decide +kernel
theorem dX8_laysWay_81 : decode cX8_laysWay 81 = .ok (.idiv, 1) := by decide +kernel
theorem dX8_laysWay_82 : decode cX8_laysWay 82 = .ok (.goto 9, 3) := by decide +kernel
theorem dX8_laysWay_85 : decode cX8_laysWay 85 = .ok (.iload 4, 2) := by decide +kernel
theorem dX8_laysWay_87 : decode cX8_laysWay 87 = .ok (.iconst 1, 1) := by decide +kernel
theorem dX8_laysWay_88 : decode cX8_laysWay 88 = .ok (.isub, 1) := by decide +kernel
theorem dX8_laysWay_89 : decode cX8_laysWay 89 = .ok (.iconst 2, 1) := by decide +kernel
theorem dX8_laysWay_90 : decode cX8_laysWay 90 = .ok (.idiv, 1) := by decide +kernel
theorem dX8_laysWay_91 : decode cX8_laysWay 91 = .ok (.istore 4, 2) := by decide +kernel
theorem dX8_laysWay_93 : decode cX8_laysWay 93 = .ok (.iload_n 3, 1) := by decide +kernel
theorem dX8_laysWay_94 : decode cX8_laysWay 94 = .ok (.iconst 2, 1) := by decide +kernel
theorem dX8_laysWay_95 : decode cX8_laysWay 95 = .ok (.imul, 1) := by decide +kernel
theorem dX8_laysWay_96 : decode cX8_laysWay 96 = .ok (.istore_n 3, 1) := by decide +kernel
theorem dX8_laysWay_97 : decode cX8_laysWay 97 = .ok (.aload_n 0, 1) := by decide +kernel
theorem dX8_laysWay_98 : decode cX8_laysWay 98 = .ok (.iconst 2, 1) := by decide +kernel
theorem dX8_laysWay_99 : decode cX8_laysWay 99 = .ok (.aload_n 0, 1) := by decide +kernel
theorem dX8_laysWay_100 : decode cX8_laysWay 100 = .ok (.getfield 92, 3) := by decide +kernel
theorem dX8_laysWay_103 : decode cX8_laysWay 103 = .ok (.imul, 1) := by decide +kernel
theorem dX8_laysWay_104 : decode cX8_laysWay 104 = .ok (.iload 5, 2) := by decide +kernel
theorem dX8_laysWay_106 : decode cX8_laysWay 106 = .ok (.ifCond .eq 7, 3) := by decide +kernel
theorem dX8_laysWay_109 : decode cX8_laysWay 109 = .ok (.iconst 1, 1) := by decide +kernel
theorem dX8_laysWay_110 : decode cX8_laysWay 110 = .ok (.goto 4, 3) := by decide +kernel
theorem dX8_laysWay_113 : decode cX8_laysWay 113 = .ok (.iconst 0, 1) := by decide +kernel
theorem dX8_laysWay_114 : decode cX8_laysWay 114 = .ok (.iadd, 1) := by decide +kernel
theorem dX8_laysWay_115 : decode cX8_laysWay 115 = .ok (.putfield 92, 3) := by decide +kernel
theorem dX8_laysWay_118 : decode cX8_laysWay 118 = .ok (.goto (-101), 3) := by decide +kernel
theorem dX8_laysWay_121 : decode cX8_laysWay 121 = .ok (.aload_n 0, 1) := by decide +kernel
theorem dX8_laysWay_122 : decode cX8_laysWay 122 = .ok (.getfield 27, 3) := by decide +kernel
theorem dX8_laysWay_125 : decode cX8_laysWay 125 = .ok (.aload_n 0, 1) := by decide +kernel
theorem dX8_laysWay_126 : decode cX8_laysWay 126 = .ok (.getfield 89, 3) := by decide +kernel
theorem dX8_laysWay_129 : decode cX8_laysWay 129 = .ok (.iload_n 2, 1) := by decide +kernel
theorem dX8_laysWay_130 : decode cX8_laysWay 130 = .ok (.iastore, 1) := by decide +kernel
theorem dX8_laysWay_131 : decode cX8_laysWay 131 = .ok (.aload_n 0, 1) := by decide +kernel
theorem dX8_laysWay_132 : decode cX8_laysWay 132 = .ok (.dup, 1) := by decide +kernel
theorem dX8_laysWay_133 : decode cX8_laysWay 133 = .ok (.getfield 89, 3) := by decide +kernel
theorem dX8_laysWay_136 : decode cX8_laysWay 136 = .ok (.iconst 1, 1) := by decide +kernel
theorem dX8_laysWay_137 : decode cX8_laysWay 137 = .ok (.iadd, 1) := by decide +kernel
theorem dX8_laysWay_138 : decode cX8_laysWay 138 = .ok (.putfield 89, 3) := by decide +kernel
theorem dX8_laysWay_141 : decode cX8_laysWay 141 = .ok (.return_, 1) := by decide +kernel
theorem dX8_clearsNew_0 : decode cX8_clearsNew 0 = .ok (.iconst 0, 1) := by decide +kernel
theorem dX8_clearsNew_1 : decode cX8_clearsNew 1 = .ok (.istore_n 1, 1) := by decide +kernel
theorem dX8_clearsNew_2 : decode cX8_clearsNew 2 = .ok (.iload_n 1, 1) := by decide +kernel
theorem dX8_clearsNew_3 : decode cX8_clearsNew 3 = .ok (.sipush 255, 3) := by decide +kernel
theorem dX8_clearsNew_6 : decode cX8_clearsNew 6 = .ok (.if_icmp .gt 16, 3) := by decide +kernel
theorem dX8_clearsNew_9 : decode cX8_clearsNew 9 = .ok (.aload_n 0, 1) := by decide +kernel
theorem dX8_clearsNew_10 : decode cX8_clearsNew 10 = .ok (.getfield 30, 3) := by decide +kernel
theorem dX8_clearsNew_13 : decode cX8_clearsNew 13 = .ok (.iload_n 1, 1) := by decide +kernel
theorem dX8_clearsNew_14 : decode cX8_clearsNew 14 = .ok (.iconst 0, 1) := by decide +kernel
theorem dX8_clearsNew_15 : decode cX8_clearsNew 15 = .ok (.bastore, 1) := by decide +kernel
theorem dX8_clearsNew_16 : decode cX8_clearsNew 16 = .ok (.iinc 1 1, 3) := by decide +kernel
theorem dX8_clearsNew_19 : decode cX8_clearsNew 19 = .ok (.goto (-17), 3) := by decide +kernel
theorem dX8_clearsNew_22 : decode cX8_clearsNew 22 = .ok (.return_, 1) := by decide +kernel
theorem dX8_marks_0 : decode cX8_marks 0 = .ok (.aload_n 0, 1) := by decide +kernel
theorem dX8_marks_1 : decode cX8_marks 1 = .ok (.iload_n 1, 1) := by decide +kernel
theorem dX8_marks_2 : decode cX8_marks 2 = .ok (.invokevirtual 95, 3) := by decide +kernel
theorem dX8_marks_5 : decode cX8_marks 5 = .ok (.iconst 0, 1) := by decide +kernel
theorem dX8_marks_6 : decode cX8_marks 6 = .ok (.istore_n 3, 1) := by decide +kernel
theorem dX8_marks_7 : decode cX8_marks 7 = .ok (.iload_n 3, 1) := by decide +kernel
theorem dX8_marks_8 : decode cX8_marks 8 = .ok (.aload_n 0, 1) := by decide +kernel
theorem dX8_marks_9 : decode cX8_marks 9 = .ok (.getfield 89, 3) := by decide +kernel
theorem dX8_marks_12 : decode cX8_marks 12 = .ok (.if_icmp .ge 53, 3) := by decide +kernel
theorem dX8_marks_15 : decode cX8_marks 15 = .ok (.aload_n 0, 1) := by decide +kernel
theorem dX8_marks_16 : decode cX8_marks 16 = .ok (.getfield 30, 3) := by decide +kernel
theorem dX8_marks_19 : decode cX8_marks 19 = .ok (.aload_n 0, 1) := by decide +kernel
theorem dX8_marks_20 : decode cX8_marks 20 = .ok (.getfield 27, 3) := by decide +kernel
theorem dX8_marks_23 : decode cX8_marks 23 = .ok (.iload_n 3, 1) := by decide +kernel
theorem dX8_marks_24 : decode cX8_marks 24 = .ok (.iaload, 1) := by decide +kernel
theorem dX8_marks_25 : decode cX8_marks 25 = .ok (.aload_n 0, 1) := by decide +kernel
theorem dX8_marks_26 : decode cX8_marks 26 = .ok (.getfield 30, 3) := by decide +kernel
theorem dX8_marks_29 : decode cX8_marks 29 = .ok (.aload_n 0, 1) := by decide +kernel
theorem dX8_marks_30 : decode cX8_marks 30 = .ok (.getfield 27, 3) := by decide +kernel
theorem dX8_marks_33 : decode cX8_marks 33 = .ok (.iload_n 3, 1) := by decide +kernel
theorem dX8_marks_34 : decode cX8_marks 34 = .ok (.iaload, 1) := by decide +kernel
theorem dX8_marks_35 : decode cX8_marks 35 = .ok (.baload, 1) := by decide +kernel
theorem dX8_marks_36 : decode cX8_marks 36 = .ok (.ifCond .ne 17, 3) := by decide +kernel
theorem dX8_marks_39 : decode cX8_marks 39 = .ok (.iload_n 2, 1) := by decide +kernel
theorem dX8_marks_40 : decode cX8_marks 40 = .ok (.ifCond .ne 13, 3) := by decide +kernel
theorem dX8_marks_43 : decode cX8_marks 43 = .ok (.iload_n 3, 1) := by decide +kernel
theorem dX8_marks_44 : decode cX8_marks 44 = .ok (.iconst 1, 1) := by decide +kernel
theorem dX8_marks_45 : decode cX8_marks 45 = .ok (.iadd, 1) := by decide +kernel
theorem dX8_marks_46 : decode cX8_marks 46 = .ok (.aload_n 0, 1) := by decide +kernel
theorem dX8_marks_47 : decode cX8_marks 47 = .ok (.getfield 89, 3) := by decide +kernel
theorem dX8_marks_50 : decode cX8_marks 50 = .ok (.if_icmp .ge 7, 3) := by decide +kernel
theorem dX8_marks_53 : decode cX8_marks 53 = .ok (.iconst 1, 1) := by decide +kernel
theorem dX8_marks_54 : decode cX8_marks 54 = .ok (.goto 4, 3) := by decide +kernel
theorem dX8_marks_57 : decode cX8_marks 57 = .ok (.iconst 0, 1) := by decide +kernel
theorem dX8_marks_58 : decode cX8_marks 58 = .ok (.bastore, 1) := by decide +kernel
theorem dX8_marks_59 : decode cX8_marks 59 = .ok (.iinc 3 1, 3) := by decide +kernel
theorem dX8_marks_62 : decode cX8_marks 62 = .ok (.goto (-55), 3) := by decide +kernel
theorem dX8_marks_65 : decode cX8_marks 65 = .ok (.return_, 1) := by decide +kernel
theorem dX8_markedMany_0 : decode cX8_markedMany 0 = .ok (.iconst 0, 1) := by decide +kernel
theorem dX8_markedMany_1 : decode cX8_markedMany 1 = .ok (.istore_n 1, 1) := by decide +kernel
theorem dX8_markedMany_2 : decode cX8_markedMany 2 = .ok (.iconst 0, 1) := by decide +kernel
theorem dX8_markedMany_3 : decode cX8_markedMany 3 = .ok (.istore_n 2, 1) := by decide +kernel
theorem dX8_markedMany_4 : decode cX8_markedMany 4 = .ok (.iload_n 2, 1) := by decide +kernel
theorem dX8_markedMany_5 : decode cX8_markedMany 5 = .ok (.sipush 255, 3) := by decide +kernel
theorem dX8_markedMany_8 : decode cX8_markedMany 8 = .ok (.if_icmp .gt 26, 3) := by decide +kernel
theorem dX8_markedMany_11 : decode cX8_markedMany 11 = .ok (.iload_n 1, 1) := by decide +kernel
theorem dX8_markedMany_12 : decode cX8_markedMany 12 = .ok (.aload_n 0, 1) := by decide +kernel
theorem dX8_markedMany_13 : decode cX8_markedMany 13 = .ok (.getfield 30, 3) := by decide +kernel
theorem dX8_markedMany_16 : decode cX8_markedMany 16 = .ok (.iload_n 2, 1) := by decide +kernel
theorem dX8_markedMany_17 : decode cX8_markedMany 17 = .ok (.baload, 1) := by decide +kernel
theorem dX8_markedMany_18 : decode cX8_markedMany 18 = .ok (.ifCond .eq 7, 3) := by decide +kernel
theorem dX8_markedMany_21 : decode cX8_markedMany 21 = .ok (.iconst 1, 1) := by decide +kernel
theorem dX8_markedMany_22 : decode cX8_markedMany 22 = .ok (.goto 4, 3) := by decide +kernel
theorem dX8_markedMany_25 : decode cX8_markedMany 25 = .ok (.iconst 0, 1) := by decide +kernel
theorem dX8_markedMany_26 : decode cX8_markedMany 26 = .ok (.iadd, 1) := by decide +kernel
theorem dX8_markedMany_27 : decode cX8_markedMany 27 = .ok (.istore_n 1, 1) := by decide +kernel
theorem dX8_markedMany_28 : decode cX8_markedMany 28 = .ok (.iinc 2 1, 3) := by decide +kernel
theorem dX8_markedMany_31 : decode cX8_markedMany 31 = .ok (.goto (-27), 3) := by decide +kernel
theorem dX8_markedMany_34 : decode cX8_markedMany 34 = .ok (.iload_n 1, 1) := by decide +kernel
theorem dX8_markedMany_35 : decode cX8_markedMany 35 = .ok (.ireturn, 1) := by decide +kernel
theorem dX8_renews_0 : decode cX8_renews 0 = .ok (.iconst 0, 1) := by decide +kernel
theorem dX8_renews_1 : decode cX8_renews 1 = .ok (.istore_n 1, 1) := by decide +kernel
theorem dX8_renews_2 : decode cX8_renews 2 = .ok (.iload_n 1, 1) := by decide +kernel
theorem dX8_renews_3 : decode cX8_renews 3 = .ok (.aload_n 0, 1) := by decide +kernel
theorem dX8_renews_4 : decode cX8_renews 4 = .ok (.getfield 16, 3) := by decide +kernel
theorem dX8_renews_7 : decode cX8_renews 7 = .ok (.bipush 7, 2) := by decide +kernel
theorem dX8_renews_9 : decode cX8_renews 9 = .ok (.iaload, 1) := by decide +kernel
theorem dX8_renews_10 : decode cX8_renews 10 = .ok (.if_icmp .ge 32, 3) := by decide +kernel
theorem dX8_renews_13 : decode cX8_renews 13 = .ok (.aload_n 0, 1) := by decide +kernel
theorem dX8_renews_14 : decode cX8_renews 14 = .ok (.getfield 30, 3) := by decide +kernel
theorem dX8_renews_17 : decode cX8_renews 17 = .ok (.iload_n 1, 1) := by decide +kernel
theorem dX8_renews_18 : decode cX8_renews 18 = .ok (.baload, 1) := by decide +kernel
theorem dX8_renews_19 : decode cX8_renews 19 = .ok (.ifCond .eq 17, 3) := by decide +kernel
theorem dX8_renews_22 : decode cX8_renews 22 = .ok (.aload_n 0, 1) := by decide +kernel
theorem dX8_renews_23 : decode cX8_renews 23 = .ok (.bipush 7, 2) := by decide +kernel
theorem dX8_renews_25 : decode cX8_renews 25 = .ok (.iload_n 1, 1) := by decide +kernel
theorem dX8_renews_26 : decode cX8_renews 26 = .ok (.aload_n 0, 1) := by decide +kernel
theorem dX8_renews_27 : decode cX8_renews 27 = .ok (.bipush 7, 2) := by decide +kernel
theorem dX8_renews_29 : decode cX8_renews 29 = .ok (.iload_n 1, 1) := by decide +kernel
theorem dX8_renews_30 : decode cX8_renews 30 = .ok (.invokevirtual 99, 3) := by decide +kernel
theorem dX8_renews_33 : decode cX8_renews 33 = .ok (.invokevirtual 103, 3) := by decide +kernel
theorem dX8_renews_36 : decode cX8_renews 36 = .ok (.iinc 1 1, 3) := by decide +kernel
theorem dX8_renews_39 : decode cX8_renews 39 = .ok (.goto (-37), 3) := by decide +kernel
theorem dX8_renews_42 : decode cX8_renews 42 = .ok (.return_, 1) := by decide +kernel
theorem dX8_built_0 : decode cX8_built 0 = .ok (.iconst 0, 1) := by decide +kernel
theorem dX8_built_1 : decode cX8_built 1 = .ok (.istore_n 1, 1) := by decide +kernel
theorem dX8_built_2 : decode cX8_built 2 = .ok (.iload_n 1, 1) := by decide +kernel
theorem dX8_built_3 : decode cX8_built 3 = .ok (.aload_n 0, 1) := by decide +kernel
theorem dX8_built_4 : decode cX8_built 4 = .ok (.getfield 16, 3) := by decide +kernel
theorem dX8_built_7 : decode cX8_built 7 = .ok (.bipush 7, 2) := by decide +kernel
theorem dX8_built_9 : decode cX8_built 9 = .ok (.iaload, 1) := by decide +kernel
theorem dX8_built_10 : decode cX8_built 10 = .ok (.if_icmp .ge 23, 3) := by decide +kernel
theorem dX8_built_13 : decode cX8_built 13 = .ok (.aload_n 0, 1) := by decide +kernel
theorem dX8_built_14 : decode cX8_built 14 = .ok (.bipush 7, 2) := by decide +kernel
theorem dX8_built_16 : decode cX8_built 16 = .ok (.iload_n 1, 1) := by decide +kernel
theorem dX8_built_17 : decode cX8_built 17 = .ok (.aload_n 0, 1) := by decide +kernel
theorem dX8_built_18 : decode cX8_built 18 = .ok (.bipush 7, 2) := by decide +kernel
theorem dX8_built_20 : decode cX8_built 20 = .ok (.iload_n 1, 1) := by decide +kernel
theorem dX8_built_21 : decode cX8_built 21 = .ok (.invokevirtual 99, 3) := by decide +kernel
theorem dX8_built_24 : decode cX8_built 24 = .ok (.invokevirtual 103, 3) := by decide +kernel
theorem dX8_built_27 : decode cX8_built 27 = .ok (.iinc 1 1, 3) := by decide +kernel
theorem dX8_built_30 : decode cX8_built 30 = .ok (.goto (-28), 3) := by decide +kernel
theorem dX8_built_33 : decode cX8_built 33 = .ok (.return_, 1) := by decide +kernel
theorem dX8_begin_0 : decode cX8_begin 0 = .ok (.aload_n 0, 1) := by decide +kernel
theorem dX8_begin_1 : decode cX8_begin 1 = .ok (.aload_n 0, 1) := by decide +kernel
theorem dX8_begin_2 : decode cX8_begin 2 = .ok (.getfield 62, 3) := by decide +kernel
theorem dX8_begin_5 : decode cX8_begin 5 = .ok (.putfield 107, 3) := by decide +kernel
theorem dX8_begin_8 : decode cX8_begin 8 = .ok (.aload_n 0, 1) := by decide +kernel
theorem dX8_begin_9 : decode cX8_begin 9 = .ok (.iconst 0, 1) := by decide +kernel
theorem dX8_begin_10 : decode cX8_begin 10 = .ok (.putfield 62, 3) := by decide +kernel
theorem dX8_begin_13 : decode cX8_begin 13 = .ok (.aload_n 0, 1) := by decide +kernel
theorem dX8_begin_14 : decode cX8_begin 14 = .ok (.iconst 0, 1) := by decide +kernel
theorem dX8_begin_15 : decode cX8_begin 15 = .ok (.putfield 110, 3) := by decide +kernel
theorem dX8_begin_18 : decode cX8_begin 18 = .ok (.return_, 1) := by decide +kernel
theorem dX8_here_0 : decode cX8_here 0 = .ok (.aload_n 0, 1) := by decide +kernel
theorem dX8_here_1 : decode cX8_here 1 = .ok (.getfield 110, 3) := by decide +kernel
theorem dX8_here_4 : decode cX8_here 4 = .ok (.aload_n 0, 1) := by decide +kernel
theorem dX8_here_5 : decode cX8_here 5 = .ok (.getfield 107, 3) := by decide +kernel
theorem dX8_here_8 : decode cX8_here 8 = .ok (.if_icmp .ge 19, 3) := by decide +kernel
theorem dX8_here_11 : decode cX8_here 11 = .ok (.aload_n 0, 1) := by decide +kernel
theorem dX8_here_12 : decode cX8_here 12 = .ok (.getfield 19, 3) := by decide +kernel
theorem dX8_here_15 : decode cX8_here 15 = .ok (.aload_n 0, 1) := by decide +kernel
theorem dX8_here_16 : decode cX8_here 16 = .ok (.getfield 110, 3) := by decide +kernel
theorem dX8_here_19 : decode cX8_here 19 = .ok (.baload, 1) := by decide +kernel
theorem dX8_here_20 : decode cX8_here 20 = .ok (.sipush 255, 3) := by decide +kernel
theorem dX8_here_23 : decode cX8_here 23 = .ok (.iand, 1) := by decide +kernel
theorem dX8_here_24 : decode cX8_here 24 = .ok (.goto 4, 3) := by decide +kernel
theorem dX8_here_27 : decode cX8_here 27 = .ok (.iconst (-1), 1) := by decide +kernel
theorem dX8_here_28 : decode cX8_here 28 = .ok (.ireturn, 1) := by decide +kernel
theorem dX8_readsNumber_0 : decode cX8_readsNumber 0 = .ok (.aload_n 0, 1) := by decide +kernel
theorem dX8_readsNumber_1 : decode cX8_readsNumber 1 = .ok (.invokevirtual 113, 3) := by decide +kernel
theorem dX8_readsNumber_4 : decode cX8_readsNumber 4 = .ok (.bipush 45, 2) := by decide +kernel
theorem dX8_readsNumber_6 : decode cX8_readsNumber 6 = .ok (.if_icmp .ne 7, 3) := by decide +kernel
theorem dX8_readsNumber_9 : decode cX8_readsNumber 9 = .ok (.iconst 1, 1) := by decide +kernel
theorem dX8_readsNumber_10 : decode cX8_readsNumber 10 = .ok (.goto 4, 3) := by decide +kernel
theorem dX8_readsNumber_13 : decode cX8_readsNumber 13 = .ok (.iconst 0, 1) := by decide +kernel
theorem dX8_readsNumber_14 : decode cX8_readsNumber 14 = .ok (.istore_n 1, 1) := by decide +kernel
theorem dX8_readsNumber_15 : decode cX8_readsNumber 15 = .ok (.iload_n 1, 1) := by decide +kernel
theorem dX8_readsNumber_16 : decode cX8_readsNumber 16 = .ok (.ifCond .eq 13, 3) := by decide +kernel
theorem dX8_readsNumber_19 : decode cX8_readsNumber 19 = .ok (.aload_n 0, 1) := by decide +kernel
theorem dX8_readsNumber_20 : decode cX8_readsNumber 20 = .ok (.dup, 1) := by decide +kernel
theorem dX8_readsNumber_21 : decode cX8_readsNumber 21 = .ok (.getfield 110, 3) := by decide +kernel
theorem dX8_readsNumber_24 : decode cX8_readsNumber 24 = .ok (.iconst 1, 1) := by decide +kernel
theorem dX8_readsNumber_25 : decode cX8_readsNumber 25 = .ok (.iadd, 1) := by decide +kernel
theorem dX8_readsNumber_26 : decode cX8_readsNumber 26 = .ok (.putfield 110, 3) := by decide +kernel
theorem dX8_readsNumber_29 : decode cX8_readsNumber 29 = .ok (.iconst 0, 1) := by decide +kernel
theorem dX8_readsNumber_30 : decode cX8_readsNumber 30 = .ok (.istore_n 2, 1) := by decide +kernel
theorem dX8_readsNumber_31 : decode cX8_readsNumber 31 = .ok (.iconst 0, 1) := by decide +kernel
theorem dX8_readsNumber_32 : decode cX8_readsNumber 32 = .ok (.istore_n 3, 1) := by decide +kernel
theorem dX8_readsNumber_33 : decode cX8_readsNumber 33 = .ok (.iload_n 3, 1) := by decide +kernel
theorem dX8_readsNumber_34 : decode cX8_readsNumber 34 = .ok (.iconst 3, 1) := by decide +kernel
theorem dX8_readsNumber_35 : decode cX8_readsNumber 35 = .ok (.if_icmp .ge 49, 3) := by decide +kernel
theorem dX8_readsNumber_38 : decode cX8_readsNumber 38 = .ok (.aload_n 0, 1) := by decide +kernel
theorem dX8_readsNumber_39 : decode cX8_readsNumber 39 = .ok (.invokevirtual 113, 3) := by decide +kernel
theorem dX8_readsNumber_42 : decode cX8_readsNumber 42 = .ok (.i2l, 1) := by decide +kernel
theorem dX8_readsNumber_43 : decode cX8_readsNumber 43 = .ok (.ldc2_w 117, 3) := by decide +kernel
theorem dX8_readsNumber_46 : decode cX8_readsNumber 46 = .ok (.ldc2_w 119, 3) := by decide +kernel
theorem dX8_readsNumber_49 : decode cX8_readsNumber 49 = .ok (.invokestatic 65, 3) := by decide +kernel
theorem dX8_readsNumber_52 : decode cX8_readsNumber 52 = .ok (.ifCond .eq 32, 3) := by decide +kernel
theorem dX8_readsNumber_55 : decode cX8_readsNumber 55 = .ok (.bipush 10, 2) := by decide +kernel
theorem dX8_readsNumber_57 : decode cX8_readsNumber 57 = .ok (.iload_n 2, 1) := by decide +kernel
theorem dX8_readsNumber_58 : decode cX8_readsNumber 58 = .ok (.imul, 1) := by decide +kernel
theorem dX8_readsNumber_59 : decode cX8_readsNumber 59 = .ok (.aload_n 0, 1) := by decide +kernel
theorem dX8_readsNumber_60 : decode cX8_readsNumber 60 = .ok (.invokevirtual 113, 3) := by decide +kernel
theorem dX8_readsNumber_63 : decode cX8_readsNumber 63 = .ok (.iadd, 1) := by decide +kernel
theorem dX8_readsNumber_64 : decode cX8_readsNumber 64 = .ok (.bipush 48, 2) := by decide +kernel
theorem dX8_readsNumber_66 : decode cX8_readsNumber 66 = .ok (.isub, 1) := by decide +kernel
theorem dX8_readsNumber_67 : decode cX8_readsNumber 67 = .ok (.istore_n 2, 1) := by decide +kernel
theorem dX8_readsNumber_68 : decode cX8_readsNumber 68 = .ok (.iinc 3 1, 3) := by decide +kernel
theorem dX8_readsNumber_71 : decode cX8_readsNumber 71 = .ok (.aload_n 0, 1) := by decide +kernel
theorem dX8_readsNumber_72 : decode cX8_readsNumber 72 = .ok (.dup, 1) := by decide +kernel
theorem dX8_readsNumber_73 : decode cX8_readsNumber 73 = .ok (.getfield 110, 3) := by decide +kernel
theorem dX8_readsNumber_76 : decode cX8_readsNumber 76 = .ok (.iconst 1, 1) := by decide +kernel
theorem dX8_readsNumber_77 : decode cX8_readsNumber 77 = .ok (.iadd, 1) := by decide +kernel
theorem dX8_readsNumber_78 : decode cX8_readsNumber 78 = .ok (.putfield 110, 3) := by decide +kernel
theorem dX8_readsNumber_81 : decode cX8_readsNumber 81 = .ok (.goto (-48), 3) := by decide +kernel
theorem dX8_readsNumber_84 : decode cX8_readsNumber 84 = .ok (.aload_n 0, 1) := by decide +kernel
theorem dX8_readsNumber_85 : decode cX8_readsNumber 85 = .ok (.iload_n 1, 1) := by decide +kernel
theorem dX8_readsNumber_86 : decode cX8_readsNumber 86 = .ok (.ifCond .eq 8, 3) := by decide +kernel
theorem dX8_readsNumber_89 : decode cX8_readsNumber 89 = .ok (.iload_n 2, 1) := by decide +kernel
theorem dX8_readsNumber_90 : decode cX8_readsNumber 90 = .ok (.ineg, 1) := by decide +kernel
theorem dX8_readsNumber_91 : decode cX8_readsNumber 91 = .ok (.goto 4, 3) := by decide +kernel
theorem dX8_readsNumber_94 : decode cX8_readsNumber 94 = .ok (.iload_n 2, 1) := by decide +kernel
theorem dX8_readsNumber_95 : decode cX8_readsNumber 95 = .ok (.putfield 121, 3) := by decide +kernel
theorem dX8_readsNumber_98 : decode cX8_readsNumber 98 = .ok (.iload_n 3, 1) := by decide +kernel
theorem dX8_readsNumber_99 : decode cX8_readsNumber 99 = .ok (.ifCond .le 7, 3) := by decide +kernel
theorem dX8_readsNumber_102 : decode cX8_readsNumber 102 = .ok (.iconst 1, 1) := by decide +kernel
theorem dX8_readsNumber_103 : decode cX8_readsNumber 103 = .ok (.goto 4, 3) := by decide +kernel
theorem dX8_readsNumber_106 : decode cX8_readsNumber 106 = .ok (.iconst 0, 1) := by decide +kernel
theorem dX8_readsNumber_107 : decode cX8_readsNumber 107 = .ok (.ireturn, 1) := by decide +kernel
theorem dX8_readsRow_0 : decode cX8_readsRow 0 = .ok (.aload_n 0, 1) := by decide +kernel
theorem dX8_readsRow_1 : decode cX8_readsRow 1 = .ok (.getfield 16, 3) := by decide +kernel
theorem dX8_readsRow_4 : decode cX8_readsRow 4 = .ok (.bipush 7, 2) := by decide +kernel
theorem dX8_readsRow_6 : decode cX8_readsRow 6 = .ok (.iconst 0, 1) := by decide +kernel
theorem dX8_readsRow_7 : decode cX8_readsRow 7 = .ok (.iastore, 1) := by decide +kernel
theorem dX8_readsRow_8 : decode cX8_readsRow 8 = .ok (.aload_n 0, 1) := by decide +kernel
theorem dX8_readsRow_9 : decode cX8_readsRow 9 = .ok (.getfield 107, 3) := by decide +kernel
theorem dX8_readsRow_12 : decode cX8_readsRow 12 = .ok (.ifCond .ne 5, 3) := by decide +kernel
theorem dX8_readsRow_15 : decode cX8_readsRow 15 = .ok (.iconst 1, 1) := by decide +kernel
theorem dX8_readsRow_16 : decode cX8_readsRow 16 = .ok (.ireturn, 1) := by decide +kernel
theorem dX8_readsRow_17 : decode cX8_readsRow 17 = .ok (.aload_n 0, 1) := by decide +kernel
theorem dX8_readsRow_18 : decode cX8_readsRow 18 = .ok (.invokevirtual 124, 3) := by decide +kernel
theorem dX8_readsRow_21 : decode cX8_readsRow 21 = .ok (.ifCond .ne 5, 3) := by decide +kernel
theorem dX8_readsRow_24 : decode cX8_readsRow 24 = .ok (.iconst 0, 1) := by decide +kernel
theorem dX8_readsRow_25 : decode cX8_readsRow 25 = .ok (.ireturn, 1) := by decide +kernel
theorem dX8_readsRow_26 : decode cX8_readsRow 26 = .ok (.aload_n 0, 1) := by decide +kernel
theorem dX8_readsRow_27 : decode cX8_readsRow 27 = .ok (.getfield 7, 3) := by decide +kernel
theorem dX8_readsRow_30 : decode cX8_readsRow 30 = .ok (.sipush 1792, 3) := by decide +kernel
theorem dX8_readsRow_33 : decode cX8_readsRow 33 = .ok (.aload_n 0, 1) := by decide +kernel
theorem dX8_readsRow_34 : decode cX8_readsRow 34 = .ok (.getfield 16, 3) := by decide +kernel
theorem dX8_readsRow_37 : decode cX8_readsRow 37 = .ok (.bipush 7, 2) := by decide +kernel
theorem dX8_readsRow_39 : decode cX8_readsRow 39 = .ok (.iaload, 1) := by decide +kernel
theorem dX8_readsRow_40 : decode cX8_readsRow 40 = .ok (.iadd, 1) := by decide +kernel
theorem dX8_readsRow_41 : decode cX8_readsRow 41 = .ok (.aload_n 0, 1) := by decide +kernel
theorem dX8_readsRow_42 : decode cX8_readsRow 42 = .ok (.getfield 121, 3) := by decide +kernel
theorem dX8_readsRow_45 : decode cX8_readsRow 45 = .ok (.iastore, 1) := by decide +kernel
theorem dX8_readsRow_46 : decode cX8_readsRow 46 = .ok (.aload_n 0, 1) := by decide +kernel
theorem dX8_readsRow_47 : decode cX8_readsRow 47 = .ok (.getfield 16, 3) := by decide +kernel
theorem dX8_readsRow_50 : decode cX8_readsRow 50 = .ok (.bipush 7, 2) := by decide +kernel
theorem dX8_readsRow_52 : decode cX8_readsRow 52 = .ok (.dup2, 1) := by decide +kernel
theorem dX8_readsRow_53 : decode cX8_readsRow 53 = .ok (.iaload, 1) := by decide +kernel
theorem dX8_readsRow_54 : decode cX8_readsRow 54 = .ok (.iconst 1, 1) := by decide +kernel
theorem dX8_readsRow_55 : decode cX8_readsRow 55 = .ok (.iadd, 1) := by decide +kernel
theorem dX8_readsRow_56 : decode cX8_readsRow 56 = .ok (.iastore, 1) := by decide +kernel
theorem dX8_readsRow_57 : decode cX8_readsRow 57 = .ok (.aload_n 0, 1) := by decide +kernel
theorem dX8_readsRow_58 : decode cX8_readsRow 58 = .ok (.getfield 110, 3) := by decide +kernel
theorem dX8_readsRow_61 : decode cX8_readsRow 61 = .ok (.aload_n 0, 1) := by decide +kernel
theorem dX8_readsRow_62 : decode cX8_readsRow 62 = .ok (.getfield 107, 3) := by decide +kernel
theorem dX8_readsRow_65 : decode cX8_readsRow 65 = .ok (.if_icmp .ne 5, 3) := by decide +kernel
theorem dX8_readsRow_68 : decode cX8_readsRow 68 = .ok (.iconst 1, 1) := by decide +kernel
theorem dX8_readsRow_69 : decode cX8_readsRow 69 = .ok (.ireturn, 1) := by decide +kernel
theorem dX8_readsRow_70 : decode cX8_readsRow 70 = .ok (.aload_n 0, 1) := by decide +kernel
theorem dX8_readsRow_71 : decode cX8_readsRow 71 = .ok (.invokevirtual 113, 3) := by decide +kernel
theorem dX8_readsRow_74 : decode cX8_readsRow 74 = .ok (.bipush 44, 2) := by decide +kernel
theorem dX8_readsRow_76 : decode cX8_readsRow 76 = .ok (.if_icmp .eq 5, 3) := by decide +kernel
theorem dX8_readsRow_79 : decode cX8_readsRow 79 = .ok (.iconst 0, 1) := by decide +kernel
theorem dX8_readsRow_80 : decode cX8_readsRow 80 = .ok (.ireturn, 1) := by decide +kernel
theorem dX8_readsRow_81 : decode cX8_readsRow 81 = .ok (.aload_n 0, 1) := by decide +kernel
theorem dX8_readsRow_82 : decode cX8_readsRow 82 = .ok (.dup, 1) := by decide +kernel
theorem dX8_readsRow_83 : decode cX8_readsRow 83 = .ok (.getfield 110, 3) := by decide +kernel
theorem dX8_readsRow_86 : decode cX8_readsRow 86 = .ok (.iconst 1, 1) := by decide +kernel
theorem dX8_readsRow_87 : decode cX8_readsRow 87 = .ok (.iadd, 1) := by decide +kernel
theorem dX8_readsRow_88 : decode cX8_readsRow 88 = .ok (.putfield 110, 3) := by decide +kernel
theorem dX8_readsRow_91 : decode cX8_readsRow 91 = .ok (.goto (-74), 3) := by decide +kernel
theorem dX8_tells_0 : decode cX8_tells 0 = .ok (.aload_n 0, 1) := by decide +kernel
theorem dX8_tells_1 : decode cX8_tells 1 = .ok (.iconst 0, 1) := by decide +kernel
theorem dX8_tells_2 : decode cX8_tells 2 = .ok (.putfield 55, 3) := by decide +kernel
theorem dX8_tells_5 : decode cX8_tells 5 = .ok (.aload_n 0, 1) := by decide +kernel
theorem dX8_tells_6 : decode cX8_tells 6 = .ok (.invokevirtual 128, 3) := by decide +kernel
theorem dX8_tells_9 : decode cX8_tells 9 = .ok (.aload_n 0, 1) := by decide +kernel
theorem dX8_tells_10 : decode cX8_tells 10 = .ok (.invokevirtual 131, 3) := by decide +kernel
theorem dX8_tells_13 : decode cX8_tells 13 = .ok (.ifCond .ne 12, 3) := by decide +kernel
theorem dX8_tells_16 : decode cX8_tells 16 = .ok (.sipush (-2000), 3) := by decide +kernel
theorem dX8_tells_19 : decode cX8_tells 19 = .ok (.aload_n 0, 1) := by decide +kernel
theorem dX8_tells_20 : decode cX8_tells 20 = .ok (.getfield 110, 3) := by decide +kernel
theorem dX8_tells_23 : decode cX8_tells 23 = .ok (.isub, 1) := by decide +kernel
theorem dX8_tells_24 : decode cX8_tells 24 = .ok (.ireturn, 1) := by decide +kernel
theorem dX8_tells_25 : decode cX8_tells 25 = .ok (.iload_n 1, 1) := by decide +kernel
theorem dX8_tells_26 : decode cX8_tells 26 = .ok (.invokestatic 134, 3) := by decide +kernel
theorem dX8_tells_29 : decode cX8_tells 29 = .ok (.ifCond .ne 5, 3) := by decide +kernel
theorem dX8_tells_32 : decode cX8_tells 32 = .ok (.iconst (-1), 1) := by decide +kernel
theorem dX8_tells_33 : decode cX8_tells 33 = .ok (.ireturn, 1) := by decide +kernel
theorem dX8_tells_34 : decode cX8_tells 34 = .ok (.aload_n 0, 1) := by decide +kernel
theorem dX8_tells_35 : decode cX8_tells 35 = .ok (.invokevirtual 138, 3) := by decide +kernel
theorem dX8_tells_38 : decode cX8_tells 38 = .ok (.aload_n 0, 1) := by decide +kernel
theorem dX8_tells_39 : decode cX8_tells 39 = .ok (.bipush 7, 2) := by decide +kernel
theorem dX8_tells_41 : decode cX8_tells 41 = .ok (.iload_n 1, 1) := by decide +kernel
theorem dX8_tells_42 : decode cX8_tells 42 = .ok (.invokevirtual 82, 3) := by decide +kernel
theorem dX8_tells_45 : decode cX8_tells 45 = .ok (.aload_n 0, 1) := by decide +kernel
theorem dX8_tells_46 : decode cX8_tells 46 = .ok (.getfield 16, 3) := by decide +kernel
theorem dX8_tells_49 : decode cX8_tells 49 = .ok (.iload_n 1, 1) := by decide +kernel
theorem dX8_tells_50 : decode cX8_tells 50 = .ok (.iaload, 1) := by decide +kernel
theorem dX8_tells_51 : decode cX8_tells 51 = .ok (.ireturn, 1) := by decide +kernel
theorem dX8_readsTree_0 : decode cX8_readsTree 0 = .ok (.aload_n 0, 1) := by decide +kernel
theorem dX8_readsTree_1 : decode cX8_readsTree 1 = .ok (.iconst 0, 1) := by decide +kernel
theorem dX8_readsTree_2 : decode cX8_readsTree 2 = .ok (.putfield 141, 3) := by decide +kernel
theorem dX8_readsTree_5 : decode cX8_readsTree 5 = .ok (.iconst (-1), 1) := by decide +kernel
theorem dX8_readsTree_6 : decode cX8_readsTree 6 = .ok (.istore_n 1, 1) := by decide +kernel
theorem dX8_readsTree_7 : decode cX8_readsTree 7 = .ok (.iconst 0, 1) := by decide +kernel
theorem dX8_readsTree_8 : decode cX8_readsTree 8 = .ok (.istore_n 2, 1) := by decide +kernel
theorem dX8_readsTree_9 : decode cX8_readsTree 9 = .ok (.aload_n 0, 1) := by decide +kernel
theorem dX8_readsTree_10 : decode cX8_readsTree 10 = .ok (.invokevirtual 113, 3) := by decide +kernel
theorem dX8_readsTree_13 : decode cX8_readsTree 13 = .ok (.bipush 40, 2) := by decide +kernel
theorem dX8_readsTree_15 : decode cX8_readsTree 15 = .ok (.if_icmp .ne 98, 3) := by decide +kernel
theorem dX8_readsTree_18 : decode cX8_readsTree 18 = .ok (.aload_n 0, 1) := by decide +kernel
theorem dX8_readsTree_19 : decode cX8_readsTree 19 = .ok (.getfield 141, 3) := by decide +kernel
theorem dX8_readsTree_22 : decode cX8_readsTree 22 = .ok (.istore_n 3, 1) := by decide +kernel
theorem dX8_readsTree_23 : decode cX8_readsTree 23 = .ok (.aload_n 0, 1) := by decide +kernel
theorem dX8_readsTree_24 : decode cX8_readsTree 24 = .ok (.getfield 34, 3) := by decide +kernel
theorem dX8_readsTree_27 : decode cX8_readsTree 27 = .ok (.iload_n 3, 1) := by decide +kernel
theorem dX8_readsTree_28 : decode cX8_readsTree 28 = .ok (.aload_n 0, 1) := by decide +kernel
theorem dX8_readsTree_29 : decode cX8_readsTree 29 = .ok (.getfield 110, 3) := by decide +kernel
theorem dX8_readsTree_32 : decode cX8_readsTree 32 = .ok (.iastore, 1) := by decide +kernel
theorem dX8_readsTree_33 : decode cX8_readsTree 33 = .ok (.aload_n 0, 1) := by decide +kernel
theorem dX8_readsTree_34 : decode cX8_readsTree 34 = .ok (.getfield 40, 3) := by decide +kernel
theorem dX8_readsTree_37 : decode cX8_readsTree 37 = .ok (.iload_n 3, 1) := by decide +kernel
theorem dX8_readsTree_38 : decode cX8_readsTree 38 = .ok (.iload_n 1, 1) := by decide +kernel
theorem dX8_readsTree_39 : decode cX8_readsTree 39 = .ok (.iastore, 1) := by decide +kernel
theorem dX8_readsTree_40 : decode cX8_readsTree 40 = .ok (.aload_n 0, 1) := by decide +kernel
theorem dX8_readsTree_41 : decode cX8_readsTree 41 = .ok (.getfield 43, 3) := by decide +kernel
theorem dX8_readsTree_44 : decode cX8_readsTree 44 = .ok (.iload_n 3, 1) := by decide +kernel
theorem dX8_readsTree_45 : decode cX8_readsTree 45 = .ok (.iload_n 2, 1) := by decide +kernel
theorem dX8_readsTree_46 : decode cX8_readsTree 46 = .ok (.iastore, 1) := by decide +kernel
theorem dX8_readsTree_47 : decode cX8_readsTree 47 = .ok (.aload_n 0, 1) := by decide +kernel
theorem dX8_readsTree_48 : decode cX8_readsTree 48 = .ok (.getfield 46, 3) := by decide +kernel
theorem dX8_readsTree_51 : decode cX8_readsTree 51 = .ok (.iconst 2, 1) := by decide +kernel
theorem dX8_readsTree_52 : decode cX8_readsTree 52 = .ok (.iload_n 3, 1) := by decide +kernel
theorem dX8_readsTree_53 : decode cX8_readsTree 53 = .ok (.imul, 1) := by decide +kernel
theorem dX8_readsTree_54 : decode cX8_readsTree 54 = .ok (.iconst 0, 1) := by decide +kernel
theorem dX8_readsTree_55 : decode cX8_readsTree 55 = .ok (.iastore, 1) := by decide +kernel
theorem dX8_readsTree_56 : decode cX8_readsTree 56 = .ok (.aload_n 0, 1) := by decide +kernel
theorem dX8_readsTree_57 : decode cX8_readsTree 57 = .ok (.getfield 46, 3) := by decide +kernel
theorem dX8_readsTree_60 : decode cX8_readsTree 60 = .ok (.iconst 2, 1) := by decide +kernel
theorem dX8_readsTree_61 : decode cX8_readsTree 61 = .ok (.iload_n 3, 1) := by decide +kernel
theorem dX8_readsTree_62 : decode cX8_readsTree 62 = .ok (.imul, 1) := by decide +kernel
theorem dX8_readsTree_63 : decode cX8_readsTree 63 = .ok (.iconst 1, 1) := by decide +kernel
theorem dX8_readsTree_64 : decode cX8_readsTree 64 = .ok (.iadd, 1) := by decide +kernel
theorem dX8_readsTree_65 : decode cX8_readsTree 65 = .ok (.iconst 0, 1) := by decide +kernel
theorem dX8_readsTree_66 : decode cX8_readsTree 66 = .ok (.iastore, 1) := by decide +kernel
theorem dX8_readsTree_67 : decode cX8_readsTree 67 = .ok (.aload_n 0, 1) := by decide +kernel
theorem dX8_readsTree_68 : decode cX8_readsTree 68 = .ok (.dup, 1) := by decide +kernel
theorem dX8_readsTree_69 : decode cX8_readsTree 69 = .ok (.getfield 141, 3) := by decide +kernel
theorem dX8_readsTree_72 : decode cX8_readsTree 72 = .ok (.iconst 1, 1) := by decide +kernel
theorem dX8_readsTree_73 : decode cX8_readsTree 73 = .ok (.iadd, 1) := by decide +kernel
theorem dX8_readsTree_74 : decode cX8_readsTree 74 = .ok (.putfield 141, 3) := by decide +kernel
theorem dX8_readsTree_77 : decode cX8_readsTree 77 = .ok (.aload_n 0, 1) := by decide +kernel
theorem dX8_readsTree_78 : decode cX8_readsTree 78 = .ok (.dup, 1) := by decide +kernel
theorem dX8_readsTree_79 : decode cX8_readsTree 79 = .ok (.getfield 110, 3) := by decide +kernel
theorem dX8_readsTree_82 : decode cX8_readsTree 82 = .ok (.iconst 1, 1) := by decide +kernel
theorem dX8_readsTree_83 : decode cX8_readsTree 83 = .ok (.iadd, 1) := by decide +kernel
theorem dX8_readsTree_84 : decode cX8_readsTree 84 = .ok (.putfield 110, 3) := by decide +kernel
theorem dX8_readsTree_87 : decode cX8_readsTree 87 = .ok (.aload_n 0, 1) := by decide +kernel
theorem dX8_readsTree_88 : decode cX8_readsTree 88 = .ok (.invokevirtual 124, 3) := by decide +kernel
theorem dX8_readsTree_91 : decode cX8_readsTree 91 = .ok (.ifCond .ne 5, 3) := by decide +kernel
theorem dX8_readsTree_94 : decode cX8_readsTree 94 = .ok (.iconst 0, 1) := by decide +kernel
theorem dX8_readsTree_95 : decode cX8_readsTree 95 = .ok (.ireturn, 1) := by decide +kernel
theorem dX8_readsTree_96 : decode cX8_readsTree 96 = .ok (.aload_n 0, 1) := by decide +kernel
theorem dX8_readsTree_97 : decode cX8_readsTree 97 = .ok (.getfield 37, 3) := by decide +kernel
theorem dX8_readsTree_100 : decode cX8_readsTree 100 = .ok (.iload_n 3, 1) := by decide +kernel
theorem dX8_readsTree_101 : decode cX8_readsTree 101 = .ok (.aload_n 0, 1) := by decide +kernel
theorem dX8_readsTree_102 : decode cX8_readsTree 102 = .ok (.getfield 121, 3) := by decide +kernel
theorem dX8_readsTree_105 : decode cX8_readsTree 105 = .ok (.iastore, 1) := by decide +kernel
theorem dX8_readsTree_106 : decode cX8_readsTree 106 = .ok (.iload_n 3, 1) := by decide +kernel
theorem dX8_readsTree_107 : decode cX8_readsTree 107 = .ok (.istore_n 1, 1) := by decide +kernel
theorem dX8_readsTree_108 : decode cX8_readsTree 108 = .ok (.iconst 0, 1) := by decide +kernel
theorem dX8_readsTree_109 : decode cX8_readsTree 109 = .ok (.istore_n 2, 1) := by decide +kernel
theorem dX8_readsTree_110 : decode cX8_readsTree 110 = .ok (.goto (-101), 3) := by decide +kernel
theorem dX8_readsTree_113 : decode cX8_readsTree 113 = .ok (.aload_n 0, 1) := by decide +kernel
theorem dX8_readsTree_114 : decode cX8_readsTree 114 = .ok (.invokevirtual 113, 3) := by decide +kernel
theorem dX8_readsTree_117 : decode cX8_readsTree 117 = .ok (.bipush 46, 2) := by decide +kernel
theorem dX8_readsTree_119 : decode cX8_readsTree 119 = .ok (.if_icmp .eq 5, 3) := by decide +kernel
theorem dX8_readsTree_122 : decode cX8_readsTree 122 = .ok (.iconst 0, 1) := by decide +kernel
theorem dX8_readsTree_123 : decode cX8_readsTree 123 = .ok (.ireturn, 1) := by decide +kernel
theorem dX8_readsTree_124 : decode cX8_readsTree 124 = .ok (.aload_n 0, 1) := by decide +kernel
theorem dX8_readsTree_125 : decode cX8_readsTree 125 = .ok (.dup, 1) := by decide +kernel
theorem dX8_readsTree_126 : decode cX8_readsTree 126 = .ok (.getfield 110, 3) := by decide +kernel
theorem dX8_readsTree_129 : decode cX8_readsTree 129 = .ok (.iconst 1, 1) := by decide +kernel
theorem dX8_readsTree_130 : decode cX8_readsTree 130 = .ok (.iadd, 1) := by decide +kernel
theorem dX8_readsTree_131 : decode cX8_readsTree 131 = .ok (.putfield 110, 3) := by decide +kernel
theorem dX8_readsTree_134 : decode cX8_readsTree 134 = .ok (.iload_n 1, 1) := by decide +kernel
theorem dX8_readsTree_135 : decode cX8_readsTree 135 = .ok (.iconst (-1), 1) := by decide +kernel
theorem dX8_readsTree_136 : decode cX8_readsTree 136 = .ok (.if_icmp .eq 46, 3) := by decide +kernel
theorem dX8_readsTree_139 : decode cX8_readsTree 139 = .ok (.iload_n 2, 1) := by decide +kernel
theorem dX8_readsTree_140 : decode cX8_readsTree 140 = .ok (.iconst 1, 1) := by decide +kernel
theorem dX8_readsTree_141 : decode cX8_readsTree 141 = .ok (.if_icmp .ne 41, 3) := by decide +kernel
theorem dX8_readsTree_144 : decode cX8_readsTree 144 = .ok (.aload_n 0, 1) := by decide +kernel
theorem dX8_readsTree_145 : decode cX8_readsTree 145 = .ok (.invokevirtual 113, 3) := by decide +kernel
theorem dX8_readsTree_148 : decode cX8_readsTree 148 = .ok (.bipush 41, 2) := by decide +kernel
theorem dX8_readsTree_150 : decode cX8_readsTree 150 = .ok (.if_icmp .eq 5, 3) := by decide +kernel
theorem dX8_readsTree_153 : decode cX8_readsTree 153 = .ok (.iconst 0, 1) := by decide +kernel
theorem dX8_readsTree_154 : decode cX8_readsTree 154 = .ok (.ireturn, 1) := by decide +kernel
theorem dX8_readsTree_155 : decode cX8_readsTree 155 = .ok (.aload_n 0, 1) := by decide +kernel
theorem dX8_readsTree_156 : decode cX8_readsTree 156 = .ok (.dup, 1) := by decide +kernel
theorem dX8_readsTree_157 : decode cX8_readsTree 157 = .ok (.getfield 110, 3) := by decide +kernel
theorem dX8_readsTree_160 : decode cX8_readsTree 160 = .ok (.iconst 1, 1) := by decide +kernel
theorem dX8_readsTree_161 : decode cX8_readsTree 161 = .ok (.iadd, 1) := by decide +kernel
theorem dX8_readsTree_162 : decode cX8_readsTree 162 = .ok (.putfield 110, 3) := by decide +kernel
theorem dX8_readsTree_165 : decode cX8_readsTree 165 = .ok (.aload_n 0, 1) := by decide +kernel
theorem dX8_readsTree_166 : decode cX8_readsTree 166 = .ok (.getfield 43, 3) := by decide +kernel
theorem dX8_readsTree_169 : decode cX8_readsTree 169 = .ok (.iload_n 1, 1) := by decide +kernel
theorem dX8_readsTree_170 : decode cX8_readsTree 170 = .ok (.iaload, 1) := by decide +kernel
theorem dX8_readsTree_171 : decode cX8_readsTree 171 = .ok (.istore_n 2, 1) := by decide +kernel
theorem dX8_readsTree_172 : decode cX8_readsTree 172 = .ok (.aload_n 0, 1) := by decide +kernel
theorem dX8_readsTree_173 : decode cX8_readsTree 173 = .ok (.getfield 40, 3) := by decide +kernel
theorem dX8_readsTree_176 : decode cX8_readsTree 176 = .ok (.iload_n 1, 1) := by decide +kernel
theorem dX8_readsTree_177 : decode cX8_readsTree 177 = .ok (.iaload, 1) := by decide +kernel
theorem dX8_readsTree_178 : decode cX8_readsTree 178 = .ok (.istore_n 1, 1) := by decide +kernel
theorem dX8_readsTree_179 : decode cX8_readsTree 179 = .ok (.goto (-45), 3) := by decide +kernel
theorem dX8_readsTree_182 : decode cX8_readsTree 182 = .ok (.iload_n 1, 1) := by decide +kernel
theorem dX8_readsTree_183 : decode cX8_readsTree 183 = .ok (.iconst (-1), 1) := by decide +kernel
theorem dX8_readsTree_184 : decode cX8_readsTree 184 = .ok (.if_icmp .ne 20, 3) := by decide +kernel
theorem dX8_readsTree_187 : decode cX8_readsTree 187 = .ok (.aload_n 0, 1) := by decide +kernel
theorem dX8_readsTree_188 : decode cX8_readsTree 188 = .ok (.getfield 110, 3) := by decide +kernel
theorem dX8_readsTree_191 : decode cX8_readsTree 191 = .ok (.aload_n 0, 1) := by decide +kernel
theorem dX8_readsTree_192 : decode cX8_readsTree 192 = .ok (.getfield 107, 3) := by decide +kernel
theorem dX8_readsTree_195 : decode cX8_readsTree 195 = .ok (.if_icmp .ne 7, 3) := by decide +kernel
theorem dX8_readsTree_198 : decode cX8_readsTree 198 = .ok (.iconst 1, 1) := by decide +kernel
theorem dX8_readsTree_199 : decode cX8_readsTree 199 = .ok (.goto 4, 3) := by decide +kernel
theorem dX8_readsTree_202 : decode cX8_readsTree 202 = .ok (.iconst 0, 1) := by decide +kernel
theorem dX8_readsTree_203 : decode cX8_readsTree 203 = .ok (.ireturn, 1) := by decide +kernel
theorem dX8_readsTree_204 : decode cX8_readsTree 204 = .ok (.iconst 1, 1) := by decide +kernel
theorem dX8_readsTree_205 : decode cX8_readsTree 205 = .ok (.istore_n 2, 1) := by decide +kernel
theorem dX8_readsTree_206 : decode cX8_readsTree 206 = .ok (.goto (-197), 3) := by decide +kernel
theorem dX8_unevenTold_0 : decode cX8_unevenTold 0 = .ok (.iconst (-1), 1) := by decide +kernel
theorem dX8_unevenTold_1 : decode cX8_unevenTold 1 = .ok (.istore_n 1, 1) := by decide +kernel
theorem dX8_unevenTold_2 : decode cX8_unevenTold 2 = .ok (.aload_n 0, 1) := by decide +kernel
theorem dX8_unevenTold_3 : decode cX8_unevenTold 3 = .ok (.getfield 141, 3) := by decide +kernel
theorem dX8_unevenTold_6 : decode cX8_unevenTold 6 = .ok (.iconst 1, 1) := by decide +kernel
theorem dX8_unevenTold_7 : decode cX8_unevenTold 7 = .ok (.isub, 1) := by decide +kernel
theorem dX8_unevenTold_8 : decode cX8_unevenTold 8 = .ok (.istore_n 2, 1) := by decide +kernel
theorem dX8_unevenTold_9 : decode cX8_unevenTold 9 = .ok (.iload_n 2, 1) := by decide +kernel
theorem dX8_unevenTold_10 : decode cX8_unevenTold 10 = .ok (.ifCond .lt 82, 3) := by decide +kernel
theorem dX8_unevenTold_13 : decode cX8_unevenTold 13 = .ok (.aload_n 0, 1) := by decide +kernel
theorem dX8_unevenTold_14 : decode cX8_unevenTold 14 = .ok (.getfield 46, 3) := by decide +kernel
theorem dX8_unevenTold_17 : decode cX8_unevenTold 17 = .ok (.iconst 2, 1) := by decide +kernel
theorem dX8_unevenTold_18 : decode cX8_unevenTold 18 = .ok (.iload_n 2, 1) := by decide +kernel
theorem dX8_unevenTold_19 : decode cX8_unevenTold 19 = .ok (.imul, 1) := by decide +kernel
theorem dX8_unevenTold_20 : decode cX8_unevenTold 20 = .ok (.iaload, 1) := by decide +kernel
theorem dX8_unevenTold_21 : decode cX8_unevenTold 21 = .ok (.istore_n 3, 1) := by decide +kernel
theorem dX8_unevenTold_22 : decode cX8_unevenTold 22 = .ok (.aload_n 0, 1) := by decide +kernel
theorem dX8_unevenTold_23 : decode cX8_unevenTold 23 = .ok (.getfield 46, 3) := by decide +kernel
theorem dX8_unevenTold_26 : decode cX8_unevenTold 26 = .ok (.iconst 2, 1) := by decide +kernel
theorem dX8_unevenTold_27 : decode cX8_unevenTold 27 = .ok (.iload_n 2, 1) := by decide +kernel
theorem dX8_unevenTold_28 : decode cX8_unevenTold 28 = .ok (.imul, 1) := by decide +kernel
theorem dX8_unevenTold_29 : decode cX8_unevenTold 29 = .ok (.iconst 1, 1) := by decide +kernel
theorem dX8_unevenTold_30 : decode cX8_unevenTold 30 = .ok (.iadd, 1) := by decide +kernel
theorem dX8_unevenTold_31 : decode cX8_unevenTold 31 = .ok (.iaload, 1) := by decide +kernel
theorem dX8_unevenTold_32 : decode cX8_unevenTold 32 = .ok (.istore 4, 2) := by decide +kernel
theorem dX8_unevenTold_34 : decode cX8_unevenTold 34 = .ok (.iload_n 3, 1) := by decide +kernel
theorem dX8_unevenTold_35 : decode cX8_unevenTold 35 = .ok (.iload 4, 2) := by decide +kernel
theorem dX8_unevenTold_37 : decode cX8_unevenTold 37 = .ok (.if_icmp .eq 13, 3) := by decide +kernel
theorem dX8_unevenTold_40 : decode cX8_unevenTold 40 = .ok (.iload_n 3, 1) := by decide +kernel
theorem dX8_unevenTold_41 : decode cX8_unevenTold 41 = .ok (.iload 4, 2) := by decide +kernel
theorem dX8_unevenTold_43 : decode cX8_unevenTold 43 = .ok (.iconst 1, 1) := by decide +kernel
theorem dX8_unevenTold_44 : decode cX8_unevenTold 44 = .ok (.iadd, 1) := by decide +kernel
theorem dX8_unevenTold_45 : decode cX8_unevenTold 45 = .ok (.if_icmp .eq 5, 3) := by decide +kernel
theorem dX8_unevenTold_48 : decode cX8_unevenTold 48 = .ok (.iload_n 2, 1) := by decide +kernel
theorem dX8_unevenTold_49 : decode cX8_unevenTold 49 = .ok (.istore_n 1, 1) := by decide +kernel
theorem dX8_unevenTold_50 : decode cX8_unevenTold 50 = .ok (.aload_n 0, 1) := by decide +kernel
theorem dX8_unevenTold_51 : decode cX8_unevenTold 51 = .ok (.getfield 40, 3) := by decide +kernel
theorem dX8_unevenTold_54 : decode cX8_unevenTold 54 = .ok (.iload_n 2, 1) := by decide +kernel
theorem dX8_unevenTold_55 : decode cX8_unevenTold 55 = .ok (.iaload, 1) := by decide +kernel
theorem dX8_unevenTold_56 : decode cX8_unevenTold 56 = .ok (.iconst (-1), 1) := by decide +kernel
theorem dX8_unevenTold_57 : decode cX8_unevenTold 57 = .ok (.if_icmp .eq 29, 3) := by decide +kernel
theorem dX8_unevenTold_60 : decode cX8_unevenTold 60 = .ok (.aload_n 0, 1) := by decide +kernel
theorem dX8_unevenTold_61 : decode cX8_unevenTold 61 = .ok (.getfield 46, 3) := by decide +kernel
theorem dX8_unevenTold_64 : decode cX8_unevenTold 64 = .ok (.iconst 2, 1) := by decide +kernel
theorem dX8_unevenTold_65 : decode cX8_unevenTold 65 = .ok (.aload_n 0, 1) := by decide +kernel
theorem dX8_unevenTold_66 : decode cX8_unevenTold 66 = .ok (.getfield 40, 3) := by decide +kernel
theorem dX8_unevenTold_69 : decode cX8_unevenTold 69 = .ok (.iload_n 2, 1) := by decide +kernel
theorem dX8_unevenTold_70 : decode cX8_unevenTold 70 = .ok (.iaload, 1) := by decide +kernel
theorem dX8_unevenTold_71 : decode cX8_unevenTold 71 = .ok (.imul, 1) := by decide +kernel
theorem dX8_unevenTold_72 : decode cX8_unevenTold 72 = .ok (.aload_n 0, 1) := by decide +kernel
theorem dX8_unevenTold_73 : decode cX8_unevenTold 73 = .ok (.getfield 43, 3) := by decide +kernel
theorem dX8_unevenTold_76 : decode cX8_unevenTold 76 = .ok (.iload_n 2, 1) := by decide +kernel
theorem dX8_unevenTold_77 : decode cX8_unevenTold 77 = .ok (.iaload, 1) := by decide +kernel
theorem dX8_unevenTold_78 : decode cX8_unevenTold 78 = .ok (.iadd, 1) := by decide +kernel
theorem dX8_unevenTold_79 : decode cX8_unevenTold 79 = .ok (.iload_n 3, 1) := by decide +kernel
theorem dX8_unevenTold_80 : decode cX8_unevenTold 80 = .ok (.iload 4, 2) := by decide +kernel
theorem dX8_unevenTold_82 : decode cX8_unevenTold 82 = .ok (.iadd, 1) := by decide +kernel
theorem dX8_unevenTold_83 : decode cX8_unevenTold 83 = .ok (.iconst 1, 1) := by decide +kernel
theorem dX8_unevenTold_84 : decode cX8_unevenTold 84 = .ok (.iadd, 1) := by decide +kernel
theorem dX8_unevenTold_85 : decode cX8_unevenTold 85 = .ok (.iastore, 1) := by decide +kernel
theorem dX8_unevenTold_86 : decode cX8_unevenTold 86 = .ok (.iinc 2 (-1), 3) := by decide +kernel
theorem dX8_unevenTold_89 : decode cX8_unevenTold 89 = .ok (.goto (-80), 3) := by decide +kernel
theorem dX8_unevenTold_92 : decode cX8_unevenTold 92 = .ok (.iload_n 1, 1) := by decide +kernel
theorem dX8_unevenTold_93 : decode cX8_unevenTold 93 = .ok (.ireturn, 1) := by decide +kernel
theorem dX8_grows_0 : decode cX8_grows 0 = .ok (.aload_n 0, 1) := by decide +kernel
theorem dX8_grows_1 : decode cX8_grows 1 = .ok (.iconst 0, 1) := by decide +kernel
theorem dX8_grows_2 : decode cX8_grows 2 = .ok (.putfield 55, 3) := by decide +kernel
theorem dX8_grows_5 : decode cX8_grows 5 = .ok (.aload_n 0, 1) := by decide +kernel
theorem dX8_grows_6 : decode cX8_grows 6 = .ok (.invokevirtual 128, 3) := by decide +kernel
theorem dX8_grows_9 : decode cX8_grows 9 = .ok (.aload_n 0, 1) := by decide +kernel
theorem dX8_grows_10 : decode cX8_grows 10 = .ok (.invokevirtual 144, 3) := by decide +kernel
theorem dX8_grows_13 : decode cX8_grows 13 = .ok (.ifCond .ne 12, 3) := by decide +kernel
theorem dX8_grows_16 : decode cX8_grows 16 = .ok (.sipush (-2000), 3) := by decide +kernel
theorem dX8_grows_19 : decode cX8_grows 19 = .ok (.aload_n 0, 1) := by decide +kernel
theorem dX8_grows_20 : decode cX8_grows 20 = .ok (.getfield 110, 3) := by decide +kernel
theorem dX8_grows_23 : decode cX8_grows 23 = .ok (.isub, 1) := by decide +kernel
theorem dX8_grows_24 : decode cX8_grows 24 = .ok (.ireturn, 1) := by decide +kernel
theorem dX8_grows_25 : decode cX8_grows 25 = .ok (.iload_n 1, 1) := by decide +kernel
theorem dX8_grows_26 : decode cX8_grows 26 = .ok (.invokestatic 134, 3) := by decide +kernel
theorem dX8_grows_29 : decode cX8_grows 29 = .ok (.ifCond .ne 5, 3) := by decide +kernel
theorem dX8_grows_32 : decode cX8_grows 32 = .ok (.iconst (-1), 1) := by decide +kernel
theorem dX8_grows_33 : decode cX8_grows 33 = .ok (.ireturn, 1) := by decide +kernel
theorem dX8_grows_34 : decode cX8_grows 34 = .ok (.aload_n 0, 1) := by decide +kernel
theorem dX8_grows_35 : decode cX8_grows 35 = .ok (.invokevirtual 147, 3) := by decide +kernel
theorem dX8_grows_38 : decode cX8_grows 38 = .ok (.istore_n 2, 1) := by decide +kernel
theorem dX8_grows_39 : decode cX8_grows 39 = .ok (.iload_n 2, 1) := by decide +kernel
theorem dX8_grows_40 : decode cX8_grows 40 = .ok (.iconst (-1), 1) := by decide +kernel
theorem dX8_grows_41 : decode cX8_grows 41 = .ok (.if_icmp .eq 50, 3) := by decide +kernel
theorem dX8_grows_44 : decode cX8_grows 44 = .ok (.aload_n 0, 1) := by decide +kernel
theorem dX8_grows_45 : decode cX8_grows 45 = .ok (.iconst 0, 1) := by decide +kernel
theorem dX8_grows_46 : decode cX8_grows 46 = .ok (.putfield 59, 3) := by decide +kernel
theorem dX8_grows_49 : decode cX8_grows 49 = .ok (.aload_n 0, 1) := by decide +kernel
theorem dX8_grows_50 : decode cX8_grows 50 = .ok (.aload_n 0, 1) := by decide +kernel
theorem dX8_grows_51 : decode cX8_grows 51 = .ok (.getfield 34, 3) := by decide +kernel
theorem dX8_grows_54 : decode cX8_grows 54 = .ok (.iload_n 2, 1) := by decide +kernel
theorem dX8_grows_55 : decode cX8_grows 55 = .ok (.iaload, 1) := by decide +kernel
theorem dX8_grows_56 : decode cX8_grows 56 = .ok (.i2l, 1) := by decide +kernel
theorem dX8_grows_57 : decode cX8_grows 57 = .ok (.invokevirtual 150, 3) := by decide +kernel
theorem dX8_grows_60 : decode cX8_grows 60 = .ok (.aload_n 0, 1) := by decide +kernel
theorem dX8_grows_61 : decode cX8_grows 61 = .ok (.aload_n 0, 1) := by decide +kernel
theorem dX8_grows_62 : decode cX8_grows 62 = .ok (.getfield 46, 3) := by decide +kernel
theorem dX8_grows_65 : decode cX8_grows 65 = .ok (.iconst 2, 1) := by decide +kernel
theorem dX8_grows_66 : decode cX8_grows 66 = .ok (.iload_n 2, 1) := by decide +kernel
theorem dX8_grows_67 : decode cX8_grows 67 = .ok (.imul, 1) := by decide +kernel
theorem dX8_grows_68 : decode cX8_grows 68 = .ok (.iaload, 1) := by decide +kernel
theorem dX8_grows_69 : decode cX8_grows 69 = .ok (.i2l, 1) := by decide +kernel
theorem dX8_grows_70 : decode cX8_grows 70 = .ok (.invokevirtual 150, 3) := by decide +kernel
theorem dX8_grows_73 : decode cX8_grows 73 = .ok (.aload_n 0, 1) := by decide +kernel
theorem dX8_grows_74 : decode cX8_grows 74 = .ok (.aload_n 0, 1) := by decide +kernel
theorem dX8_grows_75 : decode cX8_grows 75 = .ok (.getfield 46, 3) := by decide +kernel
theorem dX8_grows_78 : decode cX8_grows 78 = .ok (.iconst 2, 1) := by decide +kernel
theorem dX8_grows_79 : decode cX8_grows 79 = .ok (.iload_n 2, 1) := by decide +kernel
theorem dX8_grows_80 : decode cX8_grows 80 = .ok (.imul, 1) := by decide +kernel
theorem dX8_grows_81 : decode cX8_grows 81 = .ok (.iconst 1, 1) := by decide +kernel
theorem dX8_grows_82 : decode cX8_grows 82 = .ok (.iadd, 1) := by decide +kernel
theorem dX8_grows_83 : decode cX8_grows 83 = .ok (.iaload, 1) := by decide +kernel
theorem dX8_grows_84 : decode cX8_grows 84 = .ok (.i2l, 1) := by decide +kernel
theorem dX8_grows_85 : decode cX8_grows 85 = .ok (.invokevirtual 150, 3) := by decide +kernel
theorem dX8_grows_88 : decode cX8_grows 88 = .ok (.bipush (-2), 2) := by decide +kernel
theorem dX8_grows_90 : decode cX8_grows 90 = .ok (.ireturn, 1) := by decide +kernel
theorem dX8_grows_91 : decode cX8_grows 91 = .ok (.aload_n 0, 1) := by decide +kernel
theorem dX8_grows_92 : decode cX8_grows 92 = .ok (.getfield 16, 3) := by decide +kernel
theorem dX8_grows_95 : decode cX8_grows 95 = .ok (.bipush 7, 2) := by decide +kernel
theorem dX8_grows_97 : decode cX8_grows 97 = .ok (.aload_n 0, 1) := by decide +kernel
theorem dX8_grows_98 : decode cX8_grows 98 = .ok (.getfield 141, 3) := by decide +kernel
theorem dX8_grows_101 : decode cX8_grows 101 = .ok (.iastore, 1) := by decide +kernel
theorem dX8_grows_102 : decode cX8_grows 102 = .ok (.iconst 0, 1) := by decide +kernel
theorem dX8_grows_103 : decode cX8_grows 103 = .ok (.istore_n 3, 1) := by decide +kernel
theorem dX8_grows_104 : decode cX8_grows 104 = .ok (.iload_n 3, 1) := by decide +kernel
theorem dX8_grows_105 : decode cX8_grows 105 = .ok (.aload_n 0, 1) := by decide +kernel
theorem dX8_grows_106 : decode cX8_grows 106 = .ok (.getfield 141, 3) := by decide +kernel
theorem dX8_grows_109 : decode cX8_grows 109 = .ok (.if_icmp .ge 103, 3) := by decide +kernel
theorem dX8_grows_112 : decode cX8_grows 112 = .ok (.aload_n 0, 1) := by decide +kernel
theorem dX8_grows_113 : decode cX8_grows 113 = .ok (.getfield 40, 3) := by decide +kernel
theorem dX8_grows_116 : decode cX8_grows 116 = .ok (.iload_n 3, 1) := by decide +kernel
theorem dX8_grows_117 : decode cX8_grows 117 = .ok (.iaload, 1) := by decide +kernel
theorem dX8_grows_118 : decode cX8_grows 118 = .ok (.istore 4, 2) := by decide +kernel
theorem dX8_grows_120 : decode cX8_grows 120 = .ok (.aload_n 0, 1) := by decide +kernel
theorem dX8_grows_121 : decode cX8_grows 121 = .ok (.getfield 49, 3) := by decide +kernel
theorem dX8_grows_124 : decode cX8_grows 124 = .ok (.iload_n 3, 1) := by decide +kernel
theorem dX8_grows_125 : decode cX8_grows 125 = .ok (.iload 4, 2) := by decide +kernel
theorem dX8_grows_127 : decode cX8_grows 127 = .ok (.iconst (-1), 1) := by decide +kernel
theorem dX8_grows_128 : decode cX8_grows 128 = .ok (.if_icmp .ne 7, 3) := by decide +kernel
theorem dX8_grows_131 : decode cX8_grows 131 = .ok (.iconst 0, 1) := by decide +kernel
theorem dX8_grows_132 : decode cX8_grows 132 = .ok (.goto 27, 3) := by decide +kernel
theorem dX8_grows_135 : decode cX8_grows 135 = .ok (.aload_n 0, 1) := by decide +kernel
theorem dX8_grows_136 : decode cX8_grows 136 = .ok (.getfield 49, 3) := by decide +kernel
theorem dX8_grows_139 : decode cX8_grows 139 = .ok (.iload 4, 2) := by decide +kernel
theorem dX8_grows_141 : decode cX8_grows 141 = .ok (.iaload, 1) := by decide +kernel
theorem dX8_grows_142 : decode cX8_grows 142 = .ok (.aload_n 0, 1) := by decide +kernel
theorem dX8_grows_143 : decode cX8_grows 143 = .ok (.getfield 52, 3) := by decide +kernel
theorem dX8_grows_146 : decode cX8_grows 146 = .ok (.iload 4, 2) := by decide +kernel
theorem dX8_grows_148 : decode cX8_grows 148 = .ok (.iaload, 1) := by decide +kernel
theorem dX8_grows_149 : decode cX8_grows 149 = .ok (.aload_n 0, 1) := by decide +kernel
theorem dX8_grows_150 : decode cX8_grows 150 = .ok (.getfield 43, 3) := by decide +kernel
theorem dX8_grows_153 : decode cX8_grows 153 = .ok (.iload_n 3, 1) := by decide +kernel
theorem dX8_grows_154 : decode cX8_grows 154 = .ok (.iaload, 1) := by decide +kernel
theorem dX8_grows_155 : decode cX8_grows 155 = .ok (.iconst 1, 1) := by decide +kernel
theorem dX8_grows_156 : decode cX8_grows 156 = .ok (.iadd, 1) := by decide +kernel
theorem dX8_grows_157 : decode cX8_grows 157 = .ok (.imul, 1) := by decide +kernel
theorem dX8_grows_158 : decode cX8_grows 158 = .ok (.iadd, 1) := by decide +kernel
theorem dX8_grows_159 : decode cX8_grows 159 = .ok (.iastore, 1) := by decide +kernel
theorem dX8_grows_160 : decode cX8_grows 160 = .ok (.aload_n 0, 1) := by decide +kernel
theorem dX8_grows_161 : decode cX8_grows 161 = .ok (.getfield 52, 3) := by decide +kernel
theorem dX8_grows_164 : decode cX8_grows 164 = .ok (.iload_n 3, 1) := by decide +kernel
theorem dX8_grows_165 : decode cX8_grows 165 = .ok (.iload 4, 2) := by decide +kernel
theorem dX8_grows_167 : decode cX8_grows 167 = .ok (.iconst (-1), 1) := by decide +kernel
theorem dX8_grows_168 : decode cX8_grows 168 = .ok (.if_icmp .ne 7, 3) := by decide +kernel
theorem dX8_grows_171 : decode cX8_grows 171 = .ok (.iconst 1, 1) := by decide +kernel
theorem dX8_grows_172 : decode cX8_grows 172 = .ok (.goto 12, 3) := by decide +kernel
theorem dX8_grows_175 : decode cX8_grows 175 = .ok (.iconst 2, 1) := by decide +kernel
theorem dX8_grows_176 : decode cX8_grows 176 = .ok (.aload_n 0, 1) := by decide +kernel
theorem dX8_grows_177 : decode cX8_grows 177 = .ok (.getfield 52, 3) := by decide +kernel
theorem dX8_grows_180 : decode cX8_grows 180 = .ok (.iload 4, 2) := by decide +kernel
theorem dX8_grows_182 : decode cX8_grows 182 = .ok (.iaload, 1) := by decide +kernel
theorem dX8_grows_183 : decode cX8_grows 183 = .ok (.imul, 1) := by decide +kernel
theorem dX8_grows_184 : decode cX8_grows 184 = .ok (.iastore, 1) := by decide +kernel
theorem dX8_grows_185 : decode cX8_grows 185 = .ok (.aload_n 0, 1) := by decide +kernel
theorem dX8_grows_186 : decode cX8_grows 186 = .ok (.getfield 7, 3) := by decide +kernel
theorem dX8_grows_189 : decode cX8_grows 189 = .ok (.sipush 1792, 3) := by decide +kernel
theorem dX8_grows_192 : decode cX8_grows 192 = .ok (.aload_n 0, 1) := by decide +kernel
theorem dX8_grows_193 : decode cX8_grows 193 = .ok (.getfield 49, 3) := by decide +kernel
theorem dX8_grows_196 : decode cX8_grows 196 = .ok (.iload_n 3, 1) := by decide +kernel
theorem dX8_grows_197 : decode cX8_grows 197 = .ok (.iaload, 1) := by decide +kernel
theorem dX8_grows_198 : decode cX8_grows 198 = .ok (.iadd, 1) := by decide +kernel
theorem dX8_grows_199 : decode cX8_grows 199 = .ok (.aload_n 0, 1) := by decide +kernel
theorem dX8_grows_200 : decode cX8_grows 200 = .ok (.getfield 37, 3) := by decide +kernel
theorem dX8_grows_203 : decode cX8_grows 203 = .ok (.iload_n 3, 1) := by decide +kernel
theorem dX8_grows_204 : decode cX8_grows 204 = .ok (.iaload, 1) := by decide +kernel
theorem dX8_grows_205 : decode cX8_grows 205 = .ok (.iastore, 1) := by decide +kernel
theorem dX8_grows_206 : decode cX8_grows 206 = .ok (.iinc 3 1, 3) := by decide +kernel
theorem dX8_grows_209 : decode cX8_grows 209 = .ok (.goto (-105), 3) := by decide +kernel
theorem dX8_grows_212 : decode cX8_grows 212 = .ok (.aload_n 0, 1) := by decide +kernel
theorem dX8_grows_213 : decode cX8_grows 213 = .ok (.invokevirtual 138, 3) := by decide +kernel
theorem dX8_grows_216 : decode cX8_grows 216 = .ok (.aload_n 0, 1) := by decide +kernel
theorem dX8_grows_217 : decode cX8_grows 217 = .ok (.bipush 7, 2) := by decide +kernel
theorem dX8_grows_219 : decode cX8_grows 219 = .ok (.iload_n 1, 1) := by decide +kernel
theorem dX8_grows_220 : decode cX8_grows 220 = .ok (.invokevirtual 82, 3) := by decide +kernel
theorem dX8_grows_223 : decode cX8_grows 223 = .ok (.aload_n 0, 1) := by decide +kernel
theorem dX8_grows_224 : decode cX8_grows 224 = .ok (.getfield 16, 3) := by decide +kernel
theorem dX8_grows_227 : decode cX8_grows 227 = .ok (.iload_n 1, 1) := by decide +kernel
theorem dX8_grows_228 : decode cX8_grows 228 = .ok (.iaload, 1) := by decide +kernel
theorem dX8_grows_229 : decode cX8_grows 229 = .ok (.ireturn, 1) := by decide +kernel
