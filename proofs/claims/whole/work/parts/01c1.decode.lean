theorem dX8_fillsCouple_0 : decode cX8_fillsCouple 0 = .ok (.iload_n 1, 1) := by decide +kernel
theorem dX8_fillsCouple_1 : decode cX8_fillsCouple 1 = .ok (.ifCond .ne 28, 3) := by decide +kernel
theorem dX8_fillsCouple_4 : decode cX8_fillsCouple 4 = .ok (.aload_n 0, 1) := by decide +kernel
theorem dX8_fillsCouple_5 : decode cX8_fillsCouple 5 = .ok (.getfield 16, 3) := by decide +kernel
theorem dX8_fillsCouple_8 : decode cX8_fillsCouple 8 = .ok (.bipush 8, 2) := by decide +kernel
theorem dX8_fillsCouple_10 : decode cX8_fillsCouple 10 = .ok (.iconst 0, 1) := by decide +kernel
theorem dX8_fillsCouple_11 : decode cX8_fillsCouple 11 = .ok (.iastore, 1) := by decide +kernel
theorem dX8_fillsCouple_12 : decode cX8_fillsCouple 12 = .ok (.aload_n 0, 1) := by decide +kernel
theorem dX8_fillsCouple_13 : decode cX8_fillsCouple 13 = .ok (.getfield 16, 3) := by decide +kernel
theorem dX8_fillsCouple_16 : decode cX8_fillsCouple 16 = .ok (.bipush 9, 2) := by decide +kernel
theorem dX8_fillsCouple_18 : decode cX8_fillsCouple 18 = .ok (.iconst 1, 1) := by decide +kernel
theorem dX8_fillsCouple_19 : decode cX8_fillsCouple 19 = .ok (.iastore, 1) := by decide +kernel
theorem dX8_fillsCouple_20 : decode cX8_fillsCouple 20 = .ok (.aload_n 0, 1) := by decide +kernel
theorem dX8_fillsCouple_21 : decode cX8_fillsCouple 21 = .ok (.bipush 9, 2) := by decide +kernel
theorem dX8_fillsCouple_23 : decode cX8_fillsCouple 23 = .ok (.iconst 0, 1) := by decide +kernel
theorem dX8_fillsCouple_24 : decode cX8_fillsCouple 24 = .ok (.iload_n 2, 1) := by decide +kernel
theorem dX8_fillsCouple_25 : decode cX8_fillsCouple 25 = .ok (.invokevirtual 103, 3) := by decide +kernel
theorem dX8_fillsCouple_28 : decode cX8_fillsCouple 28 = .ok (.return_, 1) := by decide +kernel
theorem dX8_fillsCouple_29 : decode cX8_fillsCouple 29 = .ok (.iload_n 1, 1) := by decide +kernel
theorem dX8_fillsCouple_30 : decode cX8_fillsCouple 30 = .ok (.iconst 2, 1) := by decide +kernel
theorem dX8_fillsCouple_31 : decode cX8_fillsCouple 31 = .ok (.irem, 1) := by decide +kernel
theorem dX8_fillsCouple_32 : decode cX8_fillsCouple 32 = .ok (.iconst 1, 1) := by decide +kernel
theorem dX8_fillsCouple_33 : decode cX8_fillsCouple 33 = .ok (.if_icmp .ne 7, 3) := by decide +kernel
theorem dX8_fillsCouple_36 : decode cX8_fillsCouple 36 = .ok (.iconst 1, 1) := by decide +kernel
theorem dX8_fillsCouple_37 : decode cX8_fillsCouple 37 = .ok (.goto 4, 3) := by decide +kernel
theorem dX8_fillsCouple_40 : decode cX8_fillsCouple 40 = .ok (.iconst 0, 1) := by decide +kernel
theorem dX8_fillsCouple_41 : decode cX8_fillsCouple 41 = .ok (.istore_n 3, 1) := by decide +kernel
theorem dX8_fillsCouple_42 : decode cX8_fillsCouple 42 = .ok (.aload_n 0, 1) := by decide +kernel
theorem dX8_fillsCouple_43 : decode cX8_fillsCouple 43 = .ok (.iload_n 3, 1) := by decide +kernel
theorem dX8_fillsCouple_44 : decode cX8_fillsCouple 44 = .ok (.ifCond .eq 11, 3) := by decide +kernel
theorem dX8_fillsCouple_47 : decode cX8_fillsCouple 47 = .ok (.iload_n 1, 1) := by decide +kernel
theorem dX8_fillsCouple_48 : decode cX8_fillsCouple 48 = .ok (.iconst 1, 1) := by decide +kernel
theorem dX8_fillsCouple_49 : decode cX8_fillsCouple 49 = .ok (.isub, 1) := by decide +kernel
theorem dX8_fillsCouple_50 : decode cX8_fillsCouple 50 = .ok (.iconst 2, 1) := by decide +kernel
theorem dX8_fillsCouple_51 : decode cX8_fillsCouple 51 = .ok (.idiv, 1) := by decide +kernel
theorem dX8_fillsCouple_52 : decode cX8_fillsCouple 52 = .ok (.goto 8, 3) := by decide +kernel
theorem dX8_fillsCouple_55 : decode cX8_fillsCouple 55 = .ok (.iload_n 1, 1) := by decide +kernel
theorem dX8_fillsCouple_56 : decode cX8_fillsCouple 56 = .ok (.iconst 2, 1) := by decide +kernel
theorem dX8_fillsCouple_57 : decode cX8_fillsCouple 57 = .ok (.isub, 1) := by decide +kernel
theorem dX8_fillsCouple_58 : decode cX8_fillsCouple 58 = .ok (.iconst 2, 1) := by decide +kernel
theorem dX8_fillsCouple_59 : decode cX8_fillsCouple 59 = .ok (.idiv, 1) := by decide +kernel
theorem dX8_fillsCouple_60 : decode cX8_fillsCouple 60 = .ok (.iload_n 2, 1) := by decide +kernel
theorem dX8_fillsCouple_61 : decode cX8_fillsCouple 61 = .ok (.invokevirtual 154, 3) := by decide +kernel
theorem dX8_fillsCouple_64 : decode cX8_fillsCouple 64 = .ok (.aload_n 0, 1) := by decide +kernel
theorem dX8_fillsCouple_65 : decode cX8_fillsCouple 65 = .ok (.bipush 8, 2) := by decide +kernel
theorem dX8_fillsCouple_67 : decode cX8_fillsCouple 67 = .ok (.bipush 6, 2) := by decide +kernel
theorem dX8_fillsCouple_69 : decode cX8_fillsCouple 69 = .ok (.invokevirtual 82, 3) := by decide +kernel
theorem dX8_fillsCouple_72 : decode cX8_fillsCouple 72 = .ok (.aload_n 0, 1) := by decide +kernel
theorem dX8_fillsCouple_73 : decode cX8_fillsCouple 73 = .ok (.bipush 9, 2) := by decide +kernel
theorem dX8_fillsCouple_75 : decode cX8_fillsCouple 75 = .ok (.bipush 7, 2) := by decide +kernel
theorem dX8_fillsCouple_77 : decode cX8_fillsCouple 77 = .ok (.invokevirtual 82, 3) := by decide +kernel
theorem dX8_fillsCouple_80 : decode cX8_fillsCouple 80 = .ok (.aload_n 0, 1) := by decide +kernel
theorem dX8_fillsCouple_81 : decode cX8_fillsCouple 81 = .ok (.bipush 8, 2) := by decide +kernel
theorem dX8_fillsCouple_83 : decode cX8_fillsCouple 83 = .ok (.iload_n 2, 1) := by decide +kernel
theorem dX8_fillsCouple_84 : decode cX8_fillsCouple 84 = .ok (.iload_n 3, 1) := by decide +kernel
theorem dX8_fillsCouple_85 : decode cX8_fillsCouple 85 = .ok (.ifCond .eq 8, 3) := by decide +kernel
theorem dX8_fillsCouple_88 : decode cX8_fillsCouple 88 = .ok (.bipush 6, 2) := by decide +kernel
theorem dX8_fillsCouple_90 : decode cX8_fillsCouple 90 = .ok (.goto 5, 3) := by decide +kernel
theorem dX8_fillsCouple_93 : decode cX8_fillsCouple 93 = .ok (.bipush 7, 2) := by decide +kernel
theorem dX8_fillsCouple_95 : decode cX8_fillsCouple 95 = .ok (.bipush 6, 2) := by decide +kernel
theorem dX8_fillsCouple_97 : decode cX8_fillsCouple 97 = .ok (.invokevirtual 157, 3) := by decide +kernel
theorem dX8_fillsCouple_100 : decode cX8_fillsCouple 100 = .ok (.aload_n 0, 1) := by decide +kernel
theorem dX8_fillsCouple_101 : decode cX8_fillsCouple 101 = .ok (.bipush 9, 2) := by decide +kernel
theorem dX8_fillsCouple_103 : decode cX8_fillsCouple 103 = .ok (.iload_n 2, 1) := by decide +kernel
theorem dX8_fillsCouple_104 : decode cX8_fillsCouple 104 = .ok (.bipush 7, 2) := by decide +kernel
theorem dX8_fillsCouple_106 : decode cX8_fillsCouple 106 = .ok (.iload_n 3, 1) := by decide +kernel
theorem dX8_fillsCouple_107 : decode cX8_fillsCouple 107 = .ok (.ifCond .eq 8, 3) := by decide +kernel
theorem dX8_fillsCouple_110 : decode cX8_fillsCouple 110 = .ok (.bipush 6, 2) := by decide +kernel
theorem dX8_fillsCouple_112 : decode cX8_fillsCouple 112 = .ok (.goto 5, 3) := by decide +kernel
theorem dX8_fillsCouple_115 : decode cX8_fillsCouple 115 = .ok (.bipush 7, 2) := by decide +kernel
theorem dX8_fillsCouple_117 : decode cX8_fillsCouple 117 = .ok (.invokevirtual 157, 3) := by decide +kernel
theorem dX8_fillsCouple_120 : decode cX8_fillsCouple 120 = .ok (.return_, 1) := by decide +kernel
theorem dX8_joins_0 : decode cX8_joins 0 = .ok (.aload_n 0, 1) := by decide +kernel
theorem dX8_joins_1 : decode cX8_joins 1 = .ok (.iload_n 1, 1) := by decide +kernel
theorem dX8_joins_2 : decode cX8_joins 2 = .ok (.iconst 0, 1) := by decide +kernel
theorem dX8_joins_3 : decode cX8_joins 3 = .ok (.iload_n 2, 1) := by decide +kernel
theorem dX8_joins_4 : decode cX8_joins 4 = .ok (.invokevirtual 103, 3) := by decide +kernel
theorem dX8_joins_7 : decode cX8_joins 7 = .ok (.aload_n 0, 1) := by decide +kernel
theorem dX8_joins_8 : decode cX8_joins 8 = .ok (.iload_n 3, 1) := by decide +kernel
theorem dX8_joins_9 : decode cX8_joins 9 = .ok (.iconst 0, 1) := by decide +kernel
theorem dX8_joins_10 : decode cX8_joins 10 = .ok (.iconst 1, 1) := by decide +kernel
theorem dX8_joins_11 : decode cX8_joins 11 = .ok (.aload_n 0, 1) := by decide +kernel
theorem dX8_joins_12 : decode cX8_joins 12 = .ok (.getfield 16, 3) := by decide +kernel
theorem dX8_joins_15 : decode cX8_joins 15 = .ok (.iload_n 3, 1) := by decide +kernel
theorem dX8_joins_16 : decode cX8_joins 16 = .ok (.iaload, 1) := by decide +kernel
theorem dX8_joins_17 : decode cX8_joins 17 = .ok (.iload_n 1, 1) := by decide +kernel
theorem dX8_joins_18 : decode cX8_joins 18 = .ok (.iconst 1, 1) := by decide +kernel
theorem dX8_joins_19 : decode cX8_joins 19 = .ok (.iconst 2, 1) := by decide +kernel
theorem dX8_joins_20 : decode cX8_joins 20 = .ok (.invokevirtual 78, 3) := by decide +kernel
theorem dX8_joins_23 : decode cX8_joins 23 = .ok (.aload_n 0, 1) := by decide +kernel
theorem dX8_joins_24 : decode cX8_joins 24 = .ok (.iload 4, 2) := by decide +kernel
theorem dX8_joins_26 : decode cX8_joins 26 = .ok (.iconst 0, 1) := by decide +kernel
theorem dX8_joins_27 : decode cX8_joins 27 = .ok (.iconst 1, 1) := by decide +kernel
theorem dX8_joins_28 : decode cX8_joins 28 = .ok (.aload_n 0, 1) := by decide +kernel
theorem dX8_joins_29 : decode cX8_joins 29 = .ok (.getfield 16, 3) := by decide +kernel
theorem dX8_joins_32 : decode cX8_joins 32 = .ok (.iload 4, 2) := by decide +kernel
theorem dX8_joins_34 : decode cX8_joins 34 = .ok (.iaload, 1) := by decide +kernel
theorem dX8_joins_35 : decode cX8_joins 35 = .ok (.iload_n 1, 1) := by decide +kernel
theorem dX8_joins_36 : decode cX8_joins 36 = .ok (.iconst 2, 1) := by decide +kernel
theorem dX8_joins_37 : decode cX8_joins 37 = .ok (.iconst 2, 1) := by decide +kernel
theorem dX8_joins_38 : decode cX8_joins 38 = .ok (.invokevirtual 78, 3) := by decide +kernel
theorem dX8_joins_41 : decode cX8_joins 41 = .ok (.aload_n 0, 1) := by decide +kernel
theorem dX8_joins_42 : decode cX8_joins 42 = .ok (.getfield 16, 3) := by decide +kernel
theorem dX8_joins_45 : decode cX8_joins 45 = .ok (.iload_n 1, 1) := by decide +kernel
theorem dX8_joins_46 : decode cX8_joins 46 = .ok (.iconst 1, 1) := by decide +kernel
theorem dX8_joins_47 : decode cX8_joins 47 = .ok (.aload_n 0, 1) := by decide +kernel
theorem dX8_joins_48 : decode cX8_joins 48 = .ok (.getfield 16, 3) := by decide +kernel
theorem dX8_joins_51 : decode cX8_joins 51 = .ok (.iload_n 3, 1) := by decide +kernel
theorem dX8_joins_52 : decode cX8_joins 52 = .ok (.iaload, 1) := by decide +kernel
theorem dX8_joins_53 : decode cX8_joins 53 = .ok (.iadd, 1) := by decide +kernel
theorem dX8_joins_54 : decode cX8_joins 54 = .ok (.aload_n 0, 1) := by decide +kernel
theorem dX8_joins_55 : decode cX8_joins 55 = .ok (.getfield 16, 3) := by decide +kernel
theorem dX8_joins_58 : decode cX8_joins 58 = .ok (.iload 4, 2) := by decide +kernel
theorem dX8_joins_60 : decode cX8_joins 60 = .ok (.iaload, 1) := by decide +kernel
theorem dX8_joins_61 : decode cX8_joins 61 = .ok (.iadd, 1) := by decide +kernel
theorem dX8_joins_62 : decode cX8_joins 62 = .ok (.iastore, 1) := by decide +kernel
theorem dX8_joins_63 : decode cX8_joins 63 = .ok (.return_, 1) := by decide +kernel
theorem dX8_fills_0 : decode cX8_fills 0 = .ok (.aload_n 0, 1) := by decide +kernel
theorem dX8_fills_1 : decode cX8_fills 1 = .ok (.iconst 0, 1) := by decide +kernel
theorem dX8_fills_2 : decode cX8_fills 2 = .ok (.putfield 55, 3) := by decide +kernel
theorem dX8_fills_5 : decode cX8_fills 5 = .ok (.iload_n 1, 1) := by decide +kernel
theorem dX8_fills_6 : decode cX8_fills 6 = .ok (.i2l, 1) := by decide +kernel
theorem dX8_fills_7 : decode cX8_fills 7 = .ok (.lconst 0, 1) := by decide +kernel
theorem dX8_fills_8 : decode cX8_fills 8 = .ok (.ldc2_w 161, 3) := by decide +kernel
theorem dX8_fills_11 : decode cX8_fills 11 = .ok (.invokestatic 65, 3) := by decide +kernel
theorem dX8_fills_14 : decode cX8_fills 14 = .ok (.ifCond .eq 17, 3) := by decide +kernel
theorem dX8_fills_17 : decode cX8_fills 17 = .ok (.iload_n 2, 1) := by decide +kernel
theorem dX8_fills_18 : decode cX8_fills 18 = .ok (.invokestatic 163, 3) := by decide +kernel
theorem dX8_fills_21 : decode cX8_fills 21 = .ok (.ifCond .eq 10, 3) := by decide +kernel
theorem dX8_fills_24 : decode cX8_fills 24 = .ok (.iload_n 3, 1) := by decide +kernel
theorem dX8_fills_25 : decode cX8_fills 25 = .ok (.invokestatic 134, 3) := by decide +kernel
theorem dX8_fills_28 : decode cX8_fills 28 = .ok (.ifCond .ne 5, 3) := by decide +kernel
theorem dX8_fills_31 : decode cX8_fills 31 = .ok (.iconst (-1), 1) := by decide +kernel
theorem dX8_fills_32 : decode cX8_fills 32 = .ok (.ireturn, 1) := by decide +kernel
theorem dX8_fills_33 : decode cX8_fills 33 = .ok (.aload_n 0, 1) := by decide +kernel
theorem dX8_fills_34 : decode cX8_fills 34 = .ok (.invokevirtual 166, 3) := by decide +kernel
theorem dX8_fills_37 : decode cX8_fills 37 = .ok (.aload_n 0, 1) := by decide +kernel
theorem dX8_fills_38 : decode cX8_fills 38 = .ok (.iload_n 1, 1) := by decide +kernel
theorem dX8_fills_39 : decode cX8_fills 39 = .ok (.iload_n 2, 1) := by decide +kernel
theorem dX8_fills_40 : decode cX8_fills 40 = .ok (.invokevirtual 154, 3) := by decide +kernel
theorem dX8_fills_43 : decode cX8_fills 43 = .ok (.aload_n 0, 1) := by decide +kernel
theorem dX8_fills_44 : decode cX8_fills 44 = .ok (.bipush 8, 2) := by decide +kernel
theorem dX8_fills_46 : decode cX8_fills 46 = .ok (.iload_n 3, 1) := by decide +kernel
theorem dX8_fills_47 : decode cX8_fills 47 = .ok (.invokevirtual 82, 3) := by decide +kernel
theorem dX8_fills_50 : decode cX8_fills 50 = .ok (.aload_n 0, 1) := by decide +kernel
theorem dX8_fills_51 : decode cX8_fills 51 = .ok (.getfield 75, 3) := by decide +kernel
theorem dX8_fills_54 : decode cX8_fills 54 = .ok (.aload_n 0, 1) := by decide +kernel
theorem dX8_fills_55 : decode cX8_fills 55 = .ok (.getfield 86, 3) := by decide +kernel
theorem dX8_fills_58 : decode cX8_fills 58 = .ok (.isub, 1) := by decide +kernel
theorem dX8_fills_59 : decode cX8_fills 59 = .ok (.ireturn, 1) := by decide +kernel
theorem dX8_copies_0 : decode cX8_copies 0 = .ok (.aload_n 0, 1) := by decide +kernel
theorem dX8_copies_1 : decode cX8_copies 1 = .ok (.iconst 0, 1) := by decide +kernel
theorem dX8_copies_2 : decode cX8_copies 2 = .ok (.putfield 55, 3) := by decide +kernel
theorem dX8_copies_5 : decode cX8_copies 5 = .ok (.iload_n 1, 1) := by decide +kernel
theorem dX8_copies_6 : decode cX8_copies 6 = .ok (.invokestatic 134, 3) := by decide +kernel
theorem dX8_copies_9 : decode cX8_copies 9 = .ok (.ifCond .eq 10, 3) := by decide +kernel
theorem dX8_copies_12 : decode cX8_copies 12 = .ok (.iload_n 2, 1) := by decide +kernel
theorem dX8_copies_13 : decode cX8_copies 13 = .ok (.invokestatic 134, 3) := by decide +kernel
theorem dX8_copies_16 : decode cX8_copies 16 = .ok (.ifCond .ne 5, 3) := by decide +kernel
theorem dX8_copies_19 : decode cX8_copies 19 = .ok (.iconst (-1), 1) := by decide +kernel
theorem dX8_copies_20 : decode cX8_copies 20 = .ok (.ireturn, 1) := by decide +kernel
theorem dX8_copies_21 : decode cX8_copies 21 = .ok (.aload_n 0, 1) := by decide +kernel
theorem dX8_copies_22 : decode cX8_copies 22 = .ok (.iload_n 1, 1) := by decide +kernel
theorem dX8_copies_23 : decode cX8_copies 23 = .ok (.iload_n 2, 1) := by decide +kernel
theorem dX8_copies_24 : decode cX8_copies 24 = .ok (.invokevirtual 82, 3) := by decide +kernel
theorem dX8_copies_27 : decode cX8_copies 27 = .ok (.aload_n 0, 1) := by decide +kernel
theorem dX8_copies_28 : decode cX8_copies 28 = .ok (.getfield 16, 3) := by decide +kernel
theorem dX8_copies_31 : decode cX8_copies 31 = .ok (.iload_n 2, 1) := by decide +kernel
theorem dX8_copies_32 : decode cX8_copies 32 = .ok (.iaload, 1) := by decide +kernel
theorem dX8_copies_33 : decode cX8_copies 33 = .ok (.ireturn, 1) := by decide +kernel
theorem dX8_sides_0 : decode cX8_sides 0 = .ok (.aload_n 0, 1) := by decide +kernel
theorem dX8_sides_1 : decode cX8_sides 1 = .ok (.iconst 0, 1) := by decide +kernel
theorem dX8_sides_2 : decode cX8_sides 2 = .ok (.putfield 55, 3) := by decide +kernel
theorem dX8_sides_5 : decode cX8_sides 5 = .ok (.iload_n 1, 1) := by decide +kernel
theorem dX8_sides_6 : decode cX8_sides 6 = .ok (.invokestatic 134, 3) := by decide +kernel
theorem dX8_sides_9 : decode cX8_sides 9 = .ok (.ifCond .eq 20, 3) := by decide +kernel
theorem dX8_sides_12 : decode cX8_sides 12 = .ok (.iload_n 3, 1) := by decide +kernel
theorem dX8_sides_13 : decode cX8_sides 13 = .ok (.invokestatic 134, 3) := by decide +kernel
theorem dX8_sides_16 : decode cX8_sides 16 = .ok (.ifCond .eq 13, 3) := by decide +kernel
theorem dX8_sides_19 : decode cX8_sides 19 = .ok (.iload_n 2, 1) := by decide +kernel
theorem dX8_sides_20 : decode cX8_sides 20 = .ok (.i2l, 1) := by decide +kernel
theorem dX8_sides_21 : decode cX8_sides 21 = .ok (.lconst 0, 1) := by decide +kernel
theorem dX8_sides_22 : decode cX8_sides 22 = .ok (.lconst 1, 1) := by decide +kernel
theorem dX8_sides_23 : decode cX8_sides 23 = .ok (.invokestatic 65, 3) := by decide +kernel
theorem dX8_sides_26 : decode cX8_sides 26 = .ok (.ifCond .ne 5, 3) := by decide +kernel
theorem dX8_sides_29 : decode cX8_sides 29 = .ok (.iconst (-1), 1) := by decide +kernel
theorem dX8_sides_30 : decode cX8_sides 30 = .ok (.ireturn, 1) := by decide +kernel
theorem dX8_sides_31 : decode cX8_sides 31 = .ok (.iload_n 2, 1) := by decide +kernel
theorem dX8_sides_32 : decode cX8_sides 32 = .ok (.ifCond .ne 15, 3) := by decide +kernel
theorem dX8_sides_35 : decode cX8_sides 35 = .ok (.aload_n 0, 1) := by decide +kernel
theorem dX8_sides_36 : decode cX8_sides 36 = .ok (.getfield 16, 3) := by decide +kernel
theorem dX8_sides_39 : decode cX8_sides 39 = .ok (.iload_n 1, 1) := by decide +kernel
theorem dX8_sides_40 : decode cX8_sides 40 = .ok (.iaload, 1) := by decide +kernel
theorem dX8_sides_41 : decode cX8_sides 41 = .ok (.invokestatic 169, 3) := by decide +kernel
theorem dX8_sides_44 : decode cX8_sides 44 = .ok (.goto 12, 3) := by decide +kernel
theorem dX8_sides_47 : decode cX8_sides 47 = .ok (.aload_n 0, 1) := by decide +kernel
theorem dX8_sides_48 : decode cX8_sides 48 = .ok (.getfield 16, 3) := by decide +kernel
theorem dX8_sides_51 : decode cX8_sides 51 = .ok (.iload_n 1, 1) := by decide +kernel
theorem dX8_sides_52 : decode cX8_sides 52 = .ok (.iaload, 1) := by decide +kernel
theorem dX8_sides_53 : decode cX8_sides 53 = .ok (.invokestatic 173, 3) := by decide +kernel
theorem dX8_sides_56 : decode cX8_sides 56 = .ok (.istore 4, 2) := by decide +kernel
theorem dX8_sides_58 : decode cX8_sides 58 = .ok (.iload 4, 2) := by decide +kernel
theorem dX8_sides_60 : decode cX8_sides 60 = .ok (.ifCond .ne 6, 3) := by decide +kernel
theorem dX8_sides_63 : decode cX8_sides 63 = .ok (.bipush (-2), 2) := by decide +kernel
theorem dX8_sides_65 : decode cX8_sides 65 = .ok (.ireturn, 1) := by decide +kernel
theorem dX8_sides_66 : decode cX8_sides 66 = .ok (.aload_n 0, 1) := by decide +kernel
theorem dX8_sides_67 : decode cX8_sides 67 = .ok (.iload_n 1, 1) := by decide +kernel
theorem dX8_sides_68 : decode cX8_sides 68 = .ok (.invokevirtual 176, 3) := by decide +kernel
theorem dX8_sides_71 : decode cX8_sides 71 = .ok (.aload_n 0, 1) := by decide +kernel
theorem dX8_sides_72 : decode cX8_sides 72 = .ok (.getfield 16, 3) := by decide +kernel
theorem dX8_sides_75 : decode cX8_sides 75 = .ok (.bipush 7, 2) := by decide +kernel
theorem dX8_sides_77 : decode cX8_sides 77 = .ok (.iload 4, 2) := by decide +kernel
theorem dX8_sides_79 : decode cX8_sides 79 = .ok (.iastore, 1) := by decide +kernel
theorem dX8_sides_80 : decode cX8_sides 80 = .ok (.aload_n 0, 1) := by decide +kernel
theorem dX8_sides_81 : decode cX8_sides 81 = .ok (.bipush 6, 2) := by decide +kernel
theorem dX8_sides_83 : decode cX8_sides 83 = .ok (.iconst 1, 1) := by decide +kernel
theorem dX8_sides_84 : decode cX8_sides 84 = .ok (.iload_n 2, 1) := by decide +kernel
theorem dX8_sides_85 : decode cX8_sides 85 = .ok (.iadd, 1) := by decide +kernel
theorem dX8_sides_86 : decode cX8_sides 86 = .ok (.iconst 2, 1) := by decide +kernel
theorem dX8_sides_87 : decode cX8_sides 87 = .ok (.aload_n 0, 1) := by decide +kernel
theorem dX8_sides_88 : decode cX8_sides 88 = .ok (.getfield 16, 3) := by decide +kernel
theorem dX8_sides_91 : decode cX8_sides 91 = .ok (.bipush 7, 2) := by decide +kernel
theorem dX8_sides_93 : decode cX8_sides 93 = .ok (.iaload, 1) := by decide +kernel
theorem dX8_sides_94 : decode cX8_sides 94 = .ok (.bipush 7, 2) := by decide +kernel
theorem dX8_sides_96 : decode cX8_sides 96 = .ok (.iconst 0, 1) := by decide +kernel
theorem dX8_sides_97 : decode cX8_sides 97 = .ok (.iconst 1, 1) := by decide +kernel
theorem dX8_sides_98 : decode cX8_sides 98 = .ok (.invokevirtual 78, 3) := by decide +kernel
theorem dX8_sides_101 : decode cX8_sides 101 = .ok (.aload_n 0, 1) := by decide +kernel
theorem dX8_sides_102 : decode cX8_sides 102 = .ok (.bipush 7, 2) := by decide +kernel
theorem dX8_sides_104 : decode cX8_sides 104 = .ok (.iload_n 3, 1) := by decide +kernel
theorem dX8_sides_105 : decode cX8_sides 105 = .ok (.invokevirtual 82, 3) := by decide +kernel
theorem dX8_sides_108 : decode cX8_sides 108 = .ok (.aload_n 0, 1) := by decide +kernel
theorem dX8_sides_109 : decode cX8_sides 109 = .ok (.getfield 16, 3) := by decide +kernel
theorem dX8_sides_112 : decode cX8_sides 112 = .ok (.iload_n 3, 1) := by decide +kernel
theorem dX8_sides_113 : decode cX8_sides 113 = .ok (.iaload, 1) := by decide +kernel
theorem dX8_sides_114 : decode cX8_sides 114 = .ok (.ireturn, 1) := by decide +kernel
theorem dX8_roots_0 : decode cX8_roots 0 = .ok (.aload_n 0, 1) := by decide +kernel
theorem dX8_roots_1 : decode cX8_roots 1 = .ok (.iconst 0, 1) := by decide +kernel
theorem dX8_roots_2 : decode cX8_roots 2 = .ok (.putfield 55, 3) := by decide +kernel
theorem dX8_roots_5 : decode cX8_roots 5 = .ok (.iload_n 1, 1) := by decide +kernel
theorem dX8_roots_6 : decode cX8_roots 6 = .ok (.invokestatic 163, 3) := by decide +kernel
theorem dX8_roots_9 : decode cX8_roots 9 = .ok (.ifCond .eq 25, 3) := by decide +kernel
theorem dX8_roots_12 : decode cX8_roots 12 = .ok (.iload_n 2, 1) := by decide +kernel
theorem dX8_roots_13 : decode cX8_roots 13 = .ok (.invokestatic 134, 3) := by decide +kernel
theorem dX8_roots_16 : decode cX8_roots 16 = .ok (.ifCond .eq 18, 3) := by decide +kernel
theorem dX8_roots_19 : decode cX8_roots 19 = .ok (.iload_n 3, 1) := by decide +kernel
theorem dX8_roots_20 : decode cX8_roots 20 = .ok (.invokestatic 134, 3) := by decide +kernel
theorem dX8_roots_23 : decode cX8_roots 23 = .ok (.ifCond .eq 11, 3) := by decide +kernel
theorem dX8_roots_26 : decode cX8_roots 26 = .ok (.iload 4, 2) := by decide +kernel
theorem dX8_roots_28 : decode cX8_roots 28 = .ok (.invokestatic 134, 3) := by decide +kernel
theorem dX8_roots_31 : decode cX8_roots 31 = .ok (.ifCond .ne 5, 3) := by decide +kernel
theorem dX8_roots_34 : decode cX8_roots 34 = .ok (.iconst (-1), 1) := by decide +kernel
theorem dX8_roots_35 : decode cX8_roots 35 = .ok (.ireturn, 1) := by decide +kernel
theorem dX8_roots_36 : decode cX8_roots 36 = .ok (.aload_n 0, 1) := by decide +kernel
theorem dX8_roots_37 : decode cX8_roots 37 = .ok (.getfield 16, 3) := by decide +kernel
theorem dX8_roots_40 : decode cX8_roots 40 = .ok (.iload_n 2, 1) := by decide +kernel
theorem dX8_roots_41 : decode cX8_roots 41 = .ok (.iaload, 1) := by decide +kernel
theorem dX8_roots_42 : decode cX8_roots 42 = .ok (.aload_n 0, 1) := by decide +kernel
theorem dX8_roots_43 : decode cX8_roots 43 = .ok (.getfield 16, 3) := by decide +kernel
theorem dX8_roots_46 : decode cX8_roots 46 = .ok (.iload_n 3, 1) := by decide +kernel
theorem dX8_roots_47 : decode cX8_roots 47 = .ok (.iaload, 1) := by decide +kernel
theorem dX8_roots_48 : decode cX8_roots 48 = .ok (.if_icmp .eq 23, 3) := by decide +kernel
theorem dX8_roots_51 : decode cX8_roots 51 = .ok (.aload_n 0, 1) := by decide +kernel
theorem dX8_roots_52 : decode cX8_roots 52 = .ok (.getfield 16, 3) := by decide +kernel
theorem dX8_roots_55 : decode cX8_roots 55 = .ok (.iload_n 2, 1) := by decide +kernel
theorem dX8_roots_56 : decode cX8_roots 56 = .ok (.iaload, 1) := by decide +kernel
theorem dX8_roots_57 : decode cX8_roots 57 = .ok (.aload_n 0, 1) := by decide +kernel
theorem dX8_roots_58 : decode cX8_roots 58 = .ok (.getfield 16, 3) := by decide +kernel
theorem dX8_roots_61 : decode cX8_roots 61 = .ok (.iload_n 3, 1) := by decide +kernel
theorem dX8_roots_62 : decode cX8_roots 62 = .ok (.iaload, 1) := by decide +kernel
theorem dX8_roots_63 : decode cX8_roots 63 = .ok (.iconst 1, 1) := by decide +kernel
theorem dX8_roots_64 : decode cX8_roots 64 = .ok (.iadd, 1) := by decide +kernel
theorem dX8_roots_65 : decode cX8_roots 65 = .ok (.if_icmp .eq 6, 3) := by decide +kernel
theorem dX8_roots_68 : decode cX8_roots 68 = .ok (.bipush (-2), 2) := by decide +kernel
theorem dX8_roots_70 : decode cX8_roots 70 = .ok (.ireturn, 1) := by decide +kernel
theorem dX8_roots_71 : decode cX8_roots 71 = .ok (.aload_n 0, 1) := by decide +kernel
theorem dX8_roots_72 : decode cX8_roots 72 = .ok (.getfield 16, 3) := by decide +kernel
theorem dX8_roots_75 : decode cX8_roots 75 = .ok (.iload_n 2, 1) := by decide +kernel
theorem dX8_roots_76 : decode cX8_roots 76 = .ok (.iaload, 1) := by decide +kernel
theorem dX8_roots_77 : decode cX8_roots 77 = .ok (.aload_n 0, 1) := by decide +kernel
theorem dX8_roots_78 : decode cX8_roots 78 = .ok (.getfield 16, 3) := by decide +kernel
theorem dX8_roots_81 : decode cX8_roots 81 = .ok (.iload_n 3, 1) := by decide +kernel
theorem dX8_roots_82 : decode cX8_roots 82 = .ok (.iaload, 1) := by decide +kernel
theorem dX8_roots_83 : decode cX8_roots 83 = .ok (.iadd, 1) := by decide +kernel
theorem dX8_roots_84 : decode cX8_roots 84 = .ok (.iconst 1, 1) := by decide +kernel
theorem dX8_roots_85 : decode cX8_roots 85 = .ok (.iadd, 1) := by decide +kernel
theorem dX8_roots_86 : decode cX8_roots 86 = .ok (.sipush 255, 3) := by decide +kernel
theorem dX8_roots_89 : decode cX8_roots 89 = .ok (.if_icmp .le 6, 3) := by decide +kernel
theorem dX8_roots_92 : decode cX8_roots 92 = .ok (.bipush (-3), 2) := by decide +kernel
theorem dX8_roots_94 : decode cX8_roots 94 = .ok (.ireturn, 1) := by decide +kernel
theorem dX8_roots_95 : decode cX8_roots 95 = .ok (.aload_n 0, 1) := by decide +kernel
theorem dX8_roots_96 : decode cX8_roots 96 = .ok (.bipush 7, 2) := by decide +kernel
theorem dX8_roots_98 : decode cX8_roots 98 = .ok (.iload_n 1, 1) := by decide +kernel
theorem dX8_roots_99 : decode cX8_roots 99 = .ok (.iload_n 2, 1) := by decide +kernel
theorem dX8_roots_100 : decode cX8_roots 100 = .ok (.iload_n 3, 1) := by decide +kernel
theorem dX8_roots_101 : decode cX8_roots 101 = .ok (.invokevirtual 157, 3) := by decide +kernel
theorem dX8_roots_104 : decode cX8_roots 104 = .ok (.aload_n 0, 1) := by decide +kernel
theorem dX8_roots_105 : decode cX8_roots 105 = .ok (.bipush 7, 2) := by decide +kernel
theorem dX8_roots_107 : decode cX8_roots 107 = .ok (.iload 4, 2) := by decide +kernel
theorem dX8_roots_109 : decode cX8_roots 109 = .ok (.invokevirtual 82, 3) := by decide +kernel
theorem dX8_roots_112 : decode cX8_roots 112 = .ok (.aload_n 0, 1) := by decide +kernel
theorem dX8_roots_113 : decode cX8_roots 113 = .ok (.getfield 16, 3) := by decide +kernel
theorem dX8_roots_116 : decode cX8_roots 116 = .ok (.iload 4, 2) := by decide +kernel
theorem dX8_roots_118 : decode cX8_roots 118 = .ok (.iaload, 1) := by decide +kernel
theorem dX8_roots_119 : decode cX8_roots 119 = .ok (.ireturn, 1) := by decide +kernel
theorem dX8_countsMore_0 : decode cX8_countsMore 0 = .ok (.aload_n 0, 1) := by decide +kernel
theorem dX8_countsMore_1 : decode cX8_countsMore 1 = .ok (.dup, 1) := by decide +kernel
theorem dX8_countsMore_2 : decode cX8_countsMore 2 = .ok (.getfield 179, 3) := by decide +kernel
theorem dX8_countsMore_5 : decode cX8_countsMore 5 = .ok (.iconst 1, 1) := by decide +kernel
theorem dX8_countsMore_6 : decode cX8_countsMore 6 = .ok (.iadd, 1) := by decide +kernel
theorem dX8_countsMore_7 : decode cX8_countsMore 7 = .ok (.putfield 179, 3) := by decide +kernel
theorem dX8_countsMore_10 : decode cX8_countsMore 10 = .ok (.iload_n 1, 1) := by decide +kernel
theorem dX8_countsMore_11 : decode cX8_countsMore 11 = .ok (.ifCond .eq 7, 3) := by decide +kernel
theorem dX8_countsMore_14 : decode cX8_countsMore 14 = .ok (.iload_n 2, 1) := by decide +kernel
theorem dX8_countsMore_15 : decode cX8_countsMore 15 = .ok (.ifCond .ne 4, 3) := by decide +kernel
theorem dX8_countsMore_18 : decode cX8_countsMore 18 = .ok (.return_, 1) := by decide +kernel
theorem dX8_countsMore_19 : decode cX8_countsMore 19 = .ok (.iload_n 2, 1) := by decide +kernel
theorem dX8_countsMore_20 : decode cX8_countsMore 20 = .ok (.iconst 2, 1) := by decide +kernel
theorem dX8_countsMore_21 : decode cX8_countsMore 21 = .ok (.irem, 1) := by decide +kernel
theorem dX8_countsMore_22 : decode cX8_countsMore 22 = .ok (.iconst 1, 1) := by decide +kernel
theorem dX8_countsMore_23 : decode cX8_countsMore 23 = .ok (.if_icmp .ne 19, 3) := by decide +kernel
theorem dX8_countsMore_26 : decode cX8_countsMore 26 = .ok (.aload_n 0, 1) := by decide +kernel
theorem dX8_countsMore_27 : decode cX8_countsMore 27 = .ok (.iload_n 1, 1) := by decide +kernel
theorem dX8_countsMore_28 : decode cX8_countsMore 28 = .ok (.invokestatic 169, 3) := by decide +kernel
theorem dX8_countsMore_31 : decode cX8_countsMore 31 = .ok (.iload_n 2, 1) := by decide +kernel
theorem dX8_countsMore_32 : decode cX8_countsMore 32 = .ok (.iconst 1, 1) := by decide +kernel
theorem dX8_countsMore_33 : decode cX8_countsMore 33 = .ok (.isub, 1) := by decide +kernel
theorem dX8_countsMore_34 : decode cX8_countsMore 34 = .ok (.iconst 2, 1) := by decide +kernel
theorem dX8_countsMore_35 : decode cX8_countsMore 35 = .ok (.idiv, 1) := by decide +kernel
theorem dX8_countsMore_36 : decode cX8_countsMore 36 = .ok (.invokevirtual 182, 3) := by decide +kernel
theorem dX8_countsMore_39 : decode cX8_countsMore 39 = .ok (.goto 16, 3) := by decide +kernel
theorem dX8_countsMore_42 : decode cX8_countsMore 42 = .ok (.aload_n 0, 1) := by decide +kernel
theorem dX8_countsMore_43 : decode cX8_countsMore 43 = .ok (.iload_n 1, 1) := by decide +kernel
theorem dX8_countsMore_44 : decode cX8_countsMore 44 = .ok (.invokestatic 173, 3) := by decide +kernel
theorem dX8_countsMore_47 : decode cX8_countsMore 47 = .ok (.iload_n 2, 1) := by decide +kernel
theorem dX8_countsMore_48 : decode cX8_countsMore 48 = .ok (.iconst 2, 1) := by decide +kernel
theorem dX8_countsMore_49 : decode cX8_countsMore 49 = .ok (.isub, 1) := by decide +kernel
theorem dX8_countsMore_50 : decode cX8_countsMore 50 = .ok (.iconst 2, 1) := by decide +kernel
theorem dX8_countsMore_51 : decode cX8_countsMore 51 = .ok (.idiv, 1) := by decide +kernel
theorem dX8_countsMore_52 : decode cX8_countsMore 52 = .ok (.invokevirtual 182, 3) := by decide +kernel
theorem dX8_countsMore_55 : decode cX8_countsMore 55 = .ok (.return_, 1) := by decide +kernel
theorem dX8_counts_0 : decode cX8_counts 0 = .ok (.aload_n 0, 1) := by decide +kernel
theorem dX8_counts_1 : decode cX8_counts 1 = .ok (.dup, 1) := by decide +kernel
theorem dX8_counts_2 : decode cX8_counts 2 = .ok (.getfield 179, 3) := by decide +kernel
theorem dX8_counts_5 : decode cX8_counts 5 = .ok (.iconst 1, 1) := by decide +kernel
theorem dX8_counts_6 : decode cX8_counts 6 = .ok (.iadd, 1) := by decide +kernel
theorem dX8_counts_7 : decode cX8_counts 7 = .ok (.putfield 179, 3) := by decide +kernel
theorem dX8_counts_10 : decode cX8_counts 10 = .ok (.iload_n 1, 1) := by decide +kernel
theorem dX8_counts_11 : decode cX8_counts 11 = .ok (.ifCond .ne 4, 3) := by decide +kernel
theorem dX8_counts_14 : decode cX8_counts 14 = .ok (.return_, 1) := by decide +kernel
theorem dX8_counts_15 : decode cX8_counts 15 = .ok (.aload_n 0, 1) := by decide +kernel
theorem dX8_counts_16 : decode cX8_counts 16 = .ok (.iload_n 1, 1) := by decide +kernel
theorem dX8_counts_17 : decode cX8_counts 17 = .ok (.invokestatic 173, 3) := by decide +kernel
theorem dX8_counts_20 : decode cX8_counts 20 = .ok (.invokevirtual 185, 3) := by decide +kernel
theorem dX8_counts_23 : decode cX8_counts 23 = .ok (.aload_n 0, 1) := by decide +kernel
theorem dX8_counts_24 : decode cX8_counts 24 = .ok (.iload_n 1, 1) := by decide +kernel
theorem dX8_counts_25 : decode cX8_counts 25 = .ok (.invokestatic 169, 3) := by decide +kernel
theorem dX8_counts_28 : decode cX8_counts 28 = .ok (.iload_n 1, 1) := by decide +kernel
theorem dX8_counts_29 : decode cX8_counts 29 = .ok (.invokestatic 173, 3) := by decide +kernel
theorem dX8_counts_32 : decode cX8_counts 32 = .ok (.invokevirtual 182, 3) := by decide +kernel
theorem dX8_counts_35 : decode cX8_counts 35 = .ok (.return_, 1) := by decide +kernel
theorem dX8_deepest_0 : decode cX8_deepest 0 = .ok (.iconst (-1), 1) := by decide +kernel
theorem dX8_deepest_1 : decode cX8_deepest 1 = .ok (.istore_n 1, 1) := by decide +kernel
theorem dX8_deepest_2 : decode cX8_deepest 2 = .ok (.iload_n 0, 1) := by decide +kernel
theorem dX8_deepest_3 : decode cX8_deepest 3 = .ok (.istore_n 2, 1) := by decide +kernel
theorem dX8_deepest_4 : decode cX8_deepest 4 = .ok (.iload_n 2, 1) := by decide +kernel
theorem dX8_deepest_5 : decode cX8_deepest 5 = .ok (.ifCond .le 14, 3) := by decide +kernel
theorem dX8_deepest_8 : decode cX8_deepest 8 = .ok (.iinc 1 1, 3) := by decide +kernel
theorem dX8_deepest_11 : decode cX8_deepest 11 = .ok (.iload_n 2, 1) := by decide +kernel
theorem dX8_deepest_12 : decode cX8_deepest 12 = .ok (.invokestatic 169, 3) := by decide +kernel
theorem dX8_deepest_15 : decode cX8_deepest 15 = .ok (.istore_n 2, 1) := by decide +kernel
theorem dX8_deepest_16 : decode cX8_deepest 16 = .ok (.goto (-12), 3) := by decide +kernel
theorem dX8_deepest_19 : decode cX8_deepest 19 = .ok (.iload_n 1, 1) := by decide +kernel
theorem dX8_deepest_20 : decode cX8_deepest 20 = .ok (.ireturn, 1) := by decide +kernel
theorem dX8_size_0 : decode cX8_size 0 = .ok (.aload_n 0, 1) := by decide +kernel
theorem dX8_size_1 : decode cX8_size 1 = .ok (.iconst 0, 1) := by decide +kernel
theorem dX8_size_2 : decode cX8_size 2 = .ok (.putfield 55, 3) := by decide +kernel
theorem dX8_size_5 : decode cX8_size 5 = .ok (.iload_n 1, 1) := by decide +kernel
theorem dX8_size_6 : decode cX8_size 6 = .ok (.invokestatic 134, 3) := by decide +kernel
theorem dX8_size_9 : decode cX8_size 9 = .ok (.ifCond .ne 5, 3) := by decide +kernel
theorem dX8_size_12 : decode cX8_size 12 = .ok (.iconst (-1), 1) := by decide +kernel
theorem dX8_size_13 : decode cX8_size 13 = .ok (.ireturn, 1) := by decide +kernel
theorem dX8_size_14 : decode cX8_size 14 = .ok (.aload_n 0, 1) := by decide +kernel
theorem dX8_size_15 : decode cX8_size 15 = .ok (.iconst 0, 1) := by decide +kernel
theorem dX8_size_16 : decode cX8_size 16 = .ok (.putfield 179, 3) := by decide +kernel
theorem dX8_size_19 : decode cX8_size 19 = .ok (.aload_n 0, 1) := by decide +kernel
theorem dX8_size_20 : decode cX8_size 20 = .ok (.aload_n 0, 1) := by decide +kernel
theorem dX8_size_21 : decode cX8_size 21 = .ok (.getfield 16, 3) := by decide +kernel
theorem dX8_size_24 : decode cX8_size 24 = .ok (.iload_n 1, 1) := by decide +kernel
theorem dX8_size_25 : decode cX8_size 25 = .ok (.iaload, 1) := by decide +kernel
theorem dX8_size_26 : decode cX8_size 26 = .ok (.invokevirtual 185, 3) := by decide +kernel
theorem dX8_size_29 : decode cX8_size 29 = .ok (.aload_n 0, 1) := by decide +kernel
theorem dX8_size_30 : decode cX8_size 30 = .ok (.iconst 0, 1) := by decide +kernel
theorem dX8_size_31 : decode cX8_size 31 = .ok (.putfield 59, 3) := by decide +kernel
theorem dX8_size_34 : decode cX8_size 34 = .ok (.aload_n 0, 1) := by decide +kernel
theorem dX8_size_35 : decode cX8_size 35 = .ok (.aload_n 0, 1) := by decide +kernel
theorem dX8_size_36 : decode cX8_size 36 = .ok (.getfield 179, 3) := by decide +kernel
theorem dX8_size_39 : decode cX8_size 39 = .ok (.i2l, 1) := by decide +kernel
theorem dX8_size_40 : decode cX8_size 40 = .ok (.invokevirtual 150, 3) := by decide +kernel
theorem dX8_size_43 : decode cX8_size 43 = .ok (.aload_n 0, 1) := by decide +kernel
theorem dX8_size_44 : decode cX8_size 44 = .ok (.aload_n 0, 1) := by decide +kernel
theorem dX8_size_45 : decode cX8_size 45 = .ok (.getfield 16, 3) := by decide +kernel
theorem dX8_size_48 : decode cX8_size 48 = .ok (.iload_n 1, 1) := by decide +kernel
theorem dX8_size_49 : decode cX8_size 49 = .ok (.iaload, 1) := by decide +kernel
theorem dX8_size_50 : decode cX8_size 50 = .ok (.invokestatic 188, 3) := by decide +kernel
theorem dX8_size_53 : decode cX8_size 53 = .ok (.i2l, 1) := by decide +kernel
theorem dX8_size_54 : decode cX8_size 54 = .ok (.invokevirtual 150, 3) := by decide +kernel
theorem dX8_size_57 : decode cX8_size 57 = .ok (.aload_n 0, 1) := by decide +kernel
theorem dX8_size_58 : decode cX8_size 58 = .ok (.getfield 16, 3) := by decide +kernel
theorem dX8_size_61 : decode cX8_size 61 = .ok (.iload_n 1, 1) := by decide +kernel
theorem dX8_size_62 : decode cX8_size 62 = .ok (.iaload, 1) := by decide +kernel
theorem dX8_size_63 : decode cX8_size 63 = .ok (.ireturn, 1) := by decide +kernel
theorem dX8_get_0 : decode cX8_get 0 = .ok (.aload_n 0, 1) := by decide +kernel
theorem dX8_get_1 : decode cX8_get 1 = .ok (.iconst 0, 1) := by decide +kernel
theorem dX8_get_2 : decode cX8_get 2 = .ok (.putfield 55, 3) := by decide +kernel
theorem dX8_get_5 : decode cX8_get 5 = .ok (.iload_n 1, 1) := by decide +kernel
theorem dX8_get_6 : decode cX8_get 6 = .ok (.invokestatic 134, 3) := by decide +kernel
theorem dX8_get_9 : decode cX8_get 9 = .ok (.ifCond .eq 21, 3) := by decide +kernel
theorem dX8_get_12 : decode cX8_get 12 = .ok (.aload_n 0, 1) := by decide +kernel
theorem dX8_get_13 : decode cX8_get 13 = .ok (.iload_n 1, 1) := by decide +kernel
theorem dX8_get_14 : decode cX8_get 14 = .ok (.iload_n 2, 1) := by decide +kernel
theorem dX8_get_15 : decode cX8_get 15 = .ok (.invokevirtual 191, 3) := by decide +kernel
theorem dX8_get_18 : decode cX8_get 18 = .ok (.ifCond .eq 12, 3) := by decide +kernel
theorem dX8_get_21 : decode cX8_get 21 = .ok (.aload_n 0, 1) := by decide +kernel
theorem dX8_get_22 : decode cX8_get 22 = .ok (.iload_n 1, 1) := by decide +kernel
theorem dX8_get_23 : decode cX8_get 23 = .ok (.iload_n 2, 1) := by decide +kernel
theorem dX8_get_24 : decode cX8_get 24 = .ok (.invokevirtual 99, 3) := by decide +kernel
theorem dX8_get_27 : decode cX8_get 27 = .ok (.goto 6, 3) := by decide +kernel
theorem dX8_get_30 : decode cX8_get 30 = .ok (.sipush (-1000), 3) := by decide +kernel
theorem dX8_get_33 : decode cX8_get 33 = .ok (.ireturn, 1) := by decide +kernel
theorem dX8_path_0 : decode cX8_path 0 = .ok (.aload_n 0, 1) := by decide +kernel
theorem dX8_path_1 : decode cX8_path 1 = .ok (.iconst 0, 1) := by decide +kernel
theorem dX8_path_2 : decode cX8_path 2 = .ok (.putfield 55, 3) := by decide +kernel
theorem dX8_path_5 : decode cX8_path 5 = .ok (.iload_n 1, 1) := by decide +kernel
theorem dX8_path_6 : decode cX8_path 6 = .ok (.invokestatic 134, 3) := by decide +kernel
theorem dX8_path_9 : decode cX8_path 9 = .ok (.ifCond .eq 12, 3) := by decide +kernel
theorem dX8_path_12 : decode cX8_path 12 = .ok (.aload_n 0, 1) := by decide +kernel
theorem dX8_path_13 : decode cX8_path 13 = .ok (.iload_n 1, 1) := by decide +kernel
theorem dX8_path_14 : decode cX8_path 14 = .ok (.iload_n 2, 1) := by decide +kernel
theorem dX8_path_15 : decode cX8_path 15 = .ok (.invokevirtual 191, 3) := by decide +kernel
theorem dX8_path_18 : decode cX8_path 18 = .ok (.ifCond .ne 5, 3) := by decide +kernel
theorem dX8_path_21 : decode cX8_path 21 = .ok (.iconst (-1), 1) := by decide +kernel
theorem dX8_path_22 : decode cX8_path 22 = .ok (.ireturn, 1) := by decide +kernel
theorem dX8_path_23 : decode cX8_path 23 = .ok (.aload_n 0, 1) := by decide +kernel
theorem dX8_path_24 : decode cX8_path 24 = .ok (.iload_n 2, 1) := by decide +kernel
theorem dX8_path_25 : decode cX8_path 25 = .ok (.invokevirtual 95, 3) := by decide +kernel
theorem dX8_path_28 : decode cX8_path 28 = .ok (.aload_n 0, 1) := by decide +kernel
theorem dX8_path_29 : decode cX8_path 29 = .ok (.iconst 0, 1) := by decide +kernel
theorem dX8_path_30 : decode cX8_path 30 = .ok (.putfield 59, 3) := by decide +kernel
theorem dX8_path_33 : decode cX8_path 33 = .ok (.aload_n 0, 1) := by decide +kernel
theorem dX8_path_34 : decode cX8_path 34 = .ok (.aload_n 0, 1) := by decide +kernel
theorem dX8_path_35 : decode cX8_path 35 = .ok (.getfield 89, 3) := by decide +kernel
theorem dX8_path_38 : decode cX8_path 38 = .ok (.iconst 1, 1) := by decide +kernel
theorem dX8_path_39 : decode cX8_path 39 = .ok (.isub, 1) := by decide +kernel
theorem dX8_path_40 : decode cX8_path 40 = .ok (.i2l, 1) := by decide +kernel
theorem dX8_path_41 : decode cX8_path 41 = .ok (.invokevirtual 150, 3) := by decide +kernel
theorem dX8_path_44 : decode cX8_path 44 = .ok (.aload_n 0, 1) := by decide +kernel
theorem dX8_path_45 : decode cX8_path 45 = .ok (.getfield 92, 3) := by decide +kernel
theorem dX8_path_48 : decode cX8_path 48 = .ok (.ireturn, 1) := by decide +kernel
theorem dX8_sets_0 : decode cX8_sets 0 = .ok (.aload_n 0, 1) := by decide +kernel
theorem dX8_sets_1 : decode cX8_sets 1 = .ok (.iconst 0, 1) := by decide +kernel
theorem dX8_sets_2 : decode cX8_sets 2 = .ok (.putfield 55, 3) := by decide +kernel
theorem dX8_sets_5 : decode cX8_sets 5 = .ok (.iload_n 1, 1) := by decide +kernel
theorem dX8_sets_6 : decode cX8_sets 6 = .ok (.invokestatic 134, 3) := by decide +kernel
theorem dX8_sets_9 : decode cX8_sets 9 = .ok (.ifCond .eq 27, 3) := by decide +kernel
theorem dX8_sets_12 : decode cX8_sets 12 = .ok (.aload_n 0, 1) := by decide +kernel
theorem dX8_sets_13 : decode cX8_sets 13 = .ok (.iload_n 1, 1) := by decide +kernel
theorem dX8_sets_14 : decode cX8_sets 14 = .ok (.iload_n 2, 1) := by decide +kernel
theorem dX8_sets_15 : decode cX8_sets 15 = .ok (.invokevirtual 191, 3) := by decide +kernel
theorem dX8_sets_18 : decode cX8_sets 18 = .ok (.ifCond .eq 18, 3) := by decide +kernel
theorem dX8_sets_21 : decode cX8_sets 21 = .ok (.iload_n 3, 1) := by decide +kernel
theorem dX8_sets_22 : decode cX8_sets 22 = .ok (.invokestatic 163, 3) := by decide +kernel
theorem dX8_sets_25 : decode cX8_sets 25 = .ok (.ifCond .eq 11, 3) := by decide +kernel
theorem dX8_sets_28 : decode cX8_sets 28 = .ok (.iload 4, 2) := by decide +kernel
theorem dX8_sets_30 : decode cX8_sets 30 = .ok (.invokestatic 134, 3) := by decide +kernel
theorem dX8_sets_33 : decode cX8_sets 33 = .ok (.ifCond .ne 5, 3) := by decide +kernel
theorem dX8_sets_36 : decode cX8_sets 36 = .ok (.iconst (-1), 1) := by decide +kernel
theorem dX8_sets_37 : decode cX8_sets 37 = .ok (.ireturn, 1) := by decide +kernel
theorem dX8_sets_38 : decode cX8_sets 38 = .ok (.aload_n 0, 1) := by decide +kernel
theorem dX8_sets_39 : decode cX8_sets 39 = .ok (.iload_n 1, 1) := by decide +kernel
theorem dX8_sets_40 : decode cX8_sets 40 = .ok (.invokevirtual 176, 3) := by decide +kernel
theorem dX8_sets_43 : decode cX8_sets 43 = .ok (.aload_n 0, 1) := by decide +kernel
theorem dX8_sets_44 : decode cX8_sets 44 = .ok (.invokevirtual 166, 3) := by decide +kernel
theorem dX8_sets_47 : decode cX8_sets 47 = .ok (.aload_n 0, 1) := by decide +kernel
theorem dX8_sets_48 : decode cX8_sets 48 = .ok (.iload_n 1, 1) := by decide +kernel
theorem dX8_sets_49 : decode cX8_sets 49 = .ok (.iload_n 2, 1) := by decide +kernel
theorem dX8_sets_50 : decode cX8_sets 50 = .ok (.invokevirtual 99, 3) := by decide +kernel
theorem dX8_sets_53 : decode cX8_sets 53 = .ok (.iload_n 3, 1) := by decide +kernel
theorem dX8_sets_54 : decode cX8_sets 54 = .ok (.if_icmp .eq 28, 3) := by decide +kernel
theorem dX8_sets_57 : decode cX8_sets 57 = .ok (.aload_n 0, 1) := by decide +kernel
theorem dX8_sets_58 : decode cX8_sets 58 = .ok (.invokevirtual 195, 3) := by decide +kernel
theorem dX8_sets_61 : decode cX8_sets 61 = .ok (.aload_n 0, 1) := by decide +kernel
theorem dX8_sets_62 : decode cX8_sets 62 = .ok (.iload_n 2, 1) := by decide +kernel
theorem dX8_sets_63 : decode cX8_sets 63 = .ok (.iconst 1, 1) := by decide +kernel
theorem dX8_sets_64 : decode cX8_sets 64 = .ok (.invokevirtual 198, 3) := by decide +kernel
theorem dX8_sets_67 : decode cX8_sets 67 = .ok (.aload_n 0, 1) := by decide +kernel
theorem dX8_sets_68 : decode cX8_sets 68 = .ok (.getfield 7, 3) := by decide +kernel
theorem dX8_sets_71 : decode cX8_sets 71 = .ok (.sipush 1792, 3) := by decide +kernel
theorem dX8_sets_74 : decode cX8_sets 74 = .ok (.iload_n 2, 1) := by decide +kernel
theorem dX8_sets_75 : decode cX8_sets 75 = .ok (.iadd, 1) := by decide +kernel
theorem dX8_sets_76 : decode cX8_sets 76 = .ok (.iload_n 3, 1) := by decide +kernel
theorem dX8_sets_77 : decode cX8_sets 77 = .ok (.iastore, 1) := by decide +kernel
theorem dX8_sets_78 : decode cX8_sets 78 = .ok (.aload_n 0, 1) := by decide +kernel
theorem dX8_sets_79 : decode cX8_sets 79 = .ok (.invokevirtual 202, 3) := by decide +kernel
theorem dX8_sets_82 : decode cX8_sets 82 = .ok (.aload_n 0, 1) := by decide +kernel
theorem dX8_sets_83 : decode cX8_sets 83 = .ok (.iload 4, 2) := by decide +kernel
theorem dX8_sets_85 : decode cX8_sets 85 = .ok (.invokevirtual 205, 3) := by decide +kernel
theorem dX8_sets_88 : decode cX8_sets 88 = .ok (.ireturn, 1) := by decide +kernel
theorem dX8_fronts_0 : decode cX8_fronts 0 = .ok (.aload_n 0, 1) := by decide +kernel
theorem dX8_fronts_1 : decode cX8_fronts 1 = .ok (.bipush 7, 2) := by decide +kernel
theorem dX8_fronts_3 : decode cX8_fronts 3 = .ok (.iload 4, 2) := by decide +kernel
theorem dX8_fronts_5 : decode cX8_fronts 5 = .ok (.iload 6, 2) := by decide +kernel
theorem dX8_fronts_7 : decode cX8_fronts 7 = .ok (.invokevirtual 103, 3) := by decide +kernel
theorem dX8_fronts_10 : decode cX8_fronts 10 = .ok (.iload_n 3, 1) := by decide +kernel
theorem dX8_fronts_11 : decode cX8_fronts 11 = .ok (.ifCond .ne 4, 3) := by decide +kernel
theorem dX8_fronts_14 : decode cX8_fronts 14 = .ok (.return_, 1) := by decide +kernel
theorem dX8_fronts_15 : decode cX8_fronts 15 = .ok (.aload_n 0, 1) := by decide +kernel
theorem dX8_fronts_16 : decode cX8_fronts 16 = .ok (.bipush 6, 2) := by decide +kernel
theorem dX8_fronts_18 : decode cX8_fronts 18 = .ok (.iload_n 1, 1) := by decide +kernel
theorem dX8_fronts_19 : decode cX8_fronts 19 = .ok (.iload_n 2, 1) := by decide +kernel
theorem dX8_fronts_20 : decode cX8_fronts 20 = .ok (.iadd, 1) := by decide +kernel
theorem dX8_fronts_21 : decode cX8_fronts 21 = .ok (.iconst 2, 1) := by decide +kernel
theorem dX8_fronts_22 : decode cX8_fronts 22 = .ok (.iload_n 2, 1) := by decide +kernel
theorem dX8_fronts_23 : decode cX8_fronts 23 = .ok (.imul, 1) := by decide +kernel
theorem dX8_fronts_24 : decode cX8_fronts 24 = .ok (.iload_n 3, 1) := by decide +kernel
theorem dX8_fronts_25 : decode cX8_fronts 25 = .ok (.invokestatic 169, 3) := by decide +kernel
theorem dX8_fronts_28 : decode cX8_fronts 28 = .ok (.bipush 7, 2) := by decide +kernel
theorem dX8_fronts_30 : decode cX8_fronts 30 = .ok (.iload 4, 2) := by decide +kernel
theorem dX8_fronts_32 : decode cX8_fronts 32 = .ok (.iconst 2, 1) := by decide +kernel
theorem dX8_fronts_33 : decode cX8_fronts 33 = .ok (.iload 5, 2) := by decide +kernel
theorem dX8_fronts_35 : decode cX8_fronts 35 = .ok (.imul, 1) := by decide +kernel
theorem dX8_fronts_36 : decode cX8_fronts 36 = .ok (.iadd, 1) := by decide +kernel
theorem dX8_fronts_37 : decode cX8_fronts 37 = .ok (.iconst 2, 1) := by decide +kernel
theorem dX8_fronts_38 : decode cX8_fronts 38 = .ok (.iload 5, 2) := by decide +kernel
theorem dX8_fronts_40 : decode cX8_fronts 40 = .ok (.imul, 1) := by decide +kernel
theorem dX8_fronts_41 : decode cX8_fronts 41 = .ok (.invokevirtual 78, 3) := by decide +kernel
theorem dX8_fronts_44 : decode cX8_fronts 44 = .ok (.aload_n 0, 1) := by decide +kernel
theorem dX8_fronts_45 : decode cX8_fronts 45 = .ok (.iload_n 1, 1) := by decide +kernel
theorem dX8_fronts_46 : decode cX8_fronts 46 = .ok (.iconst 2, 1) := by decide +kernel
theorem dX8_fronts_47 : decode cX8_fronts 47 = .ok (.iload_n 2, 1) := by decide +kernel
theorem dX8_fronts_48 : decode cX8_fronts 48 = .ok (.imul, 1) := by decide +kernel
theorem dX8_fronts_49 : decode cX8_fronts 49 = .ok (.iadd, 1) := by decide +kernel
theorem dX8_fronts_50 : decode cX8_fronts 50 = .ok (.iconst 2, 1) := by decide +kernel
theorem dX8_fronts_51 : decode cX8_fronts 51 = .ok (.iload_n 2, 1) := by decide +kernel
theorem dX8_fronts_52 : decode cX8_fronts 52 = .ok (.imul, 1) := by decide +kernel
theorem dX8_fronts_53 : decode cX8_fronts 53 = .ok (.iload_n 3, 1) := by decide +kernel
theorem dX8_fronts_54 : decode cX8_fronts 54 = .ok (.invokestatic 173, 3) := by decide +kernel
theorem dX8_fronts_57 : decode cX8_fronts 57 = .ok (.iload 4, 2) := by decide +kernel
theorem dX8_fronts_59 : decode cX8_fronts 59 = .ok (.iload 5, 2) := by decide +kernel
theorem dX8_fronts_61 : decode cX8_fronts 61 = .ok (.iadd, 1) := by decide +kernel
theorem dX8_fronts_62 : decode cX8_fronts 62 = .ok (.iconst 2, 1) := by decide +kernel
theorem dX8_fronts_63 : decode cX8_fronts 63 = .ok (.iload 5, 2) := by decide +kernel
theorem dX8_fronts_65 : decode cX8_fronts 65 = .ok (.imul, 1) := by decide +kernel
theorem dX8_fronts_66 : decode cX8_fronts 66 = .ok (.aload_n 0, 1) := by decide +kernel
theorem dX8_fronts_67 : decode cX8_fronts 67 = .ok (.bipush 6, 2) := by decide +kernel
theorem dX8_fronts_69 : decode cX8_fronts 69 = .ok (.iload_n 1, 1) := by decide +kernel
theorem dX8_fronts_70 : decode cX8_fronts 70 = .ok (.invokevirtual 99, 3) := by decide +kernel
theorem dX8_fronts_73 : decode cX8_fronts 73 = .ok (.invokevirtual 208, 3) := by decide +kernel
theorem dX8_fronts_76 : decode cX8_fronts 76 = .ok (.return_, 1) := by decide +kernel
theorem dX8_front_0 : decode cX8_front 0 = .ok (.aload_n 0, 1) := by decide +kernel
theorem dX8_front_1 : decode cX8_front 1 = .ok (.iconst 0, 1) := by decide +kernel
theorem dX8_front_2 : decode cX8_front 2 = .ok (.putfield 55, 3) := by decide +kernel
theorem dX8_front_5 : decode cX8_front 5 = .ok (.iload_n 1, 1) := by decide +kernel
theorem dX8_front_6 : decode cX8_front 6 = .ok (.invokestatic 134, 3) := by decide +kernel
theorem dX8_front_9 : decode cX8_front 9 = .ok (.ifCond .eq 17, 3) := by decide +kernel
theorem dX8_front_12 : decode cX8_front 12 = .ok (.iload_n 2, 1) := by decide +kernel
theorem dX8_front_13 : decode cX8_front 13 = .ok (.invokestatic 163, 3) := by decide +kernel
theorem dX8_front_16 : decode cX8_front 16 = .ok (.ifCond .eq 10, 3) := by decide +kernel
theorem dX8_front_19 : decode cX8_front 19 = .ok (.iload_n 3, 1) := by decide +kernel
theorem dX8_front_20 : decode cX8_front 20 = .ok (.invokestatic 134, 3) := by decide +kernel
theorem dX8_front_23 : decode cX8_front 23 = .ok (.ifCond .ne 5, 3) := by decide +kernel
theorem dX8_front_26 : decode cX8_front 26 = .ok (.iconst (-1), 1) := by decide +kernel
theorem dX8_front_27 : decode cX8_front 27 = .ok (.ireturn, 1) := by decide +kernel
theorem dX8_front_28 : decode cX8_front 28 = .ok (.aload_n 0, 1) := by decide +kernel
theorem dX8_front_29 : decode cX8_front 29 = .ok (.getfield 16, 3) := by decide +kernel
theorem dX8_front_32 : decode cX8_front 32 = .ok (.iload_n 1, 1) := by decide +kernel
theorem dX8_front_33 : decode cX8_front 33 = .ok (.iaload, 1) := by decide +kernel
theorem dX8_front_34 : decode cX8_front 34 = .ok (.sipush 255, 3) := by decide +kernel
theorem dX8_front_37 : decode cX8_front 37 = .ok (.if_icmp .ne 6, 3) := by decide +kernel
theorem dX8_front_40 : decode cX8_front 40 = .ok (.bipush (-2), 2) := by decide +kernel
theorem dX8_front_42 : decode cX8_front 42 = .ok (.ireturn, 1) := by decide +kernel
theorem dX8_front_43 : decode cX8_front 43 = .ok (.aload_n 0, 1) := by decide +kernel
theorem dX8_front_44 : decode cX8_front 44 = .ok (.iload_n 1, 1) := by decide +kernel
theorem dX8_front_45 : decode cX8_front 45 = .ok (.invokevirtual 176, 3) := by decide +kernel
theorem dX8_front_48 : decode cX8_front 48 = .ok (.aload_n 0, 1) := by decide +kernel
theorem dX8_front_49 : decode cX8_front 49 = .ok (.invokevirtual 166, 3) := by decide +kernel
theorem dX8_front_52 : decode cX8_front 52 = .ok (.aload_n 0, 1) := by decide +kernel
theorem dX8_front_53 : decode cX8_front 53 = .ok (.iconst 0, 1) := by decide +kernel
theorem dX8_front_54 : decode cX8_front 54 = .ok (.iconst 1, 1) := by decide +kernel
theorem dX8_front_55 : decode cX8_front 55 = .ok (.aload_n 0, 1) := by decide +kernel
theorem dX8_front_56 : decode cX8_front 56 = .ok (.getfield 16, 3) := by decide +kernel
theorem dX8_front_59 : decode cX8_front 59 = .ok (.iload_n 1, 1) := by decide +kernel
theorem dX8_front_60 : decode cX8_front 60 = .ok (.iaload, 1) := by decide +kernel
theorem dX8_front_61 : decode cX8_front 61 = .ok (.iconst 0, 1) := by decide +kernel
theorem dX8_front_62 : decode cX8_front 62 = .ok (.iconst 1, 1) := by decide +kernel
theorem dX8_front_63 : decode cX8_front 63 = .ok (.iload_n 2, 1) := by decide +kernel
theorem dX8_front_64 : decode cX8_front 64 = .ok (.invokevirtual 208, 3) := by decide +kernel
theorem dX8_front_67 : decode cX8_front 67 = .ok (.aload_n 0, 1) := by decide +kernel
theorem dX8_front_68 : decode cX8_front 68 = .ok (.getfield 16, 3) := by decide +kernel
theorem dX8_front_71 : decode cX8_front 71 = .ok (.bipush 7, 2) := by decide +kernel
theorem dX8_front_73 : decode cX8_front 73 = .ok (.aload_n 0, 1) := by decide +kernel
theorem dX8_front_74 : decode cX8_front 74 = .ok (.getfield 16, 3) := by decide +kernel
theorem dX8_front_77 : decode cX8_front 77 = .ok (.bipush 6, 2) := by decide +kernel
theorem dX8_front_79 : decode cX8_front 79 = .ok (.iaload, 1) := by decide +kernel
theorem dX8_front_80 : decode cX8_front 80 = .ok (.iconst 1, 1) := by decide +kernel
theorem dX8_front_81 : decode cX8_front 81 = .ok (.iadd, 1) := by decide +kernel
theorem dX8_front_82 : decode cX8_front 82 = .ok (.iastore, 1) := by decide +kernel
theorem dX8_front_83 : decode cX8_front 83 = .ok (.aload_n 0, 1) := by decide +kernel
theorem dX8_front_84 : decode cX8_front 84 = .ok (.iload_n 3, 1) := by decide +kernel
theorem dX8_front_85 : decode cX8_front 85 = .ok (.invokevirtual 205, 3) := by decide +kernel
theorem dX8_front_88 : decode cX8_front 88 = .ok (.ireturn, 1) := by decide +kernel
theorem dX8_backs_0 : decode cX8_backs 0 = .ok (.aload_n 0, 1) := by decide +kernel
theorem dX8_backs_1 : decode cX8_backs 1 = .ok (.invokevirtual 195, 3) := by decide +kernel
theorem dX8_backs_4 : decode cX8_backs 4 = .ok (.aload_n 0, 1) := by decide +kernel
theorem dX8_backs_5 : decode cX8_backs 5 = .ok (.aload_n 0, 1) := by decide +kernel
theorem dX8_backs_6 : decode cX8_backs 6 = .ok (.getfield 16, 3) := by decide +kernel
theorem dX8_backs_9 : decode cX8_backs 9 = .ok (.bipush 7, 2) := by decide +kernel
theorem dX8_backs_11 : decode cX8_backs 11 = .ok (.iaload, 1) := by decide +kernel
theorem dX8_backs_12 : decode cX8_backs 12 = .ok (.iconst 1, 1) := by decide +kernel
theorem dX8_backs_13 : decode cX8_backs 13 = .ok (.invokevirtual 198, 3) := by decide +kernel
theorem dX8_backs_16 : decode cX8_backs 16 = .ok (.aload_n 0, 1) := by decide +kernel
theorem dX8_backs_17 : decode cX8_backs 17 = .ok (.getfield 7, 3) := by decide +kernel
theorem dX8_backs_20 : decode cX8_backs 20 = .ok (.sipush 1792, 3) := by decide +kernel
theorem dX8_backs_23 : decode cX8_backs 23 = .ok (.aload_n 0, 1) := by decide +kernel
theorem dX8_backs_24 : decode cX8_backs 24 = .ok (.getfield 16, 3) := by decide +kernel
theorem dX8_backs_27 : decode cX8_backs 27 = .ok (.bipush 7, 2) := by decide +kernel
theorem dX8_backs_29 : decode cX8_backs 29 = .ok (.iaload, 1) := by decide +kernel
theorem dX8_backs_30 : decode cX8_backs 30 = .ok (.iadd, 1) := by decide +kernel
theorem dX8_backs_31 : decode cX8_backs 31 = .ok (.iload_n 1, 1) := by decide +kernel
theorem dX8_backs_32 : decode cX8_backs 32 = .ok (.iastore, 1) := by decide +kernel
theorem dX8_backs_33 : decode cX8_backs 33 = .ok (.aload_n 0, 1) := by decide +kernel
theorem dX8_backs_34 : decode cX8_backs 34 = .ok (.getfield 16, 3) := by decide +kernel
theorem dX8_backs_37 : decode cX8_backs 37 = .ok (.bipush 7, 2) := by decide +kernel
theorem dX8_backs_39 : decode cX8_backs 39 = .ok (.dup2, 1) := by decide +kernel
theorem dX8_backs_40 : decode cX8_backs 40 = .ok (.iaload, 1) := by decide +kernel
theorem dX8_backs_41 : decode cX8_backs 41 = .ok (.iconst 1, 1) := by decide +kernel
theorem dX8_backs_42 : decode cX8_backs 42 = .ok (.iadd, 1) := by decide +kernel
theorem dX8_backs_43 : decode cX8_backs 43 = .ok (.iastore, 1) := by decide +kernel
theorem dX8_backs_44 : decode cX8_backs 44 = .ok (.aload_n 0, 1) := by decide +kernel
theorem dX8_backs_45 : decode cX8_backs 45 = .ok (.invokevirtual 202, 3) := by decide +kernel
theorem dX8_backs_48 : decode cX8_backs 48 = .ok (.return_, 1) := by decide +kernel
theorem dX8_back_0 : decode cX8_back 0 = .ok (.aload_n 0, 1) := by decide +kernel
theorem dX8_back_1 : decode cX8_back 1 = .ok (.iconst 0, 1) := by decide +kernel
theorem dX8_back_2 : decode cX8_back 2 = .ok (.putfield 55, 3) := by decide +kernel
theorem dX8_back_5 : decode cX8_back 5 = .ok (.iload_n 1, 1) := by decide +kernel
theorem dX8_back_6 : decode cX8_back 6 = .ok (.invokestatic 134, 3) := by decide +kernel
theorem dX8_back_9 : decode cX8_back 9 = .ok (.ifCond .eq 17, 3) := by decide +kernel
theorem dX8_back_12 : decode cX8_back 12 = .ok (.iload_n 2, 1) := by decide +kernel
theorem dX8_back_13 : decode cX8_back 13 = .ok (.invokestatic 163, 3) := by decide +kernel
theorem dX8_back_16 : decode cX8_back 16 = .ok (.ifCond .eq 10, 3) := by decide +kernel
theorem dX8_back_19 : decode cX8_back 19 = .ok (.iload_n 3, 1) := by decide +kernel
theorem dX8_back_20 : decode cX8_back 20 = .ok (.invokestatic 134, 3) := by decide +kernel
theorem dX8_back_23 : decode cX8_back 23 = .ok (.ifCond .ne 5, 3) := by decide +kernel
theorem dX8_back_26 : decode cX8_back 26 = .ok (.iconst (-1), 1) := by decide +kernel
theorem dX8_back_27 : decode cX8_back 27 = .ok (.ireturn, 1) := by decide +kernel
theorem dX8_back_28 : decode cX8_back 28 = .ok (.aload_n 0, 1) := by decide +kernel
theorem dX8_back_29 : decode cX8_back 29 = .ok (.getfield 16, 3) := by decide +kernel
theorem dX8_back_32 : decode cX8_back 32 = .ok (.iload_n 1, 1) := by decide +kernel
theorem dX8_back_33 : decode cX8_back 33 = .ok (.iaload, 1) := by decide +kernel
theorem dX8_back_34 : decode cX8_back 34 = .ok (.sipush 255, 3) := by decide +kernel
theorem dX8_back_37 : decode cX8_back 37 = .ok (.if_icmp .ne 6, 3) := by decide +kernel
theorem dX8_back_40 : decode cX8_back 40 = .ok (.bipush (-2), 2) := by decide +kernel
theorem dX8_back_42 : decode cX8_back 42 = .ok (.ireturn, 1) := by decide +kernel
theorem dX8_back_43 : decode cX8_back 43 = .ok (.aload_n 0, 1) := by decide +kernel
theorem dX8_back_44 : decode cX8_back 44 = .ok (.iload_n 1, 1) := by decide +kernel
theorem dX8_back_45 : decode cX8_back 45 = .ok (.invokevirtual 176, 3) := by decide +kernel
theorem dX8_back_48 : decode cX8_back 48 = .ok (.aload_n 0, 1) := by decide +kernel
theorem dX8_back_49 : decode cX8_back 49 = .ok (.invokevirtual 166, 3) := by decide +kernel
theorem dX8_back_52 : decode cX8_back 52 = .ok (.aload_n 0, 1) := by decide +kernel
theorem dX8_back_53 : decode cX8_back 53 = .ok (.iload_n 2, 1) := by decide +kernel
theorem dX8_back_54 : decode cX8_back 54 = .ok (.invokevirtual 212, 3) := by decide +kernel
theorem dX8_back_57 : decode cX8_back 57 = .ok (.aload_n 0, 1) := by decide +kernel
theorem dX8_back_58 : decode cX8_back 58 = .ok (.iload_n 3, 1) := by decide +kernel
theorem dX8_back_59 : decode cX8_back 59 = .ok (.invokevirtual 205, 3) := by decide +kernel
theorem dX8_back_62 : decode cX8_back 62 = .ok (.ireturn, 1) := by decide +kernel
theorem dX8_firsts_0 : decode cX8_firsts 0 = .ok (.iload_n 3, 1) := by decide +kernel
theorem dX8_firsts_1 : decode cX8_firsts 1 = .ok (.iconst 1, 1) := by decide +kernel
theorem dX8_firsts_2 : decode cX8_firsts 2 = .ok (.if_icmp .ne 4, 3) := by decide +kernel
theorem dX8_firsts_5 : decode cX8_firsts 5 = .ok (.return_, 1) := by decide +kernel
theorem dX8_firsts_6 : decode cX8_firsts 6 = .ok (.aload_n 0, 1) := by decide +kernel
theorem dX8_firsts_7 : decode cX8_firsts 7 = .ok (.bipush 7, 2) := by decide +kernel
theorem dX8_firsts_9 : decode cX8_firsts 9 = .ok (.iload 4, 2) := by decide +kernel
theorem dX8_firsts_11 : decode cX8_firsts 11 = .ok (.aload_n 0, 1) := by decide +kernel
theorem dX8_firsts_12 : decode cX8_firsts 12 = .ok (.bipush 6, 2) := by decide +kernel
theorem dX8_firsts_14 : decode cX8_firsts 14 = .ok (.iload_n 1, 1) := by decide +kernel
theorem dX8_firsts_15 : decode cX8_firsts 15 = .ok (.iload_n 2, 1) := by decide +kernel
theorem dX8_firsts_16 : decode cX8_firsts 16 = .ok (.iadd, 1) := by decide +kernel
theorem dX8_firsts_17 : decode cX8_firsts 17 = .ok (.invokevirtual 99, 3) := by decide +kernel
theorem dX8_firsts_20 : decode cX8_firsts 20 = .ok (.invokevirtual 103, 3) := by decide +kernel
theorem dX8_firsts_23 : decode cX8_firsts 23 = .ok (.aload_n 0, 1) := by decide +kernel
theorem dX8_firsts_24 : decode cX8_firsts 24 = .ok (.bipush 6, 2) := by decide +kernel
theorem dX8_firsts_26 : decode cX8_firsts 26 = .ok (.iload_n 1, 1) := by decide +kernel
theorem dX8_firsts_27 : decode cX8_firsts 27 = .ok (.iconst 2, 1) := by decide +kernel
theorem dX8_firsts_28 : decode cX8_firsts 28 = .ok (.iload_n 2, 1) := by decide +kernel
theorem dX8_firsts_29 : decode cX8_firsts 29 = .ok (.imul, 1) := by decide +kernel
theorem dX8_firsts_30 : decode cX8_firsts 30 = .ok (.iadd, 1) := by decide +kernel
theorem dX8_firsts_31 : decode cX8_firsts 31 = .ok (.iconst 2, 1) := by decide +kernel
theorem dX8_firsts_32 : decode cX8_firsts 32 = .ok (.iload_n 2, 1) := by decide +kernel
theorem dX8_firsts_33 : decode cX8_firsts 33 = .ok (.imul, 1) := by decide +kernel
theorem dX8_firsts_34 : decode cX8_firsts 34 = .ok (.iload_n 3, 1) := by decide +kernel
theorem dX8_firsts_35 : decode cX8_firsts 35 = .ok (.invokestatic 173, 3) := by decide +kernel
theorem dX8_firsts_38 : decode cX8_firsts 38 = .ok (.bipush 7, 2) := by decide +kernel
theorem dX8_firsts_40 : decode cX8_firsts 40 = .ok (.iload 4, 2) := by decide +kernel
theorem dX8_firsts_42 : decode cX8_firsts 42 = .ok (.iload 5, 2) := by decide +kernel
theorem dX8_firsts_44 : decode cX8_firsts 44 = .ok (.iadd, 1) := by decide +kernel
theorem dX8_firsts_45 : decode cX8_firsts 45 = .ok (.iconst 2, 1) := by decide +kernel
theorem dX8_firsts_46 : decode cX8_firsts 46 = .ok (.iload 5, 2) := by decide +kernel
theorem dX8_firsts_48 : decode cX8_firsts 48 = .ok (.imul, 1) := by decide +kernel
theorem dX8_firsts_49 : decode cX8_firsts 49 = .ok (.invokevirtual 78, 3) := by decide +kernel
theorem dX8_firsts_52 : decode cX8_firsts 52 = .ok (.aload_n 0, 1) := by decide +kernel
theorem dX8_firsts_53 : decode cX8_firsts 53 = .ok (.iload_n 1, 1) := by decide +kernel
theorem dX8_firsts_54 : decode cX8_firsts 54 = .ok (.iload_n 2, 1) := by decide +kernel
theorem dX8_firsts_55 : decode cX8_firsts 55 = .ok (.iadd, 1) := by decide +kernel
theorem dX8_firsts_56 : decode cX8_firsts 56 = .ok (.iconst 2, 1) := by decide +kernel
theorem dX8_firsts_57 : decode cX8_firsts 57 = .ok (.iload_n 2, 1) := by decide +kernel
theorem dX8_firsts_58 : decode cX8_firsts 58 = .ok (.imul, 1) := by decide +kernel
theorem dX8_firsts_59 : decode cX8_firsts 59 = .ok (.iload_n 3, 1) := by decide +kernel
theorem dX8_firsts_60 : decode cX8_firsts 60 = .ok (.invokestatic 169, 3) := by decide +kernel
theorem dX8_firsts_63 : decode cX8_firsts 63 = .ok (.iload 4, 2) := by decide +kernel
theorem dX8_firsts_65 : decode cX8_firsts 65 = .ok (.iconst 2, 1) := by decide +kernel
theorem dX8_firsts_66 : decode cX8_firsts 66 = .ok (.iload 5, 2) := by decide +kernel
theorem dX8_firsts_68 : decode cX8_firsts 68 = .ok (.imul, 1) := by decide +kernel
theorem dX8_firsts_69 : decode cX8_firsts 69 = .ok (.iadd, 1) := by decide +kernel
theorem dX8_firsts_70 : decode cX8_firsts 70 = .ok (.iconst 2, 1) := by decide +kernel
theorem dX8_firsts_71 : decode cX8_firsts 71 = .ok (.iload 5, 2) := by decide +kernel
theorem dX8_firsts_73 : decode cX8_firsts 73 = .ok (.imul, 1) := by decide +kernel
theorem dX8_firsts_74 : decode cX8_firsts 74 = .ok (.invokevirtual 215, 3) := by decide +kernel
theorem dX8_firsts_77 : decode cX8_firsts 77 = .ok (.return_, 1) := by decide +kernel
theorem dX8_goesFirst_0 : decode cX8_goesFirst 0 = .ok (.aload_n 0, 1) := by decide +kernel
theorem dX8_goesFirst_1 : decode cX8_goesFirst 1 = .ok (.bipush 7, 2) := by decide +kernel
theorem dX8_goesFirst_3 : decode cX8_goesFirst 3 = .ok (.bipush 6, 2) := by decide +kernel
theorem dX8_goesFirst_5 : decode cX8_goesFirst 5 = .ok (.invokevirtual 82, 3) := by decide +kernel
theorem dX8_goesFirst_8 : decode cX8_goesFirst 8 = .ok (.aload_n 0, 1) := by decide +kernel
theorem dX8_goesFirst_9 : decode cX8_goesFirst 9 = .ok (.iconst 0, 1) := by decide +kernel
theorem dX8_goesFirst_10 : decode cX8_goesFirst 10 = .ok (.iconst 1, 1) := by decide +kernel
theorem dX8_goesFirst_11 : decode cX8_goesFirst 11 = .ok (.aload_n 0, 1) := by decide +kernel
theorem dX8_goesFirst_12 : decode cX8_goesFirst 12 = .ok (.getfield 16, 3) := by decide +kernel
theorem dX8_goesFirst_15 : decode cX8_goesFirst 15 = .ok (.bipush 6, 2) := by decide +kernel
theorem dX8_goesFirst_17 : decode cX8_goesFirst 17 = .ok (.iaload, 1) := by decide +kernel
theorem dX8_goesFirst_18 : decode cX8_goesFirst 18 = .ok (.iconst 0, 1) := by decide +kernel
theorem dX8_goesFirst_19 : decode cX8_goesFirst 19 = .ok (.iconst 1, 1) := by decide +kernel
theorem dX8_goesFirst_20 : decode cX8_goesFirst 20 = .ok (.invokevirtual 215, 3) := by decide +kernel
theorem dX8_goesFirst_23 : decode cX8_goesFirst 23 = .ok (.aload_n 0, 1) := by decide +kernel
theorem dX8_goesFirst_24 : decode cX8_goesFirst 24 = .ok (.getfield 16, 3) := by decide +kernel
theorem dX8_goesFirst_27 : decode cX8_goesFirst 27 = .ok (.bipush 7, 2) := by decide +kernel
theorem dX8_goesFirst_29 : decode cX8_goesFirst 29 = .ok (.dup2, 1) := by decide +kernel
theorem dX8_goesFirst_30 : decode cX8_goesFirst 30 = .ok (.iaload, 1) := by decide +kernel
theorem dX8_goesFirst_31 : decode cX8_goesFirst 31 = .ok (.iconst 1, 1) := by decide +kernel
theorem dX8_goesFirst_32 : decode cX8_goesFirst 32 = .ok (.isub, 1) := by decide +kernel
theorem dX8_goesFirst_33 : decode cX8_goesFirst 33 = .ok (.iastore, 1) := by decide +kernel
theorem dX8_goesFirst_34 : decode cX8_goesFirst 34 = .ok (.return_, 1) := by decide +kernel
theorem dX8_first_0 : decode cX8_first 0 = .ok (.aload_n 0, 1) := by decide +kernel
theorem dX8_first_1 : decode cX8_first 1 = .ok (.iconst 0, 1) := by decide +kernel
theorem dX8_first_2 : decode cX8_first 2 = .ok (.putfield 55, 3) := by decide +kernel
theorem dX8_first_5 : decode cX8_first 5 = .ok (.iload_n 1, 1) := by decide +kernel
theorem dX8_first_6 : decode cX8_first 6 = .ok (.invokestatic 134, 3) := by decide +kernel
theorem dX8_first_9 : decode cX8_first 9 = .ok (.ifCond .eq 10, 3) := by decide +kernel
theorem dX8_first_12 : decode cX8_first 12 = .ok (.iload_n 2, 1) := by decide +kernel
theorem dX8_first_13 : decode cX8_first 13 = .ok (.invokestatic 134, 3) := by decide +kernel
theorem dX8_first_16 : decode cX8_first 16 = .ok (.ifCond .ne 5, 3) := by decide +kernel
theorem dX8_first_19 : decode cX8_first 19 = .ok (.iconst (-1), 1) := by decide +kernel
theorem dX8_first_20 : decode cX8_first 20 = .ok (.ireturn, 1) := by decide +kernel
theorem dX8_first_21 : decode cX8_first 21 = .ok (.aload_n 0, 1) := by decide +kernel
theorem dX8_first_22 : decode cX8_first 22 = .ok (.getfield 16, 3) := by decide +kernel
theorem dX8_first_25 : decode cX8_first 25 = .ok (.iload_n 1, 1) := by decide +kernel
theorem dX8_first_26 : decode cX8_first 26 = .ok (.iaload, 1) := by decide +kernel
theorem dX8_first_27 : decode cX8_first 27 = .ok (.ifCond .ne 6, 3) := by decide +kernel
theorem dX8_first_30 : decode cX8_first 30 = .ok (.bipush (-2), 2) := by decide +kernel
theorem dX8_first_32 : decode cX8_first 32 = .ok (.ireturn, 1) := by decide +kernel
theorem dX8_first_33 : decode cX8_first 33 = .ok (.aload_n 0, 1) := by decide +kernel
theorem dX8_first_34 : decode cX8_first 34 = .ok (.iconst 0, 1) := by decide +kernel
theorem dX8_first_35 : decode cX8_first 35 = .ok (.putfield 59, 3) := by decide +kernel
theorem dX8_first_38 : decode cX8_first 38 = .ok (.aload_n 0, 1) := by decide +kernel
theorem dX8_first_39 : decode cX8_first 39 = .ok (.aload_n 0, 1) := by decide +kernel
theorem dX8_first_40 : decode cX8_first 40 = .ok (.iload_n 1, 1) := by decide +kernel
theorem dX8_first_41 : decode cX8_first 41 = .ok (.iconst 0, 1) := by decide +kernel
theorem dX8_first_42 : decode cX8_first 42 = .ok (.invokevirtual 99, 3) := by decide +kernel
theorem dX8_first_45 : decode cX8_first 45 = .ok (.i2l, 1) := by decide +kernel
theorem dX8_first_46 : decode cX8_first 46 = .ok (.invokevirtual 150, 3) := by decide +kernel
theorem dX8_first_49 : decode cX8_first 49 = .ok (.aload_n 0, 1) := by decide +kernel
theorem dX8_first_50 : decode cX8_first 50 = .ok (.iload_n 1, 1) := by decide +kernel
theorem dX8_first_51 : decode cX8_first 51 = .ok (.invokevirtual 176, 3) := by decide +kernel
theorem dX8_first_54 : decode cX8_first 54 = .ok (.aload_n 0, 1) := by decide +kernel
theorem dX8_first_55 : decode cX8_first 55 = .ok (.invokevirtual 166, 3) := by decide +kernel
theorem dX8_first_58 : decode cX8_first 58 = .ok (.aload_n 0, 1) := by decide +kernel
theorem dX8_first_59 : decode cX8_first 59 = .ok (.invokevirtual 219, 3) := by decide +kernel
theorem dX8_first_62 : decode cX8_first 62 = .ok (.aload_n 0, 1) := by decide +kernel
theorem dX8_first_63 : decode cX8_first 63 = .ok (.iload_n 2, 1) := by decide +kernel
theorem dX8_first_64 : decode cX8_first 64 = .ok (.invokevirtual 205, 3) := by decide +kernel
theorem dX8_first_67 : decode cX8_first 67 = .ok (.ireturn, 1) := by decide +kernel
theorem dX8_goesLast_0 : decode cX8_goesLast 0 = .ok (.aload_n 0, 1) := by decide +kernel
theorem dX8_goesLast_1 : decode cX8_goesLast 1 = .ok (.invokevirtual 195, 3) := by decide +kernel
theorem dX8_goesLast_4 : decode cX8_goesLast 4 = .ok (.aload_n 0, 1) := by decide +kernel
theorem dX8_goesLast_5 : decode cX8_goesLast 5 = .ok (.aload_n 0, 1) := by decide +kernel
theorem dX8_goesLast_6 : decode cX8_goesLast 6 = .ok (.getfield 16, 3) := by decide +kernel
theorem dX8_goesLast_9 : decode cX8_goesLast 9 = .ok (.bipush 7, 2) := by decide +kernel
theorem dX8_goesLast_11 : decode cX8_goesLast 11 = .ok (.iaload, 1) := by decide +kernel
theorem dX8_goesLast_12 : decode cX8_goesLast 12 = .ok (.iconst 1, 1) := by decide +kernel
theorem dX8_goesLast_13 : decode cX8_goesLast 13 = .ok (.isub, 1) := by decide +kernel
theorem dX8_goesLast_14 : decode cX8_goesLast 14 = .ok (.iconst 0, 1) := by decide +kernel
theorem dX8_goesLast_15 : decode cX8_goesLast 15 = .ok (.invokevirtual 198, 3) := by decide +kernel
theorem dX8_goesLast_18 : decode cX8_goesLast 18 = .ok (.aload_n 0, 1) := by decide +kernel
theorem dX8_goesLast_19 : decode cX8_goesLast 19 = .ok (.getfield 16, 3) := by decide +kernel
theorem dX8_goesLast_22 : decode cX8_goesLast 22 = .ok (.bipush 7, 2) := by decide +kernel
theorem dX8_goesLast_24 : decode cX8_goesLast 24 = .ok (.dup2, 1) := by decide +kernel
theorem dX8_goesLast_25 : decode cX8_goesLast 25 = .ok (.iaload, 1) := by decide +kernel
theorem dX8_goesLast_26 : decode cX8_goesLast 26 = .ok (.iconst 1, 1) := by decide +kernel
theorem dX8_goesLast_27 : decode cX8_goesLast 27 = .ok (.isub, 1) := by decide +kernel
theorem dX8_goesLast_28 : decode cX8_goesLast 28 = .ok (.iastore, 1) := by decide +kernel
theorem dX8_goesLast_29 : decode cX8_goesLast 29 = .ok (.aload_n 0, 1) := by decide +kernel
theorem dX8_goesLast_30 : decode cX8_goesLast 30 = .ok (.invokevirtual 202, 3) := by decide +kernel
theorem dX8_goesLast_33 : decode cX8_goesLast 33 = .ok (.return_, 1) := by decide +kernel
theorem dX8_last_0 : decode cX8_last 0 = .ok (.aload_n 0, 1) := by decide +kernel
theorem dX8_last_1 : decode cX8_last 1 = .ok (.iconst 0, 1) := by decide +kernel
theorem dX8_last_2 : decode cX8_last 2 = .ok (.putfield 55, 3) := by decide +kernel
theorem dX8_last_5 : decode cX8_last 5 = .ok (.iload_n 1, 1) := by decide +kernel
theorem dX8_last_6 : decode cX8_last 6 = .ok (.invokestatic 134, 3) := by decide +kernel
theorem dX8_last_9 : decode cX8_last 9 = .ok (.ifCond .eq 10, 3) := by decide +kernel
theorem dX8_last_12 : decode cX8_last 12 = .ok (.iload_n 2, 1) := by decide +kernel
theorem dX8_last_13 : decode cX8_last 13 = .ok (.invokestatic 134, 3) := by decide +kernel
theorem dX8_last_16 : decode cX8_last 16 = .ok (.ifCond .ne 5, 3) := by decide +kernel
theorem dX8_last_19 : decode cX8_last 19 = .ok (.iconst (-1), 1) := by decide +kernel
theorem dX8_last_20 : decode cX8_last 20 = .ok (.ireturn, 1) := by decide +kernel
theorem dX8_last_21 : decode cX8_last 21 = .ok (.aload_n 0, 1) := by decide +kernel
theorem dX8_last_22 : decode cX8_last 22 = .ok (.getfield 16, 3) := by decide +kernel
theorem dX8_last_25 : decode cX8_last 25 = .ok (.iload_n 1, 1) := by decide +kernel
theorem dX8_last_26 : decode cX8_last 26 = .ok (.iaload, 1) := by decide +kernel
theorem dX8_last_27 : decode cX8_last 27 = .ok (.ifCond .ne 6, 3) := by decide +kernel
theorem dX8_last_30 : decode cX8_last 30 = .ok (.bipush (-2), 2) := by decide +kernel
theorem dX8_last_32 : decode cX8_last 32 = .ok (.ireturn, 1) := by decide +kernel
theorem dX8_last_33 : decode cX8_last 33 = .ok (.aload_n 0, 1) := by decide +kernel
theorem dX8_last_34 : decode cX8_last 34 = .ok (.iconst 0, 1) := by decide +kernel
theorem dX8_last_35 : decode cX8_last 35 = .ok (.putfield 59, 3) := by decide +kernel
theorem dX8_last_38 : decode cX8_last 38 = .ok (.aload_n 0, 1) := by decide +kernel
theorem dX8_last_39 : decode cX8_last 39 = .ok (.aload_n 0, 1) := by decide +kernel
theorem dX8_last_40 : decode cX8_last 40 = .ok (.iload_n 1, 1) := by decide +kernel
theorem dX8_last_41 : decode cX8_last 41 = .ok (.aload_n 0, 1) := by decide +kernel
theorem dX8_last_42 : decode cX8_last 42 = .ok (.getfield 16, 3) := by decide +kernel
theorem dX8_last_45 : decode cX8_last 45 = .ok (.iload_n 1, 1) := by decide +kernel
theorem dX8_last_46 : decode cX8_last 46 = .ok (.iaload, 1) := by decide +kernel
theorem dX8_last_47 : decode cX8_last 47 = .ok (.iconst 1, 1) := by decide +kernel
theorem dX8_last_48 : decode cX8_last 48 = .ok (.isub, 1) := by decide +kernel
theorem dX8_last_49 : decode cX8_last 49 = .ok (.invokevirtual 99, 3) := by decide +kernel
theorem dX8_last_52 : decode cX8_last 52 = .ok (.i2l, 1) := by decide +kernel
theorem dX8_last_53 : decode cX8_last 53 = .ok (.invokevirtual 150, 3) := by decide +kernel
theorem dX8_last_56 : decode cX8_last 56 = .ok (.aload_n 0, 1) := by decide +kernel
theorem dX8_last_57 : decode cX8_last 57 = .ok (.iload_n 1, 1) := by decide +kernel
theorem dX8_last_58 : decode cX8_last 58 = .ok (.invokevirtual 176, 3) := by decide +kernel
theorem dX8_last_61 : decode cX8_last 61 = .ok (.aload_n 0, 1) := by decide +kernel
theorem dX8_last_62 : decode cX8_last 62 = .ok (.invokevirtual 166, 3) := by decide +kernel
theorem dX8_last_65 : decode cX8_last 65 = .ok (.aload_n 0, 1) := by decide +kernel
theorem dX8_last_66 : decode cX8_last 66 = .ok (.invokevirtual 222, 3) := by decide +kernel
theorem dX8_last_69 : decode cX8_last 69 = .ok (.aload_n 0, 1) := by decide +kernel
theorem dX8_last_70 : decode cX8_last 70 = .ok (.iload_n 2, 1) := by decide +kernel
theorem dX8_last_71 : decode cX8_last 71 = .ok (.invokevirtual 205, 3) := by decide +kernel
theorem dX8_last_74 : decode cX8_last 74 = .ok (.ireturn, 1) := by decide +kernel
theorem dX8_isSpan_0 : decode cX8_isSpan 0 = .ok (.iload_n 2, 1) := by decide +kernel
theorem dX8_isSpan_1 : decode cX8_isSpan 1 = .ok (.ifCond .lt 22, 3) := by decide +kernel
theorem dX8_isSpan_4 : decode cX8_isSpan 4 = .ok (.iload_n 2, 1) := by decide +kernel
theorem dX8_isSpan_5 : decode cX8_isSpan 5 = .ok (.iload_n 3, 1) := by decide +kernel
theorem dX8_isSpan_6 : decode cX8_isSpan 6 = .ok (.if_icmp .gt 17, 3) := by decide +kernel
theorem dX8_isSpan_9 : decode cX8_isSpan 9 = .ok (.iload_n 3, 1) := by decide +kernel
theorem dX8_isSpan_10 : decode cX8_isSpan 10 = .ok (.aload_n 0, 1) := by decide +kernel
theorem dX8_isSpan_11 : decode cX8_isSpan 11 = .ok (.getfield 16, 3) := by decide +kernel
theorem dX8_isSpan_14 : decode cX8_isSpan 14 = .ok (.iload_n 1, 1) := by decide +kernel
theorem dX8_isSpan_15 : decode cX8_isSpan 15 = .ok (.iaload, 1) := by decide +kernel
theorem dX8_isSpan_16 : decode cX8_isSpan 16 = .ok (.if_icmp .gt 7, 3) := by decide +kernel
theorem dX8_isSpan_19 : decode cX8_isSpan 19 = .ok (.iconst 1, 1) := by decide +kernel
theorem dX8_isSpan_20 : decode cX8_isSpan 20 = .ok (.goto 4, 3) := by decide +kernel
theorem dX8_isSpan_23 : decode cX8_isSpan 23 = .ok (.iconst 0, 1) := by decide +kernel
theorem dX8_isSpan_24 : decode cX8_isSpan 24 = .ok (.ireturn, 1) := by decide +kernel
theorem dX8_adds_0 : decode cX8_adds 0 = .ok (.aload_n 0, 1) := by decide +kernel
theorem dX8_adds_1 : decode cX8_adds 1 = .ok (.iconst 0, 1) := by decide +kernel
theorem dX8_adds_2 : decode cX8_adds 2 = .ok (.putfield 55, 3) := by decide +kernel
theorem dX8_adds_5 : decode cX8_adds 5 = .ok (.iload_n 1, 1) := by decide +kernel
theorem dX8_adds_6 : decode cX8_adds 6 = .ok (.invokestatic 134, 3) := by decide +kernel
theorem dX8_adds_9 : decode cX8_adds 9 = .ok (.ifCond .eq 29, 3) := by decide +kernel
theorem dX8_adds_12 : decode cX8_adds 12 = .ok (.aload_n 0, 1) := by decide +kernel
theorem dX8_adds_13 : decode cX8_adds 13 = .ok (.iload_n 1, 1) := by decide +kernel
theorem dX8_adds_14 : decode cX8_adds 14 = .ok (.iload_n 2, 1) := by decide +kernel
theorem dX8_adds_15 : decode cX8_adds 15 = .ok (.iload_n 3, 1) := by decide +kernel
theorem dX8_adds_16 : decode cX8_adds 16 = .ok (.invokevirtual 225, 3) := by decide +kernel
theorem dX8_adds_19 : decode cX8_adds 19 = .ok (.ifCond .eq 19, 3) := by decide +kernel
theorem dX8_adds_22 : decode cX8_adds 22 = .ok (.iload 4, 2) := by decide +kernel
theorem dX8_adds_24 : decode cX8_adds 24 = .ok (.invokestatic 163, 3) := by decide +kernel
theorem dX8_adds_27 : decode cX8_adds 27 = .ok (.ifCond .eq 11, 3) := by decide +kernel
theorem dX8_adds_30 : decode cX8_adds 30 = .ok (.iload 5, 2) := by decide +kernel
theorem dX8_adds_32 : decode cX8_adds 32 = .ok (.invokestatic 134, 3) := by decide +kernel
theorem dX8_adds_35 : decode cX8_adds 35 = .ok (.ifCond .ne 5, 3) := by decide +kernel
theorem dX8_adds_38 : decode cX8_adds 38 = .ok (.iconst (-1), 1) := by decide +kernel
theorem dX8_adds_39 : decode cX8_adds 39 = .ok (.ireturn, 1) := by decide +kernel
theorem dX8_adds_40 : decode cX8_adds 40 = .ok (.aload_n 0, 1) := by decide +kernel
theorem dX8_adds_41 : decode cX8_adds 41 = .ok (.iload_n 1, 1) := by decide +kernel
theorem dX8_adds_42 : decode cX8_adds 42 = .ok (.invokevirtual 176, 3) := by decide +kernel
theorem dX8_adds_45 : decode cX8_adds 45 = .ok (.aload_n 0, 1) := by decide +kernel
theorem dX8_adds_46 : decode cX8_adds 46 = .ok (.invokevirtual 166, 3) := by decide +kernel
theorem dX8_adds_49 : decode cX8_adds 49 = .ok (.aload_n 0, 1) := by decide +kernel
theorem dX8_adds_50 : decode cX8_adds 50 = .ok (.invokevirtual 195, 3) := by decide +kernel
theorem dX8_adds_53 : decode cX8_adds 53 = .ok (.iload_n 2, 1) := by decide +kernel
theorem dX8_adds_54 : decode cX8_adds 54 = .ok (.istore 6, 2) := by decide +kernel
theorem dX8_adds_56 : decode cX8_adds 56 = .ok (.iload 6, 2) := by decide +kernel
theorem dX8_adds_58 : decode cX8_adds 58 = .ok (.iload_n 3, 1) := by decide +kernel
theorem dX8_adds_59 : decode cX8_adds 59 = .ok (.if_icmp .ge 55, 3) := by decide +kernel
theorem dX8_adds_62 : decode cX8_adds 62 = .ok (.iload 4, 2) := by decide +kernel
theorem dX8_adds_64 : decode cX8_adds 64 = .ok (.ifCond .eq 50, 3) := by decide +kernel
theorem dX8_adds_67 : decode cX8_adds 67 = .ok (.aload_n 0, 1) := by decide +kernel
theorem dX8_adds_68 : decode cX8_adds 68 = .ok (.iload 6, 2) := by decide +kernel
theorem dX8_adds_70 : decode cX8_adds 70 = .ok (.iconst 1, 1) := by decide +kernel
theorem dX8_adds_71 : decode cX8_adds 71 = .ok (.invokevirtual 198, 3) := by decide +kernel
theorem dX8_adds_74 : decode cX8_adds 74 = .ok (.aload_n 0, 1) := by decide +kernel
theorem dX8_adds_75 : decode cX8_adds 75 = .ok (.getfield 7, 3) := by decide +kernel
theorem dX8_adds_78 : decode cX8_adds 78 = .ok (.sipush 1792, 3) := by decide +kernel
theorem dX8_adds_81 : decode cX8_adds 81 = .ok (.iload 6, 2) := by decide +kernel
theorem dX8_adds_83 : decode cX8_adds 83 = .ok (.iadd, 1) := by decide +kernel
theorem dX8_adds_84 : decode cX8_adds 84 = .ok (.sipush (-999), 3) := by decide +kernel
theorem dX8_adds_87 : decode cX8_adds 87 = .ok (.sipush 999, 3) := by decide +kernel
theorem dX8_adds_90 : decode cX8_adds 90 = .ok (.aload_n 0, 1) := by decide +kernel
theorem dX8_adds_91 : decode cX8_adds 91 = .ok (.bipush 7, 2) := by decide +kernel
theorem dX8_adds_93 : decode cX8_adds 93 = .ok (.iload 6, 2) := by decide +kernel
theorem dX8_adds_95 : decode cX8_adds 95 = .ok (.invokevirtual 99, 3) := by decide +kernel
theorem dX8_adds_98 : decode cX8_adds 98 = .ok (.iload 4, 2) := by decide +kernel
theorem dX8_adds_100 : decode cX8_adds 100 = .ok (.iadd, 1) := by decide +kernel
theorem dX8_adds_101 : decode cX8_adds 101 = .ok (.invokestatic 229, 3) := by decide +kernel
theorem dX8_adds_104 : decode cX8_adds 104 = .ok (.invokestatic 234, 3) := by decide +kernel
theorem dX8_adds_107 : decode cX8_adds 107 = .ok (.iastore, 1) := by decide +kernel
theorem dX8_adds_108 : decode cX8_adds 108 = .ok (.iinc 6 1, 3) := by decide +kernel
theorem dX8_adds_111 : decode cX8_adds 111 = .ok (.goto (-55), 3) := by decide +kernel
theorem dX8_adds_114 : decode cX8_adds 114 = .ok (.aload_n 0, 1) := by decide +kernel
theorem dX8_adds_115 : decode cX8_adds 115 = .ok (.invokevirtual 202, 3) := by decide +kernel
theorem dX8_adds_118 : decode cX8_adds 118 = .ok (.aload_n 0, 1) := by decide +kernel
theorem dX8_adds_119 : decode cX8_adds 119 = .ok (.iload 5, 2) := by decide +kernel
theorem dX8_adds_121 : decode cX8_adds 121 = .ok (.invokevirtual 205, 3) := by decide +kernel
theorem dX8_adds_124 : decode cX8_adds 124 = .ok (.ireturn, 1) := by decide +kernel
theorem dX8_appends_0 : decode cX8_appends 0 = .ok (.aload_n 0, 1) := by decide +kernel
theorem dX8_appends_1 : decode cX8_appends 1 = .ok (.iconst 0, 1) := by decide +kernel
theorem dX8_appends_2 : decode cX8_appends 2 = .ok (.putfield 55, 3) := by decide +kernel
theorem dX8_appends_5 : decode cX8_appends 5 = .ok (.iload_n 1, 1) := by decide +kernel
theorem dX8_appends_6 : decode cX8_appends 6 = .ok (.invokestatic 134, 3) := by decide +kernel
theorem dX8_appends_9 : decode cX8_appends 9 = .ok (.ifCond .eq 17, 3) := by decide +kernel
theorem dX8_appends_12 : decode cX8_appends 12 = .ok (.iload_n 2, 1) := by decide +kernel
theorem dX8_appends_13 : decode cX8_appends 13 = .ok (.invokestatic 134, 3) := by decide +kernel
theorem dX8_appends_16 : decode cX8_appends 16 = .ok (.ifCond .eq 10, 3) := by decide +kernel
theorem dX8_appends_19 : decode cX8_appends 19 = .ok (.iload_n 3, 1) := by decide +kernel
theorem dX8_appends_20 : decode cX8_appends 20 = .ok (.invokestatic 134, 3) := by decide +kernel
theorem dX8_appends_23 : decode cX8_appends 23 = .ok (.ifCond .ne 5, 3) := by decide +kernel
theorem dX8_appends_26 : decode cX8_appends 26 = .ok (.iconst (-1), 1) := by decide +kernel
theorem dX8_appends_27 : decode cX8_appends 27 = .ok (.ireturn, 1) := by decide +kernel
theorem dX8_appends_28 : decode cX8_appends 28 = .ok (.aload_n 0, 1) := by decide +kernel
theorem dX8_appends_29 : decode cX8_appends 29 = .ok (.getfield 16, 3) := by decide +kernel
theorem dX8_appends_32 : decode cX8_appends 32 = .ok (.iload_n 1, 1) := by decide +kernel
theorem dX8_appends_33 : decode cX8_appends 33 = .ok (.iaload, 1) := by decide +kernel
theorem dX8_appends_34 : decode cX8_appends 34 = .ok (.aload_n 0, 1) := by decide +kernel
theorem dX8_appends_35 : decode cX8_appends 35 = .ok (.getfield 16, 3) := by decide +kernel
theorem dX8_appends_38 : decode cX8_appends 38 = .ok (.iload_n 2, 1) := by decide +kernel
theorem dX8_appends_39 : decode cX8_appends 39 = .ok (.iaload, 1) := by decide +kernel
theorem dX8_appends_40 : decode cX8_appends 40 = .ok (.iadd, 1) := by decide +kernel
theorem dX8_appends_41 : decode cX8_appends 41 = .ok (.sipush 255, 3) := by decide +kernel
theorem dX8_appends_44 : decode cX8_appends 44 = .ok (.if_icmp .le 6, 3) := by decide +kernel
theorem dX8_appends_47 : decode cX8_appends 47 = .ok (.bipush (-2), 2) := by decide +kernel
theorem dX8_appends_49 : decode cX8_appends 49 = .ok (.ireturn, 1) := by decide +kernel
theorem dX8_appends_50 : decode cX8_appends 50 = .ok (.aload_n 0, 1) := by decide +kernel
theorem dX8_appends_51 : decode cX8_appends 51 = .ok (.iload_n 1, 1) := by decide +kernel
theorem dX8_appends_52 : decode cX8_appends 52 = .ok (.invokevirtual 176, 3) := by decide +kernel
theorem dX8_appends_55 : decode cX8_appends 55 = .ok (.aload_n 0, 1) := by decide +kernel
theorem dX8_appends_56 : decode cX8_appends 56 = .ok (.iload_n 2, 1) := by decide +kernel
theorem dX8_appends_57 : decode cX8_appends 57 = .ok (.bipush 8, 2) := by decide +kernel
theorem dX8_appends_59 : decode cX8_appends 59 = .ok (.invokevirtual 82, 3) := by decide +kernel
theorem dX8_appends_62 : decode cX8_appends 62 = .ok (.aload_n 0, 1) := by decide +kernel
theorem dX8_appends_63 : decode cX8_appends 63 = .ok (.invokevirtual 166, 3) := by decide +kernel
theorem dX8_appends_66 : decode cX8_appends 66 = .ok (.iconst 0, 1) := by decide +kernel
theorem dX8_appends_67 : decode cX8_appends 67 = .ok (.istore 4, 2) := by decide +kernel
theorem dX8_appends_69 : decode cX8_appends 69 = .ok (.iload 4, 2) := by decide +kernel
theorem dX8_appends_71 : decode cX8_appends 71 = .ok (.aload_n 0, 1) := by decide +kernel
theorem dX8_appends_72 : decode cX8_appends 72 = .ok (.getfield 16, 3) := by decide +kernel
theorem dX8_appends_75 : decode cX8_appends 75 = .ok (.bipush 8, 2) := by decide +kernel
theorem dX8_appends_77 : decode cX8_appends 77 = .ok (.iaload, 1) := by decide +kernel
theorem dX8_appends_78 : decode cX8_appends 78 = .ok (.if_icmp .ge 21, 3) := by decide +kernel
theorem dX8_appends_81 : decode cX8_appends 81 = .ok (.aload_n 0, 1) := by decide +kernel
theorem dX8_appends_82 : decode cX8_appends 82 = .ok (.aload_n 0, 1) := by decide +kernel
theorem dX8_appends_83 : decode cX8_appends 83 = .ok (.bipush 8, 2) := by decide +kernel
theorem dX8_appends_85 : decode cX8_appends 85 = .ok (.iload 4, 2) := by decide +kernel
theorem dX8_appends_87 : decode cX8_appends 87 = .ok (.invokevirtual 99, 3) := by decide +kernel
theorem dX8_appends_90 : decode cX8_appends 90 = .ok (.invokevirtual 212, 3) := by decide +kernel
theorem dX8_appends_93 : decode cX8_appends 93 = .ok (.iinc 4 1, 3) := by decide +kernel
theorem dX8_appends_96 : decode cX8_appends 96 = .ok (.goto (-27), 3) := by decide +kernel
theorem dX8_appends_99 : decode cX8_appends 99 = .ok (.aload_n 0, 1) := by decide +kernel
theorem dX8_appends_100 : decode cX8_appends 100 = .ok (.iload_n 3, 1) := by decide +kernel
theorem dX8_appends_101 : decode cX8_appends 101 = .ok (.invokevirtual 205, 3) := by decide +kernel
theorem dX8_appends_104 : decode cX8_appends 104 = .ok (.ireturn, 1) := by decide +kernel
theorem dX8_turned_0 : decode cX8_turned 0 = .ok (.aload_n 0, 1) := by decide +kernel
theorem dX8_turned_1 : decode cX8_turned 1 = .ok (.iconst 0, 1) := by decide +kernel
theorem dX8_turned_2 : decode cX8_turned 2 = .ok (.putfield 55, 3) := by decide +kernel
theorem dX8_turned_5 : decode cX8_turned 5 = .ok (.iload_n 1, 1) := by decide +kernel
theorem dX8_turned_6 : decode cX8_turned 6 = .ok (.invokestatic 134, 3) := by decide +kernel
theorem dX8_turned_9 : decode cX8_turned 9 = .ok (.ifCond .eq 22, 3) := by decide +kernel
theorem dX8_turned_12 : decode cX8_turned 12 = .ok (.iload_n 2, 1) := by decide +kernel
theorem dX8_turned_13 : decode cX8_turned 13 = .ok (.i2l, 1) := by decide +kernel
theorem dX8_turned_14 : decode cX8_turned 14 = .ok (.lconst 0, 1) := by decide +kernel
theorem dX8_turned_15 : decode cX8_turned 15 = .ok (.ldc2_w 161, 3) := by decide +kernel
theorem dX8_turned_18 : decode cX8_turned 18 = .ok (.invokestatic 65, 3) := by decide +kernel
theorem dX8_turned_21 : decode cX8_turned 21 = .ok (.ifCond .eq 10, 3) := by decide +kernel
theorem dX8_turned_24 : decode cX8_turned 24 = .ok (.iload_n 3, 1) := by decide +kernel
theorem dX8_turned_25 : decode cX8_turned 25 = .ok (.invokestatic 134, 3) := by decide +kernel
theorem dX8_turned_28 : decode cX8_turned 28 = .ok (.ifCond .ne 5, 3) := by decide +kernel
theorem dX8_turned_31 : decode cX8_turned 31 = .ok (.iconst (-1), 1) := by decide +kernel
theorem dX8_turned_32 : decode cX8_turned 32 = .ok (.ireturn, 1) := by decide +kernel
theorem dX8_turned_33 : decode cX8_turned 33 = .ok (.aload_n 0, 1) := by decide +kernel
theorem dX8_turned_34 : decode cX8_turned 34 = .ok (.getfield 16, 3) := by decide +kernel
theorem dX8_turned_37 : decode cX8_turned 37 = .ok (.iload_n 1, 1) := by decide +kernel
theorem dX8_turned_38 : decode cX8_turned 38 = .ok (.iaload, 1) := by decide +kernel
theorem dX8_turned_39 : decode cX8_turned 39 = .ok (.ifCond .ne 6, 3) := by decide +kernel
theorem dX8_turned_42 : decode cX8_turned 42 = .ok (.bipush (-2), 2) := by decide +kernel
theorem dX8_turned_44 : decode cX8_turned 44 = .ok (.ireturn, 1) := by decide +kernel
theorem dX8_turned_45 : decode cX8_turned 45 = .ok (.aload_n 0, 1) := by decide +kernel
theorem dX8_turned_46 : decode cX8_turned 46 = .ok (.iload_n 1, 1) := by decide +kernel
theorem dX8_turned_47 : decode cX8_turned 47 = .ok (.invokevirtual 176, 3) := by decide +kernel
theorem dX8_turned_50 : decode cX8_turned 50 = .ok (.aload_n 0, 1) := by decide +kernel
theorem dX8_turned_51 : decode cX8_turned 51 = .ok (.invokevirtual 166, 3) := by decide +kernel
theorem dX8_turned_54 : decode cX8_turned 54 = .ok (.iconst 0, 1) := by decide +kernel
theorem dX8_turned_55 : decode cX8_turned 55 = .ok (.istore 4, 2) := by decide +kernel
theorem dX8_turned_57 : decode cX8_turned 57 = .ok (.iload 4, 2) := by decide +kernel
theorem dX8_turned_59 : decode cX8_turned 59 = .ok (.iload_n 2, 1) := by decide +kernel
theorem dX8_turned_60 : decode cX8_turned 60 = .ok (.if_icmp .ge 28, 3) := by decide +kernel
theorem dX8_turned_63 : decode cX8_turned 63 = .ok (.aload_n 0, 1) := by decide +kernel
theorem dX8_turned_64 : decode cX8_turned 64 = .ok (.bipush 7, 2) := by decide +kernel
theorem dX8_turned_66 : decode cX8_turned 66 = .ok (.iconst 0, 1) := by decide +kernel
theorem dX8_turned_67 : decode cX8_turned 67 = .ok (.invokevirtual 99, 3) := by decide +kernel
theorem dX8_turned_70 : decode cX8_turned 70 = .ok (.istore 5, 2) := by decide +kernel
theorem dX8_turned_72 : decode cX8_turned 72 = .ok (.aload_n 0, 1) := by decide +kernel
theorem dX8_turned_73 : decode cX8_turned 73 = .ok (.invokevirtual 219, 3) := by decide +kernel
theorem dX8_turned_76 : decode cX8_turned 76 = .ok (.aload_n 0, 1) := by decide +kernel
theorem dX8_turned_77 : decode cX8_turned 77 = .ok (.iload 5, 2) := by decide +kernel
theorem dX8_turned_79 : decode cX8_turned 79 = .ok (.invokevirtual 212, 3) := by decide +kernel
theorem dX8_turned_82 : decode cX8_turned 82 = .ok (.iinc 4 1, 3) := by decide +kernel
theorem dX8_turned_85 : decode cX8_turned 85 = .ok (.goto (-28), 3) := by decide +kernel
theorem dX8_turned_88 : decode cX8_turned 88 = .ok (.aload_n 0, 1) := by decide +kernel
theorem dX8_turned_89 : decode cX8_turned 89 = .ok (.iload_n 3, 1) := by decide +kernel
theorem dX8_turned_90 : decode cX8_turned 90 = .ok (.invokevirtual 205, 3) := by decide +kernel
theorem dX8_turned_93 : decode cX8_turned 93 = .ok (.ireturn, 1) := by decide +kernel
theorem dX8_reverses_0 : decode cX8_reverses 0 = .ok (.aload_n 0, 1) := by decide +kernel
theorem dX8_reverses_1 : decode cX8_reverses 1 = .ok (.iconst 0, 1) := by decide +kernel
theorem dX8_reverses_2 : decode cX8_reverses 2 = .ok (.putfield 55, 3) := by decide +kernel
theorem dX8_reverses_5 : decode cX8_reverses 5 = .ok (.iload_n 1, 1) := by decide +kernel
theorem dX8_reverses_6 : decode cX8_reverses 6 = .ok (.invokestatic 134, 3) := by decide +kernel
theorem dX8_reverses_9 : decode cX8_reverses 9 = .ok (.ifCond .eq 10, 3) := by decide +kernel
theorem dX8_reverses_12 : decode cX8_reverses 12 = .ok (.iload_n 2, 1) := by decide +kernel
theorem dX8_reverses_13 : decode cX8_reverses 13 = .ok (.invokestatic 134, 3) := by decide +kernel
theorem dX8_reverses_16 : decode cX8_reverses 16 = .ok (.ifCond .ne 5, 3) := by decide +kernel
theorem dX8_reverses_19 : decode cX8_reverses 19 = .ok (.iconst (-1), 1) := by decide +kernel
theorem dX8_reverses_20 : decode cX8_reverses 20 = .ok (.ireturn, 1) := by decide +kernel
theorem dX8_reverses_21 : decode cX8_reverses 21 = .ok (.aload_n 0, 1) := by decide +kernel
theorem dX8_reverses_22 : decode cX8_reverses 22 = .ok (.iload_n 1, 1) := by decide +kernel
theorem dX8_reverses_23 : decode cX8_reverses 23 = .ok (.invokevirtual 176, 3) := by decide +kernel
theorem dX8_reverses_26 : decode cX8_reverses 26 = .ok (.iconst 0, 1) := by decide +kernel
theorem dX8_reverses_27 : decode cX8_reverses 27 = .ok (.istore_n 3, 1) := by decide +kernel
theorem dX8_reverses_28 : decode cX8_reverses 28 = .ok (.iload_n 3, 1) := by decide +kernel
theorem dX8_reverses_29 : decode cX8_reverses 29 = .ok (.aload_n 0, 1) := by decide +kernel
theorem dX8_reverses_30 : decode cX8_reverses 30 = .ok (.getfield 16, 3) := by decide +kernel
theorem dX8_reverses_33 : decode cX8_reverses 33 = .ok (.bipush 7, 2) := by decide +kernel
theorem dX8_reverses_35 : decode cX8_reverses 35 = .ok (.iaload, 1) := by decide +kernel
theorem dX8_reverses_36 : decode cX8_reverses 36 = .ok (.if_icmp .ge 36, 3) := by decide +kernel
theorem dX8_reverses_39 : decode cX8_reverses 39 = .ok (.aload_n 0, 1) := by decide +kernel
theorem dX8_reverses_40 : decode cX8_reverses 40 = .ok (.getfield 7, 3) := by decide +kernel
theorem dX8_reverses_43 : decode cX8_reverses 43 = .ok (.sipush 1792, 3) := by decide +kernel
theorem dX8_reverses_46 : decode cX8_reverses 46 = .ok (.iload_n 3, 1) := by decide +kernel
theorem dX8_reverses_47 : decode cX8_reverses 47 = .ok (.iadd, 1) := by decide +kernel
theorem dX8_reverses_48 : decode cX8_reverses 48 = .ok (.aload_n 0, 1) := by decide +kernel
theorem dX8_reverses_49 : decode cX8_reverses 49 = .ok (.bipush 6, 2) := by decide +kernel
theorem dX8_reverses_51 : decode cX8_reverses 51 = .ok (.aload_n 0, 1) := by decide +kernel
theorem dX8_reverses_52 : decode cX8_reverses 52 = .ok (.getfield 16, 3) := by decide +kernel
theorem dX8_reverses_55 : decode cX8_reverses 55 = .ok (.bipush 6, 2) := by decide +kernel
theorem dX8_reverses_57 : decode cX8_reverses 57 = .ok (.iaload, 1) := by decide +kernel
theorem dX8_reverses_58 : decode cX8_reverses 58 = .ok (.iconst 1, 1) := by decide +kernel
theorem dX8_reverses_59 : decode cX8_reverses 59 = .ok (.isub, 1) := by decide +kernel
theorem dX8_reverses_60 : decode cX8_reverses 60 = .ok (.iload_n 3, 1) := by decide +kernel
theorem dX8_reverses_61 : decode cX8_reverses 61 = .ok (.isub, 1) := by decide +kernel
theorem dX8_reverses_62 : decode cX8_reverses 62 = .ok (.invokevirtual 99, 3) := by decide +kernel
theorem dX8_reverses_65 : decode cX8_reverses 65 = .ok (.iastore, 1) := by decide +kernel
theorem dX8_reverses_66 : decode cX8_reverses 66 = .ok (.iinc 3 1, 3) := by decide +kernel
theorem dX8_reverses_69 : decode cX8_reverses 69 = .ok (.goto (-41), 3) := by decide +kernel
theorem dX8_reverses_72 : decode cX8_reverses 72 = .ok (.aload_n 0, 1) := by decide +kernel
theorem dX8_reverses_73 : decode cX8_reverses 73 = .ok (.invokevirtual 138, 3) := by decide +kernel
theorem dX8_reverses_76 : decode cX8_reverses 76 = .ok (.aload_n 0, 1) := by decide +kernel
theorem dX8_reverses_77 : decode cX8_reverses 77 = .ok (.bipush 7, 2) := by decide +kernel
theorem dX8_reverses_79 : decode cX8_reverses 79 = .ok (.iload_n 2, 1) := by decide +kernel
theorem dX8_reverses_80 : decode cX8_reverses 80 = .ok (.invokevirtual 82, 3) := by decide +kernel
theorem dX8_reverses_83 : decode cX8_reverses 83 = .ok (.aload_n 0, 1) := by decide +kernel
theorem dX8_reverses_84 : decode cX8_reverses 84 = .ok (.getfield 16, 3) := by decide +kernel
theorem dX8_reverses_87 : decode cX8_reverses 87 = .ok (.iload_n 2, 1) := by decide +kernel
theorem dX8_reverses_88 : decode cX8_reverses 88 = .ok (.iaload, 1) := by decide +kernel
theorem dX8_reverses_89 : decode cX8_reverses 89 = .ok (.ireturn, 1) := by decide +kernel
theorem dX8_keeps_0 : decode cX8_keeps 0 = .ok (.aload_n 0, 1) := by decide +kernel
theorem dX8_keeps_1 : decode cX8_keeps 1 = .ok (.iconst 0, 1) := by decide +kernel
theorem dX8_keeps_2 : decode cX8_keeps 2 = .ok (.putfield 55, 3) := by decide +kernel
theorem dX8_keeps_5 : decode cX8_keeps 5 = .ok (.iload_n 1, 1) := by decide +kernel
theorem dX8_keeps_6 : decode cX8_keeps 6 = .ok (.invokestatic 134, 3) := by decide +kernel
theorem dX8_keeps_9 : decode cX8_keeps 9 = .ok (.ifCond .eq 26, 3) := by decide +kernel
theorem dX8_keeps_12 : decode cX8_keeps 12 = .ok (.iload_n 2, 1) := by decide +kernel
theorem dX8_keeps_13 : decode cX8_keeps 13 = .ok (.i2l, 1) := by decide +kernel
theorem dX8_keeps_14 : decode cX8_keeps 14 = .ok (.lconst 0, 1) := by decide +kernel
theorem dX8_keeps_15 : decode cX8_keeps 15 = .ok (.aload_n 0, 1) := by decide +kernel
theorem dX8_keeps_16 : decode cX8_keeps 16 = .ok (.getfield 16, 3) := by decide +kernel
theorem dX8_keeps_19 : decode cX8_keeps 19 = .ok (.iload_n 1, 1) := by decide +kernel
theorem dX8_keeps_20 : decode cX8_keeps 20 = .ok (.iaload, 1) := by decide +kernel
theorem dX8_keeps_21 : decode cX8_keeps 21 = .ok (.i2l, 1) := by decide +kernel
theorem dX8_keeps_22 : decode cX8_keeps 22 = .ok (.invokestatic 65, 3) := by decide +kernel
theorem dX8_keeps_25 : decode cX8_keeps 25 = .ok (.ifCond .eq 10, 3) := by decide +kernel
theorem dX8_keeps_28 : decode cX8_keeps 28 = .ok (.iload_n 3, 1) := by decide +kernel
theorem dX8_keeps_29 : decode cX8_keeps 29 = .ok (.invokestatic 134, 3) := by decide +kernel
theorem dX8_keeps_32 : decode cX8_keeps 32 = .ok (.ifCond .ne 5, 3) := by decide +kernel
theorem dX8_keeps_35 : decode cX8_keeps 35 = .ok (.iconst (-1), 1) := by decide +kernel
theorem dX8_keeps_36 : decode cX8_keeps 36 = .ok (.ireturn, 1) := by decide +kernel
theorem dX8_keeps_37 : decode cX8_keeps 37 = .ok (.aload_n 0, 1) := by decide +kernel
theorem dX8_keeps_38 : decode cX8_keeps 38 = .ok (.iload_n 1, 1) := by decide +kernel
theorem dX8_keeps_39 : decode cX8_keeps 39 = .ok (.invokevirtual 176, 3) := by decide +kernel
theorem dX8_keeps_42 : decode cX8_keeps 42 = .ok (.aload_n 0, 1) := by decide +kernel
theorem dX8_keeps_43 : decode cX8_keeps 43 = .ok (.invokevirtual 166, 3) := by decide +kernel
theorem dX8_keeps_46 : decode cX8_keeps 46 = .ok (.aload_n 0, 1) := by decide +kernel
theorem dX8_keeps_47 : decode cX8_keeps 47 = .ok (.getfield 16, 3) := by decide +kernel
theorem dX8_keeps_50 : decode cX8_keeps 50 = .ok (.bipush 7, 2) := by decide +kernel
theorem dX8_keeps_52 : decode cX8_keeps 52 = .ok (.iaload, 1) := by decide +kernel
theorem dX8_keeps_53 : decode cX8_keeps 53 = .ok (.iload_n 2, 1) := by decide +kernel
theorem dX8_keeps_54 : decode cX8_keeps 54 = .ok (.if_icmp .le 10, 3) := by decide +kernel
theorem dX8_keeps_57 : decode cX8_keeps 57 = .ok (.aload_n 0, 1) := by decide +kernel
theorem dX8_keeps_58 : decode cX8_keeps 58 = .ok (.invokevirtual 222, 3) := by decide +kernel
theorem dX8_keeps_61 : decode cX8_keeps 61 = .ok (.goto (-15), 3) := by decide +kernel
theorem dX8_keeps_64 : decode cX8_keeps 64 = .ok (.aload_n 0, 1) := by decide +kernel
theorem dX8_keeps_65 : decode cX8_keeps 65 = .ok (.iload_n 3, 1) := by decide +kernel
theorem dX8_keeps_66 : decode cX8_keeps 66 = .ok (.invokevirtual 205, 3) := by decide +kernel
theorem dX8_keeps_69 : decode cX8_keeps 69 = .ok (.ireturn, 1) := by decide +kernel
theorem dX8_skips_0 : decode cX8_skips 0 = .ok (.aload_n 0, 1) := by decide +kernel
theorem dX8_skips_1 : decode cX8_skips 1 = .ok (.iconst 0, 1) := by decide +kernel
theorem dX8_skips_2 : decode cX8_skips 2 = .ok (.putfield 55, 3) := by decide +kernel
theorem dX8_skips_5 : decode cX8_skips 5 = .ok (.iload_n 1, 1) := by decide +kernel
theorem dX8_skips_6 : decode cX8_skips 6 = .ok (.invokestatic 134, 3) := by decide +kernel
theorem dX8_skips_9 : decode cX8_skips 9 = .ok (.ifCond .eq 26, 3) := by decide +kernel
theorem dX8_skips_12 : decode cX8_skips 12 = .ok (.iload_n 2, 1) := by decide +kernel
theorem dX8_skips_13 : decode cX8_skips 13 = .ok (.i2l, 1) := by decide +kernel
theorem dX8_skips_14 : decode cX8_skips 14 = .ok (.lconst 0, 1) := by decide +kernel
theorem dX8_skips_15 : decode cX8_skips 15 = .ok (.aload_n 0, 1) := by decide +kernel
theorem dX8_skips_16 : decode cX8_skips 16 = .ok (.getfield 16, 3) := by decide +kernel
theorem dX8_skips_19 : decode cX8_skips 19 = .ok (.iload_n 1, 1) := by decide +kernel
theorem dX8_skips_20 : decode cX8_skips 20 = .ok (.iaload, 1) := by decide +kernel
theorem dX8_skips_21 : decode cX8_skips 21 = .ok (.i2l, 1) := by decide +kernel
theorem dX8_skips_22 : decode cX8_skips 22 = .ok (.invokestatic 65, 3) := by decide +kernel
theorem dX8_skips_25 : decode cX8_skips 25 = .ok (.ifCond .eq 10, 3) := by decide +kernel
theorem dX8_skips_28 : decode cX8_skips 28 = .ok (.iload_n 3, 1) := by decide +kernel
theorem dX8_skips_29 : decode cX8_skips 29 = .ok (.invokestatic 134, 3) := by decide +kernel
theorem dX8_skips_32 : decode cX8_skips 32 = .ok (.ifCond .ne 5, 3) := by decide +kernel
theorem dX8_skips_35 : decode cX8_skips 35 = .ok (.iconst (-1), 1) := by decide +kernel
theorem dX8_skips_36 : decode cX8_skips 36 = .ok (.ireturn, 1) := by decide +kernel
theorem dX8_skips_37 : decode cX8_skips 37 = .ok (.aload_n 0, 1) := by decide +kernel
theorem dX8_skips_38 : decode cX8_skips 38 = .ok (.iload_n 1, 1) := by decide +kernel
theorem dX8_skips_39 : decode cX8_skips 39 = .ok (.invokevirtual 176, 3) := by decide +kernel
theorem dX8_skips_42 : decode cX8_skips 42 = .ok (.aload_n 0, 1) := by decide +kernel
theorem dX8_skips_43 : decode cX8_skips 43 = .ok (.invokevirtual 166, 3) := by decide +kernel
theorem dX8_skips_46 : decode cX8_skips 46 = .ok (.iconst 0, 1) := by decide +kernel
theorem dX8_skips_47 : decode cX8_skips 47 = .ok (.istore 4, 2) := by decide +kernel
theorem dX8_skips_49 : decode cX8_skips 49 = .ok (.iload 4, 2) := by decide +kernel
theorem dX8_skips_51 : decode cX8_skips 51 = .ok (.iload_n 2, 1) := by decide +kernel
theorem dX8_skips_52 : decode cX8_skips 52 = .ok (.if_icmp .ge 13, 3) := by decide +kernel
theorem dX8_skips_55 : decode cX8_skips 55 = .ok (.aload_n 0, 1) := by decide +kernel
theorem dX8_skips_56 : decode cX8_skips 56 = .ok (.invokevirtual 219, 3) := by decide +kernel
theorem dX8_skips_59 : decode cX8_skips 59 = .ok (.iinc 4 1, 3) := by decide +kernel
theorem dX8_skips_62 : decode cX8_skips 62 = .ok (.goto (-13), 3) := by decide +kernel
theorem dX8_skips_65 : decode cX8_skips 65 = .ok (.aload_n 0, 1) := by decide +kernel
theorem dX8_skips_66 : decode cX8_skips 66 = .ok (.iload_n 3, 1) := by decide +kernel
theorem dX8_skips_67 : decode cX8_skips 67 = .ok (.invokevirtual 205, 3) := by decide +kernel
theorem dX8_skips_70 : decode cX8_skips 70 = .ok (.ireturn, 1) := by decide +kernel
theorem dX8_slips_0 : decode cX8_slips 0 = .ok (.aload_n 0, 1) := by decide +kernel
theorem dX8_slips_1 : decode cX8_slips 1 = .ok (.iconst 0, 1) := by decide +kernel
theorem dX8_slips_2 : decode cX8_slips 2 = .ok (.putfield 55, 3) := by decide +kernel
theorem dX8_slips_5 : decode cX8_slips 5 = .ok (.iload_n 1, 1) := by decide +kernel
theorem dX8_slips_6 : decode cX8_slips 6 = .ok (.invokestatic 134, 3) := by decide +kernel
theorem dX8_slips_9 : decode cX8_slips 9 = .ok (.ifCond .eq 34, 3) := by decide +kernel
theorem dX8_slips_12 : decode cX8_slips 12 = .ok (.iload_n 2, 1) := by decide +kernel
theorem dX8_slips_13 : decode cX8_slips 13 = .ok (.i2l, 1) := by decide +kernel
theorem dX8_slips_14 : decode cX8_slips 14 = .ok (.lconst 0, 1) := by decide +kernel
theorem dX8_slips_15 : decode cX8_slips 15 = .ok (.aload_n 0, 1) := by decide +kernel
theorem dX8_slips_16 : decode cX8_slips 16 = .ok (.getfield 16, 3) := by decide +kernel
theorem dX8_slips_19 : decode cX8_slips 19 = .ok (.iload_n 1, 1) := by decide +kernel
theorem dX8_slips_20 : decode cX8_slips 20 = .ok (.iaload, 1) := by decide +kernel
theorem dX8_slips_21 : decode cX8_slips 21 = .ok (.i2l, 1) := by decide +kernel
theorem dX8_slips_22 : decode cX8_slips 22 = .ok (.invokestatic 65, 3) := by decide +kernel
theorem dX8_slips_25 : decode cX8_slips 25 = .ok (.ifCond .eq 18, 3) := by decide +kernel
theorem dX8_slips_28 : decode cX8_slips 28 = .ok (.iload_n 3, 1) := by decide +kernel
theorem dX8_slips_29 : decode cX8_slips 29 = .ok (.invokestatic 163, 3) := by decide +kernel
theorem dX8_slips_32 : decode cX8_slips 32 = .ok (.ifCond .eq 11, 3) := by decide +kernel
theorem dX8_slips_35 : decode cX8_slips 35 = .ok (.iload 4, 2) := by decide +kernel
theorem dX8_slips_37 : decode cX8_slips 37 = .ok (.invokestatic 134, 3) := by decide +kernel
theorem dX8_slips_40 : decode cX8_slips 40 = .ok (.ifCond .ne 5, 3) := by decide +kernel
theorem dX8_slips_43 : decode cX8_slips 43 = .ok (.iconst (-1), 1) := by decide +kernel
theorem dX8_slips_44 : decode cX8_slips 44 = .ok (.ireturn, 1) := by decide +kernel
theorem dX8_slips_45 : decode cX8_slips 45 = .ok (.aload_n 0, 1) := by decide +kernel
theorem dX8_slips_46 : decode cX8_slips 46 = .ok (.getfield 16, 3) := by decide +kernel
theorem dX8_slips_49 : decode cX8_slips 49 = .ok (.iload_n 1, 1) := by decide +kernel
theorem dX8_slips_50 : decode cX8_slips 50 = .ok (.iaload, 1) := by decide +kernel
theorem dX8_slips_51 : decode cX8_slips 51 = .ok (.sipush 255, 3) := by decide +kernel
theorem dX8_slips_54 : decode cX8_slips 54 = .ok (.if_icmp .ne 6, 3) := by decide +kernel
theorem dX8_slips_57 : decode cX8_slips 57 = .ok (.bipush (-2), 2) := by decide +kernel
theorem dX8_slips_59 : decode cX8_slips 59 = .ok (.ireturn, 1) := by decide +kernel
theorem dX8_slips_60 : decode cX8_slips 60 = .ok (.aload_n 0, 1) := by decide +kernel
theorem dX8_slips_61 : decode cX8_slips 61 = .ok (.iload_n 1, 1) := by decide +kernel
theorem dX8_slips_62 : decode cX8_slips 62 = .ok (.invokevirtual 176, 3) := by decide +kernel
theorem dX8_slips_65 : decode cX8_slips 65 = .ok (.aload_n 0, 1) := by decide +kernel
theorem dX8_slips_66 : decode cX8_slips 66 = .ok (.getfield 16, 3) := by decide +kernel
theorem dX8_slips_69 : decode cX8_slips 69 = .ok (.bipush 7, 2) := by decide +kernel
theorem dX8_slips_71 : decode cX8_slips 71 = .ok (.iaload, 1) := by decide +kernel
theorem dX8_slips_72 : decode cX8_slips 72 = .ok (.istore 5, 2) := by decide +kernel
theorem dX8_slips_74 : decode cX8_slips 74 = .ok (.iload 5, 2) := by decide +kernel
theorem dX8_slips_76 : decode cX8_slips 76 = .ok (.iload_n 2, 1) := by decide +kernel
theorem dX8_slips_77 : decode cX8_slips 77 = .ok (.if_icmp .le 30, 3) := by decide +kernel
theorem dX8_slips_80 : decode cX8_slips 80 = .ok (.aload_n 0, 1) := by decide +kernel
theorem dX8_slips_81 : decode cX8_slips 81 = .ok (.getfield 7, 3) := by decide +kernel
theorem dX8_slips_84 : decode cX8_slips 84 = .ok (.sipush 1792, 3) := by decide +kernel
theorem dX8_slips_87 : decode cX8_slips 87 = .ok (.iload 5, 2) := by decide +kernel
theorem dX8_slips_89 : decode cX8_slips 89 = .ok (.iadd, 1) := by decide +kernel
theorem dX8_slips_90 : decode cX8_slips 90 = .ok (.aload_n 0, 1) := by decide +kernel
theorem dX8_slips_91 : decode cX8_slips 91 = .ok (.bipush 6, 2) := by decide +kernel
theorem dX8_slips_93 : decode cX8_slips 93 = .ok (.iload 5, 2) := by decide +kernel
theorem dX8_slips_95 : decode cX8_slips 95 = .ok (.iconst 1, 1) := by decide +kernel
theorem dX8_slips_96 : decode cX8_slips 96 = .ok (.isub, 1) := by decide +kernel
theorem dX8_slips_97 : decode cX8_slips 97 = .ok (.invokevirtual 99, 3) := by decide +kernel
theorem dX8_slips_100 : decode cX8_slips 100 = .ok (.iastore, 1) := by decide +kernel
theorem dX8_slips_101 : decode cX8_slips 101 = .ok (.iinc 5 (-1), 3) := by decide +kernel
theorem dX8_slips_104 : decode cX8_slips 104 = .ok (.goto (-30), 3) := by decide +kernel
theorem dX8_slips_107 : decode cX8_slips 107 = .ok (.aload_n 0, 1) := by decide +kernel
theorem dX8_slips_108 : decode cX8_slips 108 = .ok (.getfield 7, 3) := by decide +kernel
theorem dX8_slips_111 : decode cX8_slips 111 = .ok (.sipush 1792, 3) := by decide +kernel
theorem dX8_slips_114 : decode cX8_slips 114 = .ok (.iload_n 2, 1) := by decide +kernel
theorem dX8_slips_115 : decode cX8_slips 115 = .ok (.iadd, 1) := by decide +kernel
theorem dX8_slips_116 : decode cX8_slips 116 = .ok (.iload_n 3, 1) := by decide +kernel
theorem dX8_slips_117 : decode cX8_slips 117 = .ok (.iastore, 1) := by decide +kernel
theorem dX8_slips_118 : decode cX8_slips 118 = .ok (.aload_n 0, 1) := by decide +kernel
theorem dX8_slips_119 : decode cX8_slips 119 = .ok (.getfield 16, 3) := by decide +kernel
theorem dX8_slips_122 : decode cX8_slips 122 = .ok (.bipush 7, 2) := by decide +kernel
theorem dX8_slips_124 : decode cX8_slips 124 = .ok (.dup2, 1) := by decide +kernel
theorem dX8_slips_125 : decode cX8_slips 125 = .ok (.iaload, 1) := by decide +kernel
theorem dX8_slips_126 : decode cX8_slips 126 = .ok (.iconst 1, 1) := by decide +kernel
theorem dX8_slips_127 : decode cX8_slips 127 = .ok (.iadd, 1) := by decide +kernel
theorem dX8_slips_128 : decode cX8_slips 128 = .ok (.iastore, 1) := by decide +kernel
theorem dX8_slips_129 : decode cX8_slips 129 = .ok (.aload_n 0, 1) := by decide +kernel
theorem dX8_slips_130 : decode cX8_slips 130 = .ok (.invokevirtual 138, 3) := by decide +kernel
theorem dX8_slips_133 : decode cX8_slips 133 = .ok (.aload_n 0, 1) := by decide +kernel
theorem dX8_slips_134 : decode cX8_slips 134 = .ok (.bipush 7, 2) := by decide +kernel
theorem dX8_slips_136 : decode cX8_slips 136 = .ok (.iload 4, 2) := by decide +kernel
theorem dX8_slips_138 : decode cX8_slips 138 = .ok (.invokevirtual 82, 3) := by decide +kernel
theorem dX8_slips_141 : decode cX8_slips 141 = .ok (.aload_n 0, 1) := by decide +kernel
theorem dX8_slips_142 : decode cX8_slips 142 = .ok (.getfield 16, 3) := by decide +kernel
theorem dX8_slips_145 : decode cX8_slips 145 = .ok (.iload 4, 2) := by decide +kernel
theorem dX8_slips_147 : decode cX8_slips 147 = .ok (.iaload, 1) := by decide +kernel
theorem dX8_slips_148 : decode cX8_slips 148 = .ok (.ireturn, 1) := by decide +kernel
theorem dX8_swaps_0 : decode cX8_swaps 0 = .ok (.aload_n 0, 1) := by decide +kernel
theorem dX8_swaps_1 : decode cX8_swaps 1 = .ok (.iconst 0, 1) := by decide +kernel
theorem dX8_swaps_2 : decode cX8_swaps 2 = .ok (.putfield 55, 3) := by decide +kernel
theorem dX8_swaps_5 : decode cX8_swaps 5 = .ok (.iload_n 1, 1) := by decide +kernel
theorem dX8_swaps_6 : decode cX8_swaps 6 = .ok (.invokestatic 134, 3) := by decide +kernel
theorem dX8_swaps_9 : decode cX8_swaps 9 = .ok (.ifCond .eq 29, 3) := by decide +kernel
theorem dX8_swaps_12 : decode cX8_swaps 12 = .ok (.aload_n 0, 1) := by decide +kernel
theorem dX8_swaps_13 : decode cX8_swaps 13 = .ok (.iload_n 1, 1) := by decide +kernel
theorem dX8_swaps_14 : decode cX8_swaps 14 = .ok (.iload_n 2, 1) := by decide +kernel
theorem dX8_swaps_15 : decode cX8_swaps 15 = .ok (.invokevirtual 191, 3) := by decide +kernel
theorem dX8_swaps_18 : decode cX8_swaps 18 = .ok (.ifCond .eq 20, 3) := by decide +kernel
theorem dX8_swaps_21 : decode cX8_swaps 21 = .ok (.aload_n 0, 1) := by decide +kernel
theorem dX8_swaps_22 : decode cX8_swaps 22 = .ok (.iload_n 1, 1) := by decide +kernel
theorem dX8_swaps_23 : decode cX8_swaps 23 = .ok (.iload_n 3, 1) := by decide +kernel
theorem dX8_swaps_24 : decode cX8_swaps 24 = .ok (.invokevirtual 191, 3) := by decide +kernel
theorem dX8_swaps_27 : decode cX8_swaps 27 = .ok (.ifCond .eq 11, 3) := by decide +kernel
theorem dX8_swaps_30 : decode cX8_swaps 30 = .ok (.iload 4, 2) := by decide +kernel
theorem dX8_swaps_32 : decode cX8_swaps 32 = .ok (.invokestatic 134, 3) := by decide +kernel
theorem dX8_swaps_35 : decode cX8_swaps 35 = .ok (.ifCond .ne 5, 3) := by decide +kernel
theorem dX8_swaps_38 : decode cX8_swaps 38 = .ok (.iconst (-1), 1) := by decide +kernel
theorem dX8_swaps_39 : decode cX8_swaps 39 = .ok (.ireturn, 1) := by decide +kernel
theorem dX8_swaps_40 : decode cX8_swaps 40 = .ok (.aload_n 0, 1) := by decide +kernel
theorem dX8_swaps_41 : decode cX8_swaps 41 = .ok (.iload_n 1, 1) := by decide +kernel
theorem dX8_swaps_42 : decode cX8_swaps 42 = .ok (.invokevirtual 176, 3) := by decide +kernel
theorem dX8_swaps_45 : decode cX8_swaps 45 = .ok (.aload_n 0, 1) := by decide +kernel
theorem dX8_swaps_46 : decode cX8_swaps 46 = .ok (.invokevirtual 166, 3) := by decide +kernel
theorem dX8_swaps_49 : decode cX8_swaps 49 = .ok (.aload_n 0, 1) := by decide +kernel
theorem dX8_swaps_50 : decode cX8_swaps 50 = .ok (.iload_n 1, 1) := by decide +kernel
theorem dX8_swaps_51 : decode cX8_swaps 51 = .ok (.iload_n 2, 1) := by decide +kernel
theorem dX8_swaps_52 : decode cX8_swaps 52 = .ok (.invokevirtual 99, 3) := by decide +kernel
theorem dX8_swaps_55 : decode cX8_swaps 55 = .ok (.aload_n 0, 1) := by decide +kernel
theorem dX8_swaps_56 : decode cX8_swaps 56 = .ok (.iload_n 1, 1) := by decide +kernel
theorem dX8_swaps_57 : decode cX8_swaps 57 = .ok (.iload_n 3, 1) := by decide +kernel
theorem dX8_swaps_58 : decode cX8_swaps 58 = .ok (.invokevirtual 99, 3) := by decide +kernel
theorem dX8_swaps_61 : decode cX8_swaps 61 = .ok (.if_icmp .eq 57, 3) := by decide +kernel
theorem dX8_swaps_64 : decode cX8_swaps 64 = .ok (.aload_n 0, 1) := by decide +kernel
theorem dX8_swaps_65 : decode cX8_swaps 65 = .ok (.invokevirtual 195, 3) := by decide +kernel
theorem dX8_swaps_68 : decode cX8_swaps 68 = .ok (.aload_n 0, 1) := by decide +kernel
theorem dX8_swaps_69 : decode cX8_swaps 69 = .ok (.iload_n 2, 1) := by decide +kernel
theorem dX8_swaps_70 : decode cX8_swaps 70 = .ok (.iconst 1, 1) := by decide +kernel
theorem dX8_swaps_71 : decode cX8_swaps 71 = .ok (.invokevirtual 198, 3) := by decide +kernel
theorem dX8_swaps_74 : decode cX8_swaps 74 = .ok (.aload_n 0, 1) := by decide +kernel
theorem dX8_swaps_75 : decode cX8_swaps 75 = .ok (.iload_n 3, 1) := by decide +kernel
theorem dX8_swaps_76 : decode cX8_swaps 76 = .ok (.iconst 1, 1) := by decide +kernel
theorem dX8_swaps_77 : decode cX8_swaps 77 = .ok (.invokevirtual 198, 3) := by decide +kernel
theorem dX8_swaps_80 : decode cX8_swaps 80 = .ok (.aload_n 0, 1) := by decide +kernel
theorem dX8_swaps_81 : decode cX8_swaps 81 = .ok (.getfield 7, 3) := by decide +kernel
theorem dX8_swaps_84 : decode cX8_swaps 84 = .ok (.sipush 1792, 3) := by decide +kernel
theorem dX8_swaps_87 : decode cX8_swaps 87 = .ok (.iload_n 2, 1) := by decide +kernel
theorem dX8_swaps_88 : decode cX8_swaps 88 = .ok (.iadd, 1) := by decide +kernel
theorem dX8_swaps_89 : decode cX8_swaps 89 = .ok (.aload_n 0, 1) := by decide +kernel
theorem dX8_swaps_90 : decode cX8_swaps 90 = .ok (.bipush 6, 2) := by decide +kernel
theorem dX8_swaps_92 : decode cX8_swaps 92 = .ok (.iload_n 3, 1) := by decide +kernel
theorem dX8_swaps_93 : decode cX8_swaps 93 = .ok (.invokevirtual 99, 3) := by decide +kernel
theorem dX8_swaps_96 : decode cX8_swaps 96 = .ok (.iastore, 1) := by decide +kernel
theorem dX8_swaps_97 : decode cX8_swaps 97 = .ok (.aload_n 0, 1) := by decide +kernel
theorem dX8_swaps_98 : decode cX8_swaps 98 = .ok (.getfield 7, 3) := by decide +kernel
theorem dX8_swaps_101 : decode cX8_swaps 101 = .ok (.sipush 1792, 3) := by decide +kernel
theorem dX8_swaps_104 : decode cX8_swaps 104 = .ok (.iload_n 3, 1) := by decide +kernel
theorem dX8_swaps_105 : decode cX8_swaps 105 = .ok (.iadd, 1) := by decide +kernel
theorem dX8_swaps_106 : decode cX8_swaps 106 = .ok (.aload_n 0, 1) := by decide +kernel
theorem dX8_swaps_107 : decode cX8_swaps 107 = .ok (.bipush 6, 2) := by decide +kernel
theorem dX8_swaps_109 : decode cX8_swaps 109 = .ok (.iload_n 2, 1) := by decide +kernel
theorem dX8_swaps_110 : decode cX8_swaps 110 = .ok (.invokevirtual 99, 3) := by decide +kernel
theorem dX8_swaps_113 : decode cX8_swaps 113 = .ok (.iastore, 1) := by decide +kernel
theorem dX8_swaps_114 : decode cX8_swaps 114 = .ok (.aload_n 0, 1) := by decide +kernel
theorem dX8_swaps_115 : decode cX8_swaps 115 = .ok (.invokevirtual 202, 3) := by decide +kernel
theorem dX8_swaps_118 : decode cX8_swaps 118 = .ok (.aload_n 0, 1) := by decide +kernel
theorem dX8_swaps_119 : decode cX8_swaps 119 = .ok (.iload 4, 2) := by decide +kernel
theorem dX8_swaps_121 : decode cX8_swaps 121 = .ok (.invokevirtual 205, 3) := by decide +kernel
theorem dX8_swaps_124 : decode cX8_swaps 124 = .ok (.ireturn, 1) := by decide +kernel
theorem dX8_held_0 : decode cX8_held 0 = .ok (.sipush (-999), 3) := by decide +kernel
theorem dX8_held_3 : decode cX8_held 3 = .ok (.sipush 999, 3) := by decide +kernel
theorem dX8_held_6 : decode cX8_held 6 = .ok (.iload_n 0, 1) := by decide +kernel
theorem dX8_held_7 : decode cX8_held 7 = .ok (.invokestatic 229, 3) := by decide +kernel
theorem dX8_held_10 : decode cX8_held 10 = .ok (.invokestatic 234, 3) := by decide +kernel
theorem dX8_held_13 : decode cX8_held 13 = .ok (.ireturn, 1) := by decide +kernel
theorem dX8_zipped_0 : decode cX8_zipped 0 = .ok (.iload_n 2, 1) := by decide +kernel
theorem dX8_zipped_1 : decode cX8_zipped 1 = .ok (.tableswitch 47 0 2 #[27, 34, 41], 27) := by decide +kernel
theorem dX8_zipped_28 : decode cX8_zipped 28 = .ok (.iload_n 0, 1) := by decide +kernel
theorem dX8_zipped_29 : decode cX8_zipped 29 = .ok (.iload_n 1, 1) := by decide +kernel
theorem dX8_zipped_30 : decode cX8_zipped 30 = .ok (.iadd, 1) := by decide +kernel
theorem dX8_zipped_31 : decode cX8_zipped 31 = .ok (.invokestatic 237, 3) := by decide +kernel
theorem dX8_zipped_34 : decode cX8_zipped 34 = .ok (.ireturn, 1) := by decide +kernel
theorem dX8_zipped_35 : decode cX8_zipped 35 = .ok (.iload_n 0, 1) := by decide +kernel
theorem dX8_zipped_36 : decode cX8_zipped 36 = .ok (.iload_n 1, 1) := by decide +kernel
theorem dX8_zipped_37 : decode cX8_zipped 37 = .ok (.isub, 1) := by decide +kernel
theorem dX8_zipped_38 : decode cX8_zipped 38 = .ok (.invokestatic 237, 3) := by decide +kernel
theorem dX8_zipped_41 : decode cX8_zipped 41 = .ok (.ireturn, 1) := by decide +kernel
theorem dX8_zipped_42 : decode cX8_zipped 42 = .ok (.iload_n 0, 1) := by decide +kernel
theorem dX8_zipped_43 : decode cX8_zipped 43 = .ok (.iload_n 1, 1) := by decide +kernel
theorem dX8_zipped_44 : decode cX8_zipped 44 = .ok (.invokestatic 229, 3) := by decide +kernel
theorem dX8_zipped_47 : decode cX8_zipped 47 = .ok (.ireturn, 1) := by decide +kernel
theorem dX8_zipped_48 : decode cX8_zipped 48 = .ok (.iload_n 0, 1) := by decide +kernel
theorem dX8_zipped_49 : decode cX8_zipped 49 = .ok (.iload_n 1, 1) := by decide +kernel
theorem dX8_zipped_50 : decode cX8_zipped 50 = .ok (.invokestatic 234, 3) := by decide +kernel
theorem dX8_zipped_53 : decode cX8_zipped 53 = .ok (.ireturn, 1) := by decide +kernel
theorem dX8_lays_0 : decode cX8_lays 0 = .ok (.aload_n 0, 1) := by decide +kernel
theorem dX8_lays_1 : decode cX8_lays 1 = .ok (.getfield 7, 3) := by decide +kernel
theorem dX8_lays_4 : decode cX8_lays 4 = .ok (.sipush 1792, 3) := by decide +kernel
theorem dX8_lays_7 : decode cX8_lays 7 = .ok (.aload_n 0, 1) := by decide +kernel
theorem dX8_lays_8 : decode cX8_lays 8 = .ok (.getfield 16, 3) := by decide +kernel
theorem dX8_lays_11 : decode cX8_lays 11 = .ok (.bipush 7, 2) := by decide +kernel
theorem dX8_lays_13 : decode cX8_lays 13 = .ok (.iaload, 1) := by decide +kernel
theorem dX8_lays_14 : decode cX8_lays 14 = .ok (.iadd, 1) := by decide +kernel
theorem dX8_lays_15 : decode cX8_lays 15 = .ok (.iload_n 1, 1) := by decide +kernel
theorem dX8_lays_16 : decode cX8_lays 16 = .ok (.iastore, 1) := by decide +kernel
theorem dX8_lays_17 : decode cX8_lays 17 = .ok (.aload_n 0, 1) := by decide +kernel
theorem dX8_lays_18 : decode cX8_lays 18 = .ok (.getfield 16, 3) := by decide +kernel
theorem dX8_lays_21 : decode cX8_lays 21 = .ok (.bipush 7, 2) := by decide +kernel
theorem dX8_lays_23 : decode cX8_lays 23 = .ok (.dup2, 1) := by decide +kernel
theorem dX8_lays_24 : decode cX8_lays 24 = .ok (.iaload, 1) := by decide +kernel
theorem dX8_lays_25 : decode cX8_lays 25 = .ok (.iconst 1, 1) := by decide +kernel
theorem dX8_lays_26 : decode cX8_lays 26 = .ok (.iadd, 1) := by decide +kernel
theorem dX8_lays_27 : decode cX8_lays 27 = .ok (.iastore, 1) := by decide +kernel
theorem dX8_lays_28 : decode cX8_lays 28 = .ok (.return_, 1) := by decide +kernel
theorem dX8_builds_0 : decode cX8_builds 0 = .ok (.aload_n 0, 1) := by decide +kernel
theorem dX8_builds_1 : decode cX8_builds 1 = .ok (.invokevirtual 138, 3) := by decide +kernel
theorem dX8_builds_4 : decode cX8_builds 4 = .ok (.aload_n 0, 1) := by decide +kernel
theorem dX8_builds_5 : decode cX8_builds 5 = .ok (.bipush 7, 2) := by decide +kernel
theorem dX8_builds_7 : decode cX8_builds 7 = .ok (.iload_n 1, 1) := by decide +kernel
theorem dX8_builds_8 : decode cX8_builds 8 = .ok (.invokevirtual 82, 3) := by decide +kernel
theorem dX8_builds_11 : decode cX8_builds 11 = .ok (.aload_n 0, 1) := by decide +kernel
theorem dX8_builds_12 : decode cX8_builds 12 = .ok (.getfield 16, 3) := by decide +kernel
theorem dX8_builds_15 : decode cX8_builds 15 = .ok (.iload_n 1, 1) := by decide +kernel
theorem dX8_builds_16 : decode cX8_builds 16 = .ok (.iaload, 1) := by decide +kernel
theorem dX8_builds_17 : decode cX8_builds 17 = .ok (.ireturn, 1) := by decide +kernel
theorem dX8_zips_0 : decode cX8_zips 0 = .ok (.aload_n 0, 1) := by decide +kernel
theorem dX8_zips_1 : decode cX8_zips 1 = .ok (.iconst 0, 1) := by decide +kernel
theorem dX8_zips_2 : decode cX8_zips 2 = .ok (.putfield 55, 3) := by decide +kernel
theorem dX8_zips_5 : decode cX8_zips 5 = .ok (.iload_n 1, 1) := by decide +kernel
theorem dX8_zips_6 : decode cX8_zips 6 = .ok (.invokestatic 134, 3) := by decide +kernel
theorem dX8_zips_9 : decode cX8_zips 9 = .ok (.ifCond .eq 30, 3) := by decide +kernel
theorem dX8_zips_12 : decode cX8_zips 12 = .ok (.iload_n 2, 1) := by decide +kernel
theorem dX8_zips_13 : decode cX8_zips 13 = .ok (.invokestatic 134, 3) := by decide +kernel
theorem dX8_zips_16 : decode cX8_zips 16 = .ok (.ifCond .eq 23, 3) := by decide +kernel
theorem dX8_zips_19 : decode cX8_zips 19 = .ok (.iload_n 3, 1) := by decide +kernel
theorem dX8_zips_20 : decode cX8_zips 20 = .ok (.i2l, 1) := by decide +kernel
theorem dX8_zips_21 : decode cX8_zips 21 = .ok (.lconst 0, 1) := by decide +kernel
theorem dX8_zips_22 : decode cX8_zips 22 = .ok (.ldc2_w 240, 3) := by decide +kernel
theorem dX8_zips_25 : decode cX8_zips 25 = .ok (.invokestatic 65, 3) := by decide +kernel
theorem dX8_zips_28 : decode cX8_zips 28 = .ok (.ifCond .eq 11, 3) := by decide +kernel
theorem dX8_zips_31 : decode cX8_zips 31 = .ok (.iload 4, 2) := by decide +kernel
theorem dX8_zips_33 : decode cX8_zips 33 = .ok (.invokestatic 134, 3) := by decide +kernel
theorem dX8_zips_36 : decode cX8_zips 36 = .ok (.ifCond .ne 5, 3) := by decide +kernel
theorem dX8_zips_39 : decode cX8_zips 39 = .ok (.iconst (-1), 1) := by decide +kernel
theorem dX8_zips_40 : decode cX8_zips 40 = .ok (.ireturn, 1) := by decide +kernel
theorem dX8_zips_41 : decode cX8_zips 41 = .ok (.aload_n 0, 1) := by decide +kernel
theorem dX8_zips_42 : decode cX8_zips 42 = .ok (.getfield 16, 3) := by decide +kernel
theorem dX8_zips_45 : decode cX8_zips 45 = .ok (.bipush 7, 2) := by decide +kernel
theorem dX8_zips_47 : decode cX8_zips 47 = .ok (.iconst 0, 1) := by decide +kernel
theorem dX8_zips_48 : decode cX8_zips 48 = .ok (.iastore, 1) := by decide +kernel
theorem dX8_zips_49 : decode cX8_zips 49 = .ok (.iconst 0, 1) := by decide +kernel
theorem dX8_zips_50 : decode cX8_zips 50 = .ok (.istore 5, 2) := by decide +kernel
theorem dX8_zips_52 : decode cX8_zips 52 = .ok (.iload 5, 2) := by decide +kernel
theorem dX8_zips_54 : decode cX8_zips 54 = .ok (.aload_n 0, 1) := by decide +kernel
theorem dX8_zips_55 : decode cX8_zips 55 = .ok (.getfield 16, 3) := by decide +kernel
theorem dX8_zips_58 : decode cX8_zips 58 = .ok (.iload_n 1, 1) := by decide +kernel
theorem dX8_zips_59 : decode cX8_zips 59 = .ok (.iaload, 1) := by decide +kernel
theorem dX8_zips_60 : decode cX8_zips 60 = .ok (.if_icmp .ge 42, 3) := by decide +kernel
theorem dX8_zips_63 : decode cX8_zips 63 = .ok (.iload 5, 2) := by decide +kernel
theorem dX8_zips_65 : decode cX8_zips 65 = .ok (.aload_n 0, 1) := by decide +kernel
theorem dX8_zips_66 : decode cX8_zips 66 = .ok (.getfield 16, 3) := by decide +kernel
theorem dX8_zips_69 : decode cX8_zips 69 = .ok (.iload_n 2, 1) := by decide +kernel
theorem dX8_zips_70 : decode cX8_zips 70 = .ok (.iaload, 1) := by decide +kernel
theorem dX8_zips_71 : decode cX8_zips 71 = .ok (.if_icmp .ge 31, 3) := by decide +kernel
theorem dX8_zips_74 : decode cX8_zips 74 = .ok (.aload_n 0, 1) := by decide +kernel
theorem dX8_zips_75 : decode cX8_zips 75 = .ok (.aload_n 0, 1) := by decide +kernel
theorem dX8_zips_76 : decode cX8_zips 76 = .ok (.iload_n 1, 1) := by decide +kernel
theorem dX8_zips_77 : decode cX8_zips 77 = .ok (.iload 5, 2) := by decide +kernel
theorem dX8_zips_79 : decode cX8_zips 79 = .ok (.invokevirtual 99, 3) := by decide +kernel
theorem dX8_zips_82 : decode cX8_zips 82 = .ok (.aload_n 0, 1) := by decide +kernel
theorem dX8_zips_83 : decode cX8_zips 83 = .ok (.iload_n 2, 1) := by decide +kernel
theorem dX8_zips_84 : decode cX8_zips 84 = .ok (.iload 5, 2) := by decide +kernel
theorem dX8_zips_86 : decode cX8_zips 86 = .ok (.invokevirtual 99, 3) := by decide +kernel
theorem dX8_zips_89 : decode cX8_zips 89 = .ok (.iload_n 3, 1) := by decide +kernel
theorem dX8_zips_90 : decode cX8_zips 90 = .ok (.invokestatic 242, 3) := by decide +kernel
theorem dX8_zips_93 : decode cX8_zips 93 = .ok (.invokevirtual 246, 3) := by decide +kernel
theorem dX8_zips_96 : decode cX8_zips 96 = .ok (.iinc 5 1, 3) := by decide +kernel
theorem dX8_zips_99 : decode cX8_zips 99 = .ok (.goto (-47), 3) := by decide +kernel
theorem dX8_zips_102 : decode cX8_zips 102 = .ok (.aload_n 0, 1) := by decide +kernel
theorem dX8_zips_103 : decode cX8_zips 103 = .ok (.iload 4, 2) := by decide +kernel
theorem dX8_zips_105 : decode cX8_zips 105 = .ok (.invokevirtual 249, 3) := by decide +kernel
theorem dX8_zips_108 : decode cX8_zips 108 = .ok (.ireturn, 1) := by decide +kernel
theorem dX8_parts_0 : decode cX8_parts 0 = .ok (.aload_n 0, 1) := by decide +kernel
theorem dX8_parts_1 : decode cX8_parts 1 = .ok (.iconst 0, 1) := by decide +kernel
theorem dX8_parts_2 : decode cX8_parts 2 = .ok (.putfield 55, 3) := by decide +kernel
theorem dX8_parts_5 : decode cX8_parts 5 = .ok (.iload_n 1, 1) := by decide +kernel
theorem dX8_parts_6 : decode cX8_parts 6 = .ok (.invokestatic 134, 3) := by decide +kernel
theorem dX8_parts_9 : decode cX8_parts 9 = .ok (.ifCond .eq 34, 3) := by decide +kernel
theorem dX8_parts_12 : decode cX8_parts 12 = .ok (.iload_n 2, 1) := by decide +kernel
theorem dX8_parts_13 : decode cX8_parts 13 = .ok (.i2l, 1) := by decide +kernel
theorem dX8_parts_14 : decode cX8_parts 14 = .ok (.lconst 0, 1) := by decide +kernel
theorem dX8_parts_15 : decode cX8_parts 15 = .ok (.aload_n 0, 1) := by decide +kernel
theorem dX8_parts_16 : decode cX8_parts 16 = .ok (.getfield 16, 3) := by decide +kernel
theorem dX8_parts_19 : decode cX8_parts 19 = .ok (.iload_n 1, 1) := by decide +kernel
theorem dX8_parts_20 : decode cX8_parts 20 = .ok (.iaload, 1) := by decide +kernel
theorem dX8_parts_21 : decode cX8_parts 21 = .ok (.i2l, 1) := by decide +kernel
theorem dX8_parts_22 : decode cX8_parts 22 = .ok (.invokestatic 65, 3) := by decide +kernel
theorem dX8_parts_25 : decode cX8_parts 25 = .ok (.ifCond .eq 18, 3) := by decide +kernel
theorem dX8_parts_28 : decode cX8_parts 28 = .ok (.iload_n 3, 1) := by decide +kernel
theorem dX8_parts_29 : decode cX8_parts 29 = .ok (.invokestatic 134, 3) := by decide +kernel
theorem dX8_parts_32 : decode cX8_parts 32 = .ok (.ifCond .eq 11, 3) := by decide +kernel
theorem dX8_parts_35 : decode cX8_parts 35 = .ok (.iload 4, 2) := by decide +kernel
theorem dX8_parts_37 : decode cX8_parts 37 = .ok (.invokestatic 134, 3) := by decide +kernel
theorem dX8_parts_40 : decode cX8_parts 40 = .ok (.ifCond .ne 5, 3) := by decide +kernel
theorem dX8_parts_43 : decode cX8_parts 43 = .ok (.iconst (-1), 1) := by decide +kernel
theorem dX8_parts_44 : decode cX8_parts 44 = .ok (.ireturn, 1) := by decide +kernel
theorem dX8_parts_45 : decode cX8_parts 45 = .ok (.iload_n 3, 1) := by decide +kernel
theorem dX8_parts_46 : decode cX8_parts 46 = .ok (.iload 4, 2) := by decide +kernel
theorem dX8_parts_48 : decode cX8_parts 48 = .ok (.if_icmp .ne 6, 3) := by decide +kernel
theorem dX8_parts_51 : decode cX8_parts 51 = .ok (.bipush (-2), 2) := by decide +kernel
theorem dX8_parts_53 : decode cX8_parts 53 = .ok (.ireturn, 1) := by decide +kernel
theorem dX8_parts_54 : decode cX8_parts 54 = .ok (.aload_n 0, 1) := by decide +kernel
theorem dX8_parts_55 : decode cX8_parts 55 = .ok (.iload_n 1, 1) := by decide +kernel
theorem dX8_parts_56 : decode cX8_parts 56 = .ok (.bipush 8, 2) := by decide +kernel
theorem dX8_parts_58 : decode cX8_parts 58 = .ok (.invokevirtual 82, 3) := by decide +kernel
theorem dX8_parts_61 : decode cX8_parts 61 = .ok (.aload_n 0, 1) := by decide +kernel
theorem dX8_parts_62 : decode cX8_parts 62 = .ok (.iload_n 1, 1) := by decide +kernel
theorem dX8_parts_63 : decode cX8_parts 63 = .ok (.invokevirtual 176, 3) := by decide +kernel
theorem dX8_parts_66 : decode cX8_parts 66 = .ok (.aload_n 0, 1) := by decide +kernel
theorem dX8_parts_67 : decode cX8_parts 67 = .ok (.invokevirtual 166, 3) := by decide +kernel
theorem dX8_parts_70 : decode cX8_parts 70 = .ok (.aload_n 0, 1) := by decide +kernel
theorem dX8_parts_71 : decode cX8_parts 71 = .ok (.getfield 16, 3) := by decide +kernel
theorem dX8_parts_74 : decode cX8_parts 74 = .ok (.bipush 7, 2) := by decide +kernel
theorem dX8_parts_76 : decode cX8_parts 76 = .ok (.iaload, 1) := by decide +kernel
theorem dX8_parts_77 : decode cX8_parts 77 = .ok (.iload_n 2, 1) := by decide +kernel
theorem dX8_parts_78 : decode cX8_parts 78 = .ok (.if_icmp .le 10, 3) := by decide +kernel
theorem dX8_parts_81 : decode cX8_parts 81 = .ok (.aload_n 0, 1) := by decide +kernel
theorem dX8_parts_82 : decode cX8_parts 82 = .ok (.invokevirtual 222, 3) := by decide +kernel
theorem dX8_parts_85 : decode cX8_parts 85 = .ok (.goto (-15), 3) := by decide +kernel
theorem dX8_parts_88 : decode cX8_parts 88 = .ok (.aload_n 0, 1) := by decide +kernel
theorem dX8_parts_89 : decode cX8_parts 89 = .ok (.bipush 7, 2) := by decide +kernel
theorem dX8_parts_91 : decode cX8_parts 91 = .ok (.iload_n 3, 1) := by decide +kernel
theorem dX8_parts_92 : decode cX8_parts 92 = .ok (.invokevirtual 82, 3) := by decide +kernel
theorem dX8_parts_95 : decode cX8_parts 95 = .ok (.aload_n 0, 1) := by decide +kernel
theorem dX8_parts_96 : decode cX8_parts 96 = .ok (.bipush 8, 2) := by decide +kernel
theorem dX8_parts_98 : decode cX8_parts 98 = .ok (.bipush 7, 2) := by decide +kernel
theorem dX8_parts_100 : decode cX8_parts 100 = .ok (.invokevirtual 82, 3) := by decide +kernel
theorem dX8_parts_103 : decode cX8_parts 103 = .ok (.iconst 0, 1) := by decide +kernel
theorem dX8_parts_104 : decode cX8_parts 104 = .ok (.istore 5, 2) := by decide +kernel
theorem dX8_parts_106 : decode cX8_parts 106 = .ok (.iload 5, 2) := by decide +kernel
theorem dX8_parts_108 : decode cX8_parts 108 = .ok (.iload_n 2, 1) := by decide +kernel
theorem dX8_parts_109 : decode cX8_parts 109 = .ok (.if_icmp .ge 13, 3) := by decide +kernel
theorem dX8_parts_112 : decode cX8_parts 112 = .ok (.aload_n 0, 1) := by decide +kernel
theorem dX8_parts_113 : decode cX8_parts 113 = .ok (.invokevirtual 219, 3) := by decide +kernel
theorem dX8_parts_116 : decode cX8_parts 116 = .ok (.iinc 5 1, 3) := by decide +kernel
theorem dX8_parts_119 : decode cX8_parts 119 = .ok (.goto (-13), 3) := by decide +kernel
theorem dX8_parts_122 : decode cX8_parts 122 = .ok (.aload_n 0, 1) := by decide +kernel
theorem dX8_parts_123 : decode cX8_parts 123 = .ok (.iload 4, 2) := by decide +kernel
theorem dX8_parts_125 : decode cX8_parts 125 = .ok (.invokevirtual 205, 3) := by decide +kernel
theorem dX8_parts_128 : decode cX8_parts 128 = .ok (.ireturn, 1) := by decide +kernel
theorem dX8_sorts_0 : decode cX8_sorts 0 = .ok (.aload_n 0, 1) := by decide +kernel
theorem dX8_sorts_1 : decode cX8_sorts 1 = .ok (.iconst 0, 1) := by decide +kernel
theorem dX8_sorts_2 : decode cX8_sorts 2 = .ok (.putfield 55, 3) := by decide +kernel
theorem dX8_sorts_5 : decode cX8_sorts 5 = .ok (.iload_n 1, 1) := by decide +kernel
theorem dX8_sorts_6 : decode cX8_sorts 6 = .ok (.invokestatic 134, 3) := by decide +kernel
theorem dX8_sorts_9 : decode cX8_sorts 9 = .ok (.ifCond .eq 10, 3) := by decide +kernel
theorem dX8_sorts_12 : decode cX8_sorts 12 = .ok (.iload_n 2, 1) := by decide +kernel
theorem dX8_sorts_13 : decode cX8_sorts 13 = .ok (.invokestatic 134, 3) := by decide +kernel
theorem dX8_sorts_16 : decode cX8_sorts 16 = .ok (.ifCond .ne 5, 3) := by decide +kernel
theorem dX8_sorts_19 : decode cX8_sorts 19 = .ok (.iconst (-1), 1) := by decide +kernel
theorem dX8_sorts_20 : decode cX8_sorts 20 = .ok (.ireturn, 1) := by decide +kernel
theorem dX8_sorts_21 : decode cX8_sorts 21 = .ok (.aload_n 0, 1) := by decide +kernel
theorem dX8_sorts_22 : decode cX8_sorts 22 = .ok (.iload_n 1, 1) := by decide +kernel
theorem dX8_sorts_23 : decode cX8_sorts 23 = .ok (.invokevirtual 176, 3) := by decide +kernel
theorem dX8_sorts_26 : decode cX8_sorts 26 = .ok (.iconst 1, 1) := by decide +kernel
theorem dX8_sorts_27 : decode cX8_sorts 27 = .ok (.istore_n 3, 1) := by decide +kernel
theorem dX8_sorts_28 : decode cX8_sorts 28 = .ok (.iload_n 3, 1) := by decide +kernel
theorem dX8_sorts_29 : decode cX8_sorts 29 = .ok (.aload_n 0, 1) := by decide +kernel
theorem dX8_sorts_30 : decode cX8_sorts 30 = .ok (.getfield 16, 3) := by decide +kernel
theorem dX8_sorts_33 : decode cX8_sorts 33 = .ok (.bipush 7, 2) := by decide +kernel
theorem dX8_sorts_35 : decode cX8_sorts 35 = .ok (.iaload, 1) := by decide +kernel
theorem dX8_sorts_36 : decode cX8_sorts 36 = .ok (.if_icmp .ge 81, 3) := by decide +kernel
theorem dX8_sorts_39 : decode cX8_sorts 39 = .ok (.aload_n 0, 1) := by decide +kernel
theorem dX8_sorts_40 : decode cX8_sorts 40 = .ok (.bipush 7, 2) := by decide +kernel
theorem dX8_sorts_42 : decode cX8_sorts 42 = .ok (.iload_n 3, 1) := by decide +kernel
theorem dX8_sorts_43 : decode cX8_sorts 43 = .ok (.invokevirtual 99, 3) := by decide +kernel
theorem dX8_sorts_46 : decode cX8_sorts 46 = .ok (.istore 4, 2) := by decide +kernel
theorem dX8_sorts_48 : decode cX8_sorts 48 = .ok (.iload_n 3, 1) := by decide +kernel
theorem dX8_sorts_49 : decode cX8_sorts 49 = .ok (.istore 5, 2) := by decide +kernel
theorem dX8_sorts_51 : decode cX8_sorts 51 = .ok (.iload 5, 2) := by decide +kernel
theorem dX8_sorts_53 : decode cX8_sorts 53 = .ok (.ifCond .le 45, 3) := by decide +kernel
theorem dX8_sorts_56 : decode cX8_sorts 56 = .ok (.aload_n 0, 1) := by decide +kernel
theorem dX8_sorts_57 : decode cX8_sorts 57 = .ok (.bipush 7, 2) := by decide +kernel
theorem dX8_sorts_59 : decode cX8_sorts 59 = .ok (.iload 5, 2) := by decide +kernel
theorem dX8_sorts_61 : decode cX8_sorts 61 = .ok (.iconst 1, 1) := by decide +kernel
theorem dX8_sorts_62 : decode cX8_sorts 62 = .ok (.isub, 1) := by decide +kernel
theorem dX8_sorts_63 : decode cX8_sorts 63 = .ok (.invokevirtual 99, 3) := by decide +kernel
theorem dX8_sorts_66 : decode cX8_sorts 66 = .ok (.iload 4, 2) := by decide +kernel
theorem dX8_sorts_68 : decode cX8_sorts 68 = .ok (.if_icmp .le 30, 3) := by decide +kernel
theorem dX8_sorts_71 : decode cX8_sorts 71 = .ok (.aload_n 0, 1) := by decide +kernel
theorem dX8_sorts_72 : decode cX8_sorts 72 = .ok (.getfield 7, 3) := by decide +kernel
theorem dX8_sorts_75 : decode cX8_sorts 75 = .ok (.sipush 1792, 3) := by decide +kernel
theorem dX8_sorts_78 : decode cX8_sorts 78 = .ok (.iload 5, 2) := by decide +kernel
theorem dX8_sorts_80 : decode cX8_sorts 80 = .ok (.iadd, 1) := by decide +kernel
theorem dX8_sorts_81 : decode cX8_sorts 81 = .ok (.aload_n 0, 1) := by decide +kernel
theorem dX8_sorts_82 : decode cX8_sorts 82 = .ok (.bipush 7, 2) := by decide +kernel
theorem dX8_sorts_84 : decode cX8_sorts 84 = .ok (.iload 5, 2) := by decide +kernel
theorem dX8_sorts_86 : decode cX8_sorts 86 = .ok (.iconst 1, 1) := by decide +kernel
theorem dX8_sorts_87 : decode cX8_sorts 87 = .ok (.isub, 1) := by decide +kernel
theorem dX8_sorts_88 : decode cX8_sorts 88 = .ok (.invokevirtual 99, 3) := by decide +kernel
theorem dX8_sorts_91 : decode cX8_sorts 91 = .ok (.iastore, 1) := by decide +kernel
theorem dX8_sorts_92 : decode cX8_sorts 92 = .ok (.iinc 5 (-1), 3) := by decide +kernel
theorem dX8_sorts_95 : decode cX8_sorts 95 = .ok (.goto (-44), 3) := by decide +kernel
theorem dX8_sorts_98 : decode cX8_sorts 98 = .ok (.aload_n 0, 1) := by decide +kernel
theorem dX8_sorts_99 : decode cX8_sorts 99 = .ok (.getfield 7, 3) := by decide +kernel
theorem dX8_sorts_102 : decode cX8_sorts 102 = .ok (.sipush 1792, 3) := by decide +kernel
theorem dX8_sorts_105 : decode cX8_sorts 105 = .ok (.iload 5, 2) := by decide +kernel
theorem dX8_sorts_107 : decode cX8_sorts 107 = .ok (.iadd, 1) := by decide +kernel
theorem dX8_sorts_108 : decode cX8_sorts 108 = .ok (.iload 4, 2) := by decide +kernel
theorem dX8_sorts_110 : decode cX8_sorts 110 = .ok (.iastore, 1) := by decide +kernel
theorem dX8_sorts_111 : decode cX8_sorts 111 = .ok (.iinc 3 1, 3) := by decide +kernel
theorem dX8_sorts_114 : decode cX8_sorts 114 = .ok (.goto (-86), 3) := by decide +kernel
theorem dX8_sorts_117 : decode cX8_sorts 117 = .ok (.iconst 0, 1) := by decide +kernel
theorem dX8_sorts_118 : decode cX8_sorts 118 = .ok (.istore_n 3, 1) := by decide +kernel
theorem dX8_sorts_119 : decode cX8_sorts 119 = .ok (.iconst 0, 1) := by decide +kernel
theorem dX8_sorts_120 : decode cX8_sorts 120 = .ok (.istore 4, 2) := by decide +kernel
theorem dX8_sorts_122 : decode cX8_sorts 122 = .ok (.iload 4, 2) := by decide +kernel
theorem dX8_sorts_124 : decode cX8_sorts 124 = .ok (.aload_n 0, 1) := by decide +kernel
theorem dX8_sorts_125 : decode cX8_sorts 125 = .ok (.getfield 16, 3) := by decide +kernel
theorem dX8_sorts_128 : decode cX8_sorts 128 = .ok (.bipush 7, 2) := by decide +kernel
theorem dX8_sorts_130 : decode cX8_sorts 130 = .ok (.iaload, 1) := by decide +kernel
theorem dX8_sorts_131 : decode cX8_sorts 131 = .ok (.if_icmp .ge 36, 3) := by decide +kernel
theorem dX8_sorts_134 : decode cX8_sorts 134 = .ok (.iload_n 3, 1) := by decide +kernel
theorem dX8_sorts_135 : decode cX8_sorts 135 = .ok (.aload_n 0, 1) := by decide +kernel
theorem dX8_sorts_136 : decode cX8_sorts 136 = .ok (.bipush 7, 2) := by decide +kernel
theorem dX8_sorts_138 : decode cX8_sorts 138 = .ok (.iload 4, 2) := by decide +kernel
theorem dX8_sorts_140 : decode cX8_sorts 140 = .ok (.invokevirtual 99, 3) := by decide +kernel
theorem dX8_sorts_143 : decode cX8_sorts 143 = .ok (.aload_n 0, 1) := by decide +kernel
theorem dX8_sorts_144 : decode cX8_sorts 144 = .ok (.bipush 6, 2) := by decide +kernel
theorem dX8_sorts_146 : decode cX8_sorts 146 = .ok (.iload 4, 2) := by decide +kernel
theorem dX8_sorts_148 : decode cX8_sorts 148 = .ok (.invokevirtual 99, 3) := by decide +kernel
theorem dX8_sorts_151 : decode cX8_sorts 151 = .ok (.if_icmp .eq 7, 3) := by decide +kernel
theorem dX8_sorts_154 : decode cX8_sorts 154 = .ok (.iconst 1, 1) := by decide +kernel
theorem dX8_sorts_155 : decode cX8_sorts 155 = .ok (.goto 4, 3) := by decide +kernel
theorem dX8_sorts_158 : decode cX8_sorts 158 = .ok (.iconst 0, 1) := by decide +kernel
theorem dX8_sorts_159 : decode cX8_sorts 159 = .ok (.iadd, 1) := by decide +kernel
theorem dX8_sorts_160 : decode cX8_sorts 160 = .ok (.istore_n 3, 1) := by decide +kernel
theorem dX8_sorts_161 : decode cX8_sorts 161 = .ok (.iinc 4 1, 3) := by decide +kernel
theorem dX8_sorts_164 : decode cX8_sorts 164 = .ok (.goto (-42), 3) := by decide +kernel
theorem dX8_sorts_167 : decode cX8_sorts 167 = .ok (.aload_n 0, 1) := by decide +kernel
theorem dX8_sorts_168 : decode cX8_sorts 168 = .ok (.iconst 0, 1) := by decide +kernel
theorem dX8_sorts_169 : decode cX8_sorts 169 = .ok (.putfield 59, 3) := by decide +kernel
theorem dX8_sorts_172 : decode cX8_sorts 172 = .ok (.aload_n 0, 1) := by decide +kernel
theorem dX8_sorts_173 : decode cX8_sorts 173 = .ok (.iload_n 3, 1) := by decide +kernel
theorem dX8_sorts_174 : decode cX8_sorts 174 = .ok (.i2l, 1) := by decide +kernel
theorem dX8_sorts_175 : decode cX8_sorts 175 = .ok (.invokevirtual 150, 3) := by decide +kernel
theorem dX8_sorts_178 : decode cX8_sorts 178 = .ok (.aload_n 0, 1) := by decide +kernel
theorem dX8_sorts_179 : decode cX8_sorts 179 = .ok (.iload_n 2, 1) := by decide +kernel
theorem dX8_sorts_180 : decode cX8_sorts 180 = .ok (.invokevirtual 249, 3) := by decide +kernel
theorem dX8_sorts_183 : decode cX8_sorts 183 = .ok (.ireturn, 1) := by decide +kernel
theorem dX8_merges_0 : decode cX8_merges 0 = .ok (.aload_n 0, 1) := by decide +kernel
theorem dX8_merges_1 : decode cX8_merges 1 = .ok (.iconst 0, 1) := by decide +kernel
theorem dX8_merges_2 : decode cX8_merges 2 = .ok (.putfield 55, 3) := by decide +kernel
theorem dX8_merges_5 : decode cX8_merges 5 = .ok (.iload_n 1, 1) := by decide +kernel
theorem dX8_merges_6 : decode cX8_merges 6 = .ok (.invokestatic 134, 3) := by decide +kernel
theorem dX8_merges_9 : decode cX8_merges 9 = .ok (.ifCond .eq 17, 3) := by decide +kernel
theorem dX8_merges_12 : decode cX8_merges 12 = .ok (.iload_n 2, 1) := by decide +kernel
theorem dX8_merges_13 : decode cX8_merges 13 = .ok (.invokestatic 134, 3) := by decide +kernel
theorem dX8_merges_16 : decode cX8_merges 16 = .ok (.ifCond .eq 10, 3) := by decide +kernel
theorem dX8_merges_19 : decode cX8_merges 19 = .ok (.iload_n 3, 1) := by decide +kernel
theorem dX8_merges_20 : decode cX8_merges 20 = .ok (.invokestatic 134, 3) := by decide +kernel
theorem dX8_merges_23 : decode cX8_merges 23 = .ok (.ifCond .ne 5, 3) := by decide +kernel
theorem dX8_merges_26 : decode cX8_merges 26 = .ok (.iconst (-1), 1) := by decide +kernel
theorem dX8_merges_27 : decode cX8_merges 27 = .ok (.ireturn, 1) := by decide +kernel
theorem dX8_merges_28 : decode cX8_merges 28 = .ok (.aload_n 0, 1) := by decide +kernel
theorem dX8_merges_29 : decode cX8_merges 29 = .ok (.getfield 16, 3) := by decide +kernel
theorem dX8_merges_32 : decode cX8_merges 32 = .ok (.iload_n 1, 1) := by decide +kernel
theorem dX8_merges_33 : decode cX8_merges 33 = .ok (.iaload, 1) := by decide +kernel
theorem dX8_merges_34 : decode cX8_merges 34 = .ok (.aload_n 0, 1) := by decide +kernel
theorem dX8_merges_35 : decode cX8_merges 35 = .ok (.getfield 16, 3) := by decide +kernel
theorem dX8_merges_38 : decode cX8_merges 38 = .ok (.iload_n 2, 1) := by decide +kernel
theorem dX8_merges_39 : decode cX8_merges 39 = .ok (.iaload, 1) := by decide +kernel
theorem dX8_merges_40 : decode cX8_merges 40 = .ok (.iadd, 1) := by decide +kernel
theorem dX8_merges_41 : decode cX8_merges 41 = .ok (.sipush 255, 3) := by decide +kernel
theorem dX8_merges_44 : decode cX8_merges 44 = .ok (.if_icmp .le 6, 3) := by decide +kernel
theorem dX8_merges_47 : decode cX8_merges 47 = .ok (.bipush (-2), 2) := by decide +kernel
theorem dX8_merges_49 : decode cX8_merges 49 = .ok (.ireturn, 1) := by decide +kernel
theorem dX8_merges_50 : decode cX8_merges 50 = .ok (.aload_n 0, 1) := by decide +kernel
theorem dX8_merges_51 : decode cX8_merges 51 = .ok (.getfield 16, 3) := by decide +kernel
theorem dX8_merges_54 : decode cX8_merges 54 = .ok (.bipush 7, 2) := by decide +kernel
theorem dX8_merges_56 : decode cX8_merges 56 = .ok (.iconst 0, 1) := by decide +kernel
theorem dX8_merges_57 : decode cX8_merges 57 = .ok (.iastore, 1) := by decide +kernel
theorem dX8_merges_58 : decode cX8_merges 58 = .ok (.iconst 0, 1) := by decide +kernel
theorem dX8_merges_59 : decode cX8_merges 59 = .ok (.istore 4, 2) := by decide +kernel
theorem dX8_merges_61 : decode cX8_merges 61 = .ok (.iconst 0, 1) := by decide +kernel
theorem dX8_merges_62 : decode cX8_merges 62 = .ok (.istore 5, 2) := by decide +kernel
theorem dX8_merges_64 : decode cX8_merges 64 = .ok (.iload 4, 2) := by decide +kernel
theorem dX8_merges_66 : decode cX8_merges 66 = .ok (.aload_n 0, 1) := by decide +kernel
theorem dX8_merges_67 : decode cX8_merges 67 = .ok (.getfield 16, 3) := by decide +kernel
theorem dX8_merges_70 : decode cX8_merges 70 = .ok (.iload_n 1, 1) := by decide +kernel
theorem dX8_merges_71 : decode cX8_merges 71 = .ok (.iaload, 1) := by decide +kernel
theorem dX8_merges_72 : decode cX8_merges 72 = .ok (.if_icmp .lt 14, 3) := by decide +kernel
theorem dX8_merges_75 : decode cX8_merges 75 = .ok (.iload 5, 2) := by decide +kernel
theorem dX8_merges_77 : decode cX8_merges 77 = .ok (.aload_n 0, 1) := by decide +kernel
theorem dX8_merges_78 : decode cX8_merges 78 = .ok (.getfield 16, 3) := by decide +kernel
theorem dX8_merges_81 : decode cX8_merges 81 = .ok (.iload_n 2, 1) := by decide +kernel
theorem dX8_merges_82 : decode cX8_merges 82 = .ok (.iaload, 1) := by decide +kernel
theorem dX8_merges_83 : decode cX8_merges 83 = .ok (.if_icmp .ge 108, 3) := by decide +kernel
theorem dX8_merges_86 : decode cX8_merges 86 = .ok (.iload 5, 2) := by decide +kernel
theorem dX8_merges_88 : decode cX8_merges 88 = .ok (.aload_n 0, 1) := by decide +kernel
theorem dX8_merges_89 : decode cX8_merges 89 = .ok (.getfield 16, 3) := by decide +kernel
theorem dX8_merges_92 : decode cX8_merges 92 = .ok (.iload_n 2, 1) := by decide +kernel
theorem dX8_merges_93 : decode cX8_merges 93 = .ok (.iaload, 1) := by decide +kernel
theorem dX8_merges_94 : decode cX8_merges 94 = .ok (.if_icmp .eq 31, 3) := by decide +kernel
theorem dX8_merges_97 : decode cX8_merges 97 = .ok (.iload 4, 2) := by decide +kernel
theorem dX8_merges_99 : decode cX8_merges 99 = .ok (.aload_n 0, 1) := by decide +kernel
theorem dX8_merges_100 : decode cX8_merges 100 = .ok (.getfield 16, 3) := by decide +kernel
theorem dX8_merges_103 : decode cX8_merges 103 = .ok (.iload_n 1, 1) := by decide +kernel
theorem dX8_merges_104 : decode cX8_merges 104 = .ok (.iaload, 1) := by decide +kernel
theorem dX8_merges_105 : decode cX8_merges 105 = .ok (.if_icmp .ge 24, 3) := by decide +kernel
theorem dX8_merges_108 : decode cX8_merges 108 = .ok (.aload_n 0, 1) := by decide +kernel
theorem dX8_merges_109 : decode cX8_merges 109 = .ok (.iload_n 1, 1) := by decide +kernel
theorem dX8_merges_110 : decode cX8_merges 110 = .ok (.iload 4, 2) := by decide +kernel
theorem dX8_merges_112 : decode cX8_merges 112 = .ok (.invokevirtual 99, 3) := by decide +kernel
theorem dX8_merges_115 : decode cX8_merges 115 = .ok (.aload_n 0, 1) := by decide +kernel
theorem dX8_merges_116 : decode cX8_merges 116 = .ok (.iload_n 2, 1) := by decide +kernel
theorem dX8_merges_117 : decode cX8_merges 117 = .ok (.iload 5, 2) := by decide +kernel
theorem dX8_merges_119 : decode cX8_merges 119 = .ok (.invokevirtual 99, 3) := by decide +kernel
theorem dX8_merges_122 : decode cX8_merges 122 = .ok (.if_icmp .gt 7, 3) := by decide +kernel
theorem dX8_merges_125 : decode cX8_merges 125 = .ok (.iconst 1, 1) := by decide +kernel
theorem dX8_merges_126 : decode cX8_merges 126 = .ok (.goto 4, 3) := by decide +kernel
theorem dX8_merges_129 : decode cX8_merges 129 = .ok (.iconst 0, 1) := by decide +kernel
theorem dX8_merges_130 : decode cX8_merges 130 = .ok (.istore 6, 2) := by decide +kernel
theorem dX8_merges_132 : decode cX8_merges 132 = .ok (.aload_n 0, 1) := by decide +kernel
theorem dX8_merges_133 : decode cX8_merges 133 = .ok (.iload 6, 2) := by decide +kernel
theorem dX8_merges_135 : decode cX8_merges 135 = .ok (.ifCond .eq 13, 3) := by decide +kernel
theorem dX8_merges_138 : decode cX8_merges 138 = .ok (.aload_n 0, 1) := by decide +kernel
theorem dX8_merges_139 : decode cX8_merges 139 = .ok (.iload_n 1, 1) := by decide +kernel
theorem dX8_merges_140 : decode cX8_merges 140 = .ok (.iload 4, 2) := by decide +kernel
theorem dX8_merges_142 : decode cX8_merges 142 = .ok (.invokevirtual 99, 3) := by decide +kernel
theorem dX8_merges_145 : decode cX8_merges 145 = .ok (.goto 10, 3) := by decide +kernel
theorem dX8_merges_148 : decode cX8_merges 148 = .ok (.aload_n 0, 1) := by decide +kernel
theorem dX8_merges_149 : decode cX8_merges 149 = .ok (.iload_n 2, 1) := by decide +kernel
theorem dX8_merges_150 : decode cX8_merges 150 = .ok (.iload 5, 2) := by decide +kernel
theorem dX8_merges_152 : decode cX8_merges 152 = .ok (.invokevirtual 99, 3) := by decide +kernel
theorem dX8_merges_155 : decode cX8_merges 155 = .ok (.invokevirtual 246, 3) := by decide +kernel
theorem dX8_merges_158 : decode cX8_merges 158 = .ok (.iload 4, 2) := by decide +kernel
theorem dX8_merges_160 : decode cX8_merges 160 = .ok (.iload 6, 2) := by decide +kernel
theorem dX8_merges_162 : decode cX8_merges 162 = .ok (.ifCond .eq 7, 3) := by decide +kernel
theorem dX8_merges_165 : decode cX8_merges 165 = .ok (.iconst 1, 1) := by decide +kernel
theorem dX8_merges_166 : decode cX8_merges 166 = .ok (.goto 4, 3) := by decide +kernel
theorem dX8_merges_169 : decode cX8_merges 169 = .ok (.iconst 0, 1) := by decide +kernel
theorem dX8_merges_170 : decode cX8_merges 170 = .ok (.iadd, 1) := by decide +kernel
theorem dX8_merges_171 : decode cX8_merges 171 = .ok (.istore 4, 2) := by decide +kernel
theorem dX8_merges_173 : decode cX8_merges 173 = .ok (.iload 5, 2) := by decide +kernel
theorem dX8_merges_175 : decode cX8_merges 175 = .ok (.iload 6, 2) := by decide +kernel
theorem dX8_merges_177 : decode cX8_merges 177 = .ok (.ifCond .eq 7, 3) := by decide +kernel
theorem dX8_merges_180 : decode cX8_merges 180 = .ok (.iconst 0, 1) := by decide +kernel
theorem dX8_merges_181 : decode cX8_merges 181 = .ok (.goto 4, 3) := by decide +kernel
theorem dX8_merges_184 : decode cX8_merges 184 = .ok (.iconst 1, 1) := by decide +kernel
theorem dX8_merges_185 : decode cX8_merges 185 = .ok (.iadd, 1) := by decide +kernel
theorem dX8_merges_186 : decode cX8_merges 186 = .ok (.istore 5, 2) := by decide +kernel
theorem dX8_merges_188 : decode cX8_merges 188 = .ok (.goto (-124), 3) := by decide +kernel
theorem dX8_merges_191 : decode cX8_merges 191 = .ok (.aload_n 0, 1) := by decide +kernel
theorem dX8_merges_192 : decode cX8_merges 192 = .ok (.iload_n 3, 1) := by decide +kernel
theorem dX8_merges_193 : decode cX8_merges 193 = .ok (.invokevirtual 249, 3) := by decide +kernel
theorem dX8_merges_196 : decode cX8_merges 196 = .ok (.ireturn, 1) := by decide +kernel
theorem dX8_picks_0 : decode cX8_picks 0 = .ok (.aload_n 0, 1) := by decide +kernel
theorem dX8_picks_1 : decode cX8_picks 1 = .ok (.iconst 0, 1) := by decide +kernel
theorem dX8_picks_2 : decode cX8_picks 2 = .ok (.putfield 55, 3) := by decide +kernel
theorem dX8_picks_5 : decode cX8_picks 5 = .ok (.iload_n 1, 1) := by decide +kernel
theorem dX8_picks_6 : decode cX8_picks 6 = .ok (.invokestatic 134, 3) := by decide +kernel
theorem dX8_picks_9 : decode cX8_picks 9 = .ok (.ifCond .eq 25, 3) := by decide +kernel
theorem dX8_picks_12 : decode cX8_picks 12 = .ok (.iload_n 2, 1) := by decide +kernel
theorem dX8_picks_13 : decode cX8_picks 13 = .ok (.invokestatic 163, 3) := by decide +kernel
theorem dX8_picks_16 : decode cX8_picks 16 = .ok (.ifCond .eq 18, 3) := by decide +kernel
theorem dX8_picks_19 : decode cX8_picks 19 = .ok (.iload_n 3, 1) := by decide +kernel
theorem dX8_picks_20 : decode cX8_picks 20 = .ok (.invokestatic 163, 3) := by decide +kernel
theorem dX8_picks_23 : decode cX8_picks 23 = .ok (.ifCond .eq 11, 3) := by decide +kernel
theorem dX8_picks_26 : decode cX8_picks 26 = .ok (.iload 4, 2) := by decide +kernel
theorem dX8_picks_28 : decode cX8_picks 28 = .ok (.invokestatic 134, 3) := by decide +kernel
theorem dX8_picks_31 : decode cX8_picks 31 = .ok (.ifCond .ne 5, 3) := by decide +kernel
theorem dX8_picks_34 : decode cX8_picks 34 = .ok (.iconst (-1), 1) := by decide +kernel
theorem dX8_picks_35 : decode cX8_picks 35 = .ok (.ireturn, 1) := by decide +kernel
theorem dX8_picks_36 : decode cX8_picks 36 = .ok (.aload_n 0, 1) := by decide +kernel
theorem dX8_picks_37 : decode cX8_picks 37 = .ok (.getfield 16, 3) := by decide +kernel
theorem dX8_picks_40 : decode cX8_picks 40 = .ok (.bipush 7, 2) := by decide +kernel
theorem dX8_picks_42 : decode cX8_picks 42 = .ok (.iconst 0, 1) := by decide +kernel
theorem dX8_picks_43 : decode cX8_picks 43 = .ok (.iastore, 1) := by decide +kernel
theorem dX8_picks_44 : decode cX8_picks 44 = .ok (.iconst 0, 1) := by decide +kernel
theorem dX8_picks_45 : decode cX8_picks 45 = .ok (.istore 5, 2) := by decide +kernel
theorem dX8_picks_47 : decode cX8_picks 47 = .ok (.iload 5, 2) := by decide +kernel
theorem dX8_picks_49 : decode cX8_picks 49 = .ok (.aload_n 0, 1) := by decide +kernel
theorem dX8_picks_50 : decode cX8_picks 50 = .ok (.getfield 16, 3) := by decide +kernel
theorem dX8_picks_53 : decode cX8_picks 53 = .ok (.iload_n 1, 1) := by decide +kernel
theorem dX8_picks_54 : decode cX8_picks 54 = .ok (.iaload, 1) := by decide +kernel
theorem dX8_picks_55 : decode cX8_picks 55 = .ok (.if_icmp .ge 38, 3) := by decide +kernel
theorem dX8_picks_58 : decode cX8_picks 58 = .ok (.aload_n 0, 1) := by decide +kernel
theorem dX8_picks_59 : decode cX8_picks 59 = .ok (.iload_n 1, 1) := by decide +kernel
theorem dX8_picks_60 : decode cX8_picks 60 = .ok (.iload 5, 2) := by decide +kernel
theorem dX8_picks_62 : decode cX8_picks 62 = .ok (.invokevirtual 99, 3) := by decide +kernel
theorem dX8_picks_65 : decode cX8_picks 65 = .ok (.i2l, 1) := by decide +kernel
theorem dX8_picks_66 : decode cX8_picks 66 = .ok (.iload_n 2, 1) := by decide +kernel
theorem dX8_picks_67 : decode cX8_picks 67 = .ok (.i2l, 1) := by decide +kernel
theorem dX8_picks_68 : decode cX8_picks 68 = .ok (.iload_n 3, 1) := by decide +kernel
theorem dX8_picks_69 : decode cX8_picks 69 = .ok (.i2l, 1) := by decide +kernel
theorem dX8_picks_70 : decode cX8_picks 70 = .ok (.invokestatic 65, 3) := by decide +kernel
theorem dX8_picks_73 : decode cX8_picks 73 = .ok (.ifCond .eq 14, 3) := by decide +kernel
theorem dX8_picks_76 : decode cX8_picks 76 = .ok (.aload_n 0, 1) := by decide +kernel
theorem dX8_picks_77 : decode cX8_picks 77 = .ok (.aload_n 0, 1) := by decide +kernel
theorem dX8_picks_78 : decode cX8_picks 78 = .ok (.iload_n 1, 1) := by decide +kernel
theorem dX8_picks_79 : decode cX8_picks 79 = .ok (.iload 5, 2) := by decide +kernel
theorem dX8_picks_81 : decode cX8_picks 81 = .ok (.invokevirtual 99, 3) := by decide +kernel
theorem dX8_picks_84 : decode cX8_picks 84 = .ok (.invokevirtual 246, 3) := by decide +kernel
theorem dX8_picks_87 : decode cX8_picks 87 = .ok (.iinc 5 1, 3) := by decide +kernel
theorem dX8_picks_90 : decode cX8_picks 90 = .ok (.goto (-43), 3) := by decide +kernel
theorem dX8_picks_93 : decode cX8_picks 93 = .ok (.aload_n 0, 1) := by decide +kernel
theorem dX8_picks_94 : decode cX8_picks 94 = .ok (.iload 4, 2) := by decide +kernel
theorem dX8_picks_96 : decode cX8_picks 96 = .ok (.invokevirtual 249, 3) := by decide +kernel
theorem dX8_picks_99 : decode cX8_picks 99 = .ok (.ireturn, 1) := by decide +kernel
theorem dX8_mirrored_0 : decode cX8_mirrored 0 = .ok (.iconst 0, 1) := by decide +kernel
theorem dX8_mirrored_1 : decode cX8_mirrored 1 = .ok (.istore_n 1, 1) := by decide +kernel
theorem dX8_mirrored_2 : decode cX8_mirrored 2 = .ok (.iconst 1, 1) := by decide +kernel
theorem dX8_mirrored_3 : decode cX8_mirrored 3 = .ok (.istore_n 2, 1) := by decide +kernel
theorem dX8_mirrored_4 : decode cX8_mirrored 4 = .ok (.iload_n 0, 1) := by decide +kernel
theorem dX8_mirrored_5 : decode cX8_mirrored 5 = .ok (.istore_n 3, 1) := by decide +kernel
theorem dX8_mirrored_6 : decode cX8_mirrored 6 = .ok (.iload_n 3, 1) := by decide +kernel
theorem dX8_mirrored_7 : decode cX8_mirrored 7 = .ok (.ifCond .le 57, 3) := by decide +kernel
theorem dX8_mirrored_10 : decode cX8_mirrored 10 = .ok (.iload_n 3, 1) := by decide +kernel
theorem dX8_mirrored_11 : decode cX8_mirrored 11 = .ok (.iconst 2, 1) := by decide +kernel
theorem dX8_mirrored_12 : decode cX8_mirrored 12 = .ok (.irem, 1) := by decide +kernel
theorem dX8_mirrored_13 : decode cX8_mirrored 13 = .ok (.ifCond .ne 7, 3) := by decide +kernel
theorem dX8_mirrored_16 : decode cX8_mirrored 16 = .ok (.iconst 1, 1) := by decide +kernel
theorem dX8_mirrored_17 : decode cX8_mirrored 17 = .ok (.goto 4, 3) := by decide +kernel
theorem dX8_mirrored_20 : decode cX8_mirrored 20 = .ok (.iconst 0, 1) := by decide +kernel
theorem dX8_mirrored_21 : decode cX8_mirrored 21 = .ok (.istore 4, 2) := by decide +kernel
theorem dX8_mirrored_23 : decode cX8_mirrored 23 = .ok (.iload_n 1, 1) := by decide +kernel
theorem dX8_mirrored_24 : decode cX8_mirrored 24 = .ok (.iload 4, 2) := by decide +kernel
theorem dX8_mirrored_26 : decode cX8_mirrored 26 = .ok (.ifCond .eq 7, 3) := by decide +kernel
theorem dX8_mirrored_29 : decode cX8_mirrored 29 = .ok (.iload_n 2, 1) := by decide +kernel
theorem dX8_mirrored_30 : decode cX8_mirrored 30 = .ok (.goto 6, 3) := by decide +kernel
theorem dX8_mirrored_33 : decode cX8_mirrored 33 = .ok (.iconst 2, 1) := by decide +kernel
theorem dX8_mirrored_34 : decode cX8_mirrored 34 = .ok (.iload_n 2, 1) := by decide +kernel
theorem dX8_mirrored_35 : decode cX8_mirrored 35 = .ok (.imul, 1) := by decide +kernel
theorem dX8_mirrored_36 : decode cX8_mirrored 36 = .ok (.iadd, 1) := by decide +kernel
theorem dX8_mirrored_37 : decode cX8_mirrored 37 = .ok (.istore_n 1, 1) := by decide +kernel
theorem dX8_mirrored_38 : decode cX8_mirrored 38 = .ok (.iload 4, 2) := by decide +kernel
theorem dX8_mirrored_40 : decode cX8_mirrored 40 = .ok (.ifCond .eq 11, 3) := by decide +kernel
theorem dX8_mirrored_43 : decode cX8_mirrored 43 = .ok (.iload_n 3, 1) := by decide +kernel
theorem dX8_mirrored_44 : decode cX8_mirrored 44 = .ok (.iconst 2, 1) := by decide +kernel
theorem dX8_mirrored_45 : decode cX8_mirrored 45 = .ok (.isub, 1) := by decide +kernel
theorem dX8_mirrored_46 : decode cX8_mirrored 46 = .ok (.iconst 2, 1) := by decide +kernel
theorem dX8_mirrored_47 : decode cX8_mirrored 47 = .ok (.idiv, 1) := by decide +kernel
theorem dX8_mirrored_48 : decode cX8_mirrored 48 = .ok (.goto 8, 3) := by decide +kernel
theorem dX8_mirrored_51 : decode cX8_mirrored 51 = .ok (.iload_n 3, 1) := by decide +kernel
theorem dX8_mirrored_52 : decode cX8_mirrored 52 = .ok (.iconst 1, 1) := by decide +kernel
theorem dX8_mirrored_53 : decode cX8_mirrored 53 = .ok (.isub, 1) := by decide +kernel
theorem dX8_mirrored_54 : decode cX8_mirrored 54 = .ok (.iconst 2, 1) := by decide +kernel
theorem dX8_mirrored_55 : decode cX8_mirrored 55 = .ok (.idiv, 1) := by decide +kernel
theorem dX8_mirrored_56 : decode cX8_mirrored 56 = .ok (.istore_n 3, 1) := by decide +kernel
theorem dX8_mirrored_57 : decode cX8_mirrored 57 = .ok (.iload_n 2, 1) := by decide +kernel
theorem dX8_mirrored_58 : decode cX8_mirrored 58 = .ok (.iconst 2, 1) := by decide +kernel
theorem dX8_mirrored_59 : decode cX8_mirrored 59 = .ok (.imul, 1) := by decide +kernel
theorem dX8_mirrored_60 : decode cX8_mirrored 60 = .ok (.istore_n 2, 1) := by decide +kernel
theorem dX8_mirrored_61 : decode cX8_mirrored 61 = .ok (.goto (-55), 3) := by decide +kernel
theorem dX8_mirrored_64 : decode cX8_mirrored 64 = .ok (.iload_n 1, 1) := by decide +kernel
theorem dX8_mirrored_65 : decode cX8_mirrored 65 = .ok (.ireturn, 1) := by decide +kernel
theorem dX8_mirrors_0 : decode cX8_mirrors 0 = .ok (.aload_n 0, 1) := by decide +kernel
theorem dX8_mirrors_1 : decode cX8_mirrors 1 = .ok (.iconst 0, 1) := by decide +kernel
theorem dX8_mirrors_2 : decode cX8_mirrors 2 = .ok (.putfield 55, 3) := by decide +kernel
theorem dX8_mirrors_5 : decode cX8_mirrors 5 = .ok (.iload_n 1, 1) := by decide +kernel
theorem dX8_mirrors_6 : decode cX8_mirrors 6 = .ok (.invokestatic 134, 3) := by decide +kernel
theorem dX8_mirrors_9 : decode cX8_mirrors 9 = .ok (.ifCond .eq 10, 3) := by decide +kernel
theorem dX8_mirrors_12 : decode cX8_mirrors 12 = .ok (.iload_n 2, 1) := by decide +kernel
theorem dX8_mirrors_13 : decode cX8_mirrors 13 = .ok (.invokestatic 134, 3) := by decide +kernel
theorem dX8_mirrors_16 : decode cX8_mirrors 16 = .ok (.ifCond .ne 5, 3) := by decide +kernel
theorem dX8_mirrors_19 : decode cX8_mirrors 19 = .ok (.iconst (-1), 1) := by decide +kernel
theorem dX8_mirrors_20 : decode cX8_mirrors 20 = .ok (.ireturn, 1) := by decide +kernel
theorem dX8_mirrors_21 : decode cX8_mirrors 21 = .ok (.aload_n 0, 1) := by decide +kernel
theorem dX8_mirrors_22 : decode cX8_mirrors 22 = .ok (.getfield 16, 3) := by decide +kernel
theorem dX8_mirrors_25 : decode cX8_mirrors 25 = .ok (.iload_n 1, 1) := by decide +kernel
theorem dX8_mirrors_26 : decode cX8_mirrors 26 = .ok (.iaload, 1) := by decide +kernel
theorem dX8_mirrors_27 : decode cX8_mirrors 27 = .ok (.aload_n 0, 1) := by decide +kernel
theorem dX8_mirrors_28 : decode cX8_mirrors 28 = .ok (.getfield 16, 3) := by decide +kernel
theorem dX8_mirrors_31 : decode cX8_mirrors 31 = .ok (.iload_n 1, 1) := by decide +kernel
theorem dX8_mirrors_32 : decode cX8_mirrors 32 = .ok (.iaload, 1) := by decide +kernel
theorem dX8_mirrors_33 : decode cX8_mirrors 33 = .ok (.iconst 1, 1) := by decide +kernel
theorem dX8_mirrors_34 : decode cX8_mirrors 34 = .ok (.iadd, 1) := by decide +kernel
theorem dX8_mirrors_35 : decode cX8_mirrors 35 = .ok (.iand, 1) := by decide +kernel
theorem dX8_mirrors_36 : decode cX8_mirrors 36 = .ok (.ifCond .eq 6, 3) := by decide +kernel
theorem dX8_mirrors_39 : decode cX8_mirrors 39 = .ok (.bipush (-2), 2) := by decide +kernel
theorem dX8_mirrors_41 : decode cX8_mirrors 41 = .ok (.ireturn, 1) := by decide +kernel
theorem dX8_mirrors_42 : decode cX8_mirrors 42 = .ok (.aload_n 0, 1) := by decide +kernel
theorem dX8_mirrors_43 : decode cX8_mirrors 43 = .ok (.iload_n 1, 1) := by decide +kernel
theorem dX8_mirrors_44 : decode cX8_mirrors 44 = .ok (.invokevirtual 176, 3) := by decide +kernel
theorem dX8_mirrors_47 : decode cX8_mirrors 47 = .ok (.iconst 0, 1) := by decide +kernel
theorem dX8_mirrors_48 : decode cX8_mirrors 48 = .ok (.istore_n 3, 1) := by decide +kernel
theorem dX8_mirrors_49 : decode cX8_mirrors 49 = .ok (.iload_n 3, 1) := by decide +kernel
theorem dX8_mirrors_50 : decode cX8_mirrors 50 = .ok (.aload_n 0, 1) := by decide +kernel
theorem dX8_mirrors_51 : decode cX8_mirrors 51 = .ok (.getfield 16, 3) := by decide +kernel
theorem dX8_mirrors_54 : decode cX8_mirrors 54 = .ok (.bipush 7, 2) := by decide +kernel
theorem dX8_mirrors_56 : decode cX8_mirrors 56 = .ok (.iaload, 1) := by decide +kernel
theorem dX8_mirrors_57 : decode cX8_mirrors 57 = .ok (.if_icmp .ge 29, 3) := by decide +kernel
theorem dX8_mirrors_60 : decode cX8_mirrors 60 = .ok (.aload_n 0, 1) := by decide +kernel
theorem dX8_mirrors_61 : decode cX8_mirrors 61 = .ok (.getfield 7, 3) := by decide +kernel
theorem dX8_mirrors_64 : decode cX8_mirrors 64 = .ok (.sipush 1792, 3) := by decide +kernel
theorem dX8_mirrors_67 : decode cX8_mirrors 67 = .ok (.iload_n 3, 1) := by decide +kernel
theorem dX8_mirrors_68 : decode cX8_mirrors 68 = .ok (.invokestatic 252, 3) := by decide +kernel
theorem dX8_mirrors_71 : decode cX8_mirrors 71 = .ok (.iadd, 1) := by decide +kernel
theorem dX8_mirrors_72 : decode cX8_mirrors 72 = .ok (.aload_n 0, 1) := by decide +kernel
theorem dX8_mirrors_73 : decode cX8_mirrors 73 = .ok (.bipush 6, 2) := by decide +kernel
theorem dX8_mirrors_75 : decode cX8_mirrors 75 = .ok (.iload_n 3, 1) := by decide +kernel
theorem dX8_mirrors_76 : decode cX8_mirrors 76 = .ok (.invokevirtual 99, 3) := by decide +kernel
theorem dX8_mirrors_79 : decode cX8_mirrors 79 = .ok (.iastore, 1) := by decide +kernel
theorem dX8_mirrors_80 : decode cX8_mirrors 80 = .ok (.iinc 3 1, 3) := by decide +kernel
theorem dX8_mirrors_83 : decode cX8_mirrors 83 = .ok (.goto (-34), 3) := by decide +kernel
theorem dX8_mirrors_86 : decode cX8_mirrors 86 = .ok (.aload_n 0, 1) := by decide +kernel
theorem dX8_mirrors_87 : decode cX8_mirrors 87 = .ok (.iload_n 2, 1) := by decide +kernel
theorem dX8_mirrors_88 : decode cX8_mirrors 88 = .ok (.invokevirtual 249, 3) := by decide +kernel
theorem dX8_mirrors_91 : decode cX8_mirrors 91 = .ok (.ireturn, 1) := by decide +kernel
theorem dX8_above_0 : decode cX8_above 0 = .ok (.aload_n 0, 1) := by decide +kernel
theorem dX8_above_1 : decode cX8_above 1 = .ok (.iload_n 1, 1) := by decide +kernel
theorem dX8_above_2 : decode cX8_above 2 = .ok (.invokevirtual 95, 3) := by decide +kernel
theorem dX8_above_5 : decode cX8_above 5 = .ok (.aload_n 0, 1) := by decide +kernel
theorem dX8_above_6 : decode cX8_above 6 = .ok (.getfield 27, 3) := by decide +kernel
theorem dX8_above_9 : decode cX8_above 9 = .ok (.aload_n 0, 1) := by decide +kernel
theorem dX8_above_10 : decode cX8_above 10 = .ok (.getfield 89, 3) := by decide +kernel
theorem dX8_above_13 : decode cX8_above 13 = .ok (.iconst 2, 1) := by decide +kernel
theorem dX8_above_14 : decode cX8_above 14 = .ok (.isub, 1) := by decide +kernel
theorem dX8_above_15 : decode cX8_above 15 = .ok (.iaload, 1) := by decide +kernel
theorem dX8_above_16 : decode cX8_above 16 = .ok (.ireturn, 1) := by decide +kernel
theorem dX8_heap_0 : decode cX8_heap 0 = .ok (.aload_n 0, 1) := by decide +kernel
theorem dX8_heap_1 : decode cX8_heap 1 = .ok (.iconst 0, 1) := by decide +kernel
theorem dX8_heap_2 : decode cX8_heap 2 = .ok (.putfield 55, 3) := by decide +kernel
theorem dX8_heap_5 : decode cX8_heap 5 = .ok (.iload_n 1, 1) := by decide +kernel
theorem dX8_heap_6 : decode cX8_heap 6 = .ok (.invokestatic 134, 3) := by decide +kernel
theorem dX8_heap_9 : decode cX8_heap 9 = .ok (.ifCond .ne 5, 3) := by decide +kernel
theorem dX8_heap_12 : decode cX8_heap 12 = .ok (.iconst (-1), 1) := by decide +kernel
theorem dX8_heap_13 : decode cX8_heap 13 = .ok (.ireturn, 1) := by decide +kernel
theorem dX8_heap_14 : decode cX8_heap 14 = .ok (.iconst (-1), 1) := by decide +kernel
theorem dX8_heap_15 : decode cX8_heap 15 = .ok (.istore_n 2, 1) := by decide +kernel
theorem dX8_heap_16 : decode cX8_heap 16 = .ok (.aload_n 0, 1) := by decide +kernel
theorem dX8_heap_17 : decode cX8_heap 17 = .ok (.getfield 16, 3) := by decide +kernel
theorem dX8_heap_20 : decode cX8_heap 20 = .ok (.iload_n 1, 1) := by decide +kernel
theorem dX8_heap_21 : decode cX8_heap 21 = .ok (.iaload, 1) := by decide +kernel
theorem dX8_heap_22 : decode cX8_heap 22 = .ok (.iconst 1, 1) := by decide +kernel
theorem dX8_heap_23 : decode cX8_heap 23 = .ok (.isub, 1) := by decide +kernel
theorem dX8_heap_24 : decode cX8_heap 24 = .ok (.istore_n 3, 1) := by decide +kernel
theorem dX8_heap_25 : decode cX8_heap 25 = .ok (.iload_n 3, 1) := by decide +kernel
theorem dX8_heap_26 : decode cX8_heap 26 = .ok (.ifCond .le 30, 3) := by decide +kernel
theorem dX8_heap_29 : decode cX8_heap 29 = .ok (.aload_n 0, 1) := by decide +kernel
theorem dX8_heap_30 : decode cX8_heap 30 = .ok (.iload_n 1, 1) := by decide +kernel
theorem dX8_heap_31 : decode cX8_heap 31 = .ok (.iload_n 3, 1) := by decide +kernel
theorem dX8_heap_32 : decode cX8_heap 32 = .ok (.invokevirtual 99, 3) := by decide +kernel
theorem dX8_heap_35 : decode cX8_heap 35 = .ok (.aload_n 0, 1) := by decide +kernel
theorem dX8_heap_36 : decode cX8_heap 36 = .ok (.iload_n 1, 1) := by decide +kernel
theorem dX8_heap_37 : decode cX8_heap 37 = .ok (.aload_n 0, 1) := by decide +kernel
theorem dX8_heap_38 : decode cX8_heap 38 = .ok (.iload_n 3, 1) := by decide +kernel
theorem dX8_heap_39 : decode cX8_heap 39 = .ok (.invokevirtual 255, 3) := by decide +kernel
theorem dX8_heap_42 : decode cX8_heap 42 = .ok (.invokevirtual 99, 3) := by decide +kernel
theorem dX8_heap_45 : decode cX8_heap 45 = .ok (.if_icmp .ge 5, 3) := by decide +kernel
theorem dX8_heap_48 : decode cX8_heap 48 = .ok (.iload_n 3, 1) := by decide +kernel
theorem dX8_heap_49 : decode cX8_heap 49 = .ok (.istore_n 2, 1) := by decide +kernel
theorem dX8_heap_50 : decode cX8_heap 50 = .ok (.iinc 3 (-1), 3) := by decide +kernel
theorem dX8_heap_53 : decode cX8_heap 53 = .ok (.goto (-28), 3) := by decide +kernel
theorem dX8_heap_56 : decode cX8_heap 56 = .ok (.aload_n 0, 1) := by decide +kernel
theorem dX8_heap_57 : decode cX8_heap 57 = .ok (.iconst 0, 1) := by decide +kernel
theorem dX8_heap_58 : decode cX8_heap 58 = .ok (.putfield 59, 3) := by decide +kernel
theorem dX8_heap_61 : decode cX8_heap 61 = .ok (.aload_n 0, 1) := by decide +kernel
theorem dX8_heap_62 : decode cX8_heap 62 = .ok (.iload_n 2, 1) := by decide +kernel
theorem dX8_heap_63 : decode cX8_heap 63 = .ok (.i2l, 1) := by decide +kernel
theorem dX8_heap_64 : decode cX8_heap 64 = .ok (.invokevirtual 150, 3) := by decide +kernel
theorem dX8_heap_67 : decode cX8_heap 67 = .ok (.iload_n 2, 1) := by decide +kernel
theorem dX8_heap_68 : decode cX8_heap 68 = .ok (.iconst (-1), 1) := by decide +kernel
theorem dX8_heap_69 : decode cX8_heap 69 = .ok (.if_icmp .ne 7, 3) := by decide +kernel
theorem dX8_heap_72 : decode cX8_heap 72 = .ok (.iconst 1, 1) := by decide +kernel
theorem dX8_heap_73 : decode cX8_heap 73 = .ok (.goto 4, 3) := by decide +kernel
theorem dX8_heap_76 : decode cX8_heap 76 = .ok (.iconst 0, 1) := by decide +kernel
theorem dX8_heap_77 : decode cX8_heap 77 = .ok (.ireturn, 1) := by decide +kernel
theorem dX8_pushes_0 : decode cX8_pushes 0 = .ok (.iload_n 3, 1) := by decide +kernel
theorem dX8_pushes_1 : decode cX8_pushes 1 = .ok (.ifCond .ne 14, 3) := by decide +kernel
theorem dX8_pushes_4 : decode cX8_pushes 4 = .ok (.aload_n 0, 1) := by decide +kernel
theorem dX8_pushes_5 : decode cX8_pushes 5 = .ok (.bipush 7, 2) := by decide +kernel
theorem dX8_pushes_7 : decode cX8_pushes 7 = .ok (.iload 4, 2) := by decide +kernel
theorem dX8_pushes_9 : decode cX8_pushes 9 = .ok (.iload 6, 2) := by decide +kernel
theorem dX8_pushes_11 : decode cX8_pushes 11 = .ok (.invokevirtual 103, 3) := by decide +kernel
theorem dX8_pushes_14 : decode cX8_pushes 14 = .ok (.return_, 1) := by decide +kernel
theorem dX8_pushes_15 : decode cX8_pushes 15 = .ok (.aload_n 0, 1) := by decide +kernel
theorem dX8_pushes_16 : decode cX8_pushes 16 = .ok (.bipush 6, 2) := by decide +kernel
theorem dX8_pushes_18 : decode cX8_pushes 18 = .ok (.iload_n 1, 1) := by decide +kernel
theorem dX8_pushes_19 : decode cX8_pushes 19 = .ok (.invokevirtual 99, 3) := by decide +kernel
theorem dX8_pushes_22 : decode cX8_pushes 22 = .ok (.istore 7, 2) := by decide +kernel
theorem dX8_pushes_24 : decode cX8_pushes 24 = .ok (.aload_n 0, 1) := by decide +kernel
theorem dX8_pushes_25 : decode cX8_pushes 25 = .ok (.bipush 7, 2) := by decide +kernel
theorem dX8_pushes_27 : decode cX8_pushes 27 = .ok (.iload 4, 2) := by decide +kernel
theorem dX8_pushes_29 : decode cX8_pushes 29 = .ok (.iload 6, 2) := by decide +kernel
theorem dX8_pushes_31 : decode cX8_pushes 31 = .ok (.iload 7, 2) := by decide +kernel
theorem dX8_pushes_33 : decode cX8_pushes 33 = .ok (.invokestatic 229, 3) := by decide +kernel
theorem dX8_pushes_36 : decode cX8_pushes 36 = .ok (.invokevirtual 103, 3) := by decide +kernel
theorem dX8_pushes_39 : decode cX8_pushes 39 = .ok (.aload_n 0, 1) := by decide +kernel
theorem dX8_pushes_40 : decode cX8_pushes 40 = .ok (.bipush 6, 2) := by decide +kernel
theorem dX8_pushes_42 : decode cX8_pushes 42 = .ok (.iload_n 1, 1) := by decide +kernel
theorem dX8_pushes_43 : decode cX8_pushes 43 = .ok (.iload_n 2, 1) := by decide +kernel
theorem dX8_pushes_44 : decode cX8_pushes 44 = .ok (.iadd, 1) := by decide +kernel
theorem dX8_pushes_45 : decode cX8_pushes 45 = .ok (.iconst 2, 1) := by decide +kernel
theorem dX8_pushes_46 : decode cX8_pushes 46 = .ok (.iload_n 2, 1) := by decide +kernel
theorem dX8_pushes_47 : decode cX8_pushes 47 = .ok (.imul, 1) := by decide +kernel
theorem dX8_pushes_48 : decode cX8_pushes 48 = .ok (.iload_n 3, 1) := by decide +kernel
theorem dX8_pushes_49 : decode cX8_pushes 49 = .ok (.invokestatic 169, 3) := by decide +kernel
theorem dX8_pushes_52 : decode cX8_pushes 52 = .ok (.bipush 7, 2) := by decide +kernel
theorem dX8_pushes_54 : decode cX8_pushes 54 = .ok (.iload 4, 2) := by decide +kernel
theorem dX8_pushes_56 : decode cX8_pushes 56 = .ok (.iconst 2, 1) := by decide +kernel
theorem dX8_pushes_57 : decode cX8_pushes 57 = .ok (.iload 5, 2) := by decide +kernel
theorem dX8_pushes_59 : decode cX8_pushes 59 = .ok (.imul, 1) := by decide +kernel
theorem dX8_pushes_60 : decode cX8_pushes 60 = .ok (.iadd, 1) := by decide +kernel
theorem dX8_pushes_61 : decode cX8_pushes 61 = .ok (.iconst 2, 1) := by decide +kernel
theorem dX8_pushes_62 : decode cX8_pushes 62 = .ok (.iload 5, 2) := by decide +kernel
theorem dX8_pushes_64 : decode cX8_pushes 64 = .ok (.imul, 1) := by decide +kernel
theorem dX8_pushes_65 : decode cX8_pushes 65 = .ok (.invokevirtual 78, 3) := by decide +kernel
theorem dX8_pushes_68 : decode cX8_pushes 68 = .ok (.aload_n 0, 1) := by decide +kernel
theorem dX8_pushes_69 : decode cX8_pushes 69 = .ok (.iload_n 1, 1) := by decide +kernel
theorem dX8_pushes_70 : decode cX8_pushes 70 = .ok (.iconst 2, 1) := by decide +kernel
theorem dX8_pushes_71 : decode cX8_pushes 71 = .ok (.iload_n 2, 1) := by decide +kernel
theorem dX8_pushes_72 : decode cX8_pushes 72 = .ok (.imul, 1) := by decide +kernel
theorem dX8_pushes_73 : decode cX8_pushes 73 = .ok (.iadd, 1) := by decide +kernel
theorem dX8_pushes_74 : decode cX8_pushes 74 = .ok (.iconst 2, 1) := by decide +kernel
theorem dX8_pushes_75 : decode cX8_pushes 75 = .ok (.iload_n 2, 1) := by decide +kernel
theorem dX8_pushes_76 : decode cX8_pushes 76 = .ok (.imul, 1) := by decide +kernel
theorem dX8_pushes_77 : decode cX8_pushes 77 = .ok (.iload_n 3, 1) := by decide +kernel
theorem dX8_pushes_78 : decode cX8_pushes 78 = .ok (.invokestatic 173, 3) := by decide +kernel
theorem dX8_pushes_81 : decode cX8_pushes 81 = .ok (.iload 4, 2) := by decide +kernel
theorem dX8_pushes_83 : decode cX8_pushes 83 = .ok (.iload 5, 2) := by decide +kernel
theorem dX8_pushes_85 : decode cX8_pushes 85 = .ok (.iadd, 1) := by decide +kernel
theorem dX8_pushes_86 : decode cX8_pushes 86 = .ok (.iconst 2, 1) := by decide +kernel
theorem dX8_pushes_87 : decode cX8_pushes 87 = .ok (.iload 5, 2) := by decide +kernel
theorem dX8_pushes_89 : decode cX8_pushes 89 = .ok (.imul, 1) := by decide +kernel
theorem dX8_pushes_90 : decode cX8_pushes 90 = .ok (.iload 6, 2) := by decide +kernel
theorem dX8_pushes_92 : decode cX8_pushes 92 = .ok (.iload 7, 2) := by decide +kernel
theorem dX8_pushes_94 : decode cX8_pushes 94 = .ok (.invokestatic 234, 3) := by decide +kernel
theorem dX8_pushes_97 : decode cX8_pushes 97 = .ok (.invokevirtual 258, 3) := by decide +kernel
theorem dX8_pushes_100 : decode cX8_pushes 100 = .ok (.return_, 1) := by decide +kernel
theorem dX8_goesPush_0 : decode cX8_goesPush 0 = .ok (.aload_n 0, 1) := by decide +kernel
theorem dX8_goesPush_1 : decode cX8_goesPush 1 = .ok (.bipush 7, 2) := by decide +kernel
theorem dX8_goesPush_3 : decode cX8_goesPush 3 = .ok (.bipush 6, 2) := by decide +kernel
theorem dX8_goesPush_5 : decode cX8_goesPush 5 = .ok (.invokevirtual 82, 3) := by decide +kernel
theorem dX8_goesPush_8 : decode cX8_goesPush 8 = .ok (.aload_n 0, 1) := by decide +kernel
theorem dX8_goesPush_9 : decode cX8_goesPush 9 = .ok (.iconst 0, 1) := by decide +kernel
theorem dX8_goesPush_10 : decode cX8_goesPush 10 = .ok (.iconst 1, 1) := by decide +kernel
theorem dX8_goesPush_11 : decode cX8_goesPush 11 = .ok (.aload_n 0, 1) := by decide +kernel
theorem dX8_goesPush_12 : decode cX8_goesPush 12 = .ok (.getfield 16, 3) := by decide +kernel
theorem dX8_goesPush_15 : decode cX8_goesPush 15 = .ok (.bipush 6, 2) := by decide +kernel
theorem dX8_goesPush_17 : decode cX8_goesPush 17 = .ok (.iaload, 1) := by decide +kernel
theorem dX8_goesPush_18 : decode cX8_goesPush 18 = .ok (.iconst 0, 1) := by decide +kernel
theorem dX8_goesPush_19 : decode cX8_goesPush 19 = .ok (.iconst 1, 1) := by decide +kernel
theorem dX8_goesPush_20 : decode cX8_goesPush 20 = .ok (.iload_n 1, 1) := by decide +kernel
theorem dX8_goesPush_21 : decode cX8_goesPush 21 = .ok (.invokevirtual 258, 3) := by decide +kernel
theorem dX8_goesPush_24 : decode cX8_goesPush 24 = .ok (.aload_n 0, 1) := by decide +kernel
theorem dX8_goesPush_25 : decode cX8_goesPush 25 = .ok (.getfield 16, 3) := by decide +kernel
theorem dX8_goesPush_28 : decode cX8_goesPush 28 = .ok (.bipush 7, 2) := by decide +kernel
theorem dX8_goesPush_30 : decode cX8_goesPush 30 = .ok (.dup2, 1) := by decide +kernel
theorem dX8_goesPush_31 : decode cX8_goesPush 31 = .ok (.iaload, 1) := by decide +kernel
theorem dX8_goesPush_32 : decode cX8_goesPush 32 = .ok (.iconst 1, 1) := by decide +kernel
theorem dX8_goesPush_33 : decode cX8_goesPush 33 = .ok (.iadd, 1) := by decide +kernel
theorem dX8_goesPush_34 : decode cX8_goesPush 34 = .ok (.iastore, 1) := by decide +kernel
theorem dX8_goesPush_35 : decode cX8_goesPush 35 = .ok (.return_, 1) := by decide +kernel
theorem dX8_push_0 : decode cX8_push 0 = .ok (.aload_n 0, 1) := by decide +kernel
theorem dX8_push_1 : decode cX8_push 1 = .ok (.iconst 0, 1) := by decide +kernel
theorem dX8_push_2 : decode cX8_push 2 = .ok (.putfield 55, 3) := by decide +kernel
theorem dX8_push_5 : decode cX8_push 5 = .ok (.iload_n 1, 1) := by decide +kernel
theorem dX8_push_6 : decode cX8_push 6 = .ok (.invokestatic 134, 3) := by decide +kernel
theorem dX8_push_9 : decode cX8_push 9 = .ok (.ifCond .eq 17, 3) := by decide +kernel
theorem dX8_push_12 : decode cX8_push 12 = .ok (.iload_n 2, 1) := by decide +kernel
theorem dX8_push_13 : decode cX8_push 13 = .ok (.invokestatic 163, 3) := by decide +kernel
theorem dX8_push_16 : decode cX8_push 16 = .ok (.ifCond .eq 10, 3) := by decide +kernel
theorem dX8_push_19 : decode cX8_push 19 = .ok (.iload_n 3, 1) := by decide +kernel
theorem dX8_push_20 : decode cX8_push 20 = .ok (.invokestatic 134, 3) := by decide +kernel
theorem dX8_push_23 : decode cX8_push 23 = .ok (.ifCond .ne 5, 3) := by decide +kernel
theorem dX8_push_26 : decode cX8_push 26 = .ok (.iconst (-1), 1) := by decide +kernel
theorem dX8_push_27 : decode cX8_push 27 = .ok (.ireturn, 1) := by decide +kernel
theorem dX8_push_28 : decode cX8_push 28 = .ok (.aload_n 0, 1) := by decide +kernel
theorem dX8_push_29 : decode cX8_push 29 = .ok (.getfield 16, 3) := by decide +kernel
theorem dX8_push_32 : decode cX8_push 32 = .ok (.iload_n 1, 1) := by decide +kernel
theorem dX8_push_33 : decode cX8_push 33 = .ok (.iaload, 1) := by decide +kernel
theorem dX8_push_34 : decode cX8_push 34 = .ok (.sipush 255, 3) := by decide +kernel
theorem dX8_push_37 : decode cX8_push 37 = .ok (.if_icmp .ne 6, 3) := by decide +kernel
theorem dX8_push_40 : decode cX8_push 40 = .ok (.bipush (-2), 2) := by decide +kernel
theorem dX8_push_42 : decode cX8_push 42 = .ok (.ireturn, 1) := by decide +kernel
theorem dX8_push_43 : decode cX8_push 43 = .ok (.aload_n 0, 1) := by decide +kernel
theorem dX8_push_44 : decode cX8_push 44 = .ok (.iload_n 1, 1) := by decide +kernel
theorem dX8_push_45 : decode cX8_push 45 = .ok (.invokevirtual 176, 3) := by decide +kernel
theorem dX8_push_48 : decode cX8_push 48 = .ok (.aload_n 0, 1) := by decide +kernel
theorem dX8_push_49 : decode cX8_push 49 = .ok (.invokevirtual 166, 3) := by decide +kernel
theorem dX8_push_52 : decode cX8_push 52 = .ok (.aload_n 0, 1) := by decide +kernel
theorem dX8_push_53 : decode cX8_push 53 = .ok (.iload_n 2, 1) := by decide +kernel
theorem dX8_push_54 : decode cX8_push 54 = .ok (.invokevirtual 261, 3) := by decide +kernel
theorem dX8_push_57 : decode cX8_push 57 = .ok (.aload_n 0, 1) := by decide +kernel
theorem dX8_push_58 : decode cX8_push 58 = .ok (.iload_n 3, 1) := by decide +kernel
theorem dX8_push_59 : decode cX8_push 59 = .ok (.invokevirtual 205, 3) := by decide +kernel
theorem dX8_push_62 : decode cX8_push 62 = .ok (.ireturn, 1) := by decide +kernel
theorem dX8_lifts_0 : decode cX8_lifts 0 = .ok (.iload_n 3, 1) := by decide +kernel
theorem dX8_lifts_1 : decode cX8_lifts 1 = .ok (.iconst 1, 1) := by decide +kernel
theorem dX8_lifts_2 : decode cX8_lifts 2 = .ok (.if_icmp .ne 15, 3) := by decide +kernel
theorem dX8_lifts_5 : decode cX8_lifts 5 = .ok (.aload_n 0, 1) := by decide +kernel
theorem dX8_lifts_6 : decode cX8_lifts 6 = .ok (.aload_n 0, 1) := by decide +kernel
theorem dX8_lifts_7 : decode cX8_lifts 7 = .ok (.bipush 6, 2) := by decide +kernel
theorem dX8_lifts_9 : decode cX8_lifts 9 = .ok (.iload_n 1, 1) := by decide +kernel
theorem dX8_lifts_10 : decode cX8_lifts 10 = .ok (.invokevirtual 99, 3) := by decide +kernel
theorem dX8_lifts_13 : decode cX8_lifts 13 = .ok (.putfield 264, 3) := by decide +kernel
theorem dX8_lifts_16 : decode cX8_lifts 16 = .ok (.return_, 1) := by decide +kernel
theorem dX8_lifts_17 : decode cX8_lifts 17 = .ok (.aload_n 0, 1) := by decide +kernel
theorem dX8_lifts_18 : decode cX8_lifts 18 = .ok (.bipush 7, 2) := by decide +kernel
theorem dX8_lifts_20 : decode cX8_lifts 20 = .ok (.iload 4, 2) := by decide +kernel
theorem dX8_lifts_22 : decode cX8_lifts 22 = .ok (.aload_n 0, 1) := by decide +kernel
theorem dX8_lifts_23 : decode cX8_lifts 23 = .ok (.bipush 6, 2) := by decide +kernel
theorem dX8_lifts_25 : decode cX8_lifts 25 = .ok (.iload_n 1, 1) := by decide +kernel
theorem dX8_lifts_26 : decode cX8_lifts 26 = .ok (.invokevirtual 99, 3) := by decide +kernel
theorem dX8_lifts_29 : decode cX8_lifts 29 = .ok (.invokevirtual 103, 3) := by decide +kernel
theorem dX8_lifts_32 : decode cX8_lifts 32 = .ok (.aload_n 0, 1) := by decide +kernel
theorem dX8_lifts_33 : decode cX8_lifts 33 = .ok (.bipush 6, 2) := by decide +kernel
theorem dX8_lifts_35 : decode cX8_lifts 35 = .ok (.iload_n 1, 1) := by decide +kernel
theorem dX8_lifts_36 : decode cX8_lifts 36 = .ok (.iconst 2, 1) := by decide +kernel
theorem dX8_lifts_37 : decode cX8_lifts 37 = .ok (.iload_n 2, 1) := by decide +kernel
theorem dX8_lifts_38 : decode cX8_lifts 38 = .ok (.imul, 1) := by decide +kernel
theorem dX8_lifts_39 : decode cX8_lifts 39 = .ok (.iadd, 1) := by decide +kernel
theorem dX8_lifts_40 : decode cX8_lifts 40 = .ok (.iconst 2, 1) := by decide +kernel
theorem dX8_lifts_41 : decode cX8_lifts 41 = .ok (.iload_n 2, 1) := by decide +kernel
theorem dX8_lifts_42 : decode cX8_lifts 42 = .ok (.imul, 1) := by decide +kernel
theorem dX8_lifts_43 : decode cX8_lifts 43 = .ok (.iload_n 3, 1) := by decide +kernel
theorem dX8_lifts_44 : decode cX8_lifts 44 = .ok (.invokestatic 173, 3) := by decide +kernel
theorem dX8_lifts_47 : decode cX8_lifts 47 = .ok (.bipush 7, 2) := by decide +kernel
theorem dX8_lifts_49 : decode cX8_lifts 49 = .ok (.iload 4, 2) := by decide +kernel
theorem dX8_lifts_51 : decode cX8_lifts 51 = .ok (.iload 5, 2) := by decide +kernel
theorem dX8_lifts_53 : decode cX8_lifts 53 = .ok (.iadd, 1) := by decide +kernel
theorem dX8_lifts_54 : decode cX8_lifts 54 = .ok (.iconst 2, 1) := by decide +kernel
theorem dX8_lifts_55 : decode cX8_lifts 55 = .ok (.iload 5, 2) := by decide +kernel
theorem dX8_lifts_57 : decode cX8_lifts 57 = .ok (.imul, 1) := by decide +kernel
theorem dX8_lifts_58 : decode cX8_lifts 58 = .ok (.invokevirtual 78, 3) := by decide +kernel
theorem dX8_lifts_61 : decode cX8_lifts 61 = .ok (.aload_n 0, 1) := by decide +kernel
theorem dX8_lifts_62 : decode cX8_lifts 62 = .ok (.iload_n 1, 1) := by decide +kernel
theorem dX8_lifts_63 : decode cX8_lifts 63 = .ok (.iload_n 2, 1) := by decide +kernel
theorem dX8_lifts_64 : decode cX8_lifts 64 = .ok (.iadd, 1) := by decide +kernel
theorem dX8_lifts_65 : decode cX8_lifts 65 = .ok (.iconst 2, 1) := by decide +kernel
theorem dX8_lifts_66 : decode cX8_lifts 66 = .ok (.iload_n 2, 1) := by decide +kernel
theorem dX8_lifts_67 : decode cX8_lifts 67 = .ok (.imul, 1) := by decide +kernel
theorem dX8_lifts_68 : decode cX8_lifts 68 = .ok (.iload_n 3, 1) := by decide +kernel
theorem dX8_lifts_69 : decode cX8_lifts 69 = .ok (.invokestatic 169, 3) := by decide +kernel
theorem dX8_lifts_72 : decode cX8_lifts 72 = .ok (.iload 4, 2) := by decide +kernel
theorem dX8_lifts_74 : decode cX8_lifts 74 = .ok (.iconst 2, 1) := by decide +kernel
theorem dX8_lifts_75 : decode cX8_lifts 75 = .ok (.iload 5, 2) := by decide +kernel
theorem dX8_lifts_77 : decode cX8_lifts 77 = .ok (.imul, 1) := by decide +kernel
theorem dX8_lifts_78 : decode cX8_lifts 78 = .ok (.iadd, 1) := by decide +kernel
theorem dX8_lifts_79 : decode cX8_lifts 79 = .ok (.iconst 2, 1) := by decide +kernel
theorem dX8_lifts_80 : decode cX8_lifts 80 = .ok (.iload 5, 2) := by decide +kernel
theorem dX8_lifts_82 : decode cX8_lifts 82 = .ok (.imul, 1) := by decide +kernel
theorem dX8_lifts_83 : decode cX8_lifts 83 = .ok (.invokevirtual 267, 3) := by decide +kernel
theorem dX8_lifts_86 : decode cX8_lifts 86 = .ok (.return_, 1) := by decide +kernel
theorem dX8_sifts_0 : decode cX8_sifts 0 = .ok (.iconst 0, 1) := by decide +kernel
theorem dX8_sifts_1 : decode cX8_sifts 1 = .ok (.istore_n 2, 1) := by decide +kernel
theorem dX8_sifts_2 : decode cX8_sifts 2 = .ok (.iconst 1, 1) := by decide +kernel
theorem dX8_sifts_3 : decode cX8_sifts 3 = .ok (.istore_n 3, 1) := by decide +kernel
theorem dX8_sifts_4 : decode cX8_sifts 4 = .ok (.aload_n 0, 1) := by decide +kernel
theorem dX8_sifts_5 : decode cX8_sifts 5 = .ok (.getfield 16, 3) := by decide +kernel
theorem dX8_sifts_8 : decode cX8_sifts 8 = .ok (.bipush 7, 2) := by decide +kernel
theorem dX8_sifts_10 : decode cX8_sifts 10 = .ok (.iaload, 1) := by decide +kernel
theorem dX8_sifts_11 : decode cX8_sifts 11 = .ok (.istore 4, 2) := by decide +kernel
theorem dX8_sifts_13 : decode cX8_sifts 13 = .ok (.iconst 1, 1) := by decide +kernel
theorem dX8_sifts_14 : decode cX8_sifts 14 = .ok (.istore 5, 2) := by decide +kernel
theorem dX8_sifts_16 : decode cX8_sifts 16 = .ok (.iload 5, 2) := by decide +kernel
theorem dX8_sifts_18 : decode cX8_sifts 18 = .ok (.ifCond .eq 190, 3) := by decide +kernel
theorem dX8_sifts_21 : decode cX8_sifts 21 = .ok (.iload_n 2, 1) := by decide +kernel
theorem dX8_sifts_22 : decode cX8_sifts 22 = .ok (.iload_n 3, 1) := by decide +kernel
theorem dX8_sifts_23 : decode cX8_sifts 23 = .ok (.iadd, 1) := by decide +kernel
theorem dX8_sifts_24 : decode cX8_sifts 24 = .ok (.istore 6, 2) := by decide +kernel
theorem dX8_sifts_26 : decode cX8_sifts 26 = .ok (.iload_n 2, 1) := by decide +kernel
theorem dX8_sifts_27 : decode cX8_sifts 27 = .ok (.iconst 2, 1) := by decide +kernel
theorem dX8_sifts_28 : decode cX8_sifts 28 = .ok (.iload_n 3, 1) := by decide +kernel
theorem dX8_sifts_29 : decode cX8_sifts 29 = .ok (.imul, 1) := by decide +kernel
theorem dX8_sifts_30 : decode cX8_sifts 30 = .ok (.iadd, 1) := by decide +kernel
theorem dX8_sifts_31 : decode cX8_sifts 31 = .ok (.istore 7, 2) := by decide +kernel
theorem dX8_sifts_33 : decode cX8_sifts 33 = .ok (.iload 4, 2) := by decide +kernel
theorem dX8_sifts_35 : decode cX8_sifts 35 = .ok (.invokestatic 169, 3) := by decide +kernel
theorem dX8_sifts_38 : decode cX8_sifts 38 = .ok (.ifCond .le 7, 3) := by decide +kernel
theorem dX8_sifts_41 : decode cX8_sifts 41 = .ok (.iconst 1, 1) := by decide +kernel
theorem dX8_sifts_42 : decode cX8_sifts 42 = .ok (.goto 4, 3) := by decide +kernel
theorem dX8_sifts_45 : decode cX8_sifts 45 = .ok (.iconst 0, 1) := by decide +kernel
theorem dX8_sifts_46 : decode cX8_sifts 46 = .ok (.istore 8, 2) := by decide +kernel
theorem dX8_sifts_48 : decode cX8_sifts 48 = .ok (.iload 4, 2) := by decide +kernel
theorem dX8_sifts_50 : decode cX8_sifts 50 = .ok (.invokestatic 173, 3) := by decide +kernel
theorem dX8_sifts_53 : decode cX8_sifts 53 = .ok (.ifCond .le 7, 3) := by decide +kernel
theorem dX8_sifts_56 : decode cX8_sifts 56 = .ok (.iconst 1, 1) := by decide +kernel
theorem dX8_sifts_57 : decode cX8_sifts 57 = .ok (.goto 4, 3) := by decide +kernel
theorem dX8_sifts_60 : decode cX8_sifts 60 = .ok (.iconst 0, 1) := by decide +kernel
theorem dX8_sifts_61 : decode cX8_sifts 61 = .ok (.istore 9, 2) := by decide +kernel
theorem dX8_sifts_63 : decode cX8_sifts 63 = .ok (.iload 8, 2) := by decide +kernel
theorem dX8_sifts_65 : decode cX8_sifts 65 = .ok (.ifCond .eq 36, 3) := by decide +kernel
theorem dX8_sifts_68 : decode cX8_sifts 68 = .ok (.iload_n 1, 1) := by decide +kernel
theorem dX8_sifts_69 : decode cX8_sifts 69 = .ok (.aload_n 0, 1) := by decide +kernel
theorem dX8_sifts_70 : decode cX8_sifts 70 = .ok (.bipush 7, 2) := by decide +kernel
theorem dX8_sifts_72 : decode cX8_sifts 72 = .ok (.iload 6, 2) := by decide +kernel
theorem dX8_sifts_74 : decode cX8_sifts 74 = .ok (.invokevirtual 99, 3) := by decide +kernel
theorem dX8_sifts_77 : decode cX8_sifts 77 = .ok (.if_icmp .gt 20, 3) := by decide +kernel
theorem dX8_sifts_80 : decode cX8_sifts 80 = .ok (.iload 9, 2) := by decide +kernel
theorem dX8_sifts_82 : decode cX8_sifts 82 = .ok (.ifCond .eq 19, 3) := by decide +kernel
theorem dX8_sifts_85 : decode cX8_sifts 85 = .ok (.iload_n 1, 1) := by decide +kernel
theorem dX8_sifts_86 : decode cX8_sifts 86 = .ok (.aload_n 0, 1) := by decide +kernel
theorem dX8_sifts_87 : decode cX8_sifts 87 = .ok (.bipush 7, 2) := by decide +kernel
theorem dX8_sifts_89 : decode cX8_sifts 89 = .ok (.iload 7, 2) := by decide +kernel
theorem dX8_sifts_91 : decode cX8_sifts 91 = .ok (.invokevirtual 99, 3) := by decide +kernel
theorem dX8_sifts_94 : decode cX8_sifts 94 = .ok (.if_icmp .le 7, 3) := by decide +kernel
theorem dX8_sifts_97 : decode cX8_sifts 97 = .ok (.iconst 1, 1) := by decide +kernel
theorem dX8_sifts_98 : decode cX8_sifts 98 = .ok (.goto 4, 3) := by decide +kernel
theorem dX8_sifts_101 : decode cX8_sifts 101 = .ok (.iconst 0, 1) := by decide +kernel
theorem dX8_sifts_102 : decode cX8_sifts 102 = .ok (.istore 5, 2) := by decide +kernel
theorem dX8_sifts_104 : decode cX8_sifts 104 = .ok (.iload 9, 2) := by decide +kernel
theorem dX8_sifts_106 : decode cX8_sifts 106 = .ok (.ifCond .eq 27, 3) := by decide +kernel
theorem dX8_sifts_109 : decode cX8_sifts 109 = .ok (.iload 8, 2) := by decide +kernel
theorem dX8_sifts_111 : decode cX8_sifts 111 = .ok (.ifCond .eq 26, 3) := by decide +kernel
theorem dX8_sifts_114 : decode cX8_sifts 114 = .ok (.aload_n 0, 1) := by decide +kernel
theorem dX8_sifts_115 : decode cX8_sifts 115 = .ok (.bipush 7, 2) := by decide +kernel
theorem dX8_sifts_117 : decode cX8_sifts 117 = .ok (.iload 6, 2) := by decide +kernel
theorem dX8_sifts_119 : decode cX8_sifts 119 = .ok (.invokevirtual 99, 3) := by decide +kernel
theorem dX8_sifts_122 : decode cX8_sifts 122 = .ok (.aload_n 0, 1) := by decide +kernel
theorem dX8_sifts_123 : decode cX8_sifts 123 = .ok (.bipush 7, 2) := by decide +kernel
theorem dX8_sifts_125 : decode cX8_sifts 125 = .ok (.iload 7, 2) := by decide +kernel
theorem dX8_sifts_127 : decode cX8_sifts 127 = .ok (.invokevirtual 99, 3) := by decide +kernel
theorem dX8_sifts_130 : decode cX8_sifts 130 = .ok (.if_icmp .gt 7, 3) := by decide +kernel
theorem dX8_sifts_133 : decode cX8_sifts 133 = .ok (.iconst 1, 1) := by decide +kernel
theorem dX8_sifts_134 : decode cX8_sifts 134 = .ok (.goto 4, 3) := by decide +kernel
theorem dX8_sifts_137 : decode cX8_sifts 137 = .ok (.iconst 0, 1) := by decide +kernel
theorem dX8_sifts_138 : decode cX8_sifts 138 = .ok (.istore 10, 2) := by decide +kernel
theorem dX8_sifts_140 : decode cX8_sifts 140 = .ok (.iload 10, 2) := by decide +kernel
theorem dX8_sifts_142 : decode cX8_sifts 142 = .ok (.ifCond .eq 8, 3) := by decide +kernel
theorem dX8_sifts_145 : decode cX8_sifts 145 = .ok (.iload 6, 2) := by decide +kernel
theorem dX8_sifts_147 : decode cX8_sifts 147 = .ok (.goto 5, 3) := by decide +kernel
theorem dX8_sifts_150 : decode cX8_sifts 150 = .ok (.iload 7, 2) := by decide +kernel
theorem dX8_sifts_152 : decode cX8_sifts 152 = .ok (.istore 11, 2) := by decide +kernel
theorem dX8_sifts_154 : decode cX8_sifts 154 = .ok (.aload_n 0, 1) := by decide +kernel
theorem dX8_sifts_155 : decode cX8_sifts 155 = .ok (.bipush 7, 2) := by decide +kernel
theorem dX8_sifts_157 : decode cX8_sifts 157 = .ok (.iload_n 2, 1) := by decide +kernel
theorem dX8_sifts_158 : decode cX8_sifts 158 = .ok (.iload 5, 2) := by decide +kernel
theorem dX8_sifts_160 : decode cX8_sifts 160 = .ok (.ifCond .eq 14, 3) := by decide +kernel
theorem dX8_sifts_163 : decode cX8_sifts 163 = .ok (.aload_n 0, 1) := by decide +kernel
theorem dX8_sifts_164 : decode cX8_sifts 164 = .ok (.bipush 7, 2) := by decide +kernel
theorem dX8_sifts_166 : decode cX8_sifts 166 = .ok (.iload 11, 2) := by decide +kernel
theorem dX8_sifts_168 : decode cX8_sifts 168 = .ok (.invokevirtual 99, 3) := by decide +kernel
theorem dX8_sifts_171 : decode cX8_sifts 171 = .ok (.goto 4, 3) := by decide +kernel
theorem dX8_sifts_174 : decode cX8_sifts 174 = .ok (.iload_n 1, 1) := by decide +kernel
theorem dX8_sifts_175 : decode cX8_sifts 175 = .ok (.invokevirtual 103, 3) := by decide +kernel
theorem dX8_sifts_178 : decode cX8_sifts 178 = .ok (.iload 11, 2) := by decide +kernel
theorem dX8_sifts_180 : decode cX8_sifts 180 = .ok (.istore_n 2, 1) := by decide +kernel
theorem dX8_sifts_181 : decode cX8_sifts 181 = .ok (.iload_n 3, 1) := by decide +kernel
theorem dX8_sifts_182 : decode cX8_sifts 182 = .ok (.iconst 2, 1) := by decide +kernel
theorem dX8_sifts_183 : decode cX8_sifts 183 = .ok (.imul, 1) := by decide +kernel
theorem dX8_sifts_184 : decode cX8_sifts 184 = .ok (.istore_n 3, 1) := by decide +kernel
theorem dX8_sifts_185 : decode cX8_sifts 185 = .ok (.iload 10, 2) := by decide +kernel
theorem dX8_sifts_187 : decode cX8_sifts 187 = .ok (.ifCond .eq 11, 3) := by decide +kernel
theorem dX8_sifts_190 : decode cX8_sifts 190 = .ok (.iload 4, 2) := by decide +kernel
theorem dX8_sifts_192 : decode cX8_sifts 192 = .ok (.invokestatic 169, 3) := by decide +kernel
theorem dX8_sifts_195 : decode cX8_sifts 195 = .ok (.goto 8, 3) := by decide +kernel
theorem dX8_sifts_198 : decode cX8_sifts 198 = .ok (.iload 4, 2) := by decide +kernel
theorem dX8_sifts_200 : decode cX8_sifts 200 = .ok (.invokestatic 173, 3) := by decide +kernel
theorem dX8_sifts_203 : decode cX8_sifts 203 = .ok (.istore 4, 2) := by decide +kernel
theorem dX8_sifts_205 : decode cX8_sifts 205 = .ok (.goto (-189), 3) := by decide +kernel
theorem dX8_sifts_208 : decode cX8_sifts 208 = .ok (.return_, 1) := by decide +kernel
theorem dX8_pop_0 : decode cX8_pop 0 = .ok (.aload_n 0, 1) := by decide +kernel
theorem dX8_pop_1 : decode cX8_pop 1 = .ok (.iconst 0, 1) := by decide +kernel
theorem dX8_pop_2 : decode cX8_pop 2 = .ok (.putfield 55, 3) := by decide +kernel
theorem dX8_pop_5 : decode cX8_pop 5 = .ok (.iload_n 1, 1) := by decide +kernel
theorem dX8_pop_6 : decode cX8_pop 6 = .ok (.invokestatic 134, 3) := by decide +kernel
theorem dX8_pop_9 : decode cX8_pop 9 = .ok (.ifCond .eq 10, 3) := by decide +kernel
theorem dX8_pop_12 : decode cX8_pop 12 = .ok (.iload_n 2, 1) := by decide +kernel
theorem dX8_pop_13 : decode cX8_pop 13 = .ok (.invokestatic 134, 3) := by decide +kernel
theorem dX8_pop_16 : decode cX8_pop 16 = .ok (.ifCond .ne 5, 3) := by decide +kernel
theorem dX8_pop_19 : decode cX8_pop 19 = .ok (.iconst (-1), 1) := by decide +kernel
theorem dX8_pop_20 : decode cX8_pop 20 = .ok (.ireturn, 1) := by decide +kernel
theorem dX8_pop_21 : decode cX8_pop 21 = .ok (.aload_n 0, 1) := by decide +kernel
theorem dX8_pop_22 : decode cX8_pop 22 = .ok (.getfield 16, 3) := by decide +kernel
theorem dX8_pop_25 : decode cX8_pop 25 = .ok (.iload_n 1, 1) := by decide +kernel
theorem dX8_pop_26 : decode cX8_pop 26 = .ok (.iaload, 1) := by decide +kernel
theorem dX8_pop_27 : decode cX8_pop 27 = .ok (.ifCond .ne 6, 3) := by decide +kernel
theorem dX8_pop_30 : decode cX8_pop 30 = .ok (.bipush (-2), 2) := by decide +kernel
theorem dX8_pop_32 : decode cX8_pop 32 = .ok (.ireturn, 1) := by decide +kernel
theorem dX8_pop_33 : decode cX8_pop 33 = .ok (.aload_n 0, 1) := by decide +kernel
theorem dX8_pop_34 : decode cX8_pop 34 = .ok (.iconst 0, 1) := by decide +kernel
theorem dX8_pop_35 : decode cX8_pop 35 = .ok (.putfield 59, 3) := by decide +kernel
theorem dX8_pop_38 : decode cX8_pop 38 = .ok (.aload_n 0, 1) := by decide +kernel
theorem dX8_pop_39 : decode cX8_pop 39 = .ok (.aload_n 0, 1) := by decide +kernel
theorem dX8_pop_40 : decode cX8_pop 40 = .ok (.iload_n 1, 1) := by decide +kernel
theorem dX8_pop_41 : decode cX8_pop 41 = .ok (.iconst 0, 1) := by decide +kernel
theorem dX8_pop_42 : decode cX8_pop 42 = .ok (.invokevirtual 99, 3) := by decide +kernel
theorem dX8_pop_45 : decode cX8_pop 45 = .ok (.i2l, 1) := by decide +kernel
theorem dX8_pop_46 : decode cX8_pop 46 = .ok (.invokevirtual 150, 3) := by decide +kernel
theorem dX8_pop_49 : decode cX8_pop 49 = .ok (.aload_n 0, 1) := by decide +kernel
theorem dX8_pop_50 : decode cX8_pop 50 = .ok (.iload_n 1, 1) := by decide +kernel
theorem dX8_pop_51 : decode cX8_pop 51 = .ok (.invokevirtual 176, 3) := by decide +kernel
theorem dX8_pop_54 : decode cX8_pop 54 = .ok (.aload_n 0, 1) := by decide +kernel
theorem dX8_pop_55 : decode cX8_pop 55 = .ok (.invokevirtual 166, 3) := by decide +kernel
theorem dX8_pop_58 : decode cX8_pop 58 = .ok (.aload_n 0, 1) := by decide +kernel
theorem dX8_pop_59 : decode cX8_pop 59 = .ok (.getfield 16, 3) := by decide +kernel
theorem dX8_pop_62 : decode cX8_pop 62 = .ok (.bipush 7, 2) := by decide +kernel
theorem dX8_pop_64 : decode cX8_pop 64 = .ok (.aload_n 0, 1) := by decide +kernel
theorem dX8_pop_65 : decode cX8_pop 65 = .ok (.getfield 16, 3) := by decide +kernel
theorem dX8_pop_68 : decode cX8_pop 68 = .ok (.bipush 6, 2) := by decide +kernel
theorem dX8_pop_70 : decode cX8_pop 70 = .ok (.iaload, 1) := by decide +kernel
theorem dX8_pop_71 : decode cX8_pop 71 = .ok (.iconst 1, 1) := by decide +kernel
theorem dX8_pop_72 : decode cX8_pop 72 = .ok (.isub, 1) := by decide +kernel
theorem dX8_pop_73 : decode cX8_pop 73 = .ok (.iastore, 1) := by decide +kernel
theorem dX8_pop_74 : decode cX8_pop 74 = .ok (.aload_n 0, 1) := by decide +kernel
theorem dX8_pop_75 : decode cX8_pop 75 = .ok (.getfield 16, 3) := by decide +kernel
theorem dX8_pop_78 : decode cX8_pop 78 = .ok (.bipush 7, 2) := by decide +kernel
theorem dX8_pop_80 : decode cX8_pop 80 = .ok (.iaload, 1) := by decide +kernel
theorem dX8_pop_81 : decode cX8_pop 81 = .ok (.ifCond .le 51, 3) := by decide +kernel
theorem dX8_pop_84 : decode cX8_pop 84 = .ok (.aload_n 0, 1) := by decide +kernel
theorem dX8_pop_85 : decode cX8_pop 85 = .ok (.bipush 6, 2) := by decide +kernel
theorem dX8_pop_87 : decode cX8_pop 87 = .ok (.iconst 2, 1) := by decide +kernel
theorem dX8_pop_88 : decode cX8_pop 88 = .ok (.iconst 2, 1) := by decide +kernel
theorem dX8_pop_89 : decode cX8_pop 89 = .ok (.aload_n 0, 1) := by decide +kernel
theorem dX8_pop_90 : decode cX8_pop 90 = .ok (.getfield 16, 3) := by decide +kernel
theorem dX8_pop_93 : decode cX8_pop 93 = .ok (.bipush 6, 2) := by decide +kernel
theorem dX8_pop_95 : decode cX8_pop 95 = .ok (.iaload, 1) := by decide +kernel
theorem dX8_pop_96 : decode cX8_pop 96 = .ok (.invokestatic 173, 3) := by decide +kernel
theorem dX8_pop_99 : decode cX8_pop 99 = .ok (.bipush 7, 2) := by decide +kernel
theorem dX8_pop_101 : decode cX8_pop 101 = .ok (.iconst 1, 1) := by decide +kernel
theorem dX8_pop_102 : decode cX8_pop 102 = .ok (.iconst 2, 1) := by decide +kernel
theorem dX8_pop_103 : decode cX8_pop 103 = .ok (.invokevirtual 78, 3) := by decide +kernel
theorem dX8_pop_106 : decode cX8_pop 106 = .ok (.aload_n 0, 1) := by decide +kernel
theorem dX8_pop_107 : decode cX8_pop 107 = .ok (.iconst 1, 1) := by decide +kernel
theorem dX8_pop_108 : decode cX8_pop 108 = .ok (.iconst 2, 1) := by decide +kernel
theorem dX8_pop_109 : decode cX8_pop 109 = .ok (.aload_n 0, 1) := by decide +kernel
theorem dX8_pop_110 : decode cX8_pop 110 = .ok (.getfield 16, 3) := by decide +kernel
theorem dX8_pop_113 : decode cX8_pop 113 = .ok (.bipush 6, 2) := by decide +kernel
theorem dX8_pop_115 : decode cX8_pop 115 = .ok (.iaload, 1) := by decide +kernel
theorem dX8_pop_116 : decode cX8_pop 116 = .ok (.invokestatic 169, 3) := by decide +kernel
theorem dX8_pop_119 : decode cX8_pop 119 = .ok (.iconst 2, 1) := by decide +kernel
theorem dX8_pop_120 : decode cX8_pop 120 = .ok (.iconst 2, 1) := by decide +kernel
theorem dX8_pop_121 : decode cX8_pop 121 = .ok (.invokevirtual 267, 3) := by decide +kernel
theorem dX8_pop_124 : decode cX8_pop 124 = .ok (.aload_n 0, 1) := by decide +kernel
theorem dX8_pop_125 : decode cX8_pop 125 = .ok (.aload_n 0, 1) := by decide +kernel
theorem dX8_pop_126 : decode cX8_pop 126 = .ok (.getfield 264, 3) := by decide +kernel
theorem dX8_pop_129 : decode cX8_pop 129 = .ok (.invokevirtual 270, 3) := by decide +kernel
theorem dX8_pop_132 : decode cX8_pop 132 = .ok (.aload_n 0, 1) := by decide +kernel
theorem dX8_pop_133 : decode cX8_pop 133 = .ok (.iload_n 2, 1) := by decide +kernel
theorem dX8_pop_134 : decode cX8_pop 134 = .ok (.invokevirtual 205, 3) := by decide +kernel
theorem dX8_pop_137 : decode cX8_pop 137 = .ok (.ireturn, 1) := by decide +kernel
theorem dX8_heaps_0 : decode cX8_heaps 0 = .ok (.aload_n 0, 1) := by decide +kernel
theorem dX8_heaps_1 : decode cX8_heaps 1 = .ok (.iconst 0, 1) := by decide +kernel
theorem dX8_heaps_2 : decode cX8_heaps 2 = .ok (.putfield 55, 3) := by decide +kernel
theorem dX8_heaps_5 : decode cX8_heaps 5 = .ok (.iload_n 1, 1) := by decide +kernel
theorem dX8_heaps_6 : decode cX8_heaps 6 = .ok (.invokestatic 134, 3) := by decide +kernel
theorem dX8_heaps_9 : decode cX8_heaps 9 = .ok (.ifCond .eq 10, 3) := by decide +kernel
theorem dX8_heaps_12 : decode cX8_heaps 12 = .ok (.iload_n 2, 1) := by decide +kernel
theorem dX8_heaps_13 : decode cX8_heaps 13 = .ok (.invokestatic 134, 3) := by decide +kernel
theorem dX8_heaps_16 : decode cX8_heaps 16 = .ok (.ifCond .ne 5, 3) := by decide +kernel
theorem dX8_heaps_19 : decode cX8_heaps 19 = .ok (.iconst (-1), 1) := by decide +kernel
theorem dX8_heaps_20 : decode cX8_heaps 20 = .ok (.ireturn, 1) := by decide +kernel
theorem dX8_heaps_21 : decode cX8_heaps 21 = .ok (.aload_n 0, 1) := by decide +kernel
theorem dX8_heaps_22 : decode cX8_heaps 22 = .ok (.iload_n 1, 1) := by decide +kernel
theorem dX8_heaps_23 : decode cX8_heaps 23 = .ok (.bipush 8, 2) := by decide +kernel
theorem dX8_heaps_25 : decode cX8_heaps 25 = .ok (.invokevirtual 82, 3) := by decide +kernel
theorem dX8_heaps_28 : decode cX8_heaps 28 = .ok (.aload_n 0, 1) := by decide +kernel
theorem dX8_heaps_29 : decode cX8_heaps 29 = .ok (.invokevirtual 166, 3) := by decide +kernel
theorem dX8_heaps_32 : decode cX8_heaps 32 = .ok (.aload_n 0, 1) := by decide +kernel
theorem dX8_heaps_33 : decode cX8_heaps 33 = .ok (.getfield 16, 3) := by decide +kernel
theorem dX8_heaps_36 : decode cX8_heaps 36 = .ok (.bipush 7, 2) := by decide +kernel
theorem dX8_heaps_38 : decode cX8_heaps 38 = .ok (.iconst 0, 1) := by decide +kernel
theorem dX8_heaps_39 : decode cX8_heaps 39 = .ok (.iastore, 1) := by decide +kernel
theorem dX8_heaps_40 : decode cX8_heaps 40 = .ok (.iconst 0, 1) := by decide +kernel
theorem dX8_heaps_41 : decode cX8_heaps 41 = .ok (.istore_n 3, 1) := by decide +kernel
theorem dX8_heaps_42 : decode cX8_heaps 42 = .ok (.iload_n 3, 1) := by decide +kernel
theorem dX8_heaps_43 : decode cX8_heaps 43 = .ok (.aload_n 0, 1) := by decide +kernel
theorem dX8_heaps_44 : decode cX8_heaps 44 = .ok (.getfield 16, 3) := by decide +kernel
theorem dX8_heaps_47 : decode cX8_heaps 47 = .ok (.bipush 8, 2) := by decide +kernel
theorem dX8_heaps_49 : decode cX8_heaps 49 = .ok (.iaload, 1) := by decide +kernel
theorem dX8_heaps_50 : decode cX8_heaps 50 = .ok (.if_icmp .ge 20, 3) := by decide +kernel
theorem dX8_heaps_53 : decode cX8_heaps 53 = .ok (.aload_n 0, 1) := by decide +kernel
theorem dX8_heaps_54 : decode cX8_heaps 54 = .ok (.aload_n 0, 1) := by decide +kernel
theorem dX8_heaps_55 : decode cX8_heaps 55 = .ok (.bipush 8, 2) := by decide +kernel
theorem dX8_heaps_57 : decode cX8_heaps 57 = .ok (.iload_n 3, 1) := by decide +kernel
theorem dX8_heaps_58 : decode cX8_heaps 58 = .ok (.invokevirtual 99, 3) := by decide +kernel
theorem dX8_heaps_61 : decode cX8_heaps 61 = .ok (.invokevirtual 261, 3) := by decide +kernel
theorem dX8_heaps_64 : decode cX8_heaps 64 = .ok (.iinc 3 1, 3) := by decide +kernel
theorem dX8_heaps_67 : decode cX8_heaps 67 = .ok (.goto (-25), 3) := by decide +kernel
theorem dX8_heaps_70 : decode cX8_heaps 70 = .ok (.aload_n 0, 1) := by decide +kernel
theorem dX8_heaps_71 : decode cX8_heaps 71 = .ok (.iload_n 2, 1) := by decide +kernel
theorem dX8_heaps_72 : decode cX8_heaps 72 = .ok (.invokevirtual 205, 3) := by decide +kernel
theorem dX8_heaps_75 : decode cX8_heaps 75 = .ok (.ireturn, 1) := by decide +kernel
theorem dX8_numbers_0 : decode cX8_numbers 0 = .ok (.aload_n 0, 1) := by decide +kernel
theorem dX8_numbers_1 : decode cX8_numbers 1 = .ok (.iconst 0, 1) := by decide +kernel
theorem dX8_numbers_2 : decode cX8_numbers 2 = .ok (.putfield 55, 3) := by decide +kernel
theorem dX8_numbers_5 : decode cX8_numbers 5 = .ok (.iload_n 1, 1) := by decide +kernel
theorem dX8_numbers_6 : decode cX8_numbers 6 = .ok (.invokestatic 134, 3) := by decide +kernel
theorem dX8_numbers_9 : decode cX8_numbers 9 = .ok (.ifCond .eq 19, 3) := by decide +kernel
theorem dX8_numbers_12 : decode cX8_numbers 12 = .ok (.iload_n 2, 1) := by decide +kernel
theorem dX8_numbers_13 : decode cX8_numbers 13 = .ok (.i2l, 1) := by decide +kernel
theorem dX8_numbers_14 : decode cX8_numbers 14 = .ok (.lconst 0, 1) := by decide +kernel
theorem dX8_numbers_15 : decode cX8_numbers 15 = .ok (.aload_n 0, 1) := by decide +kernel
theorem dX8_numbers_16 : decode cX8_numbers 16 = .ok (.getfield 16, 3) := by decide +kernel
theorem dX8_numbers_19 : decode cX8_numbers 19 = .ok (.iload_n 1, 1) := by decide +kernel
theorem dX8_numbers_20 : decode cX8_numbers 20 = .ok (.iaload, 1) := by decide +kernel
theorem dX8_numbers_21 : decode cX8_numbers 21 = .ok (.i2l, 1) := by decide +kernel
theorem dX8_numbers_22 : decode cX8_numbers 22 = .ok (.invokestatic 65, 3) := by decide +kernel
theorem dX8_numbers_25 : decode cX8_numbers 25 = .ok (.ifCond .ne 5, 3) := by decide +kernel
theorem dX8_numbers_28 : decode cX8_numbers 28 = .ok (.iconst (-1), 1) := by decide +kernel
theorem dX8_numbers_29 : decode cX8_numbers 29 = .ok (.ireturn, 1) := by decide +kernel
theorem dX8_numbers_30 : decode cX8_numbers 30 = .ok (.aload_n 0, 1) := by decide +kernel
theorem dX8_numbers_31 : decode cX8_numbers 31 = .ok (.iconst 0, 1) := by decide +kernel
theorem dX8_numbers_32 : decode cX8_numbers 32 = .ok (.putfield 59, 3) := by decide +kernel
theorem dX8_numbers_35 : decode cX8_numbers 35 = .ok (.iload_n 2, 1) := by decide +kernel
theorem dX8_numbers_36 : decode cX8_numbers 36 = .ok (.istore_n 3, 1) := by decide +kernel
theorem dX8_numbers_37 : decode cX8_numbers 37 = .ok (.iload_n 3, 1) := by decide +kernel
theorem dX8_numbers_38 : decode cX8_numbers 38 = .ok (.aload_n 0, 1) := by decide +kernel
theorem dX8_numbers_39 : decode cX8_numbers 39 = .ok (.getfield 16, 3) := by decide +kernel
theorem dX8_numbers_42 : decode cX8_numbers 42 = .ok (.iload_n 1, 1) := by decide +kernel
theorem dX8_numbers_43 : decode cX8_numbers 43 = .ok (.iaload, 1) := by decide +kernel
theorem dX8_numbers_44 : decode cX8_numbers 44 = .ok (.if_icmp .ge 29, 3) := by decide +kernel
theorem dX8_numbers_47 : decode cX8_numbers 47 = .ok (.aload_n 0, 1) := by decide +kernel
theorem dX8_numbers_48 : decode cX8_numbers 48 = .ok (.getfield 59, 3) := by decide +kernel
theorem dX8_numbers_51 : decode cX8_numbers 51 = .ok (.bipush 16, 2) := by decide +kernel
theorem dX8_numbers_53 : decode cX8_numbers 53 = .ok (.if_icmp .ge 20, 3) := by decide +kernel
theorem dX8_numbers_56 : decode cX8_numbers 56 = .ok (.aload_n 0, 1) := by decide +kernel
theorem dX8_numbers_57 : decode cX8_numbers 57 = .ok (.aload_n 0, 1) := by decide +kernel
theorem dX8_numbers_58 : decode cX8_numbers 58 = .ok (.iload_n 1, 1) := by decide +kernel
theorem dX8_numbers_59 : decode cX8_numbers 59 = .ok (.iload_n 3, 1) := by decide +kernel
theorem dX8_numbers_60 : decode cX8_numbers 60 = .ok (.invokevirtual 99, 3) := by decide +kernel
theorem dX8_numbers_63 : decode cX8_numbers 63 = .ok (.i2l, 1) := by decide +kernel
theorem dX8_numbers_64 : decode cX8_numbers 64 = .ok (.invokevirtual 150, 3) := by decide +kernel
theorem dX8_numbers_67 : decode cX8_numbers 67 = .ok (.iinc 3 1, 3) := by decide +kernel
theorem dX8_numbers_70 : decode cX8_numbers 70 = .ok (.goto (-33), 3) := by decide +kernel
theorem dX8_numbers_73 : decode cX8_numbers 73 = .ok (.aload_n 0, 1) := by decide +kernel
theorem dX8_numbers_74 : decode cX8_numbers 74 = .ok (.getfield 59, 3) := by decide +kernel
theorem dX8_numbers_77 : decode cX8_numbers 77 = .ok (.ireturn, 1) := by decide +kernel
theorem dX8_firstOf_0 : decode cX8_firstOf 0 = .ok (.iload_n 3, 1) := by decide +kernel
theorem dX8_firstOf_1 : decode cX8_firstOf 1 = .ok (.istore 5, 2) := by decide +kernel
theorem dX8_firstOf_3 : decode cX8_firstOf 3 = .ok (.iload 5, 2) := by decide +kernel
theorem dX8_firstOf_5 : decode cX8_firstOf 5 = .ok (.iload 4, 2) := by decide +kernel
theorem dX8_firstOf_7 : decode cX8_firstOf 7 = .ok (.if_icmp .ge 23, 3) := by decide +kernel
theorem dX8_firstOf_10 : decode cX8_firstOf 10 = .ok (.aload_n 0, 1) := by decide +kernel
theorem dX8_firstOf_11 : decode cX8_firstOf 11 = .ok (.iload_n 1, 1) := by decide +kernel
theorem dX8_firstOf_12 : decode cX8_firstOf 12 = .ok (.iload 5, 2) := by decide +kernel
theorem dX8_firstOf_14 : decode cX8_firstOf 14 = .ok (.invokevirtual 99, 3) := by decide +kernel
theorem dX8_firstOf_17 : decode cX8_firstOf 17 = .ok (.iload_n 2, 1) := by decide +kernel
theorem dX8_firstOf_18 : decode cX8_firstOf 18 = .ok (.if_icmp .ne 6, 3) := by decide +kernel
theorem dX8_firstOf_21 : decode cX8_firstOf 21 = .ok (.iload 5, 2) := by decide +kernel
theorem dX8_firstOf_23 : decode cX8_firstOf 23 = .ok (.ireturn, 1) := by decide +kernel
theorem dX8_firstOf_24 : decode cX8_firstOf 24 = .ok (.iinc 5 1, 3) := by decide +kernel
theorem dX8_firstOf_27 : decode cX8_firstOf 27 = .ok (.goto (-24), 3) := by decide +kernel
theorem dX8_firstOf_30 : decode cX8_firstOf 30 = .ok (.iconst (-1), 1) := by decide +kernel
theorem dX8_firstOf_31 : decode cX8_firstOf 31 = .ok (.ireturn, 1) := by decide +kernel
theorem dX8_sum_0 : decode cX8_sum 0 = .ok (.aload_n 0, 1) := by decide +kernel
theorem dX8_sum_1 : decode cX8_sum 1 = .ok (.iconst 0, 1) := by decide +kernel
theorem dX8_sum_2 : decode cX8_sum 2 = .ok (.putfield 55, 3) := by decide +kernel
theorem dX8_sum_5 : decode cX8_sum 5 = .ok (.iload_n 1, 1) := by decide +kernel
theorem dX8_sum_6 : decode cX8_sum 6 = .ok (.invokestatic 134, 3) := by decide +kernel
theorem dX8_sum_9 : decode cX8_sum 9 = .ok (.ifCond .eq 13, 3) := by decide +kernel
theorem dX8_sum_12 : decode cX8_sum 12 = .ok (.aload_n 0, 1) := by decide +kernel
theorem dX8_sum_13 : decode cX8_sum 13 = .ok (.iload_n 1, 1) := by decide +kernel
theorem dX8_sum_14 : decode cX8_sum 14 = .ok (.iload_n 2, 1) := by decide +kernel
theorem dX8_sum_15 : decode cX8_sum 15 = .ok (.iload_n 3, 1) := by decide +kernel
theorem dX8_sum_16 : decode cX8_sum 16 = .ok (.invokevirtual 225, 3) := by decide +kernel
theorem dX8_sum_19 : decode cX8_sum 19 = .ok (.ifCond .ne 7, 3) := by decide +kernel
theorem dX8_sum_22 : decode cX8_sum 22 = .ok (.ldc_w 273, 3) := by decide +kernel
theorem dX8_sum_25 : decode cX8_sum 25 = .ok (.ireturn, 1) := by decide +kernel
theorem dX8_sum_26 : decode cX8_sum 26 = .ok (.iconst 0, 1) := by decide +kernel
theorem dX8_sum_27 : decode cX8_sum 27 = .ok (.istore 4, 2) := by decide +kernel
theorem dX8_sum_29 : decode cX8_sum 29 = .ok (.sipush 999, 3) := by decide +kernel
theorem dX8_sum_32 : decode cX8_sum 32 = .ok (.istore 5, 2) := by decide +kernel
theorem dX8_sum_34 : decode cX8_sum 34 = .ok (.sipush (-999), 3) := by decide +kernel
theorem dX8_sum_37 : decode cX8_sum 37 = .ok (.istore 6, 2) := by decide +kernel
theorem dX8_sum_39 : decode cX8_sum 39 = .ok (.iload_n 2, 1) := by decide +kernel
theorem dX8_sum_40 : decode cX8_sum 40 = .ok (.istore 7, 2) := by decide +kernel
theorem dX8_sum_42 : decode cX8_sum 42 = .ok (.iload 7, 2) := by decide +kernel
theorem dX8_sum_44 : decode cX8_sum 44 = .ok (.iload_n 3, 1) := by decide +kernel
theorem dX8_sum_45 : decode cX8_sum 45 = .ok (.if_icmp .ge 49, 3) := by decide +kernel
theorem dX8_sum_48 : decode cX8_sum 48 = .ok (.iload 4, 2) := by decide +kernel
theorem dX8_sum_50 : decode cX8_sum 50 = .ok (.aload_n 0, 1) := by decide +kernel
theorem dX8_sum_51 : decode cX8_sum 51 = .ok (.iload_n 1, 1) := by decide +kernel
theorem dX8_sum_52 : decode cX8_sum 52 = .ok (.iload 7, 2) := by decide +kernel
theorem dX8_sum_54 : decode cX8_sum 54 = .ok (.invokevirtual 99, 3) := by decide +kernel
theorem dX8_sum_57 : decode cX8_sum 57 = .ok (.iadd, 1) := by decide +kernel
theorem dX8_sum_58 : decode cX8_sum 58 = .ok (.istore 4, 2) := by decide +kernel
theorem dX8_sum_60 : decode cX8_sum 60 = .ok (.iload 5, 2) := by decide +kernel
theorem dX8_sum_62 : decode cX8_sum 62 = .ok (.aload_n 0, 1) := by decide +kernel
theorem dX8_sum_63 : decode cX8_sum 63 = .ok (.iload_n 1, 1) := by decide +kernel
theorem dX8_sum_64 : decode cX8_sum 64 = .ok (.iload 7, 2) := by decide +kernel
theorem dX8_sum_66 : decode cX8_sum 66 = .ok (.invokevirtual 99, 3) := by decide +kernel
theorem dX8_sum_69 : decode cX8_sum 69 = .ok (.invokestatic 229, 3) := by decide +kernel
theorem dX8_sum_72 : decode cX8_sum 72 = .ok (.istore 5, 2) := by decide +kernel
theorem dX8_sum_74 : decode cX8_sum 74 = .ok (.iload 6, 2) := by decide +kernel
theorem dX8_sum_76 : decode cX8_sum 76 = .ok (.aload_n 0, 1) := by decide +kernel
theorem dX8_sum_77 : decode cX8_sum 77 = .ok (.iload_n 1, 1) := by decide +kernel
theorem dX8_sum_78 : decode cX8_sum 78 = .ok (.iload 7, 2) := by decide +kernel
theorem dX8_sum_80 : decode cX8_sum 80 = .ok (.invokevirtual 99, 3) := by decide +kernel
theorem dX8_sum_83 : decode cX8_sum 83 = .ok (.invokestatic 234, 3) := by decide +kernel
theorem dX8_sum_86 : decode cX8_sum 86 = .ok (.istore 6, 2) := by decide +kernel
theorem dX8_sum_88 : decode cX8_sum 88 = .ok (.iinc 7 1, 3) := by decide +kernel
theorem dX8_sum_91 : decode cX8_sum 91 = .ok (.goto (-49), 3) := by decide +kernel
theorem dX8_sum_94 : decode cX8_sum 94 = .ok (.aload_n 0, 1) := by decide +kernel
theorem dX8_sum_95 : decode cX8_sum 95 = .ok (.iconst 0, 1) := by decide +kernel
theorem dX8_sum_96 : decode cX8_sum 96 = .ok (.putfield 59, 3) := by decide +kernel
theorem dX8_sum_99 : decode cX8_sum 99 = .ok (.iload_n 2, 1) := by decide +kernel
theorem dX8_sum_100 : decode cX8_sum 100 = .ok (.iload_n 3, 1) := by decide +kernel
theorem dX8_sum_101 : decode cX8_sum 101 = .ok (.if_icmp .ge 45, 3) := by decide +kernel
theorem dX8_sum_104 : decode cX8_sum 104 = .ok (.aload_n 0, 1) := by decide +kernel
theorem dX8_sum_105 : decode cX8_sum 105 = .ok (.iload 5, 2) := by decide +kernel
theorem dX8_sum_107 : decode cX8_sum 107 = .ok (.i2l, 1) := by decide +kernel
theorem dX8_sum_108 : decode cX8_sum 108 = .ok (.invokevirtual 150, 3) := by decide +kernel
theorem dX8_sum_111 : decode cX8_sum 111 = .ok (.aload_n 0, 1) := by decide +kernel
theorem dX8_sum_112 : decode cX8_sum 112 = .ok (.iload 6, 2) := by decide +kernel
theorem dX8_sum_114 : decode cX8_sum 114 = .ok (.i2l, 1) := by decide +kernel
theorem dX8_sum_115 : decode cX8_sum 115 = .ok (.invokevirtual 150, 3) := by decide +kernel
theorem dX8_sum_118 : decode cX8_sum 118 = .ok (.aload_n 0, 1) := by decide +kernel
theorem dX8_sum_119 : decode cX8_sum 119 = .ok (.aload_n 0, 1) := by decide +kernel
theorem dX8_sum_120 : decode cX8_sum 120 = .ok (.iload_n 1, 1) := by decide +kernel
theorem dX8_sum_121 : decode cX8_sum 121 = .ok (.iload 5, 2) := by decide +kernel
theorem dX8_sum_123 : decode cX8_sum 123 = .ok (.iload_n 2, 1) := by decide +kernel
theorem dX8_sum_124 : decode cX8_sum 124 = .ok (.iload_n 3, 1) := by decide +kernel
theorem dX8_sum_125 : decode cX8_sum 125 = .ok (.invokevirtual 274, 3) := by decide +kernel
theorem dX8_sum_128 : decode cX8_sum 128 = .ok (.i2l, 1) := by decide +kernel
theorem dX8_sum_129 : decode cX8_sum 129 = .ok (.invokevirtual 150, 3) := by decide +kernel
theorem dX8_sum_132 : decode cX8_sum 132 = .ok (.aload_n 0, 1) := by decide +kernel
theorem dX8_sum_133 : decode cX8_sum 133 = .ok (.aload_n 0, 1) := by decide +kernel
theorem dX8_sum_134 : decode cX8_sum 134 = .ok (.iload_n 1, 1) := by decide +kernel
theorem dX8_sum_135 : decode cX8_sum 135 = .ok (.iload 6, 2) := by decide +kernel
theorem dX8_sum_137 : decode cX8_sum 137 = .ok (.iload_n 2, 1) := by decide +kernel
theorem dX8_sum_138 : decode cX8_sum 138 = .ok (.iload_n 3, 1) := by decide +kernel
theorem dX8_sum_139 : decode cX8_sum 139 = .ok (.invokevirtual 274, 3) := by decide +kernel
theorem dX8_sum_142 : decode cX8_sum 142 = .ok (.i2l, 1) := by decide +kernel
theorem dX8_sum_143 : decode cX8_sum 143 = .ok (.invokevirtual 150, 3) := by decide +kernel
theorem dX8_sum_146 : decode cX8_sum 146 = .ok (.iload 4, 2) := by decide +kernel
theorem dX8_sum_148 : decode cX8_sum 148 = .ok (.ireturn, 1) := by decide +kernel
theorem dX8_finds_0 : decode cX8_finds 0 = .ok (.aload_n 0, 1) := by decide +kernel
theorem dX8_finds_1 : decode cX8_finds 1 = .ok (.iconst 0, 1) := by decide +kernel
theorem dX8_finds_2 : decode cX8_finds 2 = .ok (.putfield 55, 3) := by decide +kernel
theorem dX8_finds_5 : decode cX8_finds 5 = .ok (.iload_n 1, 1) := by decide +kernel
theorem dX8_finds_6 : decode cX8_finds 6 = .ok (.invokestatic 134, 3) := by decide +kernel
theorem dX8_finds_9 : decode cX8_finds 9 = .ok (.ifCond .eq 10, 3) := by decide +kernel
theorem dX8_finds_12 : decode cX8_finds 12 = .ok (.iload_n 2, 1) := by decide +kernel
theorem dX8_finds_13 : decode cX8_finds 13 = .ok (.invokestatic 163, 3) := by decide +kernel
theorem dX8_finds_16 : decode cX8_finds 16 = .ok (.ifCond .ne 5, 3) := by decide +kernel
theorem dX8_finds_19 : decode cX8_finds 19 = .ok (.iconst (-1), 1) := by decide +kernel
theorem dX8_finds_20 : decode cX8_finds 20 = .ok (.ireturn, 1) := by decide +kernel
theorem dX8_finds_21 : decode cX8_finds 21 = .ok (.aload_n 0, 1) := by decide +kernel
theorem dX8_finds_22 : decode cX8_finds 22 = .ok (.iload_n 1, 1) := by decide +kernel
theorem dX8_finds_23 : decode cX8_finds 23 = .ok (.iload_n 2, 1) := by decide +kernel
theorem dX8_finds_24 : decode cX8_finds 24 = .ok (.iconst 0, 1) := by decide +kernel
theorem dX8_finds_25 : decode cX8_finds 25 = .ok (.aload_n 0, 1) := by decide +kernel
theorem dX8_finds_26 : decode cX8_finds 26 = .ok (.getfield 16, 3) := by decide +kernel
theorem dX8_finds_29 : decode cX8_finds 29 = .ok (.iload_n 1, 1) := by decide +kernel
theorem dX8_finds_30 : decode cX8_finds 30 = .ok (.iaload, 1) := by decide +kernel
theorem dX8_finds_31 : decode cX8_finds 31 = .ok (.invokevirtual 274, 3) := by decide +kernel
theorem dX8_finds_34 : decode cX8_finds 34 = .ok (.istore_n 3, 1) := by decide +kernel
theorem dX8_finds_35 : decode cX8_finds 35 = .ok (.iload_n 3, 1) := by decide +kernel
theorem dX8_finds_36 : decode cX8_finds 36 = .ok (.iconst (-1), 1) := by decide +kernel
theorem dX8_finds_37 : decode cX8_finds 37 = .ok (.if_icmp .ne 6, 3) := by decide +kernel
theorem dX8_finds_40 : decode cX8_finds 40 = .ok (.bipush (-2), 2) := by decide +kernel
theorem dX8_finds_42 : decode cX8_finds 42 = .ok (.ireturn, 1) := by decide +kernel
theorem dX8_finds_43 : decode cX8_finds 43 = .ok (.iconst 0, 1) := by decide +kernel
theorem dX8_finds_44 : decode cX8_finds 44 = .ok (.istore 4, 2) := by decide +kernel
theorem dX8_finds_46 : decode cX8_finds 46 = .ok (.iload_n 3, 1) := by decide +kernel
theorem dX8_finds_47 : decode cX8_finds 47 = .ok (.istore 5, 2) := by decide +kernel
theorem dX8_finds_49 : decode cX8_finds 49 = .ok (.iload_n 3, 1) := by decide +kernel
theorem dX8_finds_50 : decode cX8_finds 50 = .ok (.istore 6, 2) := by decide +kernel
theorem dX8_finds_52 : decode cX8_finds 52 = .ok (.iload 6, 2) := by decide +kernel
theorem dX8_finds_54 : decode cX8_finds 54 = .ok (.aload_n 0, 1) := by decide +kernel
theorem dX8_finds_55 : decode cX8_finds 55 = .ok (.getfield 16, 3) := by decide +kernel
theorem dX8_finds_58 : decode cX8_finds 58 = .ok (.iload_n 1, 1) := by decide +kernel
theorem dX8_finds_59 : decode cX8_finds 59 = .ok (.iaload, 1) := by decide +kernel
theorem dX8_finds_60 : decode cX8_finds 60 = .ok (.if_icmp .ge 30, 3) := by decide +kernel
theorem dX8_finds_63 : decode cX8_finds 63 = .ok (.aload_n 0, 1) := by decide +kernel
theorem dX8_finds_64 : decode cX8_finds 64 = .ok (.iload_n 1, 1) := by decide +kernel
theorem dX8_finds_65 : decode cX8_finds 65 = .ok (.iload 6, 2) := by decide +kernel
theorem dX8_finds_67 : decode cX8_finds 67 = .ok (.invokevirtual 99, 3) := by decide +kernel
theorem dX8_finds_70 : decode cX8_finds 70 = .ok (.iload_n 2, 1) := by decide +kernel
theorem dX8_finds_71 : decode cX8_finds 71 = .ok (.if_icmp .eq 6, 3) := by decide +kernel
theorem dX8_finds_74 : decode cX8_finds 74 = .ok (.goto 10, 3) := by decide +kernel
theorem dX8_finds_77 : decode cX8_finds 77 = .ok (.iinc 4 1, 3) := by decide +kernel
theorem dX8_finds_80 : decode cX8_finds 80 = .ok (.iload 6, 2) := by decide +kernel
theorem dX8_finds_82 : decode cX8_finds 82 = .ok (.istore 5, 2) := by decide +kernel
theorem dX8_finds_84 : decode cX8_finds 84 = .ok (.iinc 6 1, 3) := by decide +kernel
theorem dX8_finds_87 : decode cX8_finds 87 = .ok (.goto (-35), 3) := by decide +kernel
theorem dX8_finds_90 : decode cX8_finds 90 = .ok (.aload_n 0, 1) := by decide +kernel
theorem dX8_finds_91 : decode cX8_finds 91 = .ok (.iconst 0, 1) := by decide +kernel
theorem dX8_finds_92 : decode cX8_finds 92 = .ok (.putfield 59, 3) := by decide +kernel
theorem dX8_finds_95 : decode cX8_finds 95 = .ok (.aload_n 0, 1) := by decide +kernel
theorem dX8_finds_96 : decode cX8_finds 96 = .ok (.iload 4, 2) := by decide +kernel
theorem dX8_finds_98 : decode cX8_finds 98 = .ok (.i2l, 1) := by decide +kernel
theorem dX8_finds_99 : decode cX8_finds 99 = .ok (.invokevirtual 150, 3) := by decide +kernel
theorem dX8_finds_102 : decode cX8_finds 102 = .ok (.aload_n 0, 1) := by decide +kernel
theorem dX8_finds_103 : decode cX8_finds 103 = .ok (.iload 5, 2) := by decide +kernel
theorem dX8_finds_105 : decode cX8_finds 105 = .ok (.i2l, 1) := by decide +kernel
theorem dX8_finds_106 : decode cX8_finds 106 = .ok (.invokevirtual 150, 3) := by decide +kernel
theorem dX8_finds_109 : decode cX8_finds 109 = .ok (.iload_n 3, 1) := by decide +kernel
theorem dX8_finds_110 : decode cX8_finds 110 = .ok (.ireturn, 1) := by decide +kernel
theorem dX8_search_0 : decode cX8_search 0 = .ok (.aload_n 0, 1) := by decide +kernel
theorem dX8_search_1 : decode cX8_search 1 = .ok (.iconst 0, 1) := by decide +kernel
theorem dX8_search_2 : decode cX8_search 2 = .ok (.putfield 55, 3) := by decide +kernel
theorem dX8_search_5 : decode cX8_search 5 = .ok (.iload_n 1, 1) := by decide +kernel
theorem dX8_search_6 : decode cX8_search 6 = .ok (.invokestatic 134, 3) := by decide +kernel
theorem dX8_search_9 : decode cX8_search 9 = .ok (.ifCond .eq 10, 3) := by decide +kernel
theorem dX8_search_12 : decode cX8_search 12 = .ok (.iload_n 2, 1) := by decide +kernel
theorem dX8_search_13 : decode cX8_search 13 = .ok (.invokestatic 163, 3) := by decide +kernel
theorem dX8_search_16 : decode cX8_search 16 = .ok (.ifCond .ne 5, 3) := by decide +kernel
theorem dX8_search_19 : decode cX8_search 19 = .ok (.iconst (-1), 1) := by decide +kernel
theorem dX8_search_20 : decode cX8_search 20 = .ok (.ireturn, 1) := by decide +kernel
theorem dX8_search_21 : decode cX8_search 21 = .ok (.iconst 0, 1) := by decide +kernel
theorem dX8_search_22 : decode cX8_search 22 = .ok (.istore_n 3, 1) := by decide +kernel
theorem dX8_search_23 : decode cX8_search 23 = .ok (.aload_n 0, 1) := by decide +kernel
theorem dX8_search_24 : decode cX8_search 24 = .ok (.getfield 16, 3) := by decide +kernel
theorem dX8_search_27 : decode cX8_search 27 = .ok (.iload_n 1, 1) := by decide +kernel
theorem dX8_search_28 : decode cX8_search 28 = .ok (.iaload, 1) := by decide +kernel
theorem dX8_search_29 : decode cX8_search 29 = .ok (.istore 4, 2) := by decide +kernel
theorem dX8_search_31 : decode cX8_search 31 = .ok (.iconst 0, 1) := by decide +kernel
theorem dX8_search_32 : decode cX8_search 32 = .ok (.istore 5, 2) := by decide +kernel
theorem dX8_search_34 : decode cX8_search 34 = .ok (.iload_n 3, 1) := by decide +kernel
theorem dX8_search_35 : decode cX8_search 35 = .ok (.iload 4, 2) := by decide +kernel
theorem dX8_search_37 : decode cX8_search 37 = .ok (.if_icmp .ge 40, 3) := by decide +kernel
theorem dX8_search_40 : decode cX8_search 40 = .ok (.iload_n 3, 1) := by decide +kernel
theorem dX8_search_41 : decode cX8_search 41 = .ok (.iload 4, 2) := by decide +kernel
theorem dX8_search_43 : decode cX8_search 43 = .ok (.iadd, 1) := by decide +kernel
theorem dX8_search_44 : decode cX8_search 44 = .ok (.iconst 2, 1) := by decide +kernel
theorem dX8_search_45 : decode cX8_search 45 = .ok (.idiv, 1) := by decide +kernel
theorem dX8_search_46 : decode cX8_search 46 = .ok (.istore 6, 2) := by decide +kernel
theorem dX8_search_48 : decode cX8_search 48 = .ok (.iinc 5 1, 3) := by decide +kernel
theorem dX8_search_51 : decode cX8_search 51 = .ok (.aload_n 0, 1) := by decide +kernel
theorem dX8_search_52 : decode cX8_search 52 = .ok (.iload_n 1, 1) := by decide +kernel
theorem dX8_search_53 : decode cX8_search 53 = .ok (.iload 6, 2) := by decide +kernel
theorem dX8_search_55 : decode cX8_search 55 = .ok (.invokevirtual 99, 3) := by decide +kernel
theorem dX8_search_58 : decode cX8_search 58 = .ok (.iload_n 2, 1) := by decide +kernel
theorem dX8_search_59 : decode cX8_search 59 = .ok (.if_icmp .ge 11, 3) := by decide +kernel
theorem dX8_search_62 : decode cX8_search 62 = .ok (.iload 6, 2) := by decide +kernel
theorem dX8_search_64 : decode cX8_search 64 = .ok (.iconst 1, 1) := by decide +kernel
theorem dX8_search_65 : decode cX8_search 65 = .ok (.iadd, 1) := by decide +kernel
theorem dX8_search_66 : decode cX8_search 66 = .ok (.istore_n 3, 1) := by decide +kernel
theorem dX8_search_67 : decode cX8_search 67 = .ok (.goto 7, 3) := by decide +kernel
theorem dX8_search_70 : decode cX8_search 70 = .ok (.iload 6, 2) := by decide +kernel
theorem dX8_search_72 : decode cX8_search 72 = .ok (.istore 4, 2) := by decide +kernel
theorem dX8_search_74 : decode cX8_search 74 = .ok (.goto (-40), 3) := by decide +kernel
theorem dX8_search_77 : decode cX8_search 77 = .ok (.aload_n 0, 1) := by decide +kernel
theorem dX8_search_78 : decode cX8_search 78 = .ok (.iconst 0, 1) := by decide +kernel
theorem dX8_search_79 : decode cX8_search 79 = .ok (.putfield 59, 3) := by decide +kernel
theorem dX8_search_82 : decode cX8_search 82 = .ok (.aload_n 0, 1) := by decide +kernel
theorem dX8_search_83 : decode cX8_search 83 = .ok (.iload 5, 2) := by decide +kernel
theorem dX8_search_85 : decode cX8_search 85 = .ok (.i2l, 1) := by decide +kernel
theorem dX8_search_86 : decode cX8_search 86 = .ok (.invokevirtual 150, 3) := by decide +kernel
theorem dX8_search_89 : decode cX8_search 89 = .ok (.aload_n 0, 1) := by decide +kernel
theorem dX8_search_90 : decode cX8_search 90 = .ok (.iload_n 3, 1) := by decide +kernel
theorem dX8_search_91 : decode cX8_search 91 = .ok (.aload_n 0, 1) := by decide +kernel
theorem dX8_search_92 : decode cX8_search 92 = .ok (.getfield 16, 3) := by decide +kernel
theorem dX8_search_95 : decode cX8_search 95 = .ok (.iload_n 1, 1) := by decide +kernel
theorem dX8_search_96 : decode cX8_search 96 = .ok (.iaload, 1) := by decide +kernel
theorem dX8_search_97 : decode cX8_search 97 = .ok (.if_icmp .ge 17, 3) := by decide +kernel
theorem dX8_search_100 : decode cX8_search 100 = .ok (.aload_n 0, 1) := by decide +kernel
theorem dX8_search_101 : decode cX8_search 101 = .ok (.iload_n 1, 1) := by decide +kernel
theorem dX8_search_102 : decode cX8_search 102 = .ok (.iload_n 3, 1) := by decide +kernel
theorem dX8_search_103 : decode cX8_search 103 = .ok (.invokevirtual 99, 3) := by decide +kernel
theorem dX8_search_106 : decode cX8_search 106 = .ok (.iload_n 2, 1) := by decide +kernel
theorem dX8_search_107 : decode cX8_search 107 = .ok (.if_icmp .ne 7, 3) := by decide +kernel
theorem dX8_search_110 : decode cX8_search 110 = .ok (.lconst 1, 1) := by decide +kernel
theorem dX8_search_111 : decode cX8_search 111 = .ok (.goto 4, 3) := by decide +kernel
theorem dX8_search_114 : decode cX8_search 114 = .ok (.lconst 0, 1) := by decide +kernel
theorem dX8_search_115 : decode cX8_search 115 = .ok (.invokevirtual 150, 3) := by decide +kernel
theorem dX8_search_118 : decode cX8_search 118 = .ok (.iload_n 3, 1) := by decide +kernel
theorem dX8_search_119 : decode cX8_search 119 = .ok (.ireturn, 1) := by decide +kernel
theorem dX8_reaches_0 : decode cX8_reaches 0 = .ok (.aload_n 0, 1) := by decide +kernel
theorem dX8_reaches_1 : decode cX8_reaches 1 = .ok (.iconst 0, 1) := by decide +kernel
theorem dX8_reaches_2 : decode cX8_reaches 2 = .ok (.putfield 55, 3) := by decide +kernel
theorem dX8_reaches_5 : decode cX8_reaches 5 = .ok (.iload_n 1, 1) := by decide +kernel
theorem dX8_reaches_6 : decode cX8_reaches 6 = .ok (.invokestatic 134, 3) := by decide +kernel
theorem dX8_reaches_9 : decode cX8_reaches 9 = .ok (.ifCond .ne 5, 3) := by decide +kernel
theorem dX8_reaches_12 : decode cX8_reaches 12 = .ok (.iconst (-1), 1) := by decide +kernel
theorem dX8_reaches_13 : decode cX8_reaches 13 = .ok (.ireturn, 1) := by decide +kernel
theorem dX8_reaches_14 : decode cX8_reaches 14 = .ok (.iconst 0, 1) := by decide +kernel
theorem dX8_reaches_15 : decode cX8_reaches 15 = .ok (.istore_n 3, 1) := by decide +kernel
theorem dX8_reaches_16 : decode cX8_reaches 16 = .ok (.iconst 0, 1) := by decide +kernel
theorem dX8_reaches_17 : decode cX8_reaches 17 = .ok (.istore 4, 2) := by decide +kernel
theorem dX8_reaches_19 : decode cX8_reaches 19 = .ok (.iload 4, 2) := by decide +kernel
theorem dX8_reaches_21 : decode cX8_reaches 21 = .ok (.aload_n 0, 1) := by decide +kernel
theorem dX8_reaches_22 : decode cX8_reaches 22 = .ok (.getfield 16, 3) := by decide +kernel
theorem dX8_reaches_25 : decode cX8_reaches 25 = .ok (.iload_n 1, 1) := by decide +kernel
theorem dX8_reaches_26 : decode cX8_reaches 26 = .ok (.iaload, 1) := by decide +kernel
theorem dX8_reaches_27 : decode cX8_reaches 27 = .ok (.if_icmp .ge 24, 3) := by decide +kernel
theorem dX8_reaches_30 : decode cX8_reaches 30 = .ok (.iload_n 3, 1) := by decide +kernel
theorem dX8_reaches_31 : decode cX8_reaches 31 = .ok (.iload_n 2, 1) := by decide +kernel
theorem dX8_reaches_32 : decode cX8_reaches 32 = .ok (.if_icmp .ge 19, 3) := by decide +kernel
theorem dX8_reaches_35 : decode cX8_reaches 35 = .ok (.iload_n 3, 1) := by decide +kernel
theorem dX8_reaches_36 : decode cX8_reaches 36 = .ok (.aload_n 0, 1) := by decide +kernel
theorem dX8_reaches_37 : decode cX8_reaches 37 = .ok (.iload_n 1, 1) := by decide +kernel
theorem dX8_reaches_38 : decode cX8_reaches 38 = .ok (.iload 4, 2) := by decide +kernel
theorem dX8_reaches_40 : decode cX8_reaches 40 = .ok (.invokevirtual 99, 3) := by decide +kernel
theorem dX8_reaches_43 : decode cX8_reaches 43 = .ok (.iadd, 1) := by decide +kernel
theorem dX8_reaches_44 : decode cX8_reaches 44 = .ok (.istore_n 3, 1) := by decide +kernel
theorem dX8_reaches_45 : decode cX8_reaches 45 = .ok (.iinc 4 1, 3) := by decide +kernel
theorem dX8_reaches_48 : decode cX8_reaches 48 = .ok (.goto (-29), 3) := by decide +kernel
theorem dX8_reaches_51 : decode cX8_reaches 51 = .ok (.iload_n 3, 1) := by decide +kernel
theorem dX8_reaches_52 : decode cX8_reaches 52 = .ok (.iload_n 2, 1) := by decide +kernel
theorem dX8_reaches_53 : decode cX8_reaches 53 = .ok (.if_icmp .ge 6, 3) := by decide +kernel
theorem dX8_reaches_56 : decode cX8_reaches 56 = .ok (.bipush (-2), 2) := by decide +kernel
theorem dX8_reaches_58 : decode cX8_reaches 58 = .ok (.ireturn, 1) := by decide +kernel
theorem dX8_reaches_59 : decode cX8_reaches 59 = .ok (.aload_n 0, 1) := by decide +kernel
theorem dX8_reaches_60 : decode cX8_reaches 60 = .ok (.iconst 0, 1) := by decide +kernel
theorem dX8_reaches_61 : decode cX8_reaches 61 = .ok (.putfield 59, 3) := by decide +kernel
theorem dX8_reaches_64 : decode cX8_reaches 64 = .ok (.aload_n 0, 1) := by decide +kernel
theorem dX8_reaches_65 : decode cX8_reaches 65 = .ok (.iload_n 3, 1) := by decide +kernel
theorem dX8_reaches_66 : decode cX8_reaches 66 = .ok (.i2l, 1) := by decide +kernel
theorem dX8_reaches_67 : decode cX8_reaches 67 = .ok (.invokevirtual 150, 3) := by decide +kernel
theorem dX8_reaches_70 : decode cX8_reaches 70 = .ok (.iload 4, 2) := by decide +kernel
theorem dX8_reaches_72 : decode cX8_reaches 72 = .ok (.ireturn, 1) := by decide +kernel
theorem dX8_stands_0 : decode cX8_stands 0 = .ok (.iconst 0, 1) := by decide +kernel
theorem dX8_stands_1 : decode cX8_stands 1 = .ok (.istore 4, 2) := by decide +kernel
theorem dX8_stands_3 : decode cX8_stands 3 = .ok (.iload 4, 2) := by decide +kernel
theorem dX8_stands_5 : decode cX8_stands 5 = .ok (.aload_n 0, 1) := by decide +kernel
theorem dX8_stands_6 : decode cX8_stands 6 = .ok (.getfield 16, 3) := by decide +kernel
theorem dX8_stands_9 : decode cX8_stands 9 = .ok (.iload_n 2, 1) := by decide +kernel
theorem dX8_stands_10 : decode cX8_stands 10 = .ok (.iaload, 1) := by decide +kernel
theorem dX8_stands_11 : decode cX8_stands 11 = .ok (.if_icmp .ge 30, 3) := by decide +kernel
theorem dX8_stands_14 : decode cX8_stands 14 = .ok (.aload_n 0, 1) := by decide +kernel
theorem dX8_stands_15 : decode cX8_stands 15 = .ok (.iload_n 1, 1) := by decide +kernel
theorem dX8_stands_16 : decode cX8_stands 16 = .ok (.iload_n 3, 1) := by decide +kernel
theorem dX8_stands_17 : decode cX8_stands 17 = .ok (.iload 4, 2) := by decide +kernel
theorem dX8_stands_19 : decode cX8_stands 19 = .ok (.iadd, 1) := by decide +kernel
theorem dX8_stands_20 : decode cX8_stands 20 = .ok (.invokevirtual 99, 3) := by decide +kernel
theorem dX8_stands_23 : decode cX8_stands 23 = .ok (.aload_n 0, 1) := by decide +kernel
theorem dX8_stands_24 : decode cX8_stands 24 = .ok (.iload_n 2, 1) := by decide +kernel
theorem dX8_stands_25 : decode cX8_stands 25 = .ok (.iload 4, 2) := by decide +kernel
theorem dX8_stands_27 : decode cX8_stands 27 = .ok (.invokevirtual 99, 3) := by decide +kernel
theorem dX8_stands_30 : decode cX8_stands 30 = .ok (.if_icmp .eq 5, 3) := by decide +kernel
theorem dX8_stands_33 : decode cX8_stands 33 = .ok (.iconst 0, 1) := by decide +kernel
theorem dX8_stands_34 : decode cX8_stands 34 = .ok (.ireturn, 1) := by decide +kernel
theorem dX8_stands_35 : decode cX8_stands 35 = .ok (.iinc 4 1, 3) := by decide +kernel
theorem dX8_stands_38 : decode cX8_stands 38 = .ok (.goto (-35), 3) := by decide +kernel
theorem dX8_stands_41 : decode cX8_stands 41 = .ok (.iconst 1, 1) := by decide +kernel
theorem dX8_stands_42 : decode cX8_stands 42 = .ok (.ireturn, 1) := by decide +kernel
theorem dX8_occurs_0 : decode cX8_occurs 0 = .ok (.aload_n 0, 1) := by decide +kernel
theorem dX8_occurs_1 : decode cX8_occurs 1 = .ok (.iconst 0, 1) := by decide +kernel
theorem dX8_occurs_2 : decode cX8_occurs 2 = .ok (.putfield 55, 3) := by decide +kernel
theorem dX8_occurs_5 : decode cX8_occurs 5 = .ok (.iload_n 1, 1) := by decide +kernel
theorem dX8_occurs_6 : decode cX8_occurs 6 = .ok (.invokestatic 134, 3) := by decide +kernel
theorem dX8_occurs_9 : decode cX8_occurs 9 = .ok (.ifCond .eq 10, 3) := by decide +kernel
theorem dX8_occurs_12 : decode cX8_occurs 12 = .ok (.iload_n 2, 1) := by decide +kernel
theorem dX8_occurs_13 : decode cX8_occurs 13 = .ok (.invokestatic 134, 3) := by decide +kernel
theorem dX8_occurs_16 : decode cX8_occurs 16 = .ok (.ifCond .ne 5, 3) := by decide +kernel
theorem dX8_occurs_19 : decode cX8_occurs 19 = .ok (.iconst (-1), 1) := by decide +kernel
theorem dX8_occurs_20 : decode cX8_occurs 20 = .ok (.ireturn, 1) := by decide +kernel
theorem dX8_occurs_21 : decode cX8_occurs 21 = .ok (.iconst 0, 1) := by decide +kernel
theorem dX8_occurs_22 : decode cX8_occurs 22 = .ok (.istore_n 3, 1) := by decide +kernel
theorem dX8_occurs_23 : decode cX8_occurs 23 = .ok (.iconst (-1), 1) := by decide +kernel
theorem dX8_occurs_24 : decode cX8_occurs 24 = .ok (.istore 4, 2) := by decide +kernel
theorem dX8_occurs_26 : decode cX8_occurs 26 = .ok (.iconst (-1), 1) := by decide +kernel
theorem dX8_occurs_27 : decode cX8_occurs 27 = .ok (.istore 5, 2) := by decide +kernel
theorem dX8_occurs_29 : decode cX8_occurs 29 = .ok (.iconst 0, 1) := by decide +kernel
theorem dX8_occurs_30 : decode cX8_occurs 30 = .ok (.istore 6, 2) := by decide +kernel
theorem dX8_occurs_32 : decode cX8_occurs 32 = .ok (.iload 6, 2) := by decide +kernel
theorem dX8_occurs_34 : decode cX8_occurs 34 = .ok (.aload_n 0, 1) := by decide +kernel
theorem dX8_occurs_35 : decode cX8_occurs 35 = .ok (.getfield 16, 3) := by decide +kernel
theorem dX8_occurs_38 : decode cX8_occurs 38 = .ok (.iload_n 2, 1) := by decide +kernel
theorem dX8_occurs_39 : decode cX8_occurs 39 = .ok (.iaload, 1) := by decide +kernel
theorem dX8_occurs_40 : decode cX8_occurs 40 = .ok (.iadd, 1) := by decide +kernel
theorem dX8_occurs_41 : decode cX8_occurs 41 = .ok (.aload_n 0, 1) := by decide +kernel
theorem dX8_occurs_42 : decode cX8_occurs 42 = .ok (.getfield 16, 3) := by decide +kernel
theorem dX8_occurs_45 : decode cX8_occurs 45 = .ok (.iload_n 1, 1) := by decide +kernel
theorem dX8_occurs_46 : decode cX8_occurs 46 = .ok (.iaload, 1) := by decide +kernel
theorem dX8_occurs_47 : decode cX8_occurs 47 = .ok (.if_icmp .gt 43, 3) := by decide +kernel
theorem dX8_occurs_50 : decode cX8_occurs 50 = .ok (.aload_n 0, 1) := by decide +kernel
theorem dX8_occurs_51 : decode cX8_occurs 51 = .ok (.iload_n 1, 1) := by decide +kernel
theorem dX8_occurs_52 : decode cX8_occurs 52 = .ok (.iload_n 2, 1) := by decide +kernel
theorem dX8_occurs_53 : decode cX8_occurs 53 = .ok (.iload 6, 2) := by decide +kernel
theorem dX8_occurs_55 : decode cX8_occurs 55 = .ok (.invokevirtual 278, 3) := by decide +kernel
theorem dX8_occurs_58 : decode cX8_occurs 58 = .ok (.ifCond .ne 6, 3) := by decide +kernel
theorem dX8_occurs_61 : decode cX8_occurs 61 = .ok (.goto 23, 3) := by decide +kernel
theorem dX8_occurs_64 : decode cX8_occurs 64 = .ok (.iload_n 3, 1) := by decide +kernel
theorem dX8_occurs_65 : decode cX8_occurs 65 = .ok (.ifCond .ne 8, 3) := by decide +kernel
theorem dX8_occurs_68 : decode cX8_occurs 68 = .ok (.iload 6, 2) := by decide +kernel
theorem dX8_occurs_70 : decode cX8_occurs 70 = .ok (.goto 5, 3) := by decide +kernel
theorem dX8_occurs_73 : decode cX8_occurs 73 = .ok (.iload 4, 2) := by decide +kernel
theorem dX8_occurs_75 : decode cX8_occurs 75 = .ok (.istore 4, 2) := by decide +kernel
theorem dX8_occurs_77 : decode cX8_occurs 77 = .ok (.iload 6, 2) := by decide +kernel
theorem dX8_occurs_79 : decode cX8_occurs 79 = .ok (.istore 5, 2) := by decide +kernel
theorem dX8_occurs_81 : decode cX8_occurs 81 = .ok (.iinc 3 1, 3) := by decide +kernel
theorem dX8_occurs_84 : decode cX8_occurs 84 = .ok (.iinc 6 1, 3) := by decide +kernel
theorem dX8_occurs_87 : decode cX8_occurs 87 = .ok (.goto (-55), 3) := by decide +kernel
theorem dX8_occurs_90 : decode cX8_occurs 90 = .ok (.aload_n 0, 1) := by decide +kernel
theorem dX8_occurs_91 : decode cX8_occurs 91 = .ok (.iconst 0, 1) := by decide +kernel
theorem dX8_occurs_92 : decode cX8_occurs 92 = .ok (.putfield 59, 3) := by decide +kernel
theorem dX8_occurs_95 : decode cX8_occurs 95 = .ok (.aload_n 0, 1) := by decide +kernel
theorem dX8_occurs_96 : decode cX8_occurs 96 = .ok (.iload 4, 2) := by decide +kernel
theorem dX8_occurs_98 : decode cX8_occurs 98 = .ok (.i2l, 1) := by decide +kernel
theorem dX8_occurs_99 : decode cX8_occurs 99 = .ok (.invokevirtual 150, 3) := by decide +kernel
theorem dX8_occurs_102 : decode cX8_occurs 102 = .ok (.aload_n 0, 1) := by decide +kernel
theorem dX8_occurs_103 : decode cX8_occurs 103 = .ok (.iload 5, 2) := by decide +kernel
theorem dX8_occurs_105 : decode cX8_occurs 105 = .ok (.i2l, 1) := by decide +kernel
theorem dX8_occurs_106 : decode cX8_occurs 106 = .ok (.invokevirtual 150, 3) := by decide +kernel
theorem dX8_occurs_109 : decode cX8_occurs 109 = .ok (.iload_n 3, 1) := by decide +kernel
theorem dX8_occurs_110 : decode cX8_occurs 110 = .ok (.ireturn, 1) := by decide +kernel
theorem dX8_differs_0 : decode cX8_differs 0 = .ok (.aload_n 0, 1) := by decide +kernel
theorem dX8_differs_1 : decode cX8_differs 1 = .ok (.iconst 0, 1) := by decide +kernel
theorem dX8_differs_2 : decode cX8_differs 2 = .ok (.putfield 55, 3) := by decide +kernel
theorem dX8_differs_5 : decode cX8_differs 5 = .ok (.iload_n 1, 1) := by decide +kernel
theorem dX8_differs_6 : decode cX8_differs 6 = .ok (.invokestatic 134, 3) := by decide +kernel
theorem dX8_differs_9 : decode cX8_differs 9 = .ok (.ifCond .eq 10, 3) := by decide +kernel
theorem dX8_differs_12 : decode cX8_differs 12 = .ok (.iload_n 2, 1) := by decide +kernel
theorem dX8_differs_13 : decode cX8_differs 13 = .ok (.invokestatic 134, 3) := by decide +kernel
theorem dX8_differs_16 : decode cX8_differs 16 = .ok (.ifCond .ne 5, 3) := by decide +kernel
theorem dX8_differs_19 : decode cX8_differs 19 = .ok (.iconst (-1), 1) := by decide +kernel
theorem dX8_differs_20 : decode cX8_differs 20 = .ok (.ireturn, 1) := by decide +kernel
theorem dX8_differs_21 : decode cX8_differs 21 = .ok (.aload_n 0, 1) := by decide +kernel
theorem dX8_differs_22 : decode cX8_differs 22 = .ok (.getfield 16, 3) := by decide +kernel
theorem dX8_differs_25 : decode cX8_differs 25 = .ok (.iload_n 1, 1) := by decide +kernel
theorem dX8_differs_26 : decode cX8_differs 26 = .ok (.iaload, 1) := by decide +kernel
theorem dX8_differs_27 : decode cX8_differs 27 = .ok (.aload_n 0, 1) := by decide +kernel
theorem dX8_differs_28 : decode cX8_differs 28 = .ok (.getfield 16, 3) := by decide +kernel
theorem dX8_differs_31 : decode cX8_differs 31 = .ok (.iload_n 2, 1) := by decide +kernel
theorem dX8_differs_32 : decode cX8_differs 32 = .ok (.iaload, 1) := by decide +kernel
theorem dX8_differs_33 : decode cX8_differs 33 = .ok (.if_icmp .eq 6, 3) := by decide +kernel
theorem dX8_differs_36 : decode cX8_differs 36 = .ok (.bipush (-2), 2) := by decide +kernel
theorem dX8_differs_38 : decode cX8_differs 38 = .ok (.ireturn, 1) := by decide +kernel
theorem dX8_differs_39 : decode cX8_differs 39 = .ok (.aload_n 0, 1) := by decide +kernel
theorem dX8_differs_40 : decode cX8_differs 40 = .ok (.invokevirtual 195, 3) := by decide +kernel
theorem dX8_differs_43 : decode cX8_differs 43 = .ok (.iconst 0, 1) := by decide +kernel
theorem dX8_differs_44 : decode cX8_differs 44 = .ok (.istore_n 3, 1) := by decide +kernel
theorem dX8_differs_45 : decode cX8_differs 45 = .ok (.iconst 0, 1) := by decide +kernel
theorem dX8_differs_46 : decode cX8_differs 46 = .ok (.istore 4, 2) := by decide +kernel
theorem dX8_differs_48 : decode cX8_differs 48 = .ok (.iload 4, 2) := by decide +kernel
theorem dX8_differs_50 : decode cX8_differs 50 = .ok (.aload_n 0, 1) := by decide +kernel
theorem dX8_differs_51 : decode cX8_differs 51 = .ok (.getfield 16, 3) := by decide +kernel
theorem dX8_differs_54 : decode cX8_differs 54 = .ok (.iload_n 1, 1) := by decide +kernel
theorem dX8_differs_55 : decode cX8_differs 55 = .ok (.iaload, 1) := by decide +kernel
theorem dX8_differs_56 : decode cX8_differs 56 = .ok (.if_icmp .ge 39, 3) := by decide +kernel
theorem dX8_differs_59 : decode cX8_differs 59 = .ok (.aload_n 0, 1) := by decide +kernel
theorem dX8_differs_60 : decode cX8_differs 60 = .ok (.iload_n 1, 1) := by decide +kernel
theorem dX8_differs_61 : decode cX8_differs 61 = .ok (.iload 4, 2) := by decide +kernel
theorem dX8_differs_63 : decode cX8_differs 63 = .ok (.invokevirtual 99, 3) := by decide +kernel
theorem dX8_differs_66 : decode cX8_differs 66 = .ok (.aload_n 0, 1) := by decide +kernel
theorem dX8_differs_67 : decode cX8_differs 67 = .ok (.iload_n 2, 1) := by decide +kernel
theorem dX8_differs_68 : decode cX8_differs 68 = .ok (.iload 4, 2) := by decide +kernel
theorem dX8_differs_70 : decode cX8_differs 70 = .ok (.invokevirtual 99, 3) := by decide +kernel
theorem dX8_differs_73 : decode cX8_differs 73 = .ok (.if_icmp .ne 6, 3) := by decide +kernel
theorem dX8_differs_76 : decode cX8_differs 76 = .ok (.goto 13, 3) := by decide +kernel
theorem dX8_differs_79 : decode cX8_differs 79 = .ok (.aload_n 0, 1) := by decide +kernel
theorem dX8_differs_80 : decode cX8_differs 80 = .ok (.iload 4, 2) := by decide +kernel
theorem dX8_differs_82 : decode cX8_differs 82 = .ok (.iconst 1, 1) := by decide +kernel
theorem dX8_differs_83 : decode cX8_differs 83 = .ok (.invokevirtual 198, 3) := by decide +kernel
theorem dX8_differs_86 : decode cX8_differs 86 = .ok (.iinc 3 1, 3) := by decide +kernel
theorem dX8_differs_89 : decode cX8_differs 89 = .ok (.iinc 4 1, 3) := by decide +kernel
theorem dX8_differs_92 : decode cX8_differs 92 = .ok (.goto (-44), 3) := by decide +kernel
theorem dX8_differs_95 : decode cX8_differs 95 = .ok (.aload_n 0, 1) := by decide +kernel
theorem dX8_differs_96 : decode cX8_differs 96 = .ok (.iconst 0, 1) := by decide +kernel
theorem dX8_differs_97 : decode cX8_differs 97 = .ok (.putfield 59, 3) := by decide +kernel
theorem dX8_differs_100 : decode cX8_differs 100 = .ok (.aload_n 0, 1) := by decide +kernel
theorem dX8_differs_101 : decode cX8_differs 101 = .ok (.iload_n 3, 1) := by decide +kernel
theorem dX8_differs_102 : decode cX8_differs 102 = .ok (.i2l, 1) := by decide +kernel
theorem dX8_differs_103 : decode cX8_differs 103 = .ok (.invokevirtual 150, 3) := by decide +kernel
theorem dX8_differs_106 : decode cX8_differs 106 = .ok (.aload_n 0, 1) := by decide +kernel
theorem dX8_differs_107 : decode cX8_differs 107 = .ok (.invokevirtual 281, 3) := by decide +kernel
theorem dX8_differs_110 : decode cX8_differs 110 = .ok (.ireturn, 1) := by decide +kernel
theorem dX8_writes_0 : decode cX8_writes 0 = .ok (.aload_n 0, 1) := by decide +kernel
theorem dX8_writes_1 : decode cX8_writes 1 = .ok (.getfield 284, 3) := by decide +kernel
theorem dX8_writes_4 : decode cX8_writes 4 = .ok (.aload_n 0, 1) := by decide +kernel
theorem dX8_writes_5 : decode cX8_writes 5 = .ok (.getfield 287, 3) := by decide +kernel
theorem dX8_writes_8 : decode cX8_writes 8 = .ok (.if_icmp .ne 8, 3) := by decide +kernel
theorem dX8_writes_11 : decode cX8_writes 11 = .ok (.aload_n 0, 1) := by decide +kernel
theorem dX8_writes_12 : decode cX8_writes 12 = .ok (.iload_n 1, 1) := by decide +kernel
theorem dX8_writes_13 : decode cX8_writes 13 = .ok (.putfield 290, 3) := by decide +kernel
theorem dX8_writes_16 : decode cX8_writes 16 = .ok (.aload_n 0, 1) := by decide +kernel
theorem dX8_writes_17 : decode cX8_writes 17 = .ok (.dup, 1) := by decide +kernel
theorem dX8_writes_18 : decode cX8_writes 18 = .ok (.getfield 284, 3) := by decide +kernel
theorem dX8_writes_21 : decode cX8_writes 21 = .ok (.iconst 1, 1) := by decide +kernel
theorem dX8_writes_22 : decode cX8_writes 22 = .ok (.iadd, 1) := by decide +kernel
theorem dX8_writes_23 : decode cX8_writes 23 = .ok (.putfield 284, 3) := by decide +kernel
theorem dX8_writes_26 : decode cX8_writes 26 = .ok (.return_, 1) := by decide +kernel
theorem dX8_writesNumber_0 : decode cX8_writesNumber 0 = .ok (.iload_n 1, 1) := by decide +kernel
theorem dX8_writesNumber_1 : decode cX8_writesNumber 1 = .ok (.ifCond .ge 9, 3) := by decide +kernel
theorem dX8_writesNumber_4 : decode cX8_writesNumber 4 = .ok (.aload_n 0, 1) := by decide +kernel
theorem dX8_writesNumber_5 : decode cX8_writesNumber 5 = .ok (.bipush 45, 2) := by decide +kernel
theorem dX8_writesNumber_7 : decode cX8_writesNumber 7 = .ok (.invokevirtual 293, 3) := by decide +kernel
theorem dX8_writesNumber_10 : decode cX8_writesNumber 10 = .ok (.iload_n 1, 1) := by decide +kernel
theorem dX8_writesNumber_11 : decode cX8_writesNumber 11 = .ok (.ifCond .ge 8, 3) := by decide +kernel
theorem dX8_writesNumber_14 : decode cX8_writesNumber 14 = .ok (.iload_n 1, 1) := by decide +kernel
theorem dX8_writesNumber_15 : decode cX8_writesNumber 15 = .ok (.ineg, 1) := by decide +kernel
theorem dX8_writesNumber_16 : decode cX8_writesNumber 16 = .ok (.goto 4, 3) := by decide +kernel
theorem dX8_writesNumber_19 : decode cX8_writesNumber 19 = .ok (.iload_n 1, 1) := by decide +kernel
theorem dX8_writesNumber_20 : decode cX8_writesNumber 20 = .ok (.istore_n 2, 1) := by decide +kernel
theorem dX8_writesNumber_21 : decode cX8_writesNumber 21 = .ok (.iload_n 2, 1) := by decide +kernel
theorem dX8_writesNumber_22 : decode cX8_writesNumber 22 = .ok (.bipush 100, 2) := by decide +kernel
theorem dX8_writesNumber_24 : decode cX8_writesNumber 24 = .ok (.if_icmp .lt 14, 3) := by decide +kernel
theorem dX8_writesNumber_27 : decode cX8_writesNumber 27 = .ok (.aload_n 0, 1) := by decide +kernel
theorem dX8_writesNumber_28 : decode cX8_writesNumber 28 = .ok (.bipush 48, 2) := by decide +kernel
theorem dX8_writesNumber_30 : decode cX8_writesNumber 30 = .ok (.iload_n 2, 1) := by decide +kernel
theorem dX8_writesNumber_31 : decode cX8_writesNumber 31 = .ok (.bipush 100, 2) := by decide +kernel
theorem dX8_writesNumber_33 : decode cX8_writesNumber 33 = .ok (.idiv, 1) := by decide +kernel
theorem dX8_writesNumber_34 : decode cX8_writesNumber 34 = .ok (.iadd, 1) := by decide +kernel
theorem dX8_writesNumber_35 : decode cX8_writesNumber 35 = .ok (.invokevirtual 293, 3) := by decide +kernel
theorem dX8_writesNumber_38 : decode cX8_writesNumber 38 = .ok (.iload_n 2, 1) := by decide +kernel
theorem dX8_writesNumber_39 : decode cX8_writesNumber 39 = .ok (.bipush 10, 2) := by decide +kernel
theorem dX8_writesNumber_41 : decode cX8_writesNumber 41 = .ok (.if_icmp .lt 17, 3) := by decide +kernel
theorem dX8_writesNumber_44 : decode cX8_writesNumber 44 = .ok (.aload_n 0, 1) := by decide +kernel
theorem dX8_writesNumber_45 : decode cX8_writesNumber 45 = .ok (.bipush 48, 2) := by decide +kernel
theorem dX8_writesNumber_47 : decode cX8_writesNumber 47 = .ok (.iload_n 2, 1) := by decide +kernel
theorem dX8_writesNumber_48 : decode cX8_writesNumber 48 = .ok (.bipush 10, 2) := by decide +kernel
theorem dX8_writesNumber_50 : decode cX8_writesNumber 50 = .ok (.idiv, 1) := by decide +kernel
theorem dX8_writesNumber_51 : decode cX8_writesNumber 51 = .ok (.bipush 10, 2) := by decide +kernel
theorem dX8_writesNumber_53 : decode cX8_writesNumber 53 = .ok (.irem, 1) := by decide +kernel
theorem dX8_writesNumber_54 : decode cX8_writesNumber 54 = .ok (.iadd, 1) := by decide +kernel
theorem dX8_writesNumber_55 : decode cX8_writesNumber 55 = .ok (.invokevirtual 293, 3) := by decide +kernel
theorem dX8_writesNumber_58 : decode cX8_writesNumber 58 = .ok (.aload_n 0, 1) := by decide +kernel
theorem dX8_writesNumber_59 : decode cX8_writesNumber 59 = .ok (.bipush 48, 2) := by decide +kernel
theorem dX8_writesNumber_61 : decode cX8_writesNumber 61 = .ok (.iload_n 2, 1) := by decide +kernel
theorem dX8_writesNumber_62 : decode cX8_writesNumber 62 = .ok (.bipush 10, 2) := by decide +kernel
theorem dX8_writesNumber_64 : decode cX8_writesNumber 64 = .ok (.irem, 1) := by decide +kernel
theorem dX8_writesNumber_65 : decode cX8_writesNumber 65 = .ok (.iadd, 1) := by decide +kernel
theorem dX8_writesNumber_66 : decode cX8_writesNumber 66 = .ok (.invokevirtual 293, 3) := by decide +kernel
theorem dX8_writesNumber_69 : decode cX8_writesNumber 69 = .ok (.return_, 1) := by decide +kernel
theorem dX8_writesPart_0 : decode cX8_writesPart 0 = .ok (.iload 4, 2) := by decide +kernel
theorem dX8_writesPart_2 : decode cX8_writesPart 2 = .ok (.ifCond .ne 10, 3) := by decide +kernel
theorem dX8_writesPart_5 : decode cX8_writesPart 5 = .ok (.aload_n 0, 1) := by decide +kernel
theorem dX8_writesPart_6 : decode cX8_writesPart 6 = .ok (.bipush 46, 2) := by decide +kernel
theorem dX8_writesPart_8 : decode cX8_writesPart 8 = .ok (.invokevirtual 293, 3) := by decide +kernel
theorem dX8_writesPart_11 : decode cX8_writesPart 11 = .ok (.return_, 1) := by decide +kernel
theorem dX8_writesPart_12 : decode cX8_writesPart 12 = .ok (.aload_n 0, 1) := by decide +kernel
theorem dX8_writesPart_13 : decode cX8_writesPart 13 = .ok (.bipush 40, 2) := by decide +kernel
theorem dX8_writesPart_15 : decode cX8_writesPart 15 = .ok (.invokevirtual 293, 3) := by decide +kernel
theorem dX8_writesPart_18 : decode cX8_writesPart 18 = .ok (.aload_n 0, 1) := by decide +kernel
theorem dX8_writesPart_19 : decode cX8_writesPart 19 = .ok (.aload_n 0, 1) := by decide +kernel
theorem dX8_writesPart_20 : decode cX8_writesPart 20 = .ok (.iload_n 1, 1) := by decide +kernel
theorem dX8_writesPart_21 : decode cX8_writesPart 21 = .ok (.iload_n 2, 1) := by decide +kernel
theorem dX8_writesPart_22 : decode cX8_writesPart 22 = .ok (.invokevirtual 99, 3) := by decide +kernel
theorem dX8_writesPart_25 : decode cX8_writesPart 25 = .ok (.invokevirtual 296, 3) := by decide +kernel
theorem dX8_writesPart_28 : decode cX8_writesPart 28 = .ok (.aload_n 0, 1) := by decide +kernel
theorem dX8_writesPart_29 : decode cX8_writesPart 29 = .ok (.iload_n 1, 1) := by decide +kernel
theorem dX8_writesPart_30 : decode cX8_writesPart 30 = .ok (.iload_n 2, 1) := by decide +kernel
theorem dX8_writesPart_31 : decode cX8_writesPart 31 = .ok (.iload_n 3, 1) := by decide +kernel
theorem dX8_writesPart_32 : decode cX8_writesPart 32 = .ok (.iadd, 1) := by decide +kernel
theorem dX8_writesPart_33 : decode cX8_writesPart 33 = .ok (.iconst 2, 1) := by decide +kernel
theorem dX8_writesPart_34 : decode cX8_writesPart 34 = .ok (.iload_n 3, 1) := by decide +kernel
theorem dX8_writesPart_35 : decode cX8_writesPart 35 = .ok (.imul, 1) := by decide +kernel
theorem dX8_writesPart_36 : decode cX8_writesPart 36 = .ok (.iload 4, 2) := by decide +kernel
theorem dX8_writesPart_38 : decode cX8_writesPart 38 = .ok (.invokestatic 169, 3) := by decide +kernel
theorem dX8_writesPart_41 : decode cX8_writesPart 41 = .ok (.invokevirtual 299, 3) := by decide +kernel
theorem dX8_writesPart_44 : decode cX8_writesPart 44 = .ok (.aload_n 0, 1) := by decide +kernel
theorem dX8_writesPart_45 : decode cX8_writesPart 45 = .ok (.iload_n 1, 1) := by decide +kernel
theorem dX8_writesPart_46 : decode cX8_writesPart 46 = .ok (.iload_n 2, 1) := by decide +kernel
theorem dX8_writesPart_47 : decode cX8_writesPart 47 = .ok (.iconst 2, 1) := by decide +kernel
theorem dX8_writesPart_48 : decode cX8_writesPart 48 = .ok (.iload_n 3, 1) := by decide +kernel
theorem dX8_writesPart_49 : decode cX8_writesPart 49 = .ok (.imul, 1) := by decide +kernel
theorem dX8_writesPart_50 : decode cX8_writesPart 50 = .ok (.iadd, 1) := by decide +kernel
theorem dX8_writesPart_51 : decode cX8_writesPart 51 = .ok (.iconst 2, 1) := by decide +kernel
theorem dX8_writesPart_52 : decode cX8_writesPart 52 = .ok (.iload_n 3, 1) := by decide +kernel
theorem dX8_writesPart_53 : decode cX8_writesPart 53 = .ok (.imul, 1) := by decide +kernel
theorem dX8_writesPart_54 : decode cX8_writesPart 54 = .ok (.iload 4, 2) := by decide +kernel
theorem dX8_writesPart_56 : decode cX8_writesPart 56 = .ok (.invokestatic 173, 3) := by decide +kernel
theorem dX8_writesPart_59 : decode cX8_writesPart 59 = .ok (.invokevirtual 299, 3) := by decide +kernel
theorem dX8_writesPart_62 : decode cX8_writesPart 62 = .ok (.aload_n 0, 1) := by decide +kernel
theorem dX8_writesPart_63 : decode cX8_writesPart 63 = .ok (.bipush 41, 2) := by decide +kernel
theorem dX8_writesPart_65 : decode cX8_writesPart 65 = .ok (.invokevirtual 293, 3) := by decide +kernel
theorem dX8_writesPart_68 : decode cX8_writesPart 68 = .ok (.return_, 1) := by decide +kernel
theorem dX8_written_0 : decode cX8_written 0 = .ok (.aload_n 0, 1) := by decide +kernel
theorem dX8_written_1 : decode cX8_written 1 = .ok (.iconst 0, 1) := by decide +kernel
theorem dX8_written_2 : decode cX8_written 2 = .ok (.putfield 55, 3) := by decide +kernel
theorem dX8_written_5 : decode cX8_written 5 = .ok (.iload_n 1, 1) := by decide +kernel
theorem dX8_written_6 : decode cX8_written 6 = .ok (.invokestatic 134, 3) := by decide +kernel
theorem dX8_written_9 : decode cX8_written 9 = .ok (.ifCond .eq 8, 3) := by decide +kernel
theorem dX8_written_12 : decode cX8_written 12 = .ok (.iload_n 2, 1) := by decide +kernel
theorem dX8_written_13 : decode cX8_written 13 = .ok (.iconst (-1), 1) := by decide +kernel
theorem dX8_written_14 : decode cX8_written 14 = .ok (.if_icmp .ge 5, 3) := by decide +kernel
theorem dX8_written_17 : decode cX8_written 17 = .ok (.iconst (-1), 1) := by decide +kernel
theorem dX8_written_18 : decode cX8_written 18 = .ok (.ireturn, 1) := by decide +kernel
theorem dX8_written_19 : decode cX8_written 19 = .ok (.aload_n 0, 1) := by decide +kernel
theorem dX8_written_20 : decode cX8_written 20 = .ok (.iconst 0, 1) := by decide +kernel
theorem dX8_written_21 : decode cX8_written 21 = .ok (.putfield 284, 3) := by decide +kernel
theorem dX8_written_24 : decode cX8_written 24 = .ok (.aload_n 0, 1) := by decide +kernel
theorem dX8_written_25 : decode cX8_written 25 = .ok (.iload_n 2, 1) := by decide +kernel
theorem dX8_written_26 : decode cX8_written 26 = .ok (.putfield 287, 3) := by decide +kernel
theorem dX8_written_29 : decode cX8_written 29 = .ok (.aload_n 0, 1) := by decide +kernel
theorem dX8_written_30 : decode cX8_written 30 = .ok (.iconst (-1), 1) := by decide +kernel
theorem dX8_written_31 : decode cX8_written 31 = .ok (.putfield 290, 3) := by decide +kernel
theorem dX8_written_34 : decode cX8_written 34 = .ok (.aload_n 0, 1) := by decide +kernel
theorem dX8_written_35 : decode cX8_written 35 = .ok (.iload_n 1, 1) := by decide +kernel
theorem dX8_written_36 : decode cX8_written 36 = .ok (.iconst 0, 1) := by decide +kernel
theorem dX8_written_37 : decode cX8_written 37 = .ok (.iconst 1, 1) := by decide +kernel
theorem dX8_written_38 : decode cX8_written 38 = .ok (.aload_n 0, 1) := by decide +kernel
theorem dX8_written_39 : decode cX8_written 39 = .ok (.getfield 16, 3) := by decide +kernel
theorem dX8_written_42 : decode cX8_written 42 = .ok (.iload_n 1, 1) := by decide +kernel
theorem dX8_written_43 : decode cX8_written 43 = .ok (.iaload, 1) := by decide +kernel
theorem dX8_written_44 : decode cX8_written 44 = .ok (.invokevirtual 299, 3) := by decide +kernel
theorem dX8_written_47 : decode cX8_written 47 = .ok (.iload_n 2, 1) := by decide +kernel
theorem dX8_written_48 : decode cX8_written 48 = .ok (.iconst (-1), 1) := by decide +kernel
theorem dX8_written_49 : decode cX8_written 49 = .ok (.if_icmp .ne 10, 3) := by decide +kernel
theorem dX8_written_52 : decode cX8_written 52 = .ok (.aload_n 0, 1) := by decide +kernel
theorem dX8_written_53 : decode cX8_written 53 = .ok (.getfield 284, 3) := by decide +kernel
theorem dX8_written_56 : decode cX8_written 56 = .ok (.goto 7, 3) := by decide +kernel
theorem dX8_written_59 : decode cX8_written 59 = .ok (.aload_n 0, 1) := by decide +kernel
theorem dX8_written_60 : decode cX8_written 60 = .ok (.getfield 290, 3) := by decide +kernel
theorem dX8_written_63 : decode cX8_written 63 = .ok (.ireturn, 1) := by decide +kernel
theorem dX8_frontCost_0 : decode cX8_frontCost 0 = .ok (.iconst 1, 1) := by decide +kernel
theorem dX8_frontCost_1 : decode cX8_frontCost 1 = .ok (.istore_n 1, 1) := by decide +kernel
theorem dX8_frontCost_2 : decode cX8_frontCost 2 = .ok (.iload_n 0, 1) := by decide +kernel
theorem dX8_frontCost_3 : decode cX8_frontCost 3 = .ok (.istore_n 2, 1) := by decide +kernel
theorem dX8_frontCost_4 : decode cX8_frontCost 4 = .ok (.iload_n 2, 1) := by decide +kernel
theorem dX8_frontCost_5 : decode cX8_frontCost 5 = .ok (.ifCond .le 14, 3) := by decide +kernel
theorem dX8_frontCost_8 : decode cX8_frontCost 8 = .ok (.iinc 1 1, 3) := by decide +kernel
theorem dX8_frontCost_11 : decode cX8_frontCost 11 = .ok (.iload_n 2, 1) := by decide +kernel
theorem dX8_frontCost_12 : decode cX8_frontCost 12 = .ok (.invokestatic 173, 3) := by decide +kernel
theorem dX8_frontCost_15 : decode cX8_frontCost 15 = .ok (.istore_n 2, 1) := by decide +kernel
theorem dX8_frontCost_16 : decode cX8_frontCost 16 = .ok (.goto (-12), 3) := by decide +kernel
theorem dX8_frontCost_19 : decode cX8_frontCost 19 = .ok (.iload_n 1, 1) := by decide +kernel
theorem dX8_frontCost_20 : decode cX8_frontCost 20 = .ok (.ireturn, 1) := by decide +kernel
theorem dX8_firstCost_0 : decode cX8_firstCost 0 = .ok (.iconst 0, 1) := by decide +kernel
theorem dX8_firstCost_1 : decode cX8_firstCost 1 = .ok (.istore_n 1, 1) := by decide +kernel
theorem dX8_firstCost_2 : decode cX8_firstCost 2 = .ok (.iload_n 0, 1) := by decide +kernel
theorem dX8_firstCost_3 : decode cX8_firstCost 3 = .ok (.istore_n 2, 1) := by decide +kernel
theorem dX8_firstCost_4 : decode cX8_firstCost 4 = .ok (.iload_n 2, 1) := by decide +kernel
theorem dX8_firstCost_5 : decode cX8_firstCost 5 = .ok (.iconst 1, 1) := by decide +kernel
theorem dX8_firstCost_6 : decode cX8_firstCost 6 = .ok (.if_icmp .le 14, 3) := by decide +kernel
theorem dX8_firstCost_9 : decode cX8_firstCost 9 = .ok (.iinc 1 1, 3) := by decide +kernel
theorem dX8_firstCost_12 : decode cX8_firstCost 12 = .ok (.iload_n 2, 1) := by decide +kernel
theorem dX8_firstCost_13 : decode cX8_firstCost 13 = .ok (.invokestatic 169, 3) := by decide +kernel
theorem dX8_firstCost_16 : decode cX8_firstCost 16 = .ok (.istore_n 2, 1) := by decide +kernel
theorem dX8_firstCost_17 : decode cX8_firstCost 17 = .ok (.goto (-13), 3) := by decide +kernel
theorem dX8_firstCost_20 : decode cX8_firstCost 20 = .ok (.iload_n 1, 1) := by decide +kernel
theorem dX8_firstCost_21 : decode cX8_firstCost 21 = .ok (.ireturn, 1) := by decide +kernel
theorem dX8_costs_0 : decode cX8_costs 0 = .ok (.aload_n 0, 1) := by decide +kernel
theorem dX8_costs_1 : decode cX8_costs 1 = .ok (.iconst 0, 1) := by decide +kernel
theorem dX8_costs_2 : decode cX8_costs 2 = .ok (.putfield 55, 3) := by decide +kernel
theorem dX8_costs_5 : decode cX8_costs 5 = .ok (.iload_n 1, 1) := by decide +kernel
theorem dX8_costs_6 : decode cX8_costs 6 = .ok (.i2l, 1) := by decide +kernel
theorem dX8_costs_7 : decode cX8_costs 7 = .ok (.lconst 0, 1) := by decide +kernel
theorem dX8_costs_8 : decode cX8_costs 8 = .ok (.ldc2_w 161, 3) := by decide +kernel
theorem dX8_costs_11 : decode cX8_costs 11 = .ok (.invokestatic 65, 3) := by decide +kernel
theorem dX8_costs_14 : decode cX8_costs 14 = .ok (.ifCond .eq 15, 3) := by decide +kernel
theorem dX8_costs_17 : decode cX8_costs 17 = .ok (.iload_n 2, 1) := by decide +kernel
theorem dX8_costs_18 : decode cX8_costs 18 = .ok (.i2l, 1) := by decide +kernel
theorem dX8_costs_19 : decode cX8_costs 19 = .ok (.lconst 0, 1) := by decide +kernel
theorem dX8_costs_20 : decode cX8_costs 20 = .ok (.ldc2_w 69, 3) := by decide +kernel
theorem dX8_costs_23 : decode cX8_costs 23 = .ok (.invokestatic 65, 3) := by decide +kernel
theorem dX8_costs_26 : decode cX8_costs 26 = .ok (.ifCond .ne 5, 3) := by decide +kernel
theorem dX8_costs_29 : decode cX8_costs 29 = .ok (.iconst (-1), 1) := by decide +kernel
theorem dX8_costs_30 : decode cX8_costs 30 = .ok (.ireturn, 1) := by decide +kernel
theorem dX8_costs_31 : decode cX8_costs 31 = .ok (.iload_n 2, 1) := by decide +kernel
theorem dX8_costs_32 : decode cX8_costs 32 = .ok (.ifCond .eq 13, 3) := by decide +kernel
theorem dX8_costs_35 : decode cX8_costs 35 = .ok (.iload_n 2, 1) := by decide +kernel
theorem dX8_costs_36 : decode cX8_costs 36 = .ok (.iconst 1, 1) := by decide +kernel
theorem dX8_costs_37 : decode cX8_costs 37 = .ok (.if_icmp .eq 8, 3) := by decide +kernel
theorem dX8_costs_40 : decode cX8_costs 40 = .ok (.iload_n 2, 1) := by decide +kernel
theorem dX8_costs_41 : decode cX8_costs 41 = .ok (.iconst 4, 1) := by decide +kernel
theorem dX8_costs_42 : decode cX8_costs 42 = .ok (.if_icmp .ne 7, 3) := by decide +kernel
theorem dX8_costs_45 : decode cX8_costs 45 = .ok (.iconst 1, 1) := by decide +kernel
theorem dX8_costs_46 : decode cX8_costs 46 = .ok (.goto 4, 3) := by decide +kernel
theorem dX8_costs_49 : decode cX8_costs 49 = .ok (.iconst 0, 1) := by decide +kernel
theorem dX8_costs_50 : decode cX8_costs 50 = .ok (.istore_n 3, 1) := by decide +kernel
theorem dX8_costs_51 : decode cX8_costs 51 = .ok (.iload_n 1, 1) := by decide +kernel
theorem dX8_costs_52 : decode cX8_costs 52 = .ok (.ifCond .ne 13, 3) := by decide +kernel
theorem dX8_costs_55 : decode cX8_costs 55 = .ok (.iload_n 2, 1) := by decide +kernel
theorem dX8_costs_56 : decode cX8_costs 56 = .ok (.iconst 2, 1) := by decide +kernel
theorem dX8_costs_57 : decode cX8_costs 57 = .ok (.if_icmp .eq 19, 3) := by decide +kernel
theorem dX8_costs_60 : decode cX8_costs 60 = .ok (.iload_n 2, 1) := by decide +kernel
theorem dX8_costs_61 : decode cX8_costs 61 = .ok (.iconst 3, 1) := by decide +kernel
theorem dX8_costs_62 : decode cX8_costs 62 = .ok (.if_icmp .eq 14, 3) := by decide +kernel
theorem dX8_costs_65 : decode cX8_costs 65 = .ok (.iload_n 1, 1) := by decide +kernel
theorem dX8_costs_66 : decode cX8_costs 66 = .ok (.sipush 255, 3) := by decide +kernel
theorem dX8_costs_69 : decode cX8_costs 69 = .ok (.if_icmp .ne 10, 3) := by decide +kernel
theorem dX8_costs_72 : decode cX8_costs 72 = .ok (.iload_n 3, 1) := by decide +kernel
theorem dX8_costs_73 : decode cX8_costs 73 = .ok (.ifCond .eq 6, 3) := by decide +kernel
theorem dX8_costs_76 : decode cX8_costs 76 = .ok (.bipush (-2), 2) := by decide +kernel
theorem dX8_costs_78 : decode cX8_costs 78 = .ok (.ireturn, 1) := by decide +kernel
theorem dX8_costs_79 : decode cX8_costs 79 = .ok (.iload_n 2, 1) := by decide +kernel
theorem dX8_costs_80 : decode cX8_costs 80 = .ok (.ifCond .eq 8, 3) := by decide +kernel
theorem dX8_costs_83 : decode cX8_costs 83 = .ok (.iload_n 2, 1) := by decide +kernel
theorem dX8_costs_84 : decode cX8_costs 84 = .ok (.iconst 4, 1) := by decide +kernel
theorem dX8_costs_85 : decode cX8_costs 85 = .ok (.if_icmp .ne 8, 3) := by decide +kernel
theorem dX8_costs_88 : decode cX8_costs 88 = .ok (.iload_n 1, 1) := by decide +kernel
theorem dX8_costs_89 : decode cX8_costs 89 = .ok (.invokestatic 302, 3) := by decide +kernel
theorem dX8_costs_92 : decode cX8_costs 92 = .ok (.ireturn, 1) := by decide +kernel
theorem dX8_costs_93 : decode cX8_costs 93 = .ok (.iload_n 2, 1) := by decide +kernel
theorem dX8_costs_94 : decode cX8_costs 94 = .ok (.iconst 2, 1) := by decide +kernel
theorem dX8_costs_95 : decode cX8_costs 95 = .ok (.if_icmp .ne 8, 3) := by decide +kernel
theorem dX8_costs_98 : decode cX8_costs 98 = .ok (.iload_n 1, 1) := by decide +kernel
theorem dX8_costs_99 : decode cX8_costs 99 = .ok (.invokestatic 305, 3) := by decide +kernel
theorem dX8_costs_102 : decode cX8_costs 102 = .ok (.ireturn, 1) := by decide +kernel
theorem dX8_costs_103 : decode cX8_costs 103 = .ok (.iload_n 2, 1) := by decide +kernel
theorem dX8_costs_104 : decode cX8_costs 104 = .ok (.iconst 5, 1) := by decide +kernel
theorem dX8_costs_105 : decode cX8_costs 105 = .ok (.if_icmp .ne 18, 3) := by decide +kernel
theorem dX8_costs_108 : decode cX8_costs 108 = .ok (.aload_n 0, 1) := by decide +kernel
theorem dX8_costs_109 : decode cX8_costs 109 = .ok (.iconst 0, 1) := by decide +kernel
theorem dX8_costs_110 : decode cX8_costs 110 = .ok (.putfield 179, 3) := by decide +kernel
theorem dX8_costs_113 : decode cX8_costs 113 = .ok (.aload_n 0, 1) := by decide +kernel
theorem dX8_costs_114 : decode cX8_costs 114 = .ok (.iload_n 1, 1) := by decide +kernel
theorem dX8_costs_115 : decode cX8_costs 115 = .ok (.invokevirtual 185, 3) := by decide +kernel
theorem dX8_costs_118 : decode cX8_costs 118 = .ok (.aload_n 0, 1) := by decide +kernel
theorem dX8_costs_119 : decode cX8_costs 119 = .ok (.getfield 179, 3) := by decide +kernel
theorem dX8_costs_122 : decode cX8_costs 122 = .ok (.ireturn, 1) := by decide +kernel
theorem dX8_costs_123 : decode cX8_costs 123 = .ok (.aload_n 0, 1) := by decide +kernel
theorem dX8_costs_124 : decode cX8_costs 124 = .ok (.iload_n 2, 1) := by decide +kernel
theorem dX8_costs_125 : decode cX8_costs 125 = .ok (.iconst 1, 1) := by decide +kernel
theorem dX8_costs_126 : decode cX8_costs 126 = .ok (.if_icmp .ne 7, 3) := by decide +kernel
theorem dX8_costs_129 : decode cX8_costs 129 = .ok (.iload_n 1, 1) := by decide +kernel
theorem dX8_costs_130 : decode cX8_costs 130 = .ok (.goto 6, 3) := by decide +kernel
theorem dX8_costs_133 : decode cX8_costs 133 = .ok (.iload_n 1, 1) := by decide +kernel
theorem dX8_costs_134 : decode cX8_costs 134 = .ok (.iconst 1, 1) := by decide +kernel
theorem dX8_costs_135 : decode cX8_costs 135 = .ok (.isub, 1) := by decide +kernel
theorem dX8_costs_136 : decode cX8_costs 136 = .ok (.invokevirtual 95, 3) := by decide +kernel
theorem dX8_costs_139 : decode cX8_costs 139 = .ok (.iload_n 2, 1) := by decide +kernel
theorem dX8_costs_140 : decode cX8_costs 140 = .ok (.iconst 1, 1) := by decide +kernel
theorem dX8_costs_141 : decode cX8_costs 141 = .ok (.if_icmp .ne 10, 3) := by decide +kernel
theorem dX8_costs_144 : decode cX8_costs 144 = .ok (.aload_n 0, 1) := by decide +kernel
theorem dX8_costs_145 : decode cX8_costs 145 = .ok (.getfield 89, 3) := by decide +kernel
theorem dX8_costs_148 : decode cX8_costs 148 = .ok (.goto 9, 3) := by decide +kernel
theorem dX8_costs_151 : decode cX8_costs 151 = .ok (.aload_n 0, 1) := by decide +kernel
theorem dX8_costs_152 : decode cX8_costs 152 = .ok (.getfield 89, 3) := by decide +kernel
theorem dX8_costs_155 : decode cX8_costs 155 = .ok (.iconst 1, 1) := by decide +kernel
theorem dX8_costs_156 : decode cX8_costs 156 = .ok (.isub, 1) := by decide +kernel
theorem dX8_costs_157 : decode cX8_costs 157 = .ok (.ireturn, 1) := by decide +kernel
theorem dX8_oftenOf_0 : decode cX8_oftenOf 0 = .ok (.iconst 0, 1) := by decide +kernel
theorem dX8_oftenOf_1 : decode cX8_oftenOf 1 = .ok (.istore_n 3, 1) := by decide +kernel
theorem dX8_oftenOf_2 : decode cX8_oftenOf 2 = .ok (.iconst 0, 1) := by decide +kernel
theorem dX8_oftenOf_3 : decode cX8_oftenOf 3 = .ok (.istore 4, 2) := by decide +kernel
theorem dX8_oftenOf_5 : decode cX8_oftenOf 5 = .ok (.iload 4, 2) := by decide +kernel
theorem dX8_oftenOf_7 : decode cX8_oftenOf 7 = .ok (.aload_n 0, 1) := by decide +kernel
theorem dX8_oftenOf_8 : decode cX8_oftenOf 8 = .ok (.getfield 16, 3) := by decide +kernel
theorem dX8_oftenOf_11 : decode cX8_oftenOf 11 = .ok (.iload_n 1, 1) := by decide +kernel
theorem dX8_oftenOf_12 : decode cX8_oftenOf 12 = .ok (.iaload, 1) := by decide +kernel
theorem dX8_oftenOf_13 : decode cX8_oftenOf 13 = .ok (.if_icmp .ge 28, 3) := by decide +kernel
theorem dX8_oftenOf_16 : decode cX8_oftenOf 16 = .ok (.iload_n 3, 1) := by decide +kernel
theorem dX8_oftenOf_17 : decode cX8_oftenOf 17 = .ok (.aload_n 0, 1) := by decide +kernel
theorem dX8_oftenOf_18 : decode cX8_oftenOf 18 = .ok (.iload_n 1, 1) := by decide +kernel
theorem dX8_oftenOf_19 : decode cX8_oftenOf 19 = .ok (.iload 4, 2) := by decide +kernel
theorem dX8_oftenOf_21 : decode cX8_oftenOf 21 = .ok (.invokevirtual 308, 3) := by decide +kernel
theorem dX8_oftenOf_24 : decode cX8_oftenOf 24 = .ok (.iload_n 2, 1) := by decide +kernel
theorem dX8_oftenOf_25 : decode cX8_oftenOf 25 = .ok (.if_icmp .ne 7, 3) := by decide +kernel
theorem dX8_oftenOf_28 : decode cX8_oftenOf 28 = .ok (.iconst 1, 1) := by decide +kernel
theorem dX8_oftenOf_29 : decode cX8_oftenOf 29 = .ok (.goto 4, 3) := by decide +kernel
theorem dX8_oftenOf_32 : decode cX8_oftenOf 32 = .ok (.iconst 0, 1) := by decide +kernel
theorem dX8_oftenOf_33 : decode cX8_oftenOf 33 = .ok (.iadd, 1) := by decide +kernel
theorem dX8_oftenOf_34 : decode cX8_oftenOf 34 = .ok (.istore_n 3, 1) := by decide +kernel
theorem dX8_oftenOf_35 : decode cX8_oftenOf 35 = .ok (.iinc 4 1, 3) := by decide +kernel
theorem dX8_oftenOf_38 : decode cX8_oftenOf 38 = .ok (.goto (-33), 3) := by decide +kernel
theorem dX8_oftenOf_41 : decode cX8_oftenOf 41 = .ok (.iload_n 3, 1) := by decide +kernel
theorem dX8_oftenOf_42 : decode cX8_oftenOf 42 = .ok (.ireturn, 1) := by decide +kernel
theorem dX8_twins_0 : decode cX8_twins 0 = .ok (.aload_n 0, 1) := by decide +kernel
theorem dX8_twins_1 : decode cX8_twins 1 = .ok (.iconst 0, 1) := by decide +kernel
theorem dX8_twins_2 : decode cX8_twins 2 = .ok (.putfield 55, 3) := by decide +kernel
theorem dX8_twins_5 : decode cX8_twins 5 = .ok (.iload_n 1, 1) := by decide +kernel
theorem dX8_twins_6 : decode cX8_twins 6 = .ok (.invokestatic 134, 3) := by decide +kernel
theorem dX8_twins_9 : decode cX8_twins 9 = .ok (.ifCond .ne 5, 3) := by decide +kernel
theorem dX8_twins_12 : decode cX8_twins 12 = .ok (.iconst (-1), 1) := by decide +kernel
theorem dX8_twins_13 : decode cX8_twins 13 = .ok (.ireturn, 1) := by decide +kernel
theorem dX8_twins_14 : decode cX8_twins 14 = .ok (.iconst 0, 1) := by decide +kernel
theorem dX8_twins_15 : decode cX8_twins 15 = .ok (.istore_n 2, 1) := by decide +kernel
theorem dX8_twins_16 : decode cX8_twins 16 = .ok (.iconst 0, 1) := by decide +kernel
theorem dX8_twins_17 : decode cX8_twins 17 = .ok (.istore_n 3, 1) := by decide +kernel
theorem dX8_twins_18 : decode cX8_twins 18 = .ok (.iconst 0, 1) := by decide +kernel
theorem dX8_twins_19 : decode cX8_twins 19 = .ok (.istore 4, 2) := by decide +kernel
theorem dX8_twins_21 : decode cX8_twins 21 = .ok (.iconst 0, 1) := by decide +kernel
theorem dX8_twins_22 : decode cX8_twins 22 = .ok (.istore 5, 2) := by decide +kernel
theorem dX8_twins_24 : decode cX8_twins 24 = .ok (.iload 5, 2) := by decide +kernel
theorem dX8_twins_26 : decode cX8_twins 26 = .ok (.aload_n 0, 1) := by decide +kernel
theorem dX8_twins_27 : decode cX8_twins 27 = .ok (.getfield 16, 3) := by decide +kernel
theorem dX8_twins_30 : decode cX8_twins 30 = .ok (.iload_n 1, 1) := by decide +kernel
theorem dX8_twins_31 : decode cX8_twins 31 = .ok (.iaload, 1) := by decide +kernel
theorem dX8_twins_32 : decode cX8_twins 32 = .ok (.if_icmp .ge 62, 3) := by decide +kernel
theorem dX8_twins_35 : decode cX8_twins 35 = .ok (.aload_n 0, 1) := by decide +kernel
theorem dX8_twins_36 : decode cX8_twins 36 = .ok (.iload_n 1, 1) := by decide +kernel
theorem dX8_twins_37 : decode cX8_twins 37 = .ok (.iload 5, 2) := by decide +kernel
theorem dX8_twins_39 : decode cX8_twins 39 = .ok (.invokevirtual 311, 3) := by decide +kernel
theorem dX8_twins_42 : decode cX8_twins 42 = .ok (.ifCond .ne 6, 3) := by decide +kernel
theorem dX8_twins_45 : decode cX8_twins 45 = .ok (.goto 43, 3) := by decide +kernel
theorem dX8_twins_48 : decode cX8_twins 48 = .ok (.aload_n 0, 1) := by decide +kernel
theorem dX8_twins_49 : decode cX8_twins 49 = .ok (.iload_n 1, 1) := by decide +kernel
theorem dX8_twins_50 : decode cX8_twins 50 = .ok (.aload_n 0, 1) := by decide +kernel
theorem dX8_twins_51 : decode cX8_twins 51 = .ok (.iload_n 1, 1) := by decide +kernel
theorem dX8_twins_52 : decode cX8_twins 52 = .ok (.iload 5, 2) := by decide +kernel
theorem dX8_twins_54 : decode cX8_twins 54 = .ok (.invokevirtual 308, 3) := by decide +kernel
theorem dX8_twins_57 : decode cX8_twins 57 = .ok (.invokevirtual 314, 3) := by decide +kernel
theorem dX8_twins_60 : decode cX8_twins 60 = .ok (.istore 6, 2) := by decide +kernel
theorem dX8_twins_62 : decode cX8_twins 62 = .ok (.iinc 3 1, 3) := by decide +kernel
theorem dX8_twins_65 : decode cX8_twins 65 = .ok (.iload_n 2, 1) := by decide +kernel
theorem dX8_twins_66 : decode cX8_twins 66 = .ok (.iload 6, 2) := by decide +kernel
theorem dX8_twins_68 : decode cX8_twins 68 = .ok (.iconst 1, 1) := by decide +kernel
theorem dX8_twins_69 : decode cX8_twins 69 = .ok (.if_icmp .le 7, 3) := by decide +kernel
theorem dX8_twins_72 : decode cX8_twins 72 = .ok (.iconst 1, 1) := by decide +kernel
theorem dX8_twins_73 : decode cX8_twins 73 = .ok (.goto 4, 3) := by decide +kernel
theorem dX8_twins_76 : decode cX8_twins 76 = .ok (.iconst 0, 1) := by decide +kernel
theorem dX8_twins_77 : decode cX8_twins 77 = .ok (.iadd, 1) := by decide +kernel
theorem dX8_twins_78 : decode cX8_twins 78 = .ok (.istore_n 2, 1) := by decide +kernel
theorem dX8_twins_79 : decode cX8_twins 79 = .ok (.iload 4, 2) := by decide +kernel
theorem dX8_twins_81 : decode cX8_twins 81 = .ok (.iload 6, 2) := by decide +kernel
theorem dX8_twins_83 : decode cX8_twins 83 = .ok (.invokestatic 234, 3) := by decide +kernel
theorem dX8_twins_86 : decode cX8_twins 86 = .ok (.istore 4, 2) := by decide +kernel
theorem dX8_twins_88 : decode cX8_twins 88 = .ok (.iinc 5 1, 3) := by decide +kernel
theorem dX8_twins_91 : decode cX8_twins 91 = .ok (.goto (-67), 3) := by decide +kernel
theorem dX8_twins_94 : decode cX8_twins 94 = .ok (.aload_n 0, 1) := by decide +kernel
theorem dX8_twins_95 : decode cX8_twins 95 = .ok (.iconst 0, 1) := by decide +kernel
theorem dX8_twins_96 : decode cX8_twins 96 = .ok (.putfield 59, 3) := by decide +kernel
theorem dX8_twins_99 : decode cX8_twins 99 = .ok (.aload_n 0, 1) := by decide +kernel
theorem dX8_twins_100 : decode cX8_twins 100 = .ok (.iload 4, 2) := by decide +kernel
theorem dX8_twins_102 : decode cX8_twins 102 = .ok (.i2l, 1) := by decide +kernel
theorem dX8_twins_103 : decode cX8_twins 103 = .ok (.invokevirtual 150, 3) := by decide +kernel
theorem dX8_twins_106 : decode cX8_twins 106 = .ok (.aload_n 0, 1) := by decide +kernel
theorem dX8_twins_107 : decode cX8_twins 107 = .ok (.aload_n 0, 1) := by decide +kernel
theorem dX8_twins_108 : decode cX8_twins 108 = .ok (.getfield 16, 3) := by decide +kernel
theorem dX8_twins_111 : decode cX8_twins 111 = .ok (.iload_n 1, 1) := by decide +kernel
theorem dX8_twins_112 : decode cX8_twins 112 = .ok (.iaload, 1) := by decide +kernel
theorem dX8_twins_113 : decode cX8_twins 113 = .ok (.iload_n 3, 1) := by decide +kernel
theorem dX8_twins_114 : decode cX8_twins 114 = .ok (.isub, 1) := by decide +kernel
theorem dX8_twins_115 : decode cX8_twins 115 = .ok (.i2l, 1) := by decide +kernel
theorem dX8_twins_116 : decode cX8_twins 116 = .ok (.invokevirtual 150, 3) := by decide +kernel
theorem dX8_twins_119 : decode cX8_twins 119 = .ok (.iload_n 2, 1) := by decide +kernel
theorem dX8_twins_120 : decode cX8_twins 120 = .ok (.ireturn, 1) := by decide +kernel
theorem dX8_hasNode_0 : decode cX8_hasNode 0 = .ok (.iconst 0, 1) := by decide +kernel
theorem dX8_hasNode_1 : decode cX8_hasNode 1 = .ok (.istore 4, 2) := by decide +kernel
theorem dX8_hasNode_3 : decode cX8_hasNode 3 = .ok (.iload 4, 2) := by decide +kernel
theorem dX8_hasNode_5 : decode cX8_hasNode 5 = .ok (.iload_n 3, 1) := by decide +kernel
theorem dX8_hasNode_6 : decode cX8_hasNode 6 = .ok (.if_icmp .ge 22, 3) := by decide +kernel
theorem dX8_hasNode_9 : decode cX8_hasNode 9 = .ok (.aload_n 0, 1) := by decide +kernel
theorem dX8_hasNode_10 : decode cX8_hasNode 10 = .ok (.iload_n 1, 1) := by decide +kernel
theorem dX8_hasNode_11 : decode cX8_hasNode 11 = .ok (.iload 4, 2) := by decide +kernel
theorem dX8_hasNode_13 : decode cX8_hasNode 13 = .ok (.invokevirtual 308, 3) := by decide +kernel
theorem dX8_hasNode_16 : decode cX8_hasNode 16 = .ok (.iload_n 2, 1) := by decide +kernel
theorem dX8_hasNode_17 : decode cX8_hasNode 17 = .ok (.if_icmp .ne 5, 3) := by decide +kernel
theorem dX8_hasNode_20 : decode cX8_hasNode 20 = .ok (.iconst 1, 1) := by decide +kernel
theorem dX8_hasNode_21 : decode cX8_hasNode 21 = .ok (.ireturn, 1) := by decide +kernel
theorem dX8_hasNode_22 : decode cX8_hasNode 22 = .ok (.iinc 4 1, 3) := by decide +kernel
theorem dX8_hasNode_25 : decode cX8_hasNode 25 = .ok (.goto (-22), 3) := by decide +kernel
theorem dX8_hasNode_28 : decode cX8_hasNode 28 = .ok (.iconst 0, 1) := by decide +kernel
theorem dX8_hasNode_29 : decode cX8_hasNode 29 = .ok (.ireturn, 1) := by decide +kernel
theorem dX8_isFirst_0 : decode cX8_isFirst 0 = .ok (.aload_n 0, 1) := by decide +kernel
theorem dX8_isFirst_1 : decode cX8_isFirst 1 = .ok (.iload_n 1, 1) := by decide +kernel
theorem dX8_isFirst_2 : decode cX8_isFirst 2 = .ok (.aload_n 0, 1) := by decide +kernel
theorem dX8_isFirst_3 : decode cX8_isFirst 3 = .ok (.iload_n 1, 1) := by decide +kernel
theorem dX8_isFirst_4 : decode cX8_isFirst 4 = .ok (.iload_n 2, 1) := by decide +kernel
theorem dX8_isFirst_5 : decode cX8_isFirst 5 = .ok (.invokevirtual 308, 3) := by decide +kernel
theorem dX8_isFirst_8 : decode cX8_isFirst 8 = .ok (.iload_n 2, 1) := by decide +kernel
theorem dX8_isFirst_9 : decode cX8_isFirst 9 = .ok (.invokevirtual 317, 3) := by decide +kernel
theorem dX8_isFirst_12 : decode cX8_isFirst 12 = .ok (.ifCond .ne 7, 3) := by decide +kernel
theorem dX8_isFirst_15 : decode cX8_isFirst 15 = .ok (.iconst 1, 1) := by decide +kernel
theorem dX8_isFirst_16 : decode cX8_isFirst 16 = .ok (.goto 4, 3) := by decide +kernel
theorem dX8_isFirst_19 : decode cX8_isFirst 19 = .ok (.iconst 0, 1) := by decide +kernel
theorem dX8_isFirst_20 : decode cX8_isFirst 20 = .ok (.ireturn, 1) := by decide +kernel
theorem dX8_same_0 : decode cX8_same 0 = .ok (.aload_n 0, 1) := by decide +kernel
theorem dX8_same_1 : decode cX8_same 1 = .ok (.iconst 0, 1) := by decide +kernel
theorem dX8_same_2 : decode cX8_same 2 = .ok (.putfield 55, 3) := by decide +kernel
theorem dX8_same_5 : decode cX8_same 5 = .ok (.iload_n 1, 1) := by decide +kernel
theorem dX8_same_6 : decode cX8_same 6 = .ok (.invokestatic 134, 3) := by decide +kernel
theorem dX8_same_9 : decode cX8_same 9 = .ok (.ifCond .eq 10, 3) := by decide +kernel
theorem dX8_same_12 : decode cX8_same 12 = .ok (.iload_n 2, 1) := by decide +kernel
theorem dX8_same_13 : decode cX8_same 13 = .ok (.invokestatic 134, 3) := by decide +kernel
theorem dX8_same_16 : decode cX8_same 16 = .ok (.ifCond .ne 5, 3) := by decide +kernel
theorem dX8_same_19 : decode cX8_same 19 = .ok (.iconst (-1), 1) := by decide +kernel
theorem dX8_same_20 : decode cX8_same 20 = .ok (.ireturn, 1) := by decide +kernel
theorem dX8_same_21 : decode cX8_same 21 = .ok (.aload_n 0, 1) := by decide +kernel
theorem dX8_same_22 : decode cX8_same 22 = .ok (.getfield 16, 3) := by decide +kernel
theorem dX8_same_25 : decode cX8_same 25 = .ok (.iload_n 1, 1) := by decide +kernel
theorem dX8_same_26 : decode cX8_same 26 = .ok (.iaload, 1) := by decide +kernel
theorem dX8_same_27 : decode cX8_same 27 = .ok (.aload_n 0, 1) := by decide +kernel
theorem dX8_same_28 : decode cX8_same 28 = .ok (.getfield 16, 3) := by decide +kernel
theorem dX8_same_31 : decode cX8_same 31 = .ok (.iload_n 2, 1) := by decide +kernel
theorem dX8_same_32 : decode cX8_same 32 = .ok (.iaload, 1) := by decide +kernel
theorem dX8_same_33 : decode cX8_same 33 = .ok (.invokestatic 229, 3) := by decide +kernel
theorem dX8_same_36 : decode cX8_same 36 = .ok (.istore_n 3, 1) := by decide +kernel
theorem dX8_same_37 : decode cX8_same 37 = .ok (.iconst 0, 1) := by decide +kernel
theorem dX8_same_38 : decode cX8_same 38 = .ok (.istore 4, 2) := by decide +kernel
theorem dX8_same_40 : decode cX8_same 40 = .ok (.iload 4, 2) := by decide +kernel
theorem dX8_same_42 : decode cX8_same 42 = .ok (.iload_n 3, 1) := by decide +kernel
theorem dX8_same_43 : decode cX8_same 43 = .ok (.if_icmp .ge 26, 3) := by decide +kernel
theorem dX8_same_46 : decode cX8_same 46 = .ok (.aload_n 0, 1) := by decide +kernel
theorem dX8_same_47 : decode cX8_same 47 = .ok (.iload_n 1, 1) := by decide +kernel
theorem dX8_same_48 : decode cX8_same 48 = .ok (.iload 4, 2) := by decide +kernel
theorem dX8_same_50 : decode cX8_same 50 = .ok (.invokevirtual 99, 3) := by decide +kernel
theorem dX8_same_53 : decode cX8_same 53 = .ok (.aload_n 0, 1) := by decide +kernel
theorem dX8_same_54 : decode cX8_same 54 = .ok (.iload_n 2, 1) := by decide +kernel
theorem dX8_same_55 : decode cX8_same 55 = .ok (.iload 4, 2) := by decide +kernel
theorem dX8_same_57 : decode cX8_same 57 = .ok (.invokevirtual 99, 3) := by decide +kernel
theorem dX8_same_60 : decode cX8_same 60 = .ok (.if_icmp .ne 9, 3) := by decide +kernel
theorem dX8_same_63 : decode cX8_same 63 = .ok (.iinc 4 1, 3) := by decide +kernel
theorem dX8_same_66 : decode cX8_same 66 = .ok (.goto (-26), 3) := by decide +kernel
theorem dX8_same_69 : decode cX8_same 69 = .ok (.iload 4, 2) := by decide +kernel
theorem dX8_same_71 : decode cX8_same 71 = .ok (.aload_n 0, 1) := by decide +kernel
theorem dX8_same_72 : decode cX8_same 72 = .ok (.getfield 16, 3) := by decide +kernel
theorem dX8_same_75 : decode cX8_same 75 = .ok (.iload_n 1, 1) := by decide +kernel
theorem dX8_same_76 : decode cX8_same 76 = .ok (.iaload, 1) := by decide +kernel
theorem dX8_same_77 : decode cX8_same 77 = .ok (.if_icmp .ne 18, 3) := by decide +kernel
theorem dX8_same_80 : decode cX8_same 80 = .ok (.iload 4, 2) := by decide +kernel
theorem dX8_same_82 : decode cX8_same 82 = .ok (.aload_n 0, 1) := by decide +kernel
theorem dX8_same_83 : decode cX8_same 83 = .ok (.getfield 16, 3) := by decide +kernel
theorem dX8_same_86 : decode cX8_same 86 = .ok (.iload_n 2, 1) := by decide +kernel
theorem dX8_same_87 : decode cX8_same 87 = .ok (.iaload, 1) := by decide +kernel
theorem dX8_same_88 : decode cX8_same 88 = .ok (.if_icmp .ne 7, 3) := by decide +kernel
theorem dX8_same_91 : decode cX8_same 91 = .ok (.iconst 1, 1) := by decide +kernel
theorem dX8_same_92 : decode cX8_same 92 = .ok (.goto 4, 3) := by decide +kernel
theorem dX8_same_95 : decode cX8_same 95 = .ok (.iconst 0, 1) := by decide +kernel
theorem dX8_same_96 : decode cX8_same 96 = .ok (.istore 5, 2) := by decide +kernel
theorem dX8_same_98 : decode cX8_same 98 = .ok (.iconst 0, 1) := by decide +kernel
theorem dX8_same_99 : decode cX8_same 99 = .ok (.istore 6, 2) := by decide +kernel
theorem dX8_same_101 : decode cX8_same 101 = .ok (.iconst 0, 1) := by decide +kernel
theorem dX8_same_102 : decode cX8_same 102 = .ok (.istore 7, 2) := by decide +kernel
theorem dX8_same_104 : decode cX8_same 104 = .ok (.iload 7, 2) := by decide +kernel
theorem dX8_same_106 : decode cX8_same 106 = .ok (.aload_n 0, 1) := by decide +kernel
theorem dX8_same_107 : decode cX8_same 107 = .ok (.getfield 16, 3) := by decide +kernel
theorem dX8_same_110 : decode cX8_same 110 = .ok (.iload_n 1, 1) := by decide +kernel
theorem dX8_same_111 : decode cX8_same 111 = .ok (.iaload, 1) := by decide +kernel
theorem dX8_same_112 : decode cX8_same 112 = .ok (.if_icmp .ge 50, 3) := by decide +kernel
theorem dX8_same_115 : decode cX8_same 115 = .ok (.iload 6, 2) := by decide +kernel
theorem dX8_same_117 : decode cX8_same 117 = .ok (.aload_n 0, 1) := by decide +kernel
theorem dX8_same_118 : decode cX8_same 118 = .ok (.iload_n 1, 1) := by decide +kernel
theorem dX8_same_119 : decode cX8_same 119 = .ok (.iload 7, 2) := by decide +kernel
theorem dX8_same_121 : decode cX8_same 121 = .ok (.invokevirtual 311, 3) := by decide +kernel
theorem dX8_same_124 : decode cX8_same 124 = .ok (.ifCond .eq 28, 3) := by decide +kernel
theorem dX8_same_127 : decode cX8_same 127 = .ok (.aload_n 0, 1) := by decide +kernel
theorem dX8_same_128 : decode cX8_same 128 = .ok (.iload_n 2, 1) := by decide +kernel
theorem dX8_same_129 : decode cX8_same 129 = .ok (.aload_n 0, 1) := by decide +kernel
theorem dX8_same_130 : decode cX8_same 130 = .ok (.iload_n 1, 1) := by decide +kernel
theorem dX8_same_131 : decode cX8_same 131 = .ok (.iload 7, 2) := by decide +kernel
theorem dX8_same_133 : decode cX8_same 133 = .ok (.invokevirtual 308, 3) := by decide +kernel
theorem dX8_same_136 : decode cX8_same 136 = .ok (.aload_n 0, 1) := by decide +kernel
theorem dX8_same_137 : decode cX8_same 137 = .ok (.getfield 16, 3) := by decide +kernel
theorem dX8_same_140 : decode cX8_same 140 = .ok (.iload_n 2, 1) := by decide +kernel
theorem dX8_same_141 : decode cX8_same 141 = .ok (.iaload, 1) := by decide +kernel
theorem dX8_same_142 : decode cX8_same 142 = .ok (.invokevirtual 317, 3) := by decide +kernel
theorem dX8_same_145 : decode cX8_same 145 = .ok (.ifCond .eq 7, 3) := by decide +kernel
theorem dX8_same_148 : decode cX8_same 148 = .ok (.iconst 1, 1) := by decide +kernel
theorem dX8_same_149 : decode cX8_same 149 = .ok (.goto 4, 3) := by decide +kernel
theorem dX8_same_152 : decode cX8_same 152 = .ok (.iconst 0, 1) := by decide +kernel
theorem dX8_same_153 : decode cX8_same 153 = .ok (.iadd, 1) := by decide +kernel
theorem dX8_same_154 : decode cX8_same 154 = .ok (.istore 6, 2) := by decide +kernel
theorem dX8_same_156 : decode cX8_same 156 = .ok (.iinc 7 1, 3) := by decide +kernel
theorem dX8_same_159 : decode cX8_same 159 = .ok (.goto (-55), 3) := by decide +kernel
theorem dX8_same_162 : decode cX8_same 162 = .ok (.aload_n 0, 1) := by decide +kernel
theorem dX8_same_163 : decode cX8_same 163 = .ok (.iconst 0, 1) := by decide +kernel
theorem dX8_same_164 : decode cX8_same 164 = .ok (.putfield 59, 3) := by decide +kernel
theorem dX8_same_167 : decode cX8_same 167 = .ok (.aload_n 0, 1) := by decide +kernel
theorem dX8_same_168 : decode cX8_same 168 = .ok (.iload 5, 2) := by decide +kernel
theorem dX8_same_170 : decode cX8_same 170 = .ok (.ifCond .eq 9, 3) := by decide +kernel
theorem dX8_same_173 : decode cX8_same 173 = .ok (.ldc2_w 320, 3) := by decide +kernel
theorem dX8_same_176 : decode cX8_same 176 = .ok (.goto 6, 3) := by decide +kernel
theorem dX8_same_179 : decode cX8_same 179 = .ok (.iload 4, 2) := by decide +kernel
theorem dX8_same_181 : decode cX8_same 181 = .ok (.i2l, 1) := by decide +kernel
theorem dX8_same_182 : decode cX8_same 182 = .ok (.invokevirtual 150, 3) := by decide +kernel
theorem dX8_same_185 : decode cX8_same 185 = .ok (.aload_n 0, 1) := by decide +kernel
theorem dX8_same_186 : decode cX8_same 186 = .ok (.iload 6, 2) := by decide +kernel
theorem dX8_same_188 : decode cX8_same 188 = .ok (.i2l, 1) := by decide +kernel
theorem dX8_same_189 : decode cX8_same 189 = .ok (.invokevirtual 150, 3) := by decide +kernel
theorem dX8_same_192 : decode cX8_same 192 = .ok (.iload 5, 2) := by decide +kernel
theorem dX8_same_194 : decode cX8_same 194 = .ok (.ifCond .eq 7, 3) := by decide +kernel
theorem dX8_same_197 : decode cX8_same 197 = .ok (.iconst 1, 1) := by decide +kernel
theorem dX8_same_198 : decode cX8_same 198 = .ok (.goto 4, 3) := by decide +kernel
theorem dX8_same_201 : decode cX8_same 201 = .ok (.iconst 0, 1) := by decide +kernel
theorem dX8_same_202 : decode cX8_same 202 = .ok (.ireturn, 1) := by decide +kernel
theorem dX8_placesOf_0 : decode cX8_placesOf 0 = .ok (.iconst 0, 1) := by decide +kernel
theorem dX8_placesOf_1 : decode cX8_placesOf 1 = .ok (.istore_n 3, 1) := by decide +kernel
theorem dX8_placesOf_2 : decode cX8_placesOf 2 = .ok (.iload_n 2, 1) := by decide +kernel
theorem dX8_placesOf_3 : decode cX8_placesOf 3 = .ok (.istore 4, 2) := by decide +kernel
theorem dX8_placesOf_5 : decode cX8_placesOf 5 = .ok (.iload 4, 2) := by decide +kernel
theorem dX8_placesOf_7 : decode cX8_placesOf 7 = .ok (.bipush 6, 2) := by decide +kernel
theorem dX8_placesOf_9 : decode cX8_placesOf 9 = .ok (.if_icmp .ge 34, 3) := by decide +kernel
theorem dX8_placesOf_12 : decode cX8_placesOf 12 = .ok (.iload_n 3, 1) := by decide +kernel
theorem dX8_placesOf_13 : decode cX8_placesOf 13 = .ok (.aload_n 0, 1) := by decide +kernel
theorem dX8_placesOf_14 : decode cX8_placesOf 14 = .ok (.iload 4, 2) := by decide +kernel
theorem dX8_placesOf_16 : decode cX8_placesOf 16 = .ok (.iload_n 1, 1) := by decide +kernel
theorem dX8_placesOf_17 : decode cX8_placesOf 17 = .ok (.aload_n 0, 1) := by decide +kernel
theorem dX8_placesOf_18 : decode cX8_placesOf 18 = .ok (.getfield 16, 3) := by decide +kernel
theorem dX8_placesOf_21 : decode cX8_placesOf 21 = .ok (.iload 4, 2) := by decide +kernel
theorem dX8_placesOf_23 : decode cX8_placesOf 23 = .ok (.iaload, 1) := by decide +kernel
theorem dX8_placesOf_24 : decode cX8_placesOf 24 = .ok (.invokevirtual 317, 3) := by decide +kernel
theorem dX8_placesOf_27 : decode cX8_placesOf 27 = .ok (.ifCond .eq 7, 3) := by decide +kernel
theorem dX8_placesOf_30 : decode cX8_placesOf 30 = .ok (.iconst 1, 1) := by decide +kernel
theorem dX8_placesOf_31 : decode cX8_placesOf 31 = .ok (.goto 4, 3) := by decide +kernel
theorem dX8_placesOf_34 : decode cX8_placesOf 34 = .ok (.iconst 0, 1) := by decide +kernel
theorem dX8_placesOf_35 : decode cX8_placesOf 35 = .ok (.iadd, 1) := by decide +kernel
theorem dX8_placesOf_36 : decode cX8_placesOf 36 = .ok (.istore_n 3, 1) := by decide +kernel
theorem dX8_placesOf_37 : decode cX8_placesOf 37 = .ok (.iinc 4 1, 3) := by decide +kernel
theorem dX8_placesOf_40 : decode cX8_placesOf 40 = .ok (.goto (-35), 3) := by decide +kernel
theorem dX8_placesOf_43 : decode cX8_placesOf 43 = .ok (.iload_n 3, 1) := by decide +kernel
theorem dX8_placesOf_44 : decode cX8_placesOf 44 = .ok (.ireturn, 1) := by decide +kernel
theorem dX8_isAhead_0 : decode cX8_isAhead 0 = .ok (.iconst 0, 1) := by decide +kernel
theorem dX8_isAhead_1 : decode cX8_isAhead 1 = .ok (.istore_n 3, 1) := by decide +kernel
theorem dX8_isAhead_2 : decode cX8_isAhead 2 = .ok (.iload_n 3, 1) := by decide +kernel
theorem dX8_isAhead_3 : decode cX8_isAhead 3 = .ok (.iload_n 2, 1) := by decide +kernel
theorem dX8_isAhead_4 : decode cX8_isAhead 4 = .ok (.if_icmp .ge 26, 3) := by decide +kernel
theorem dX8_isAhead_7 : decode cX8_isAhead 7 = .ok (.aload_n 0, 1) := by decide +kernel
theorem dX8_isAhead_8 : decode cX8_isAhead 8 = .ok (.iload_n 3, 1) := by decide +kernel
theorem dX8_isAhead_9 : decode cX8_isAhead 9 = .ok (.iload_n 1, 1) := by decide +kernel
theorem dX8_isAhead_10 : decode cX8_isAhead 10 = .ok (.aload_n 0, 1) := by decide +kernel
theorem dX8_isAhead_11 : decode cX8_isAhead 11 = .ok (.getfield 16, 3) := by decide +kernel
theorem dX8_isAhead_14 : decode cX8_isAhead 14 = .ok (.iload_n 3, 1) := by decide +kernel
theorem dX8_isAhead_15 : decode cX8_isAhead 15 = .ok (.iaload, 1) := by decide +kernel
theorem dX8_isAhead_16 : decode cX8_isAhead 16 = .ok (.invokevirtual 317, 3) := by decide +kernel
theorem dX8_isAhead_19 : decode cX8_isAhead 19 = .ok (.ifCond .eq 5, 3) := by decide +kernel
theorem dX8_isAhead_22 : decode cX8_isAhead 22 = .ok (.iconst 1, 1) := by decide +kernel
theorem dX8_isAhead_23 : decode cX8_isAhead 23 = .ok (.ireturn, 1) := by decide +kernel
theorem dX8_isAhead_24 : decode cX8_isAhead 24 = .ok (.iinc 3 1, 3) := by decide +kernel
theorem dX8_isAhead_27 : decode cX8_isAhead 27 = .ok (.goto (-25), 3) := by decide +kernel
theorem dX8_isAhead_30 : decode cX8_isAhead 30 = .ok (.iconst 0, 1) := by decide +kernel
theorem dX8_isAhead_31 : decode cX8_isAhead 31 = .ok (.ireturn, 1) := by decide +kernel
theorem dX8_nodes_0 : decode cX8_nodes 0 = .ok (.aload_n 0, 1) := by decide +kernel
theorem dX8_nodes_1 : decode cX8_nodes 1 = .ok (.iconst 0, 1) := by decide +kernel
theorem dX8_nodes_2 : decode cX8_nodes 2 = .ok (.putfield 55, 3) := by decide +kernel
theorem dX8_nodes_5 : decode cX8_nodes 5 = .ok (.iconst 0, 1) := by decide +kernel
theorem dX8_nodes_6 : decode cX8_nodes 6 = .ok (.istore_n 1, 1) := by decide +kernel
theorem dX8_nodes_7 : decode cX8_nodes 7 = .ok (.iconst 0, 1) := by decide +kernel
theorem dX8_nodes_8 : decode cX8_nodes 8 = .ok (.istore_n 2, 1) := by decide +kernel
theorem dX8_nodes_9 : decode cX8_nodes 9 = .ok (.iconst 0, 1) := by decide +kernel
theorem dX8_nodes_10 : decode cX8_nodes 10 = .ok (.istore_n 3, 1) := by decide +kernel
theorem dX8_nodes_11 : decode cX8_nodes 11 = .ok (.iconst 0, 1) := by decide +kernel
theorem dX8_nodes_12 : decode cX8_nodes 12 = .ok (.istore 4, 2) := by decide +kernel
theorem dX8_nodes_14 : decode cX8_nodes 14 = .ok (.iload 4, 2) := by decide +kernel
theorem dX8_nodes_16 : decode cX8_nodes 16 = .ok (.bipush 6, 2) := by decide +kernel
theorem dX8_nodes_18 : decode cX8_nodes 18 = .ok (.if_icmp .ge 100, 3) := by decide +kernel
theorem dX8_nodes_21 : decode cX8_nodes 21 = .ok (.iload_n 3, 1) := by decide +kernel
theorem dX8_nodes_22 : decode cX8_nodes 22 = .ok (.aload_n 0, 1) := by decide +kernel
theorem dX8_nodes_23 : decode cX8_nodes 23 = .ok (.getfield 16, 3) := by decide +kernel
theorem dX8_nodes_26 : decode cX8_nodes 26 = .ok (.iload 4, 2) := by decide +kernel
theorem dX8_nodes_28 : decode cX8_nodes 28 = .ok (.iaload, 1) := by decide +kernel
theorem dX8_nodes_29 : decode cX8_nodes 29 = .ok (.iadd, 1) := by decide +kernel
theorem dX8_nodes_30 : decode cX8_nodes 30 = .ok (.istore_n 3, 1) := by decide +kernel
theorem dX8_nodes_31 : decode cX8_nodes 31 = .ok (.iconst 0, 1) := by decide +kernel
theorem dX8_nodes_32 : decode cX8_nodes 32 = .ok (.istore 5, 2) := by decide +kernel
theorem dX8_nodes_34 : decode cX8_nodes 34 = .ok (.iload 5, 2) := by decide +kernel
theorem dX8_nodes_36 : decode cX8_nodes 36 = .ok (.aload_n 0, 1) := by decide +kernel
theorem dX8_nodes_37 : decode cX8_nodes 37 = .ok (.getfield 16, 3) := by decide +kernel
theorem dX8_nodes_40 : decode cX8_nodes 40 = .ok (.iload 4, 2) := by decide +kernel
theorem dX8_nodes_42 : decode cX8_nodes 42 = .ok (.iaload, 1) := by decide +kernel
theorem dX8_nodes_43 : decode cX8_nodes 43 = .ok (.if_icmp .ge 69, 3) := by decide +kernel
theorem dX8_nodes_46 : decode cX8_nodes 46 = .ok (.aload_n 0, 1) := by decide +kernel
theorem dX8_nodes_47 : decode cX8_nodes 47 = .ok (.iload 4, 2) := by decide +kernel
theorem dX8_nodes_49 : decode cX8_nodes 49 = .ok (.iload 5, 2) := by decide +kernel
theorem dX8_nodes_51 : decode cX8_nodes 51 = .ok (.invokevirtual 311, 3) := by decide +kernel
theorem dX8_nodes_54 : decode cX8_nodes 54 = .ok (.ifCond .eq 52, 3) := by decide +kernel
theorem dX8_nodes_57 : decode cX8_nodes 57 = .ok (.aload_n 0, 1) := by decide +kernel
theorem dX8_nodes_58 : decode cX8_nodes 58 = .ok (.aload_n 0, 1) := by decide +kernel
theorem dX8_nodes_59 : decode cX8_nodes 59 = .ok (.iload 4, 2) := by decide +kernel
theorem dX8_nodes_61 : decode cX8_nodes 61 = .ok (.iload 5, 2) := by decide +kernel
theorem dX8_nodes_63 : decode cX8_nodes 63 = .ok (.invokevirtual 308, 3) := by decide +kernel
theorem dX8_nodes_66 : decode cX8_nodes 66 = .ok (.iload 4, 2) := by decide +kernel
theorem dX8_nodes_68 : decode cX8_nodes 68 = .ok (.invokevirtual 322, 3) := by decide +kernel
theorem dX8_nodes_71 : decode cX8_nodes 71 = .ok (.ifCond .eq 6, 3) := by decide +kernel
theorem dX8_nodes_74 : decode cX8_nodes 74 = .ok (.goto 32, 3) := by decide +kernel
theorem dX8_nodes_77 : decode cX8_nodes 77 = .ok (.iinc 1 1, 3) := by decide +kernel
theorem dX8_nodes_80 : decode cX8_nodes 80 = .ok (.iload_n 2, 1) := by decide +kernel
theorem dX8_nodes_81 : decode cX8_nodes 81 = .ok (.aload_n 0, 1) := by decide +kernel
theorem dX8_nodes_82 : decode cX8_nodes 82 = .ok (.aload_n 0, 1) := by decide +kernel
theorem dX8_nodes_83 : decode cX8_nodes 83 = .ok (.iload 4, 2) := by decide +kernel
theorem dX8_nodes_85 : decode cX8_nodes 85 = .ok (.iload 5, 2) := by decide +kernel
theorem dX8_nodes_87 : decode cX8_nodes 87 = .ok (.invokevirtual 308, 3) := by decide +kernel
theorem dX8_nodes_90 : decode cX8_nodes 90 = .ok (.iload 4, 2) := by decide +kernel
theorem dX8_nodes_92 : decode cX8_nodes 92 = .ok (.invokevirtual 325, 3) := by decide +kernel
theorem dX8_nodes_95 : decode cX8_nodes 95 = .ok (.iconst 1, 1) := by decide +kernel
theorem dX8_nodes_96 : decode cX8_nodes 96 = .ok (.if_icmp .le 7, 3) := by decide +kernel
theorem dX8_nodes_99 : decode cX8_nodes 99 = .ok (.iconst 1, 1) := by decide +kernel
theorem dX8_nodes_100 : decode cX8_nodes 100 = .ok (.goto 4, 3) := by decide +kernel
theorem dX8_nodes_103 : decode cX8_nodes 103 = .ok (.iconst 0, 1) := by decide +kernel
theorem dX8_nodes_104 : decode cX8_nodes 104 = .ok (.iadd, 1) := by decide +kernel
theorem dX8_nodes_105 : decode cX8_nodes 105 = .ok (.istore_n 2, 1) := by decide +kernel
theorem dX8_nodes_106 : decode cX8_nodes 106 = .ok (.iinc 5 1, 3) := by decide +kernel
theorem dX8_nodes_109 : decode cX8_nodes 109 = .ok (.goto (-75), 3) := by decide +kernel
theorem dX8_nodes_112 : decode cX8_nodes 112 = .ok (.iinc 4 1, 3) := by decide +kernel
theorem dX8_nodes_115 : decode cX8_nodes 115 = .ok (.goto (-101), 3) := by decide +kernel
theorem dX8_nodes_118 : decode cX8_nodes 118 = .ok (.aload_n 0, 1) := by decide +kernel
theorem dX8_nodes_119 : decode cX8_nodes 119 = .ok (.iconst 0, 1) := by decide +kernel
theorem dX8_nodes_120 : decode cX8_nodes 120 = .ok (.putfield 59, 3) := by decide +kernel
theorem dX8_nodes_123 : decode cX8_nodes 123 = .ok (.aload_n 0, 1) := by decide +kernel
theorem dX8_nodes_124 : decode cX8_nodes 124 = .ok (.iload_n 2, 1) := by decide +kernel
theorem dX8_nodes_125 : decode cX8_nodes 125 = .ok (.i2l, 1) := by decide +kernel
theorem dX8_nodes_126 : decode cX8_nodes 126 = .ok (.invokevirtual 150, 3) := by decide +kernel
theorem dX8_nodes_129 : decode cX8_nodes 129 = .ok (.aload_n 0, 1) := by decide +kernel
theorem dX8_nodes_130 : decode cX8_nodes 130 = .ok (.iload_n 3, 1) := by decide +kernel
theorem dX8_nodes_131 : decode cX8_nodes 131 = .ok (.i2l, 1) := by decide +kernel
theorem dX8_nodes_132 : decode cX8_nodes 132 = .ok (.invokevirtual 150, 3) := by decide +kernel
theorem dX8_nodes_135 : decode cX8_nodes 135 = .ok (.iload_n 1, 1) := by decide +kernel
theorem dX8_nodes_136 : decode cX8_nodes 136 = .ok (.ireturn, 1) := by decide +kernel
theorem dX8_own_0 : decode cX8_own 0 = .ok (.aload_n 0, 1) := by decide +kernel
theorem dX8_own_1 : decode cX8_own 1 = .ok (.iconst 0, 1) := by decide +kernel
theorem dX8_own_2 : decode cX8_own 2 = .ok (.putfield 55, 3) := by decide +kernel
theorem dX8_own_5 : decode cX8_own 5 = .ok (.iload_n 1, 1) := by decide +kernel
theorem dX8_own_6 : decode cX8_own 6 = .ok (.invokestatic 134, 3) := by decide +kernel
theorem dX8_own_9 : decode cX8_own 9 = .ok (.ifCond .ne 5, 3) := by decide +kernel
theorem dX8_own_12 : decode cX8_own 12 = .ok (.iconst (-1), 1) := by decide +kernel
theorem dX8_own_13 : decode cX8_own 13 = .ok (.ireturn, 1) := by decide +kernel
theorem dX8_own_14 : decode cX8_own 14 = .ok (.iconst 0, 1) := by decide +kernel
theorem dX8_own_15 : decode cX8_own 15 = .ok (.istore_n 2, 1) := by decide +kernel
theorem dX8_own_16 : decode cX8_own 16 = .ok (.iconst 0, 1) := by decide +kernel
theorem dX8_own_17 : decode cX8_own 17 = .ok (.istore_n 3, 1) := by decide +kernel
theorem dX8_own_18 : decode cX8_own 18 = .ok (.iconst 0, 1) := by decide +kernel
theorem dX8_own_19 : decode cX8_own 19 = .ok (.istore 4, 2) := by decide +kernel
theorem dX8_own_21 : decode cX8_own 21 = .ok (.iload 4, 2) := by decide +kernel
theorem dX8_own_23 : decode cX8_own 23 = .ok (.aload_n 0, 1) := by decide +kernel
theorem dX8_own_24 : decode cX8_own 24 = .ok (.getfield 16, 3) := by decide +kernel
theorem dX8_own_27 : decode cX8_own 27 = .ok (.iload_n 1, 1) := by decide +kernel
theorem dX8_own_28 : decode cX8_own 28 = .ok (.iaload, 1) := by decide +kernel
theorem dX8_own_29 : decode cX8_own 29 = .ok (.if_icmp .ge 49, 3) := by decide +kernel
theorem dX8_own_32 : decode cX8_own 32 = .ok (.aload_n 0, 1) := by decide +kernel
theorem dX8_own_33 : decode cX8_own 33 = .ok (.iload_n 1, 1) := by decide +kernel
theorem dX8_own_34 : decode cX8_own 34 = .ok (.iload 4, 2) := by decide +kernel
theorem dX8_own_36 : decode cX8_own 36 = .ok (.invokevirtual 311, 3) := by decide +kernel
theorem dX8_own_39 : decode cX8_own 39 = .ok (.ifCond .ne 6, 3) := by decide +kernel
theorem dX8_own_42 : decode cX8_own 42 = .ok (.goto 30, 3) := by decide +kernel
theorem dX8_own_45 : decode cX8_own 45 = .ok (.iinc 2 1, 3) := by decide +kernel
theorem dX8_own_48 : decode cX8_own 48 = .ok (.iload_n 3, 1) := by decide +kernel
theorem dX8_own_49 : decode cX8_own 49 = .ok (.aload_n 0, 1) := by decide +kernel
theorem dX8_own_50 : decode cX8_own 50 = .ok (.aload_n 0, 1) := by decide +kernel
theorem dX8_own_51 : decode cX8_own 51 = .ok (.iload_n 1, 1) := by decide +kernel
theorem dX8_own_52 : decode cX8_own 52 = .ok (.iload 4, 2) := by decide +kernel
theorem dX8_own_54 : decode cX8_own 54 = .ok (.invokevirtual 308, 3) := by decide +kernel
theorem dX8_own_57 : decode cX8_own 57 = .ok (.iconst 0, 1) := by decide +kernel
theorem dX8_own_58 : decode cX8_own 58 = .ok (.invokevirtual 325, 3) := by decide +kernel
theorem dX8_own_61 : decode cX8_own 61 = .ok (.iconst 1, 1) := by decide +kernel
theorem dX8_own_62 : decode cX8_own 62 = .ok (.if_icmp .ne 7, 3) := by decide +kernel
theorem dX8_own_65 : decode cX8_own 65 = .ok (.iconst 1, 1) := by decide +kernel
theorem dX8_own_66 : decode cX8_own 66 = .ok (.goto 4, 3) := by decide +kernel
theorem dX8_own_69 : decode cX8_own 69 = .ok (.iconst 0, 1) := by decide +kernel
theorem dX8_own_70 : decode cX8_own 70 = .ok (.iadd, 1) := by decide +kernel
theorem dX8_own_71 : decode cX8_own 71 = .ok (.istore_n 3, 1) := by decide +kernel
theorem dX8_own_72 : decode cX8_own 72 = .ok (.iinc 4 1, 3) := by decide +kernel
theorem dX8_own_75 : decode cX8_own 75 = .ok (.goto (-54), 3) := by decide +kernel
theorem dX8_own_78 : decode cX8_own 78 = .ok (.aload_n 0, 1) := by decide +kernel
theorem dX8_own_79 : decode cX8_own 79 = .ok (.iconst 0, 1) := by decide +kernel
theorem dX8_own_80 : decode cX8_own 80 = .ok (.putfield 59, 3) := by decide +kernel
theorem dX8_own_83 : decode cX8_own 83 = .ok (.aload_n 0, 1) := by decide +kernel
theorem dX8_own_84 : decode cX8_own 84 = .ok (.iload_n 3, 1) := by decide +kernel
theorem dX8_own_85 : decode cX8_own 85 = .ok (.i2l, 1) := by decide +kernel
theorem dX8_own_86 : decode cX8_own 86 = .ok (.invokevirtual 150, 3) := by decide +kernel
theorem dX8_own_89 : decode cX8_own 89 = .ok (.iload_n 2, 1) := by decide +kernel
theorem dX8_own_90 : decode cX8_own 90 = .ok (.ireturn, 1) := by decide +kernel
theorem dX8_level_0 : decode cX8_level 0 = .ok (.aload_n 0, 1) := by decide +kernel
theorem dX8_level_1 : decode cX8_level 1 = .ok (.iconst 0, 1) := by decide +kernel
theorem dX8_level_2 : decode cX8_level 2 = .ok (.putfield 55, 3) := by decide +kernel
theorem dX8_level_5 : decode cX8_level 5 = .ok (.iload_n 1, 1) := by decide +kernel
theorem dX8_level_6 : decode cX8_level 6 = .ok (.invokestatic 134, 3) := by decide +kernel
theorem dX8_level_9 : decode cX8_level 9 = .ok (.ifCond .eq 15, 3) := by decide +kernel
theorem dX8_level_12 : decode cX8_level 12 = .ok (.iload_n 2, 1) := by decide +kernel
theorem dX8_level_13 : decode cX8_level 13 = .ok (.i2l, 1) := by decide +kernel
theorem dX8_level_14 : decode cX8_level 14 = .ok (.lconst 0, 1) := by decide +kernel
theorem dX8_level_15 : decode cX8_level 15 = .ok (.ldc2_w 328, 3) := by decide +kernel
theorem dX8_level_18 : decode cX8_level 18 = .ok (.invokestatic 65, 3) := by decide +kernel
theorem dX8_level_21 : decode cX8_level 21 = .ok (.ifCond .ne 5, 3) := by decide +kernel
theorem dX8_level_24 : decode cX8_level 24 = .ok (.iconst (-1), 1) := by decide +kernel
theorem dX8_level_25 : decode cX8_level 25 = .ok (.ireturn, 1) := by decide +kernel
theorem dX8_level_26 : decode cX8_level 26 = .ok (.iconst 0, 1) := by decide +kernel
theorem dX8_level_27 : decode cX8_level 27 = .ok (.istore_n 3, 1) := by decide +kernel
theorem dX8_level_28 : decode cX8_level 28 = .ok (.iconst 0, 1) := by decide +kernel
theorem dX8_level_29 : decode cX8_level 29 = .ok (.istore 4, 2) := by decide +kernel
theorem dX8_level_31 : decode cX8_level 31 = .ok (.iconst 0, 1) := by decide +kernel
theorem dX8_level_32 : decode cX8_level 32 = .ok (.istore 5, 2) := by decide +kernel
theorem dX8_level_34 : decode cX8_level 34 = .ok (.iload 5, 2) := by decide +kernel
theorem dX8_level_36 : decode cX8_level 36 = .ok (.aload_n 0, 1) := by decide +kernel
theorem dX8_level_37 : decode cX8_level 37 = .ok (.getfield 16, 3) := by decide +kernel
theorem dX8_level_40 : decode cX8_level 40 = .ok (.iload_n 1, 1) := by decide +kernel
theorem dX8_level_41 : decode cX8_level 41 = .ok (.iaload, 1) := by decide +kernel
theorem dX8_level_42 : decode cX8_level 42 = .ok (.if_icmp .ge 43, 3) := by decide +kernel
theorem dX8_level_45 : decode cX8_level 45 = .ok (.aload_n 0, 1) := by decide +kernel
theorem dX8_level_46 : decode cX8_level 46 = .ok (.iload 5, 2) := by decide +kernel
theorem dX8_level_48 : decode cX8_level 48 = .ok (.invokevirtual 95, 3) := by decide +kernel
theorem dX8_level_51 : decode cX8_level 51 = .ok (.aload_n 0, 1) := by decide +kernel
theorem dX8_level_52 : decode cX8_level 52 = .ok (.getfield 89, 3) := by decide +kernel
theorem dX8_level_55 : decode cX8_level 55 = .ok (.iconst 1, 1) := by decide +kernel
theorem dX8_level_56 : decode cX8_level 56 = .ok (.isub, 1) := by decide +kernel
theorem dX8_level_57 : decode cX8_level 57 = .ok (.iload_n 2, 1) := by decide +kernel
theorem dX8_level_58 : decode cX8_level 58 = .ok (.if_icmp .eq 6, 3) := by decide +kernel
theorem dX8_level_61 : decode cX8_level 61 = .ok (.goto 18, 3) := by decide +kernel
theorem dX8_level_64 : decode cX8_level 64 = .ok (.iinc 3 1, 3) := by decide +kernel
theorem dX8_level_67 : decode cX8_level 67 = .ok (.iload 4, 2) := by decide +kernel
theorem dX8_level_69 : decode cX8_level 69 = .ok (.aload_n 0, 1) := by decide +kernel
theorem dX8_level_70 : decode cX8_level 70 = .ok (.iload_n 1, 1) := by decide +kernel
theorem dX8_level_71 : decode cX8_level 71 = .ok (.iload 5, 2) := by decide +kernel
theorem dX8_level_73 : decode cX8_level 73 = .ok (.invokevirtual 99, 3) := by decide +kernel
theorem dX8_level_76 : decode cX8_level 76 = .ok (.iadd, 1) := by decide +kernel
theorem dX8_level_77 : decode cX8_level 77 = .ok (.istore 4, 2) := by decide +kernel
theorem dX8_level_79 : decode cX8_level 79 = .ok (.iinc 5 1, 3) := by decide +kernel
theorem dX8_level_82 : decode cX8_level 82 = .ok (.goto (-48), 3) := by decide +kernel
theorem dX8_level_85 : decode cX8_level 85 = .ok (.aload_n 0, 1) := by decide +kernel
theorem dX8_level_86 : decode cX8_level 86 = .ok (.iconst 0, 1) := by decide +kernel
theorem dX8_level_87 : decode cX8_level 87 = .ok (.putfield 59, 3) := by decide +kernel
theorem dX8_level_90 : decode cX8_level 90 = .ok (.aload_n 0, 1) := by decide +kernel
theorem dX8_level_91 : decode cX8_level 91 = .ok (.iload 4, 2) := by decide +kernel
theorem dX8_level_93 : decode cX8_level 93 = .ok (.i2l, 1) := by decide +kernel
theorem dX8_level_94 : decode cX8_level 94 = .ok (.invokevirtual 150, 3) := by decide +kernel
theorem dX8_level_97 : decode cX8_level 97 = .ok (.iload_n 3, 1) := by decide +kernel
theorem dX8_level_98 : decode cX8_level 98 = .ok (.ireturn, 1) := by decide +kernel
theorem dX8_ways_0 : decode cX8_ways 0 = .ok (.aload_n 0, 1) := by decide +kernel
theorem dX8_ways_1 : decode cX8_ways 1 = .ok (.iconst 0, 1) := by decide +kernel
theorem dX8_ways_2 : decode cX8_ways 2 = .ok (.putfield 55, 3) := by decide +kernel
theorem dX8_ways_5 : decode cX8_ways 5 = .ok (.iload_n 1, 1) := by decide +kernel
theorem dX8_ways_6 : decode cX8_ways 6 = .ok (.invokestatic 134, 3) := by decide +kernel
theorem dX8_ways_9 : decode cX8_ways 9 = .ok (.ifCond .eq 14, 3) := by decide +kernel
theorem dX8_ways_12 : decode cX8_ways 12 = .ok (.lload_n 2, 1) := by decide +kernel
theorem dX8_ways_13 : decode cX8_ways 13 = .ok (.lconst 0, 1) := by decide +kernel
theorem dX8_ways_14 : decode cX8_ways 14 = .ok (.ldc2_w 330, 3) := by decide +kernel
theorem dX8_ways_17 : decode cX8_ways 17 = .ok (.invokestatic 65, 3) := by decide +kernel
theorem dX8_ways_20 : decode cX8_ways 20 = .ok (.ifCond .ne 5, 3) := by decide +kernel
theorem dX8_ways_23 : decode cX8_ways 23 = .ok (.iconst (-1), 1) := by decide +kernel
theorem dX8_ways_24 : decode cX8_ways 24 = .ok (.ireturn, 1) := by decide +kernel
theorem dX8_ways_25 : decode cX8_ways 25 = .ok (.aload_n 0, 1) := by decide +kernel
theorem dX8_ways_26 : decode cX8_ways 26 = .ok (.invokevirtual 195, 3) := by decide +kernel
theorem dX8_ways_29 : decode cX8_ways 29 = .ok (.iconst 0, 1) := by decide +kernel
theorem dX8_ways_30 : decode cX8_ways 30 = .ok (.istore 4, 2) := by decide +kernel
theorem dX8_ways_32 : decode cX8_ways 32 = .ok (.iload 4, 2) := by decide +kernel
theorem dX8_ways_34 : decode cX8_ways 34 = .ok (.bipush 62, 2) := by decide +kernel
theorem dX8_ways_36 : decode cX8_ways 36 = .ok (.if_icmp .ge 38, 3) := by decide +kernel
theorem dX8_ways_39 : decode cX8_ways 39 = .ok (.iload 4, 2) := by decide +kernel
theorem dX8_ways_41 : decode cX8_ways 41 = .ok (.aload_n 0, 1) := by decide +kernel
theorem dX8_ways_42 : decode cX8_ways 42 = .ok (.getfield 16, 3) := by decide +kernel
theorem dX8_ways_45 : decode cX8_ways 45 = .ok (.iload_n 1, 1) := by decide +kernel
theorem dX8_ways_46 : decode cX8_ways 46 = .ok (.iaload, 1) := by decide +kernel
theorem dX8_ways_47 : decode cX8_ways 47 = .ok (.if_icmp .ge 27, 3) := by decide +kernel
theorem dX8_ways_50 : decode cX8_ways 50 = .ok (.lload_n 2, 1) := by decide +kernel
theorem dX8_ways_51 : decode cX8_ways 51 = .ok (.iload 4, 2) := by decide +kernel
theorem dX8_ways_53 : decode cX8_ways 53 = .ok (.lshr, 1) := by decide +kernel
theorem dX8_ways_54 : decode cX8_ways 54 = .ok (.lconst 1, 1) := by decide +kernel
theorem dX8_ways_55 : decode cX8_ways 55 = .ok (.land, 1) := by decide +kernel
theorem dX8_ways_56 : decode cX8_ways 56 = .ok (.lconst 1, 1) := by decide +kernel
theorem dX8_ways_57 : decode cX8_ways 57 = .ok (.lcmp, 1) := by decide +kernel
theorem dX8_ways_58 : decode cX8_ways 58 = .ok (.ifCond .ne 10, 3) := by decide +kernel
theorem dX8_ways_61 : decode cX8_ways 61 = .ok (.aload_n 0, 1) := by decide +kernel
theorem dX8_ways_62 : decode cX8_ways 62 = .ok (.iload 4, 2) := by decide +kernel
theorem dX8_ways_64 : decode cX8_ways 64 = .ok (.iconst 1, 1) := by decide +kernel
theorem dX8_ways_65 : decode cX8_ways 65 = .ok (.invokevirtual 198, 3) := by decide +kernel
theorem dX8_ways_68 : decode cX8_ways 68 = .ok (.iinc 4 1, 3) := by decide +kernel
theorem dX8_ways_71 : decode cX8_ways 71 = .ok (.goto (-39), 3) := by decide +kernel
theorem dX8_ways_74 : decode cX8_ways 74 = .ok (.aload_n 0, 1) := by decide +kernel
theorem dX8_ways_75 : decode cX8_ways 75 = .ok (.invokevirtual 281, 3) := by decide +kernel
theorem dX8_ways_78 : decode cX8_ways 78 = .ok (.ireturn, 1) := by decide +kernel
theorem dX8_fullPlaces_0 : decode cX8_fullPlaces 0 = .ok (.iconst 0, 1) := by decide +kernel
theorem dX8_fullPlaces_1 : decode cX8_fullPlaces 1 = .ok (.istore_n 1, 1) := by decide +kernel
theorem dX8_fullPlaces_2 : decode cX8_fullPlaces 2 = .ok (.iconst 0, 1) := by decide +kernel
theorem dX8_fullPlaces_3 : decode cX8_fullPlaces 3 = .ok (.istore_n 2, 1) := by decide +kernel
theorem dX8_fullPlaces_4 : decode cX8_fullPlaces 4 = .ok (.iload_n 2, 1) := by decide +kernel
theorem dX8_fullPlaces_5 : decode cX8_fullPlaces 5 = .ok (.bipush 6, 2) := by decide +kernel
theorem dX8_fullPlaces_7 : decode cX8_fullPlaces 7 = .ok (.if_icmp .ge 28, 3) := by decide +kernel
theorem dX8_fullPlaces_10 : decode cX8_fullPlaces 10 = .ok (.iload_n 1, 1) := by decide +kernel
theorem dX8_fullPlaces_11 : decode cX8_fullPlaces 11 = .ok (.aload_n 0, 1) := by decide +kernel
theorem dX8_fullPlaces_12 : decode cX8_fullPlaces 12 = .ok (.getfield 16, 3) := by decide +kernel
theorem dX8_fullPlaces_15 : decode cX8_fullPlaces 15 = .ok (.iload_n 2, 1) := by decide +kernel
theorem dX8_fullPlaces_16 : decode cX8_fullPlaces 16 = .ok (.iaload, 1) := by decide +kernel
theorem dX8_fullPlaces_17 : decode cX8_fullPlaces 17 = .ok (.ifCond .le 9, 3) := by decide +kernel
theorem dX8_fullPlaces_20 : decode cX8_fullPlaces 20 = .ok (.iconst 1, 1) := by decide +kernel
theorem dX8_fullPlaces_21 : decode cX8_fullPlaces 21 = .ok (.iload_n 2, 1) := by decide +kernel
theorem dX8_fullPlaces_22 : decode cX8_fullPlaces 22 = .ok (.ishl, 1) := by decide +kernel
theorem dX8_fullPlaces_23 : decode cX8_fullPlaces 23 = .ok (.goto 4, 3) := by decide +kernel
theorem dX8_fullPlaces_26 : decode cX8_fullPlaces 26 = .ok (.iconst 0, 1) := by decide +kernel
theorem dX8_fullPlaces_27 : decode cX8_fullPlaces 27 = .ok (.ior, 1) := by decide +kernel
theorem dX8_fullPlaces_28 : decode cX8_fullPlaces 28 = .ok (.istore_n 1, 1) := by decide +kernel
theorem dX8_fullPlaces_29 : decode cX8_fullPlaces 29 = .ok (.iinc 2 1, 3) := by decide +kernel
theorem dX8_fullPlaces_32 : decode cX8_fullPlaces 32 = .ok (.goto (-28), 3) := by decide +kernel
theorem dX8_fullPlaces_35 : decode cX8_fullPlaces 35 = .ok (.iload_n 1, 1) := by decide +kernel
theorem dX8_fullPlaces_36 : decode cX8_fullPlaces 36 = .ok (.ireturn, 1) := by decide +kernel
theorem dX8_count_0 : decode cX8_count 0 = .ok (.aload_n 0, 1) := by decide +kernel
theorem dX8_count_1 : decode cX8_count 1 = .ok (.iconst 0, 1) := by decide +kernel
theorem dX8_count_2 : decode cX8_count 2 = .ok (.putfield 55, 3) := by decide +kernel
theorem dX8_count_5 : decode cX8_count 5 = .ok (.iload_n 1, 1) := by decide +kernel
theorem dX8_count_6 : decode cX8_count 6 = .ok (.tableswitch 56 0 4 #[34, 39, 44, 49, 54], 34) := by decide +kernel
theorem dX8_count_40 : decode cX8_count 40 = .ok (.aload_n 0, 1) := by decide +kernel
theorem dX8_count_41 : decode cX8_count 41 = .ok (.invokevirtual 332, 3) := by decide +kernel
theorem dX8_count_44 : decode cX8_count 44 = .ok (.ireturn, 1) := by decide +kernel
theorem dX8_count_45 : decode cX8_count 45 = .ok (.aload_n 0, 1) := by decide +kernel
theorem dX8_count_46 : decode cX8_count 46 = .ok (.getfield 75, 3) := by decide +kernel
theorem dX8_count_49 : decode cX8_count 49 = .ok (.ireturn, 1) := by decide +kernel
theorem dX8_count_50 : decode cX8_count 50 = .ok (.aload_n 0, 1) := by decide +kernel
theorem dX8_count_51 : decode cX8_count 51 = .ok (.getfield 59, 3) := by decide +kernel
theorem dX8_count_54 : decode cX8_count 54 = .ok (.ireturn, 1) := by decide +kernel
theorem dX8_count_55 : decode cX8_count 55 = .ok (.aload_n 0, 1) := by decide +kernel
theorem dX8_count_56 : decode cX8_count 56 = .ok (.getfield 62, 3) := by decide +kernel
theorem dX8_count_59 : decode cX8_count 59 = .ok (.ireturn, 1) := by decide +kernel
theorem dX8_count_60 : decode cX8_count 60 = .ok (.iconst 1, 1) := by decide +kernel
theorem dX8_count_61 : decode cX8_count 61 = .ok (.ireturn, 1) := by decide +kernel
theorem dX8_count_62 : decode cX8_count 62 = .ok (.iconst (-1), 1) := by decide +kernel
theorem dX8_count_63 : decode cX8_count 63 = .ok (.ireturn, 1) := by decide +kernel
theorem dX8_row_0 : decode cX8_row 0 = .ok (.aload_n 0, 1) := by decide +kernel
theorem dX8_row_1 : decode cX8_row 1 = .ok (.iconst 0, 1) := by decide +kernel
theorem dX8_row_2 : decode cX8_row 2 = .ok (.putfield 55, 3) := by decide +kernel
theorem dX8_row_5 : decode cX8_row 5 = .ok (.iload_n 1, 1) := by decide +kernel
theorem dX8_row_6 : decode cX8_row 6 = .ok (.i2l, 1) := by decide +kernel
theorem dX8_row_7 : decode cX8_row 7 = .ok (.lconst 0, 1) := by decide +kernel
theorem dX8_row_8 : decode cX8_row 8 = .ok (.aload_n 0, 1) := by decide +kernel
theorem dX8_row_9 : decode cX8_row 9 = .ok (.getfield 59, 3) := by decide +kernel
theorem dX8_row_12 : decode cX8_row 12 = .ok (.iconst 1, 1) := by decide +kernel
theorem dX8_row_13 : decode cX8_row 13 = .ok (.isub, 1) := by decide +kernel
theorem dX8_row_14 : decode cX8_row 14 = .ok (.i2l, 1) := by decide +kernel
theorem dX8_row_15 : decode cX8_row 15 = .ok (.invokestatic 65, 3) := by decide +kernel
theorem dX8_row_18 : decode cX8_row 18 = .ok (.ifCond .eq 12, 3) := by decide +kernel
theorem dX8_row_21 : decode cX8_row 21 = .ok (.aload_n 0, 1) := by decide +kernel
theorem dX8_row_22 : decode cX8_row 22 = .ok (.getfield 23, 3) := by decide +kernel
theorem dX8_row_25 : decode cX8_row 25 = .ok (.iload_n 1, 1) := by decide +kernel
theorem dX8_row_26 : decode cX8_row 26 = .ok (.laload, 1) := by decide +kernel
theorem dX8_row_27 : decode cX8_row 27 = .ok (.goto 8, 3) := by decide +kernel
theorem dX8_row_30 : decode cX8_row 30 = .ok (.aload_n 0, 1) := by decide +kernel
theorem dX8_row_31 : decode cX8_row 31 = .ok (.invokevirtual 335, 3) := by decide +kernel
theorem dX8_row_34 : decode cX8_row 34 = .ok (.i2l, 1) := by decide +kernel
theorem dX8_row_35 : decode cX8_row 35 = .ok (.lreturn, 1) := by decide +kernel
theorem dJ6_bitCount_0f7a4_0 : decode cJ6_bitCount_0f7a4 0 = .ok (.iload_n 0, 1) := by decide +kernel
theorem dJ6_bitCount_0f7a4_1 : decode cJ6_bitCount_0f7a4 1 = .ok (.iload_n 0, 1) := by decide +kernel
theorem dJ6_bitCount_0f7a4_2 : decode cJ6_bitCount_0f7a4 2 = .ok (.iconst 1, 1) := by decide +kernel
theorem dJ6_bitCount_0f7a4_3 : decode cJ6_bitCount_0f7a4 3 = .ok (.iushr, 1) := by decide +kernel
theorem dJ6_bitCount_0f7a4_4 : decode cJ6_bitCount_0f7a4 4 = .ok (.ldc_w 265, 3) := by decide +kernel
theorem dJ6_bitCount_0f7a4_7 : decode cJ6_bitCount_0f7a4 7 = .ok (.iand, 1) := by decide +kernel
theorem dJ6_bitCount_0f7a4_8 : decode cJ6_bitCount_0f7a4 8 = .ok (.isub, 1) := by decide +kernel
theorem dJ6_bitCount_0f7a4_9 : decode cJ6_bitCount_0f7a4 9 = .ok (.istore_n 0, 1) := by decide +kernel
theorem dJ6_bitCount_0f7a4_10 : decode cJ6_bitCount_0f7a4 10 = .ok (.iload_n 0, 1) := by decide +kernel
theorem dJ6_bitCount_0f7a4_11 : decode cJ6_bitCount_0f7a4 11 = .ok (.ldc_w 266, 3) := by decide +kernel
theorem dJ6_bitCount_0f7a4_14 : decode cJ6_bitCount_0f7a4 14 = .ok (.iand, 1) := by decide +kernel
theorem dJ6_bitCount_0f7a4_15 : decode cJ6_bitCount_0f7a4 15 = .ok (.iload_n 0, 1) := by decide +kernel
theorem dJ6_bitCount_0f7a4_16 : decode cJ6_bitCount_0f7a4 16 = .ok (.iconst 2, 1) := by decide +kernel
theorem dJ6_bitCount_0f7a4_17 : decode cJ6_bitCount_0f7a4 17 = .ok (.iushr, 1) := by decide +kernel
theorem dJ6_bitCount_0f7a4_18 : decode cJ6_bitCount_0f7a4 18 = .ok (.ldc_w 266, 3) := by decide +kernel
theorem dJ6_bitCount_0f7a4_21 : decode cJ6_bitCount_0f7a4 21 = .ok (.iand, 1) := by decide +kernel
theorem dJ6_bitCount_0f7a4_22 : decode cJ6_bitCount_0f7a4 22 = .ok (.iadd, 1) := by decide +kernel
theorem dJ6_bitCount_0f7a4_23 : decode cJ6_bitCount_0f7a4 23 = .ok (.istore_n 0, 1) := by decide +kernel
theorem dJ6_bitCount_0f7a4_24 : decode cJ6_bitCount_0f7a4 24 = .ok (.iload_n 0, 1) := by decide +kernel
theorem dJ6_bitCount_0f7a4_25 : decode cJ6_bitCount_0f7a4 25 = .ok (.iload_n 0, 1) := by decide +kernel
theorem dJ6_bitCount_0f7a4_26 : decode cJ6_bitCount_0f7a4 26 = .ok (.iconst 4, 1) := by decide +kernel
theorem dJ6_bitCount_0f7a4_27 : decode cJ6_bitCount_0f7a4 27 = .ok (.iushr, 1) := by decide +kernel
theorem dJ6_bitCount_0f7a4_28 : decode cJ6_bitCount_0f7a4 28 = .ok (.iadd, 1) := by decide +kernel
theorem dJ6_bitCount_0f7a4_29 : decode cJ6_bitCount_0f7a4 29 = .ok (.ldc_w 267, 3) := by decide +kernel
theorem dJ6_bitCount_0f7a4_32 : decode cJ6_bitCount_0f7a4 32 = .ok (.iand, 1) := by decide +kernel
theorem dJ6_bitCount_0f7a4_33 : decode cJ6_bitCount_0f7a4 33 = .ok (.istore_n 0, 1) := by decide +kernel
theorem dJ6_bitCount_0f7a4_34 : decode cJ6_bitCount_0f7a4 34 = .ok (.iload_n 0, 1) := by decide +kernel
theorem dJ6_bitCount_0f7a4_35 : decode cJ6_bitCount_0f7a4 35 = .ok (.iload_n 0, 1) := by decide +kernel
theorem dJ6_bitCount_0f7a4_36 : decode cJ6_bitCount_0f7a4 36 = .ok (.bipush 8, 2) := by decide +kernel
theorem dJ6_bitCount_0f7a4_38 : decode cJ6_bitCount_0f7a4 38 = .ok (.iushr, 1) := by decide +kernel
theorem dJ6_bitCount_0f7a4_39 : decode cJ6_bitCount_0f7a4 39 = .ok (.iadd, 1) := by decide +kernel
theorem dJ6_bitCount_0f7a4_40 : decode cJ6_bitCount_0f7a4 40 = .ok (.istore_n 0, 1) := by decide +kernel
theorem dJ6_bitCount_0f7a4_41 : decode cJ6_bitCount_0f7a4 41 = .ok (.iload_n 0, 1) := by decide +kernel
theorem dJ6_bitCount_0f7a4_42 : decode cJ6_bitCount_0f7a4 42 = .ok (.iload_n 0, 1) := by decide +kernel
theorem dJ6_bitCount_0f7a4_43 : decode cJ6_bitCount_0f7a4 43 = .ok (.bipush 16, 2) := by decide +kernel
theorem dJ6_bitCount_0f7a4_45 : decode cJ6_bitCount_0f7a4 45 = .ok (.iushr, 1) := by decide +kernel
theorem dJ6_bitCount_0f7a4_46 : decode cJ6_bitCount_0f7a4 46 = .ok (.iadd, 1) := by decide +kernel
theorem dJ6_bitCount_0f7a4_47 : decode cJ6_bitCount_0f7a4 47 = .ok (.istore_n 0, 1) := by decide +kernel
theorem dJ6_bitCount_0f7a4_48 : decode cJ6_bitCount_0f7a4 48 = .ok (.iload_n 0, 1) := by decide +kernel
theorem dJ6_bitCount_0f7a4_49 : decode cJ6_bitCount_0f7a4 49 = .ok (.bipush 63, 2) := by decide +kernel
theorem dJ6_bitCount_0f7a4_51 : decode cJ6_bitCount_0f7a4 51 = .ok (.iand, 1) := by decide +kernel
theorem dJ6_bitCount_0f7a4_52 : decode cJ6_bitCount_0f7a4 52 = .ok (.ireturn, 1) := by decide +kernel
theorem dJ9_abs_0f7a4_0 : decode cJ9_abs_0f7a4 0 = .ok (.iload_n 0, 1) := by decide +kernel
theorem dJ9_abs_0f7a4_1 : decode cJ9_abs_0f7a4 1 = .ok (.ifCond .ge 8, 3) := by decide +kernel
theorem dJ9_abs_0f7a4_4 : decode cJ9_abs_0f7a4 4 = .ok (.iload_n 0, 1) := by decide +kernel
theorem dJ9_abs_0f7a4_5 : decode cJ9_abs_0f7a4 5 = .ok (.ineg, 1) := by decide +kernel
theorem dJ9_abs_0f7a4_6 : decode cJ9_abs_0f7a4 6 = .ok (.goto 4, 3) := by decide +kernel
theorem dJ9_abs_0f7a4_9 : decode cJ9_abs_0f7a4 9 = .ok (.iload_n 0, 1) := by decide +kernel
theorem dJ9_abs_0f7a4_10 : decode cJ9_abs_0f7a4 10 = .ok (.ireturn, 1) := by decide +kernel
theorem dJ9_max_7cf53_0 : decode cJ9_max_7cf53 0 = .ok (.iload_n 0, 1) := by decide +kernel
theorem dJ9_max_7cf53_1 : decode cJ9_max_7cf53 1 = .ok (.iload_n 1, 1) := by decide +kernel
theorem dJ9_max_7cf53_2 : decode cJ9_max_7cf53 2 = .ok (.if_icmp .lt 7, 3) := by decide +kernel
theorem dJ9_max_7cf53_5 : decode cJ9_max_7cf53 5 = .ok (.iload_n 0, 1) := by decide +kernel
theorem dJ9_max_7cf53_6 : decode cJ9_max_7cf53 6 = .ok (.goto 4, 3) := by decide +kernel
theorem dJ9_max_7cf53_9 : decode cJ9_max_7cf53 9 = .ok (.iload_n 1, 1) := by decide +kernel
theorem dJ9_max_7cf53_10 : decode cJ9_max_7cf53 10 = .ok (.ireturn, 1) := by decide +kernel
theorem dJ9_min_7cf53_0 : decode cJ9_min_7cf53 0 = .ok (.iload_n 0, 1) := by decide +kernel
theorem dJ9_min_7cf53_1 : decode cJ9_min_7cf53 1 = .ok (.iload_n 1, 1) := by decide +kernel
theorem dJ9_min_7cf53_2 : decode cJ9_min_7cf53 2 = .ok (.if_icmp .gt 7, 3) := by decide +kernel
theorem dJ9_min_7cf53_5 : decode cJ9_min_7cf53 5 = .ok (.iload_n 0, 1) := by decide +kernel
theorem dJ9_min_7cf53_6 : decode cJ9_min_7cf53 6 = .ok (.goto 4, 3) := by decide +kernel
theorem dJ9_min_7cf53_9 : decode cJ9_min_7cf53 9 = .ok (.iload_n 1, 1) := by decide +kernel
theorem dJ9_min_7cf53_10 : decode cJ9_min_7cf53 10 = .ok (.ireturn, 1) := by decide +kernel
theorem dJ7_fill_53178_0 : decode cJ7_fill_53178 0 = .ok (.iconst 0, 1) := by decide +kernel
theorem dJ7_fill_53178_1 : decode cJ7_fill_53178 1 = .ok (.istore_n 2, 1) := by decide +kernel
theorem dJ7_fill_53178_2 : decode cJ7_fill_53178 2 = .ok (.aload_n 0, 1) := by decide +kernel
theorem dJ7_fill_53178_3 : decode cJ7_fill_53178 3 = .ok (.arraylength, 1) := by decide +kernel
theorem dJ7_fill_53178_4 : decode cJ7_fill_53178 4 = .ok (.istore_n 3, 1) := by decide +kernel
theorem dJ7_fill_53178_5 : decode cJ7_fill_53178 5 = .ok (.iload_n 2, 1) := by decide +kernel
theorem dJ7_fill_53178_6 : decode cJ7_fill_53178 6 = .ok (.iload_n 3, 1) := by decide +kernel
theorem dJ7_fill_53178_7 : decode cJ7_fill_53178 7 = .ok (.if_icmp .ge 13, 3) := by decide +kernel
theorem dJ7_fill_53178_10 : decode cJ7_fill_53178 10 = .ok (.aload_n 0, 1) := by decide +kernel
theorem dJ7_fill_53178_11 : decode cJ7_fill_53178 11 = .ok (.iload_n 2, 1) := by decide +kernel
theorem dJ7_fill_53178_12 : decode cJ7_fill_53178 12 = .ok (.iload_n 1, 1) := by decide +kernel
theorem dJ7_fill_53178_13 : decode cJ7_fill_53178 13 = .ok (.iastore, 1) := by decide +kernel
theorem dJ7_fill_53178_14 : decode cJ7_fill_53178 14 = .ok (.iinc 2 1, 3) := by decide +kernel
theorem dJ7_fill_53178_17 : decode cJ7_fill_53178 17 = .ok (.goto (-12), 3) := by decide +kernel
theorem dJ7_fill_53178_20 : decode cJ7_fill_53178 20 = .ok (.return_, 1) := by decide +kernel
theorem dL_row_0 : decode cL_row 0 = .ok (.aload_n 2, 1) := by decide +kernel
theorem dL_row_1 : decode cL_row 1 = .ok (.iconst 0, 1) := by decide +kernel
theorem dL_row_2 : decode cL_row 2 = .ok (.aload_n 0, 1) := by decide +kernel
theorem dL_row_3 : decode cL_row 3 = .ok (.iload_n 1, 1) := by decide +kernel
theorem dL_row_4 : decode cL_row 4 = .ok (.invokevirtual 7, 3) := by decide +kernel
theorem dL_row_7 : decode cL_row 7 = .ok (.lastore, 1) := by decide +kernel
theorem dL_row_8 : decode cL_row 8 = .ok (.goto 6, 3) := by decide +kernel
theorem dL_row_11 : decode cL_row 11 = .ok (.astore_n 3, 1) := by decide +kernel
theorem dL_row_12 : decode cL_row 12 = .ok (.iconst 1, 1) := by decide +kernel
theorem dL_row_13 : decode cL_row 13 = .ok (.ireturn, 1) := by decide +kernel
theorem dL_row_14 : decode cL_row 14 = .ok (.iconst 0, 1) := by decide +kernel
theorem dL_row_15 : decode cL_row 15 = .ok (.ireturn, 1) := by decide +kernel
theorem dL_law_0 : decode cL_law 0 = .ok (.new 8, 3) := by decide +kernel
theorem dL_law_3 : decode cL_law 3 = .ok (.dup, 1) := by decide +kernel
theorem dL_law_4 : decode cL_law 4 = .ok (.invokespecial 15, 3) := by decide +kernel
theorem dL_law_7 : decode cL_law 7 = .ok (.astore_n 1, 1) := by decide +kernel
theorem dL_law_8 : decode cL_law 8 = .ok (.new 16, 3) := by decide +kernel
theorem dL_law_11 : decode cL_law 11 = .ok (.dup, 1) := by decide +kernel
theorem dL_law_12 : decode cL_law 12 = .ok (.invokespecial 18, 3) := by decide +kernel
theorem dL_law_15 : decode cL_law 15 = .ok (.astore_n 2, 1) := by decide +kernel
theorem dL_law_16 : decode cL_law 16 = .ok (.iconst 1, 1) := by decide +kernel
theorem dL_law_17 : decode cL_law 17 = .ok (.newarray .long, 2) := by decide +kernel
theorem dL_law_19 : decode cL_law 19 = .ok (.astore_n 3, 1) := by decide +kernel
theorem dL_law_20 : decode cL_law 20 = .ok (.iconst 0, 1) := by decide +kernel
theorem dL_law_21 : decode cL_law 21 = .ok (.istore 4, 2) := by decide +kernel
theorem dL_law_23 : decode cL_law 23 = .ok (.iload 4, 2) := by decide +kernel
theorem dL_law_25 : decode cL_law 25 = .ok (.aload_n 0, 1) := by decide +kernel
theorem dL_law_26 : decode cL_law 26 = .ok (.arraylength, 1) := by decide +kernel
theorem dL_law_27 : decode cL_law 27 = .ok (.bipush 6, 2) := by decide +kernel
theorem dL_law_29 : decode cL_law 29 = .ok (.isub, 1) := by decide +kernel
theorem dL_law_30 : decode cL_law 30 = .ok (.if_icmp .gt 2377, 3) := by decide +kernel
theorem dL_law_33 : decode cL_law 33 = .ok (.aload_n 0, 1) := by decide +kernel
theorem dL_law_34 : decode cL_law 34 = .ok (.iload 4, 2) := by decide +kernel
theorem dL_law_36 : decode cL_law 36 = .ok (.iaload, 1) := by decide +kernel
theorem dL_law_37 : decode cL_law 37 = .ok (.bipush 63, 2) := by decide +kernel
theorem dL_law_39 : decode cL_law 39 = .ok (.iand, 1) := by decide +kernel
theorem dL_law_40 : decode cL_law 40 = .ok (.tableswitch 2361 0 50 #[220, 245, 270, 295, 320, 369, 406, 455, 516, 541, 578, 615, 676, 725, 774, 811, 848, 921, 970, 1019, 1056, 1105, 1154, 1215, 1276, 1337, 1398, 1435, 1484, 1545, 1582, 1607, 1656, 1693, 1730, 1767, 1816, 1853, 1890, 1927, 1964, 2001, 2038, 2075, 2112, 2137, 2150, 2175, 2212, 2281, 2306], 220) := by decide +kernel
theorem dL_law_260 : decode cL_law 260 = .ok (.aload_n 1, 1) := by decide +kernel
theorem dL_law_261 : decode cL_law 261 = .ok (.aload_n 0, 1) := by decide +kernel
theorem dL_law_262 : decode cL_law 262 = .ok (.iload 4, 2) := by decide +kernel
theorem dL_law_264 : decode cL_law 264 = .ok (.iconst 1, 1) := by decide +kernel
theorem dL_law_265 : decode cL_law 265 = .ok (.iadd, 1) := by decide +kernel
theorem dL_law_266 : decode cL_law 266 = .ok (.iaload, 1) := by decide +kernel
theorem dL_law_267 : decode cL_law 267 = .ok (.invokevirtual 19, 3) := by decide +kernel
theorem dL_law_270 : decode cL_law 270 = .ok (.aload_n 2, 1) := by decide +kernel
theorem dL_law_271 : decode cL_law 271 = .ok (.aload_n 0, 1) := by decide +kernel
theorem dL_law_272 : decode cL_law 272 = .ok (.iload 4, 2) := by decide +kernel
theorem dL_law_274 : decode cL_law 274 = .ok (.iconst 1, 1) := by decide +kernel
theorem dL_law_275 : decode cL_law 275 = .ok (.iadd, 1) := by decide +kernel
theorem dL_law_276 : decode cL_law 276 = .ok (.iaload, 1) := by decide +kernel
theorem dL_law_277 : decode cL_law 277 = .ok (.invokevirtual 23, 3) := by decide +kernel
theorem dL_law_280 : decode cL_law 280 = .ok (.if_icmp .eq 2121, 3) := by decide +kernel
theorem dL_law_283 : decode cL_law 283 = .ok (.iconst 0, 1) := by decide +kernel
theorem dL_law_284 : decode cL_law 284 = .ok (.ireturn, 1) := by decide +kernel
theorem dL_law_285 : decode cL_law 285 = .ok (.aload_n 1, 1) := by decide +kernel
theorem dL_law_286 : decode cL_law 286 = .ok (.aload_n 0, 1) := by decide +kernel
theorem dL_law_287 : decode cL_law 287 = .ok (.iload 4, 2) := by decide +kernel
theorem dL_law_289 : decode cL_law 289 = .ok (.iconst 1, 1) := by decide +kernel
theorem dL_law_290 : decode cL_law 290 = .ok (.iadd, 1) := by decide +kernel
theorem dL_law_291 : decode cL_law 291 = .ok (.iaload, 1) := by decide +kernel
theorem dL_law_292 : decode cL_law 292 = .ok (.invokevirtual 24, 3) := by decide +kernel
theorem dL_law_295 : decode cL_law 295 = .ok (.aload_n 2, 1) := by decide +kernel
theorem dL_law_296 : decode cL_law 296 = .ok (.aload_n 0, 1) := by decide +kernel
theorem dL_law_297 : decode cL_law 297 = .ok (.iload 4, 2) := by decide +kernel
theorem dL_law_299 : decode cL_law 299 = .ok (.iconst 1, 1) := by decide +kernel
theorem dL_law_300 : decode cL_law 300 = .ok (.iadd, 1) := by decide +kernel
theorem dL_law_301 : decode cL_law 301 = .ok (.iaload, 1) := by decide +kernel
theorem dL_law_302 : decode cL_law 302 = .ok (.invokevirtual 28, 3) := by decide +kernel
theorem dL_law_305 : decode cL_law 305 = .ok (.if_icmp .eq 2096, 3) := by decide +kernel
theorem dL_law_308 : decode cL_law 308 = .ok (.iconst 0, 1) := by decide +kernel
theorem dL_law_309 : decode cL_law 309 = .ok (.ireturn, 1) := by decide +kernel
theorem dL_law_310 : decode cL_law 310 = .ok (.aload_n 1, 1) := by decide +kernel
theorem dL_law_311 : decode cL_law 311 = .ok (.aload_n 0, 1) := by decide +kernel
theorem dL_law_312 : decode cL_law 312 = .ok (.iload 4, 2) := by decide +kernel
theorem dL_law_314 : decode cL_law 314 = .ok (.iconst 1, 1) := by decide +kernel
theorem dL_law_315 : decode cL_law 315 = .ok (.iadd, 1) := by decide +kernel
theorem dL_law_316 : decode cL_law 316 = .ok (.iaload, 1) := by decide +kernel
theorem dL_law_317 : decode cL_law 317 = .ok (.invokevirtual 29, 3) := by decide +kernel
theorem dL_law_320 : decode cL_law 320 = .ok (.aload_n 2, 1) := by decide +kernel
theorem dL_law_321 : decode cL_law 321 = .ok (.aload_n 0, 1) := by decide +kernel
theorem dL_law_322 : decode cL_law 322 = .ok (.iload 4, 2) := by decide +kernel
theorem dL_law_324 : decode cL_law 324 = .ok (.iconst 1, 1) := by decide +kernel
theorem dL_law_325 : decode cL_law 325 = .ok (.iadd, 1) := by decide +kernel
theorem dL_law_326 : decode cL_law 326 = .ok (.iaload, 1) := by decide +kernel
theorem dL_law_327 : decode cL_law 327 = .ok (.invokevirtual 32, 3) := by decide +kernel
theorem dL_law_330 : decode cL_law 330 = .ok (.if_icmp .eq 2071, 3) := by decide +kernel
theorem dL_law_333 : decode cL_law 333 = .ok (.iconst 0, 1) := by decide +kernel
theorem dL_law_334 : decode cL_law 334 = .ok (.ireturn, 1) := by decide +kernel
theorem dL_law_335 : decode cL_law 335 = .ok (.aload_n 1, 1) := by decide +kernel
theorem dL_law_336 : decode cL_law 336 = .ok (.aload_n 0, 1) := by decide +kernel
theorem dL_law_337 : decode cL_law 337 = .ok (.iload 4, 2) := by decide +kernel
theorem dL_law_339 : decode cL_law 339 = .ok (.iconst 1, 1) := by decide +kernel
theorem dL_law_340 : decode cL_law 340 = .ok (.iadd, 1) := by decide +kernel
theorem dL_law_341 : decode cL_law 341 = .ok (.iaload, 1) := by decide +kernel
theorem dL_law_342 : decode cL_law 342 = .ok (.invokevirtual 33, 3) := by decide +kernel
theorem dL_law_345 : decode cL_law 345 = .ok (.aload_n 2, 1) := by decide +kernel
theorem dL_law_346 : decode cL_law 346 = .ok (.aload_n 0, 1) := by decide +kernel
theorem dL_law_347 : decode cL_law 347 = .ok (.iload 4, 2) := by decide +kernel
theorem dL_law_349 : decode cL_law 349 = .ok (.iconst 1, 1) := by decide +kernel
theorem dL_law_350 : decode cL_law 350 = .ok (.iadd, 1) := by decide +kernel
theorem dL_law_351 : decode cL_law 351 = .ok (.iaload, 1) := by decide +kernel
theorem dL_law_352 : decode cL_law 352 = .ok (.invokevirtual 36, 3) := by decide +kernel
theorem dL_law_355 : decode cL_law 355 = .ok (.if_icmp .eq 2046, 3) := by decide +kernel
theorem dL_law_358 : decode cL_law 358 = .ok (.iconst 0, 1) := by decide +kernel
theorem dL_law_359 : decode cL_law 359 = .ok (.ireturn, 1) := by decide +kernel
theorem dL_law_360 : decode cL_law 360 = .ok (.aload_n 1, 1) := by decide +kernel
theorem dL_law_361 : decode cL_law 361 = .ok (.aload_n 0, 1) := by decide +kernel
theorem dL_law_362 : decode cL_law 362 = .ok (.iload 4, 2) := by decide +kernel
theorem dL_law_364 : decode cL_law 364 = .ok (.iconst 1, 1) := by decide +kernel
theorem dL_law_365 : decode cL_law 365 = .ok (.iadd, 1) := by decide +kernel
theorem dL_law_366 : decode cL_law 366 = .ok (.iaload, 1) := by decide +kernel
theorem dL_law_367 : decode cL_law 367 = .ok (.aload_n 0, 1) := by decide +kernel
theorem dL_law_368 : decode cL_law 368 = .ok (.iload 4, 2) := by decide +kernel
theorem dL_law_370 : decode cL_law 370 = .ok (.iconst 2, 1) := by decide +kernel
theorem dL_law_371 : decode cL_law 371 = .ok (.iadd, 1) := by decide +kernel
theorem dL_law_372 : decode cL_law 372 = .ok (.iaload, 1) := by decide +kernel
theorem dL_law_373 : decode cL_law 373 = .ok (.aload_n 0, 1) := by decide +kernel
theorem dL_law_374 : decode cL_law 374 = .ok (.iload 4, 2) := by decide +kernel
theorem dL_law_376 : decode cL_law 376 = .ok (.iconst 3, 1) := by decide +kernel
theorem dL_law_377 : decode cL_law 377 = .ok (.iadd, 1) := by decide +kernel
theorem dL_law_378 : decode cL_law 378 = .ok (.iaload, 1) := by decide +kernel
theorem dL_law_379 : decode cL_law 379 = .ok (.invokevirtual 37, 3) := by decide +kernel
theorem dL_law_382 : decode cL_law 382 = .ok (.aload_n 2, 1) := by decide +kernel
theorem dL_law_383 : decode cL_law 383 = .ok (.aload_n 0, 1) := by decide +kernel
theorem dL_law_384 : decode cL_law 384 = .ok (.iload 4, 2) := by decide +kernel
theorem dL_law_386 : decode cL_law 386 = .ok (.iconst 1, 1) := by decide +kernel
theorem dL_law_387 : decode cL_law 387 = .ok (.iadd, 1) := by decide +kernel
theorem dL_law_388 : decode cL_law 388 = .ok (.iaload, 1) := by decide +kernel
theorem dL_law_389 : decode cL_law 389 = .ok (.aload_n 0, 1) := by decide +kernel
theorem dL_law_390 : decode cL_law 390 = .ok (.iload 4, 2) := by decide +kernel
theorem dL_law_392 : decode cL_law 392 = .ok (.iconst 2, 1) := by decide +kernel
theorem dL_law_393 : decode cL_law 393 = .ok (.iadd, 1) := by decide +kernel
theorem dL_law_394 : decode cL_law 394 = .ok (.iaload, 1) := by decide +kernel
theorem dL_law_395 : decode cL_law 395 = .ok (.aload_n 0, 1) := by decide +kernel
theorem dL_law_396 : decode cL_law 396 = .ok (.iload 4, 2) := by decide +kernel
theorem dL_law_398 : decode cL_law 398 = .ok (.iconst 3, 1) := by decide +kernel
theorem dL_law_399 : decode cL_law 399 = .ok (.iadd, 1) := by decide +kernel
theorem dL_law_400 : decode cL_law 400 = .ok (.iaload, 1) := by decide +kernel
theorem dL_law_401 : decode cL_law 401 = .ok (.invokevirtual 41, 3) := by decide +kernel
theorem dL_law_404 : decode cL_law 404 = .ok (.if_icmp .eq 1997, 3) := by decide +kernel
theorem dL_law_407 : decode cL_law 407 = .ok (.iconst 0, 1) := by decide +kernel
theorem dL_law_408 : decode cL_law 408 = .ok (.ireturn, 1) := by decide +kernel
theorem dL_law_409 : decode cL_law 409 = .ok (.aload_n 1, 1) := by decide +kernel
theorem dL_law_410 : decode cL_law 410 = .ok (.aload_n 0, 1) := by decide +kernel
theorem dL_law_411 : decode cL_law 411 = .ok (.iload 4, 2) := by decide +kernel
theorem dL_law_413 : decode cL_law 413 = .ok (.iconst 1, 1) := by decide +kernel
theorem dL_law_414 : decode cL_law 414 = .ok (.iadd, 1) := by decide +kernel
theorem dL_law_415 : decode cL_law 415 = .ok (.iaload, 1) := by decide +kernel
theorem dL_law_416 : decode cL_law 416 = .ok (.aload_n 0, 1) := by decide +kernel
theorem dL_law_417 : decode cL_law 417 = .ok (.iload 4, 2) := by decide +kernel
theorem dL_law_419 : decode cL_law 419 = .ok (.iconst 2, 1) := by decide +kernel
theorem dL_law_420 : decode cL_law 420 = .ok (.iadd, 1) := by decide +kernel
theorem dL_law_421 : decode cL_law 421 = .ok (.iaload, 1) := by decide +kernel
theorem dL_law_422 : decode cL_law 422 = .ok (.invokevirtual 42, 3) := by decide +kernel
theorem dL_law_425 : decode cL_law 425 = .ok (.aload_n 2, 1) := by decide +kernel
theorem dL_law_426 : decode cL_law 426 = .ok (.aload_n 0, 1) := by decide +kernel
theorem dL_law_427 : decode cL_law 427 = .ok (.iload 4, 2) := by decide +kernel
theorem dL_law_429 : decode cL_law 429 = .ok (.iconst 1, 1) := by decide +kernel
theorem dL_law_430 : decode cL_law 430 = .ok (.iadd, 1) := by decide +kernel
theorem dL_law_431 : decode cL_law 431 = .ok (.iaload, 1) := by decide +kernel
theorem dL_law_432 : decode cL_law 432 = .ok (.aload_n 0, 1) := by decide +kernel
theorem dL_law_433 : decode cL_law 433 = .ok (.iload 4, 2) := by decide +kernel
theorem dL_law_435 : decode cL_law 435 = .ok (.iconst 2, 1) := by decide +kernel
theorem dL_law_436 : decode cL_law 436 = .ok (.iadd, 1) := by decide +kernel
theorem dL_law_437 : decode cL_law 437 = .ok (.iaload, 1) := by decide +kernel
theorem dL_law_438 : decode cL_law 438 = .ok (.invokevirtual 46, 3) := by decide +kernel
theorem dL_law_441 : decode cL_law 441 = .ok (.if_icmp .eq 1960, 3) := by decide +kernel
theorem dL_law_444 : decode cL_law 444 = .ok (.iconst 0, 1) := by decide +kernel
theorem dL_law_445 : decode cL_law 445 = .ok (.ireturn, 1) := by decide +kernel
theorem dL_law_446 : decode cL_law 446 = .ok (.aload_n 1, 1) := by decide +kernel
theorem dL_law_447 : decode cL_law 447 = .ok (.aload_n 0, 1) := by decide +kernel
theorem dL_law_448 : decode cL_law 448 = .ok (.iload 4, 2) := by decide +kernel
theorem dL_law_450 : decode cL_law 450 = .ok (.iconst 1, 1) := by decide +kernel
theorem dL_law_451 : decode cL_law 451 = .ok (.iadd, 1) := by decide +kernel
theorem dL_law_452 : decode cL_law 452 = .ok (.iaload, 1) := by decide +kernel
theorem dL_law_453 : decode cL_law 453 = .ok (.aload_n 0, 1) := by decide +kernel
theorem dL_law_454 : decode cL_law 454 = .ok (.iload 4, 2) := by decide +kernel
theorem dL_law_456 : decode cL_law 456 = .ok (.iconst 2, 1) := by decide +kernel
theorem dL_law_457 : decode cL_law 457 = .ok (.iadd, 1) := by decide +kernel
theorem dL_law_458 : decode cL_law 458 = .ok (.iaload, 1) := by decide +kernel
theorem dL_law_459 : decode cL_law 459 = .ok (.aload_n 0, 1) := by decide +kernel
theorem dL_law_460 : decode cL_law 460 = .ok (.iload 4, 2) := by decide +kernel
theorem dL_law_462 : decode cL_law 462 = .ok (.iconst 3, 1) := by decide +kernel
theorem dL_law_463 : decode cL_law 463 = .ok (.iadd, 1) := by decide +kernel
theorem dL_law_464 : decode cL_law 464 = .ok (.iaload, 1) := by decide +kernel
theorem dL_law_465 : decode cL_law 465 = .ok (.invokevirtual 47, 3) := by decide +kernel
theorem dL_law_468 : decode cL_law 468 = .ok (.aload_n 2, 1) := by decide +kernel
theorem dL_law_469 : decode cL_law 469 = .ok (.aload_n 0, 1) := by decide +kernel
theorem dL_law_470 : decode cL_law 470 = .ok (.iload 4, 2) := by decide +kernel
theorem dL_law_472 : decode cL_law 472 = .ok (.iconst 1, 1) := by decide +kernel
theorem dL_law_473 : decode cL_law 473 = .ok (.iadd, 1) := by decide +kernel
theorem dL_law_474 : decode cL_law 474 = .ok (.iaload, 1) := by decide +kernel
theorem dL_law_475 : decode cL_law 475 = .ok (.aload_n 0, 1) := by decide +kernel
theorem dL_law_476 : decode cL_law 476 = .ok (.iload 4, 2) := by decide +kernel
theorem dL_law_478 : decode cL_law 478 = .ok (.iconst 2, 1) := by decide +kernel
theorem dL_law_479 : decode cL_law 479 = .ok (.iadd, 1) := by decide +kernel
theorem dL_law_480 : decode cL_law 480 = .ok (.iaload, 1) := by decide +kernel
theorem dL_law_481 : decode cL_law 481 = .ok (.aload_n 0, 1) := by decide +kernel
theorem dL_law_482 : decode cL_law 482 = .ok (.iload 4, 2) := by decide +kernel
theorem dL_law_484 : decode cL_law 484 = .ok (.iconst 3, 1) := by decide +kernel
theorem dL_law_485 : decode cL_law 485 = .ok (.iadd, 1) := by decide +kernel
theorem dL_law_486 : decode cL_law 486 = .ok (.iaload, 1) := by decide +kernel
theorem dL_law_487 : decode cL_law 487 = .ok (.invokevirtual 50, 3) := by decide +kernel
theorem dL_law_490 : decode cL_law 490 = .ok (.if_icmp .eq 1911, 3) := by decide +kernel
theorem dL_law_493 : decode cL_law 493 = .ok (.iconst 0, 1) := by decide +kernel
theorem dL_law_494 : decode cL_law 494 = .ok (.ireturn, 1) := by decide +kernel
theorem dL_law_495 : decode cL_law 495 = .ok (.aload_n 1, 1) := by decide +kernel
theorem dL_law_496 : decode cL_law 496 = .ok (.aload_n 0, 1) := by decide +kernel
theorem dL_law_497 : decode cL_law 497 = .ok (.iload 4, 2) := by decide +kernel
theorem dL_law_499 : decode cL_law 499 = .ok (.iconst 1, 1) := by decide +kernel
theorem dL_law_500 : decode cL_law 500 = .ok (.iadd, 1) := by decide +kernel
theorem dL_law_501 : decode cL_law 501 = .ok (.iaload, 1) := by decide +kernel
theorem dL_law_502 : decode cL_law 502 = .ok (.aload_n 0, 1) := by decide +kernel
theorem dL_law_503 : decode cL_law 503 = .ok (.iload 4, 2) := by decide +kernel
theorem dL_law_505 : decode cL_law 505 = .ok (.iconst 2, 1) := by decide +kernel
theorem dL_law_506 : decode cL_law 506 = .ok (.iadd, 1) := by decide +kernel
theorem dL_law_507 : decode cL_law 507 = .ok (.iaload, 1) := by decide +kernel
theorem dL_law_508 : decode cL_law 508 = .ok (.aload_n 0, 1) := by decide +kernel
theorem dL_law_509 : decode cL_law 509 = .ok (.iload 4, 2) := by decide +kernel
theorem dL_law_511 : decode cL_law 511 = .ok (.iconst 3, 1) := by decide +kernel
theorem dL_law_512 : decode cL_law 512 = .ok (.iadd, 1) := by decide +kernel
theorem dL_law_513 : decode cL_law 513 = .ok (.iaload, 1) := by decide +kernel
theorem dL_law_514 : decode cL_law 514 = .ok (.aload_n 0, 1) := by decide +kernel
theorem dL_law_515 : decode cL_law 515 = .ok (.iload 4, 2) := by decide +kernel
theorem dL_law_517 : decode cL_law 517 = .ok (.iconst 4, 1) := by decide +kernel
theorem dL_law_518 : decode cL_law 518 = .ok (.iadd, 1) := by decide +kernel
theorem dL_law_519 : decode cL_law 519 = .ok (.iaload, 1) := by decide +kernel
theorem dL_law_520 : decode cL_law 520 = .ok (.invokevirtual 51, 3) := by decide +kernel
theorem dL_law_523 : decode cL_law 523 = .ok (.aload_n 2, 1) := by decide +kernel
theorem dL_law_524 : decode cL_law 524 = .ok (.aload_n 0, 1) := by decide +kernel
theorem dL_law_525 : decode cL_law 525 = .ok (.iload 4, 2) := by decide +kernel
theorem dL_law_527 : decode cL_law 527 = .ok (.iconst 1, 1) := by decide +kernel
theorem dL_law_528 : decode cL_law 528 = .ok (.iadd, 1) := by decide +kernel
theorem dL_law_529 : decode cL_law 529 = .ok (.iaload, 1) := by decide +kernel
theorem dL_law_530 : decode cL_law 530 = .ok (.aload_n 0, 1) := by decide +kernel
theorem dL_law_531 : decode cL_law 531 = .ok (.iload 4, 2) := by decide +kernel
theorem dL_law_533 : decode cL_law 533 = .ok (.iconst 2, 1) := by decide +kernel
theorem dL_law_534 : decode cL_law 534 = .ok (.iadd, 1) := by decide +kernel
theorem dL_law_535 : decode cL_law 535 = .ok (.iaload, 1) := by decide +kernel
theorem dL_law_536 : decode cL_law 536 = .ok (.aload_n 0, 1) := by decide +kernel
theorem dL_law_537 : decode cL_law 537 = .ok (.iload 4, 2) := by decide +kernel
theorem dL_law_539 : decode cL_law 539 = .ok (.iconst 3, 1) := by decide +kernel
theorem dL_law_540 : decode cL_law 540 = .ok (.iadd, 1) := by decide +kernel
theorem dL_law_541 : decode cL_law 541 = .ok (.iaload, 1) := by decide +kernel
theorem dL_law_542 : decode cL_law 542 = .ok (.aload_n 0, 1) := by decide +kernel
theorem dL_law_543 : decode cL_law 543 = .ok (.iload 4, 2) := by decide +kernel
theorem dL_law_545 : decode cL_law 545 = .ok (.iconst 4, 1) := by decide +kernel
theorem dL_law_546 : decode cL_law 546 = .ok (.iadd, 1) := by decide +kernel
theorem dL_law_547 : decode cL_law 547 = .ok (.iaload, 1) := by decide +kernel
theorem dL_law_548 : decode cL_law 548 = .ok (.invokevirtual 55, 3) := by decide +kernel
theorem dL_law_551 : decode cL_law 551 = .ok (.if_icmp .eq 1850, 3) := by decide +kernel
theorem dL_law_554 : decode cL_law 554 = .ok (.iconst 0, 1) := by decide +kernel
theorem dL_law_555 : decode cL_law 555 = .ok (.ireturn, 1) := by decide +kernel
theorem dL_law_556 : decode cL_law 556 = .ok (.aload_n 1, 1) := by decide +kernel
theorem dL_law_557 : decode cL_law 557 = .ok (.aload_n 0, 1) := by decide +kernel
theorem dL_law_558 : decode cL_law 558 = .ok (.iload 4, 2) := by decide +kernel
theorem dL_law_560 : decode cL_law 560 = .ok (.iconst 1, 1) := by decide +kernel
theorem dL_law_561 : decode cL_law 561 = .ok (.iadd, 1) := by decide +kernel
theorem dL_law_562 : decode cL_law 562 = .ok (.iaload, 1) := by decide +kernel
theorem dL_law_563 : decode cL_law 563 = .ok (.invokevirtual 56, 3) := by decide +kernel
theorem dL_law_566 : decode cL_law 566 = .ok (.aload_n 2, 1) := by decide +kernel
theorem dL_law_567 : decode cL_law 567 = .ok (.aload_n 0, 1) := by decide +kernel
theorem dL_law_568 : decode cL_law 568 = .ok (.iload 4, 2) := by decide +kernel
theorem dL_law_570 : decode cL_law 570 = .ok (.iconst 1, 1) := by decide +kernel
theorem dL_law_571 : decode cL_law 571 = .ok (.iadd, 1) := by decide +kernel
theorem dL_law_572 : decode cL_law 572 = .ok (.iaload, 1) := by decide +kernel
theorem dL_law_573 : decode cL_law 573 = .ok (.invokevirtual 59, 3) := by decide +kernel
theorem dL_law_576 : decode cL_law 576 = .ok (.if_icmp .eq 1825, 3) := by decide +kernel
theorem dL_law_579 : decode cL_law 579 = .ok (.iconst 0, 1) := by decide +kernel
theorem dL_law_580 : decode cL_law 580 = .ok (.ireturn, 1) := by decide +kernel
theorem dL_law_581 : decode cL_law 581 = .ok (.aload_n 1, 1) := by decide +kernel
theorem dL_law_582 : decode cL_law 582 = .ok (.aload_n 0, 1) := by decide +kernel
theorem dL_law_583 : decode cL_law 583 = .ok (.iload 4, 2) := by decide +kernel
theorem dL_law_585 : decode cL_law 585 = .ok (.iconst 1, 1) := by decide +kernel
theorem dL_law_586 : decode cL_law 586 = .ok (.iadd, 1) := by decide +kernel
theorem dL_law_587 : decode cL_law 587 = .ok (.iaload, 1) := by decide +kernel
theorem dL_law_588 : decode cL_law 588 = .ok (.aload_n 0, 1) := by decide +kernel
theorem dL_law_589 : decode cL_law 589 = .ok (.iload 4, 2) := by decide +kernel
theorem dL_law_591 : decode cL_law 591 = .ok (.iconst 2, 1) := by decide +kernel
theorem dL_law_592 : decode cL_law 592 = .ok (.iadd, 1) := by decide +kernel
theorem dL_law_593 : decode cL_law 593 = .ok (.iaload, 1) := by decide +kernel
theorem dL_law_594 : decode cL_law 594 = .ok (.invokevirtual 60, 3) := by decide +kernel
theorem dL_law_597 : decode cL_law 597 = .ok (.aload_n 2, 1) := by decide +kernel
theorem dL_law_598 : decode cL_law 598 = .ok (.aload_n 0, 1) := by decide +kernel
theorem dL_law_599 : decode cL_law 599 = .ok (.iload 4, 2) := by decide +kernel
theorem dL_law_601 : decode cL_law 601 = .ok (.iconst 1, 1) := by decide +kernel
theorem dL_law_602 : decode cL_law 602 = .ok (.iadd, 1) := by decide +kernel
theorem dL_law_603 : decode cL_law 603 = .ok (.iaload, 1) := by decide +kernel
theorem dL_law_604 : decode cL_law 604 = .ok (.aload_n 0, 1) := by decide +kernel
theorem dL_law_605 : decode cL_law 605 = .ok (.iload 4, 2) := by decide +kernel
theorem dL_law_607 : decode cL_law 607 = .ok (.iconst 2, 1) := by decide +kernel
theorem dL_law_608 : decode cL_law 608 = .ok (.iadd, 1) := by decide +kernel
theorem dL_law_609 : decode cL_law 609 = .ok (.iaload, 1) := by decide +kernel
theorem dL_law_610 : decode cL_law 610 = .ok (.invokevirtual 63, 3) := by decide +kernel
theorem dL_law_613 : decode cL_law 613 = .ok (.if_icmp .eq 1788, 3) := by decide +kernel
theorem dL_law_616 : decode cL_law 616 = .ok (.iconst 0, 1) := by decide +kernel
theorem dL_law_617 : decode cL_law 617 = .ok (.ireturn, 1) := by decide +kernel
theorem dL_law_618 : decode cL_law 618 = .ok (.aload_n 1, 1) := by decide +kernel
theorem dL_law_619 : decode cL_law 619 = .ok (.aload_n 0, 1) := by decide +kernel
theorem dL_law_620 : decode cL_law 620 = .ok (.iload 4, 2) := by decide +kernel
theorem dL_law_622 : decode cL_law 622 = .ok (.iconst 1, 1) := by decide +kernel
theorem dL_law_623 : decode cL_law 623 = .ok (.iadd, 1) := by decide +kernel
theorem dL_law_624 : decode cL_law 624 = .ok (.iaload, 1) := by decide +kernel
theorem dL_law_625 : decode cL_law 625 = .ok (.aload_n 0, 1) := by decide +kernel
theorem dL_law_626 : decode cL_law 626 = .ok (.iload 4, 2) := by decide +kernel
theorem dL_law_628 : decode cL_law 628 = .ok (.iconst 2, 1) := by decide +kernel
theorem dL_law_629 : decode cL_law 629 = .ok (.iadd, 1) := by decide +kernel
theorem dL_law_630 : decode cL_law 630 = .ok (.iaload, 1) := by decide +kernel
theorem dL_law_631 : decode cL_law 631 = .ok (.invokevirtual 64, 3) := by decide +kernel
theorem dL_law_634 : decode cL_law 634 = .ok (.aload_n 2, 1) := by decide +kernel
theorem dL_law_635 : decode cL_law 635 = .ok (.aload_n 0, 1) := by decide +kernel
theorem dL_law_636 : decode cL_law 636 = .ok (.iload 4, 2) := by decide +kernel
theorem dL_law_638 : decode cL_law 638 = .ok (.iconst 1, 1) := by decide +kernel
theorem dL_law_639 : decode cL_law 639 = .ok (.iadd, 1) := by decide +kernel
theorem dL_law_640 : decode cL_law 640 = .ok (.iaload, 1) := by decide +kernel
theorem dL_law_641 : decode cL_law 641 = .ok (.aload_n 0, 1) := by decide +kernel
theorem dL_law_642 : decode cL_law 642 = .ok (.iload 4, 2) := by decide +kernel
theorem dL_law_644 : decode cL_law 644 = .ok (.iconst 2, 1) := by decide +kernel
theorem dL_law_645 : decode cL_law 645 = .ok (.iadd, 1) := by decide +kernel
theorem dL_law_646 : decode cL_law 646 = .ok (.iaload, 1) := by decide +kernel
theorem dL_law_647 : decode cL_law 647 = .ok (.invokevirtual 67, 3) := by decide +kernel
theorem dL_law_650 : decode cL_law 650 = .ok (.if_icmp .eq 1751, 3) := by decide +kernel
theorem dL_law_653 : decode cL_law 653 = .ok (.iconst 0, 1) := by decide +kernel
theorem dL_law_654 : decode cL_law 654 = .ok (.ireturn, 1) := by decide +kernel
theorem dL_law_655 : decode cL_law 655 = .ok (.aload_n 1, 1) := by decide +kernel
theorem dL_law_656 : decode cL_law 656 = .ok (.aload_n 0, 1) := by decide +kernel
theorem dL_law_657 : decode cL_law 657 = .ok (.iload 4, 2) := by decide +kernel
theorem dL_law_659 : decode cL_law 659 = .ok (.iconst 1, 1) := by decide +kernel
theorem dL_law_660 : decode cL_law 660 = .ok (.iadd, 1) := by decide +kernel
theorem dL_law_661 : decode cL_law 661 = .ok (.iaload, 1) := by decide +kernel
theorem dL_law_662 : decode cL_law 662 = .ok (.aload_n 0, 1) := by decide +kernel
theorem dL_law_663 : decode cL_law 663 = .ok (.iload 4, 2) := by decide +kernel
theorem dL_law_665 : decode cL_law 665 = .ok (.iconst 2, 1) := by decide +kernel
theorem dL_law_666 : decode cL_law 666 = .ok (.iadd, 1) := by decide +kernel
theorem dL_law_667 : decode cL_law 667 = .ok (.iaload, 1) := by decide +kernel
theorem dL_law_668 : decode cL_law 668 = .ok (.aload_n 0, 1) := by decide +kernel
theorem dL_law_669 : decode cL_law 669 = .ok (.iload 4, 2) := by decide +kernel
theorem dL_law_671 : decode cL_law 671 = .ok (.iconst 3, 1) := by decide +kernel
theorem dL_law_672 : decode cL_law 672 = .ok (.iadd, 1) := by decide +kernel
theorem dL_law_673 : decode cL_law 673 = .ok (.iaload, 1) := by decide +kernel
theorem dL_law_674 : decode cL_law 674 = .ok (.aload_n 0, 1) := by decide +kernel
theorem dL_law_675 : decode cL_law 675 = .ok (.iload 4, 2) := by decide +kernel
theorem dL_law_677 : decode cL_law 677 = .ok (.iconst 4, 1) := by decide +kernel
theorem dL_law_678 : decode cL_law 678 = .ok (.iadd, 1) := by decide +kernel
theorem dL_law_679 : decode cL_law 679 = .ok (.iaload, 1) := by decide +kernel
theorem dL_law_680 : decode cL_law 680 = .ok (.invokevirtual 68, 3) := by decide +kernel
theorem dL_law_683 : decode cL_law 683 = .ok (.aload_n 2, 1) := by decide +kernel
theorem dL_law_684 : decode cL_law 684 = .ok (.aload_n 0, 1) := by decide +kernel
theorem dL_law_685 : decode cL_law 685 = .ok (.iload 4, 2) := by decide +kernel
theorem dL_law_687 : decode cL_law 687 = .ok (.iconst 1, 1) := by decide +kernel
theorem dL_law_688 : decode cL_law 688 = .ok (.iadd, 1) := by decide +kernel
theorem dL_law_689 : decode cL_law 689 = .ok (.iaload, 1) := by decide +kernel
theorem dL_law_690 : decode cL_law 690 = .ok (.aload_n 0, 1) := by decide +kernel
theorem dL_law_691 : decode cL_law 691 = .ok (.iload 4, 2) := by decide +kernel
theorem dL_law_693 : decode cL_law 693 = .ok (.iconst 2, 1) := by decide +kernel
theorem dL_law_694 : decode cL_law 694 = .ok (.iadd, 1) := by decide +kernel
theorem dL_law_695 : decode cL_law 695 = .ok (.iaload, 1) := by decide +kernel
theorem dL_law_696 : decode cL_law 696 = .ok (.aload_n 0, 1) := by decide +kernel
theorem dL_law_697 : decode cL_law 697 = .ok (.iload 4, 2) := by decide +kernel
theorem dL_law_699 : decode cL_law 699 = .ok (.iconst 3, 1) := by decide +kernel
theorem dL_law_700 : decode cL_law 700 = .ok (.iadd, 1) := by decide +kernel
theorem dL_law_701 : decode cL_law 701 = .ok (.iaload, 1) := by decide +kernel
theorem dL_law_702 : decode cL_law 702 = .ok (.aload_n 0, 1) := by decide +kernel
theorem dL_law_703 : decode cL_law 703 = .ok (.iload 4, 2) := by decide +kernel
theorem dL_law_705 : decode cL_law 705 = .ok (.iconst 4, 1) := by decide +kernel
theorem dL_law_706 : decode cL_law 706 = .ok (.iadd, 1) := by decide +kernel
theorem dL_law_707 : decode cL_law 707 = .ok (.iaload, 1) := by decide +kernel
theorem dL_law_708 : decode cL_law 708 = .ok (.invokevirtual 71, 3) := by decide +kernel
theorem dL_law_711 : decode cL_law 711 = .ok (.if_icmp .eq 1690, 3) := by decide +kernel
theorem dL_law_714 : decode cL_law 714 = .ok (.iconst 0, 1) := by decide +kernel
theorem dL_law_715 : decode cL_law 715 = .ok (.ireturn, 1) := by decide +kernel
theorem dL_law_716 : decode cL_law 716 = .ok (.aload_n 1, 1) := by decide +kernel
theorem dL_law_717 : decode cL_law 717 = .ok (.aload_n 0, 1) := by decide +kernel
theorem dL_law_718 : decode cL_law 718 = .ok (.iload 4, 2) := by decide +kernel
theorem dL_law_720 : decode cL_law 720 = .ok (.iconst 1, 1) := by decide +kernel
theorem dL_law_721 : decode cL_law 721 = .ok (.iadd, 1) := by decide +kernel
theorem dL_law_722 : decode cL_law 722 = .ok (.iaload, 1) := by decide +kernel
theorem dL_law_723 : decode cL_law 723 = .ok (.aload_n 0, 1) := by decide +kernel
theorem dL_law_724 : decode cL_law 724 = .ok (.iload 4, 2) := by decide +kernel
theorem dL_law_726 : decode cL_law 726 = .ok (.iconst 2, 1) := by decide +kernel
theorem dL_law_727 : decode cL_law 727 = .ok (.iadd, 1) := by decide +kernel
theorem dL_law_728 : decode cL_law 728 = .ok (.iaload, 1) := by decide +kernel
theorem dL_law_729 : decode cL_law 729 = .ok (.aload_n 0, 1) := by decide +kernel
theorem dL_law_730 : decode cL_law 730 = .ok (.iload 4, 2) := by decide +kernel
theorem dL_law_732 : decode cL_law 732 = .ok (.iconst 3, 1) := by decide +kernel
theorem dL_law_733 : decode cL_law 733 = .ok (.iadd, 1) := by decide +kernel
theorem dL_law_734 : decode cL_law 734 = .ok (.iaload, 1) := by decide +kernel
theorem dL_law_735 : decode cL_law 735 = .ok (.invokevirtual 72, 3) := by decide +kernel
theorem dL_law_738 : decode cL_law 738 = .ok (.aload_n 2, 1) := by decide +kernel
theorem dL_law_739 : decode cL_law 739 = .ok (.aload_n 0, 1) := by decide +kernel
theorem dL_law_740 : decode cL_law 740 = .ok (.iload 4, 2) := by decide +kernel
theorem dL_law_742 : decode cL_law 742 = .ok (.iconst 1, 1) := by decide +kernel
theorem dL_law_743 : decode cL_law 743 = .ok (.iadd, 1) := by decide +kernel
theorem dL_law_744 : decode cL_law 744 = .ok (.iaload, 1) := by decide +kernel
theorem dL_law_745 : decode cL_law 745 = .ok (.aload_n 0, 1) := by decide +kernel
theorem dL_law_746 : decode cL_law 746 = .ok (.iload 4, 2) := by decide +kernel
theorem dL_law_748 : decode cL_law 748 = .ok (.iconst 2, 1) := by decide +kernel
theorem dL_law_749 : decode cL_law 749 = .ok (.iadd, 1) := by decide +kernel
theorem dL_law_750 : decode cL_law 750 = .ok (.iaload, 1) := by decide +kernel
theorem dL_law_751 : decode cL_law 751 = .ok (.aload_n 0, 1) := by decide +kernel
theorem dL_law_752 : decode cL_law 752 = .ok (.iload 4, 2) := by decide +kernel
theorem dL_law_754 : decode cL_law 754 = .ok (.iconst 3, 1) := by decide +kernel
theorem dL_law_755 : decode cL_law 755 = .ok (.iadd, 1) := by decide +kernel
theorem dL_law_756 : decode cL_law 756 = .ok (.iaload, 1) := by decide +kernel
theorem dL_law_757 : decode cL_law 757 = .ok (.invokevirtual 75, 3) := by decide +kernel
theorem dL_law_760 : decode cL_law 760 = .ok (.if_icmp .eq 1641, 3) := by decide +kernel
theorem dL_law_763 : decode cL_law 763 = .ok (.iconst 0, 1) := by decide +kernel
theorem dL_law_764 : decode cL_law 764 = .ok (.ireturn, 1) := by decide +kernel
theorem dL_law_765 : decode cL_law 765 = .ok (.aload_n 1, 1) := by decide +kernel
theorem dL_law_766 : decode cL_law 766 = .ok (.aload_n 0, 1) := by decide +kernel
theorem dL_law_767 : decode cL_law 767 = .ok (.iload 4, 2) := by decide +kernel
theorem dL_law_769 : decode cL_law 769 = .ok (.iconst 1, 1) := by decide +kernel
theorem dL_law_770 : decode cL_law 770 = .ok (.iadd, 1) := by decide +kernel
theorem dL_law_771 : decode cL_law 771 = .ok (.iaload, 1) := by decide +kernel
theorem dL_law_772 : decode cL_law 772 = .ok (.aload_n 0, 1) := by decide +kernel
theorem dL_law_773 : decode cL_law 773 = .ok (.iload 4, 2) := by decide +kernel
theorem dL_law_775 : decode cL_law 775 = .ok (.iconst 2, 1) := by decide +kernel
theorem dL_law_776 : decode cL_law 776 = .ok (.iadd, 1) := by decide +kernel
theorem dL_law_777 : decode cL_law 777 = .ok (.iaload, 1) := by decide +kernel
theorem dL_law_778 : decode cL_law 778 = .ok (.aload_n 0, 1) := by decide +kernel
theorem dL_law_779 : decode cL_law 779 = .ok (.iload 4, 2) := by decide +kernel
theorem dL_law_781 : decode cL_law 781 = .ok (.iconst 3, 1) := by decide +kernel
theorem dL_law_782 : decode cL_law 782 = .ok (.iadd, 1) := by decide +kernel
theorem dL_law_783 : decode cL_law 783 = .ok (.iaload, 1) := by decide +kernel
theorem dL_law_784 : decode cL_law 784 = .ok (.invokevirtual 76, 3) := by decide +kernel
theorem dL_law_787 : decode cL_law 787 = .ok (.aload_n 2, 1) := by decide +kernel
theorem dL_law_788 : decode cL_law 788 = .ok (.aload_n 0, 1) := by decide +kernel
theorem dL_law_789 : decode cL_law 789 = .ok (.iload 4, 2) := by decide +kernel
theorem dL_law_791 : decode cL_law 791 = .ok (.iconst 1, 1) := by decide +kernel
theorem dL_law_792 : decode cL_law 792 = .ok (.iadd, 1) := by decide +kernel
theorem dL_law_793 : decode cL_law 793 = .ok (.iaload, 1) := by decide +kernel
theorem dL_law_794 : decode cL_law 794 = .ok (.aload_n 0, 1) := by decide +kernel
theorem dL_law_795 : decode cL_law 795 = .ok (.iload 4, 2) := by decide +kernel
theorem dL_law_797 : decode cL_law 797 = .ok (.iconst 2, 1) := by decide +kernel
theorem dL_law_798 : decode cL_law 798 = .ok (.iadd, 1) := by decide +kernel
theorem dL_law_799 : decode cL_law 799 = .ok (.iaload, 1) := by decide +kernel
theorem dL_law_800 : decode cL_law 800 = .ok (.aload_n 0, 1) := by decide +kernel
theorem dL_law_801 : decode cL_law 801 = .ok (.iload 4, 2) := by decide +kernel
theorem dL_law_803 : decode cL_law 803 = .ok (.iconst 3, 1) := by decide +kernel
theorem dL_law_804 : decode cL_law 804 = .ok (.iadd, 1) := by decide +kernel
theorem dL_law_805 : decode cL_law 805 = .ok (.iaload, 1) := by decide +kernel
theorem dL_law_806 : decode cL_law 806 = .ok (.invokevirtual 79, 3) := by decide +kernel
theorem dL_law_809 : decode cL_law 809 = .ok (.if_icmp .eq 1592, 3) := by decide +kernel
theorem dL_law_812 : decode cL_law 812 = .ok (.iconst 0, 1) := by decide +kernel
theorem dL_law_813 : decode cL_law 813 = .ok (.ireturn, 1) := by decide +kernel
theorem dL_law_814 : decode cL_law 814 = .ok (.aload_n 1, 1) := by decide +kernel
theorem dL_law_815 : decode cL_law 815 = .ok (.aload_n 0, 1) := by decide +kernel
theorem dL_law_816 : decode cL_law 816 = .ok (.iload 4, 2) := by decide +kernel
theorem dL_law_818 : decode cL_law 818 = .ok (.iconst 1, 1) := by decide +kernel
theorem dL_law_819 : decode cL_law 819 = .ok (.iadd, 1) := by decide +kernel
theorem dL_law_820 : decode cL_law 820 = .ok (.iaload, 1) := by decide +kernel
theorem dL_law_821 : decode cL_law 821 = .ok (.aload_n 0, 1) := by decide +kernel
theorem dL_law_822 : decode cL_law 822 = .ok (.iload 4, 2) := by decide +kernel
theorem dL_law_824 : decode cL_law 824 = .ok (.iconst 2, 1) := by decide +kernel
theorem dL_law_825 : decode cL_law 825 = .ok (.iadd, 1) := by decide +kernel
theorem dL_law_826 : decode cL_law 826 = .ok (.iaload, 1) := by decide +kernel
theorem dL_law_827 : decode cL_law 827 = .ok (.invokevirtual 80, 3) := by decide +kernel
theorem dL_law_830 : decode cL_law 830 = .ok (.aload_n 2, 1) := by decide +kernel
theorem dL_law_831 : decode cL_law 831 = .ok (.aload_n 0, 1) := by decide +kernel
theorem dL_law_832 : decode cL_law 832 = .ok (.iload 4, 2) := by decide +kernel
theorem dL_law_834 : decode cL_law 834 = .ok (.iconst 1, 1) := by decide +kernel
theorem dL_law_835 : decode cL_law 835 = .ok (.iadd, 1) := by decide +kernel
theorem dL_law_836 : decode cL_law 836 = .ok (.iaload, 1) := by decide +kernel
theorem dL_law_837 : decode cL_law 837 = .ok (.aload_n 0, 1) := by decide +kernel
theorem dL_law_838 : decode cL_law 838 = .ok (.iload 4, 2) := by decide +kernel
theorem dL_law_840 : decode cL_law 840 = .ok (.iconst 2, 1) := by decide +kernel
theorem dL_law_841 : decode cL_law 841 = .ok (.iadd, 1) := by decide +kernel
theorem dL_law_842 : decode cL_law 842 = .ok (.iaload, 1) := by decide +kernel
theorem dL_law_843 : decode cL_law 843 = .ok (.invokevirtual 83, 3) := by decide +kernel
theorem dL_law_846 : decode cL_law 846 = .ok (.if_icmp .eq 1555, 3) := by decide +kernel
theorem dL_law_849 : decode cL_law 849 = .ok (.iconst 0, 1) := by decide +kernel
theorem dL_law_850 : decode cL_law 850 = .ok (.ireturn, 1) := by decide +kernel
theorem dL_law_851 : decode cL_law 851 = .ok (.aload_n 1, 1) := by decide +kernel
theorem dL_law_852 : decode cL_law 852 = .ok (.aload_n 0, 1) := by decide +kernel
theorem dL_law_853 : decode cL_law 853 = .ok (.iload 4, 2) := by decide +kernel
theorem dL_law_855 : decode cL_law 855 = .ok (.iconst 1, 1) := by decide +kernel
theorem dL_law_856 : decode cL_law 856 = .ok (.iadd, 1) := by decide +kernel
theorem dL_law_857 : decode cL_law 857 = .ok (.iaload, 1) := by decide +kernel
theorem dL_law_858 : decode cL_law 858 = .ok (.aload_n 0, 1) := by decide +kernel
theorem dL_law_859 : decode cL_law 859 = .ok (.iload 4, 2) := by decide +kernel
theorem dL_law_861 : decode cL_law 861 = .ok (.iconst 2, 1) := by decide +kernel
theorem dL_law_862 : decode cL_law 862 = .ok (.iadd, 1) := by decide +kernel
theorem dL_law_863 : decode cL_law 863 = .ok (.iaload, 1) := by decide +kernel
theorem dL_law_864 : decode cL_law 864 = .ok (.invokevirtual 84, 3) := by decide +kernel
theorem dL_law_867 : decode cL_law 867 = .ok (.aload_n 2, 1) := by decide +kernel
theorem dL_law_868 : decode cL_law 868 = .ok (.aload_n 0, 1) := by decide +kernel
theorem dL_law_869 : decode cL_law 869 = .ok (.iload 4, 2) := by decide +kernel
theorem dL_law_871 : decode cL_law 871 = .ok (.iconst 1, 1) := by decide +kernel
theorem dL_law_872 : decode cL_law 872 = .ok (.iadd, 1) := by decide +kernel
theorem dL_law_873 : decode cL_law 873 = .ok (.iaload, 1) := by decide +kernel
theorem dL_law_874 : decode cL_law 874 = .ok (.aload_n 0, 1) := by decide +kernel
theorem dL_law_875 : decode cL_law 875 = .ok (.iload 4, 2) := by decide +kernel
theorem dL_law_877 : decode cL_law 877 = .ok (.iconst 2, 1) := by decide +kernel
theorem dL_law_878 : decode cL_law 878 = .ok (.iadd, 1) := by decide +kernel
theorem dL_law_879 : decode cL_law 879 = .ok (.iaload, 1) := by decide +kernel
theorem dL_law_880 : decode cL_law 880 = .ok (.invokevirtual 87, 3) := by decide +kernel
theorem dL_law_883 : decode cL_law 883 = .ok (.if_icmp .eq 1518, 3) := by decide +kernel
theorem dL_law_886 : decode cL_law 886 = .ok (.iconst 0, 1) := by decide +kernel
theorem dL_law_887 : decode cL_law 887 = .ok (.ireturn, 1) := by decide +kernel
theorem dL_law_888 : decode cL_law 888 = .ok (.aload_n 1, 1) := by decide +kernel
theorem dL_law_889 : decode cL_law 889 = .ok (.aload_n 0, 1) := by decide +kernel
theorem dL_law_890 : decode cL_law 890 = .ok (.iload 4, 2) := by decide +kernel
theorem dL_law_892 : decode cL_law 892 = .ok (.iconst 1, 1) := by decide +kernel
theorem dL_law_893 : decode cL_law 893 = .ok (.iadd, 1) := by decide +kernel
theorem dL_law_894 : decode cL_law 894 = .ok (.iaload, 1) := by decide +kernel
theorem dL_law_895 : decode cL_law 895 = .ok (.aload_n 0, 1) := by decide +kernel
theorem dL_law_896 : decode cL_law 896 = .ok (.iload 4, 2) := by decide +kernel
theorem dL_law_898 : decode cL_law 898 = .ok (.iconst 2, 1) := by decide +kernel
theorem dL_law_899 : decode cL_law 899 = .ok (.iadd, 1) := by decide +kernel
theorem dL_law_900 : decode cL_law 900 = .ok (.iaload, 1) := by decide +kernel
theorem dL_law_901 : decode cL_law 901 = .ok (.aload_n 0, 1) := by decide +kernel
theorem dL_law_902 : decode cL_law 902 = .ok (.iload 4, 2) := by decide +kernel
theorem dL_law_904 : decode cL_law 904 = .ok (.iconst 3, 1) := by decide +kernel
theorem dL_law_905 : decode cL_law 905 = .ok (.iadd, 1) := by decide +kernel
theorem dL_law_906 : decode cL_law 906 = .ok (.iaload, 1) := by decide +kernel
theorem dL_law_907 : decode cL_law 907 = .ok (.aload_n 0, 1) := by decide +kernel
theorem dL_law_908 : decode cL_law 908 = .ok (.iload 4, 2) := by decide +kernel
theorem dL_law_910 : decode cL_law 910 = .ok (.iconst 4, 1) := by decide +kernel
theorem dL_law_911 : decode cL_law 911 = .ok (.iadd, 1) := by decide +kernel
theorem dL_law_912 : decode cL_law 912 = .ok (.iaload, 1) := by decide +kernel
theorem dL_law_913 : decode cL_law 913 = .ok (.aload_n 0, 1) := by decide +kernel
theorem dL_law_914 : decode cL_law 914 = .ok (.iload 4, 2) := by decide +kernel
theorem dL_law_916 : decode cL_law 916 = .ok (.iconst 5, 1) := by decide +kernel
theorem dL_law_917 : decode cL_law 917 = .ok (.iadd, 1) := by decide +kernel
theorem dL_law_918 : decode cL_law 918 = .ok (.iaload, 1) := by decide +kernel
theorem dL_law_919 : decode cL_law 919 = .ok (.invokevirtual 88, 3) := by decide +kernel
theorem dL_law_922 : decode cL_law 922 = .ok (.aload_n 2, 1) := by decide +kernel
theorem dL_law_923 : decode cL_law 923 = .ok (.aload_n 0, 1) := by decide +kernel
theorem dL_law_924 : decode cL_law 924 = .ok (.iload 4, 2) := by decide +kernel
theorem dL_law_926 : decode cL_law 926 = .ok (.iconst 1, 1) := by decide +kernel
theorem dL_law_927 : decode cL_law 927 = .ok (.iadd, 1) := by decide +kernel
theorem dL_law_928 : decode cL_law 928 = .ok (.iaload, 1) := by decide +kernel
theorem dL_law_929 : decode cL_law 929 = .ok (.aload_n 0, 1) := by decide +kernel
theorem dL_law_930 : decode cL_law 930 = .ok (.iload 4, 2) := by decide +kernel
theorem dL_law_932 : decode cL_law 932 = .ok (.iconst 2, 1) := by decide +kernel
theorem dL_law_933 : decode cL_law 933 = .ok (.iadd, 1) := by decide +kernel
theorem dL_law_934 : decode cL_law 934 = .ok (.iaload, 1) := by decide +kernel
theorem dL_law_935 : decode cL_law 935 = .ok (.aload_n 0, 1) := by decide +kernel
theorem dL_law_936 : decode cL_law 936 = .ok (.iload 4, 2) := by decide +kernel
theorem dL_law_938 : decode cL_law 938 = .ok (.iconst 3, 1) := by decide +kernel
theorem dL_law_939 : decode cL_law 939 = .ok (.iadd, 1) := by decide +kernel
theorem dL_law_940 : decode cL_law 940 = .ok (.iaload, 1) := by decide +kernel
theorem dL_law_941 : decode cL_law 941 = .ok (.aload_n 0, 1) := by decide +kernel
theorem dL_law_942 : decode cL_law 942 = .ok (.iload 4, 2) := by decide +kernel
theorem dL_law_944 : decode cL_law 944 = .ok (.iconst 4, 1) := by decide +kernel
theorem dL_law_945 : decode cL_law 945 = .ok (.iadd, 1) := by decide +kernel
theorem dL_law_946 : decode cL_law 946 = .ok (.iaload, 1) := by decide +kernel
theorem dL_law_947 : decode cL_law 947 = .ok (.aload_n 0, 1) := by decide +kernel
theorem dL_law_948 : decode cL_law 948 = .ok (.iload 4, 2) := by decide +kernel
theorem dL_law_950 : decode cL_law 950 = .ok (.iconst 5, 1) := by decide +kernel
theorem dL_law_951 : decode cL_law 951 = .ok (.iadd, 1) := by decide +kernel
theorem dL_law_952 : decode cL_law 952 = .ok (.iaload, 1) := by decide +kernel
theorem dL_law_953 : decode cL_law 953 = .ok (.invokevirtual 92, 3) := by decide +kernel
theorem dL_law_956 : decode cL_law 956 = .ok (.if_icmp .eq 1445, 3) := by decide +kernel
theorem dL_law_959 : decode cL_law 959 = .ok (.iconst 0, 1) := by decide +kernel
theorem dL_law_960 : decode cL_law 960 = .ok (.ireturn, 1) := by decide +kernel
theorem dL_law_961 : decode cL_law 961 = .ok (.aload_n 1, 1) := by decide +kernel
theorem dL_law_962 : decode cL_law 962 = .ok (.aload_n 0, 1) := by decide +kernel
theorem dL_law_963 : decode cL_law 963 = .ok (.iload 4, 2) := by decide +kernel
theorem dL_law_965 : decode cL_law 965 = .ok (.iconst 1, 1) := by decide +kernel
theorem dL_law_966 : decode cL_law 966 = .ok (.iadd, 1) := by decide +kernel
theorem dL_law_967 : decode cL_law 967 = .ok (.iaload, 1) := by decide +kernel
theorem dL_law_968 : decode cL_law 968 = .ok (.aload_n 0, 1) := by decide +kernel
theorem dL_law_969 : decode cL_law 969 = .ok (.iload 4, 2) := by decide +kernel
theorem dL_law_971 : decode cL_law 971 = .ok (.iconst 2, 1) := by decide +kernel
theorem dL_law_972 : decode cL_law 972 = .ok (.iadd, 1) := by decide +kernel
theorem dL_law_973 : decode cL_law 973 = .ok (.iaload, 1) := by decide +kernel
theorem dL_law_974 : decode cL_law 974 = .ok (.aload_n 0, 1) := by decide +kernel
theorem dL_law_975 : decode cL_law 975 = .ok (.iload 4, 2) := by decide +kernel
theorem dL_law_977 : decode cL_law 977 = .ok (.iconst 3, 1) := by decide +kernel
theorem dL_law_978 : decode cL_law 978 = .ok (.iadd, 1) := by decide +kernel
theorem dL_law_979 : decode cL_law 979 = .ok (.iaload, 1) := by decide +kernel
theorem dL_law_980 : decode cL_law 980 = .ok (.invokevirtual 93, 3) := by decide +kernel
theorem dL_law_983 : decode cL_law 983 = .ok (.aload_n 2, 1) := by decide +kernel
theorem dL_law_984 : decode cL_law 984 = .ok (.aload_n 0, 1) := by decide +kernel
theorem dL_law_985 : decode cL_law 985 = .ok (.iload 4, 2) := by decide +kernel
theorem dL_law_987 : decode cL_law 987 = .ok (.iconst 1, 1) := by decide +kernel
theorem dL_law_988 : decode cL_law 988 = .ok (.iadd, 1) := by decide +kernel
theorem dL_law_989 : decode cL_law 989 = .ok (.iaload, 1) := by decide +kernel
theorem dL_law_990 : decode cL_law 990 = .ok (.aload_n 0, 1) := by decide +kernel
theorem dL_law_991 : decode cL_law 991 = .ok (.iload 4, 2) := by decide +kernel
theorem dL_law_993 : decode cL_law 993 = .ok (.iconst 2, 1) := by decide +kernel
theorem dL_law_994 : decode cL_law 994 = .ok (.iadd, 1) := by decide +kernel
theorem dL_law_995 : decode cL_law 995 = .ok (.iaload, 1) := by decide +kernel
theorem dL_law_996 : decode cL_law 996 = .ok (.aload_n 0, 1) := by decide +kernel
theorem dL_law_997 : decode cL_law 997 = .ok (.iload 4, 2) := by decide +kernel
theorem dL_law_999 : decode cL_law 999 = .ok (.iconst 3, 1) := by decide +kernel
theorem dL_law_1000 : decode cL_law 1000 = .ok (.iadd, 1) := by decide +kernel
theorem dL_law_1001 : decode cL_law 1001 = .ok (.iaload, 1) := by decide +kernel
theorem dL_law_1002 : decode cL_law 1002 = .ok (.invokevirtual 96, 3) := by decide +kernel
theorem dL_law_1005 : decode cL_law 1005 = .ok (.if_icmp .eq 1396, 3) := by decide +kernel
theorem dL_law_1008 : decode cL_law 1008 = .ok (.iconst 0, 1) := by decide +kernel
theorem dL_law_1009 : decode cL_law 1009 = .ok (.ireturn, 1) := by decide +kernel
theorem dL_law_1010 : decode cL_law 1010 = .ok (.aload_n 1, 1) := by decide +kernel
theorem dL_law_1011 : decode cL_law 1011 = .ok (.aload_n 0, 1) := by decide +kernel
theorem dL_law_1012 : decode cL_law 1012 = .ok (.iload 4, 2) := by decide +kernel
theorem dL_law_1014 : decode cL_law 1014 = .ok (.iconst 1, 1) := by decide +kernel
theorem dL_law_1015 : decode cL_law 1015 = .ok (.iadd, 1) := by decide +kernel
theorem dL_law_1016 : decode cL_law 1016 = .ok (.iaload, 1) := by decide +kernel
theorem dL_law_1017 : decode cL_law 1017 = .ok (.aload_n 0, 1) := by decide +kernel
theorem dL_law_1018 : decode cL_law 1018 = .ok (.iload 4, 2) := by decide +kernel
theorem dL_law_1020 : decode cL_law 1020 = .ok (.iconst 2, 1) := by decide +kernel
theorem dL_law_1021 : decode cL_law 1021 = .ok (.iadd, 1) := by decide +kernel
theorem dL_law_1022 : decode cL_law 1022 = .ok (.iaload, 1) := by decide +kernel
theorem dL_law_1023 : decode cL_law 1023 = .ok (.aload_n 0, 1) := by decide +kernel
theorem dL_law_1024 : decode cL_law 1024 = .ok (.iload 4, 2) := by decide +kernel
theorem dL_law_1026 : decode cL_law 1026 = .ok (.iconst 3, 1) := by decide +kernel
theorem dL_law_1027 : decode cL_law 1027 = .ok (.iadd, 1) := by decide +kernel
theorem dL_law_1028 : decode cL_law 1028 = .ok (.iaload, 1) := by decide +kernel
theorem dL_law_1029 : decode cL_law 1029 = .ok (.invokevirtual 97, 3) := by decide +kernel
theorem dL_law_1032 : decode cL_law 1032 = .ok (.aload_n 2, 1) := by decide +kernel
theorem dL_law_1033 : decode cL_law 1033 = .ok (.aload_n 0, 1) := by decide +kernel
theorem dL_law_1034 : decode cL_law 1034 = .ok (.iload 4, 2) := by decide +kernel
theorem dL_law_1036 : decode cL_law 1036 = .ok (.iconst 1, 1) := by decide +kernel
theorem dL_law_1037 : decode cL_law 1037 = .ok (.iadd, 1) := by decide +kernel
theorem dL_law_1038 : decode cL_law 1038 = .ok (.iaload, 1) := by decide +kernel
theorem dL_law_1039 : decode cL_law 1039 = .ok (.aload_n 0, 1) := by decide +kernel
theorem dL_law_1040 : decode cL_law 1040 = .ok (.iload 4, 2) := by decide +kernel
theorem dL_law_1042 : decode cL_law 1042 = .ok (.iconst 2, 1) := by decide +kernel
theorem dL_law_1043 : decode cL_law 1043 = .ok (.iadd, 1) := by decide +kernel
theorem dL_law_1044 : decode cL_law 1044 = .ok (.iaload, 1) := by decide +kernel
theorem dL_law_1045 : decode cL_law 1045 = .ok (.aload_n 0, 1) := by decide +kernel
theorem dL_law_1046 : decode cL_law 1046 = .ok (.iload 4, 2) := by decide +kernel
theorem dL_law_1048 : decode cL_law 1048 = .ok (.iconst 3, 1) := by decide +kernel
theorem dL_law_1049 : decode cL_law 1049 = .ok (.iadd, 1) := by decide +kernel
theorem dL_law_1050 : decode cL_law 1050 = .ok (.iaload, 1) := by decide +kernel
theorem dL_law_1051 : decode cL_law 1051 = .ok (.invokevirtual 100, 3) := by decide +kernel
theorem dL_law_1054 : decode cL_law 1054 = .ok (.if_icmp .eq 1347, 3) := by decide +kernel
theorem dL_law_1057 : decode cL_law 1057 = .ok (.iconst 0, 1) := by decide +kernel
theorem dL_law_1058 : decode cL_law 1058 = .ok (.ireturn, 1) := by decide +kernel
theorem dL_law_1059 : decode cL_law 1059 = .ok (.aload_n 1, 1) := by decide +kernel
theorem dL_law_1060 : decode cL_law 1060 = .ok (.aload_n 0, 1) := by decide +kernel
theorem dL_law_1061 : decode cL_law 1061 = .ok (.iload 4, 2) := by decide +kernel
theorem dL_law_1063 : decode cL_law 1063 = .ok (.iconst 1, 1) := by decide +kernel
theorem dL_law_1064 : decode cL_law 1064 = .ok (.iadd, 1) := by decide +kernel
theorem dL_law_1065 : decode cL_law 1065 = .ok (.iaload, 1) := by decide +kernel
theorem dL_law_1066 : decode cL_law 1066 = .ok (.aload_n 0, 1) := by decide +kernel
theorem dL_law_1067 : decode cL_law 1067 = .ok (.iload 4, 2) := by decide +kernel
theorem dL_law_1069 : decode cL_law 1069 = .ok (.iconst 2, 1) := by decide +kernel
theorem dL_law_1070 : decode cL_law 1070 = .ok (.iadd, 1) := by decide +kernel
theorem dL_law_1071 : decode cL_law 1071 = .ok (.iaload, 1) := by decide +kernel
theorem dL_law_1072 : decode cL_law 1072 = .ok (.invokevirtual 101, 3) := by decide +kernel
theorem dL_law_1075 : decode cL_law 1075 = .ok (.aload_n 2, 1) := by decide +kernel
theorem dL_law_1076 : decode cL_law 1076 = .ok (.aload_n 0, 1) := by decide +kernel
theorem dL_law_1077 : decode cL_law 1077 = .ok (.iload 4, 2) := by decide +kernel
theorem dL_law_1079 : decode cL_law 1079 = .ok (.iconst 1, 1) := by decide +kernel
theorem dL_law_1080 : decode cL_law 1080 = .ok (.iadd, 1) := by decide +kernel
theorem dL_law_1081 : decode cL_law 1081 = .ok (.iaload, 1) := by decide +kernel
theorem dL_law_1082 : decode cL_law 1082 = .ok (.aload_n 0, 1) := by decide +kernel
theorem dL_law_1083 : decode cL_law 1083 = .ok (.iload 4, 2) := by decide +kernel
theorem dL_law_1085 : decode cL_law 1085 = .ok (.iconst 2, 1) := by decide +kernel
theorem dL_law_1086 : decode cL_law 1086 = .ok (.iadd, 1) := by decide +kernel
theorem dL_law_1087 : decode cL_law 1087 = .ok (.iaload, 1) := by decide +kernel
theorem dL_law_1088 : decode cL_law 1088 = .ok (.invokevirtual 104, 3) := by decide +kernel
theorem dL_law_1091 : decode cL_law 1091 = .ok (.if_icmp .eq 1310, 3) := by decide +kernel
theorem dL_law_1094 : decode cL_law 1094 = .ok (.iconst 0, 1) := by decide +kernel
theorem dL_law_1095 : decode cL_law 1095 = .ok (.ireturn, 1) := by decide +kernel
theorem dL_law_1096 : decode cL_law 1096 = .ok (.aload_n 1, 1) := by decide +kernel
theorem dL_law_1097 : decode cL_law 1097 = .ok (.aload_n 0, 1) := by decide +kernel
theorem dL_law_1098 : decode cL_law 1098 = .ok (.iload 4, 2) := by decide +kernel
theorem dL_law_1100 : decode cL_law 1100 = .ok (.iconst 1, 1) := by decide +kernel
theorem dL_law_1101 : decode cL_law 1101 = .ok (.iadd, 1) := by decide +kernel
theorem dL_law_1102 : decode cL_law 1102 = .ok (.iaload, 1) := by decide +kernel
theorem dL_law_1103 : decode cL_law 1103 = .ok (.aload_n 0, 1) := by decide +kernel
theorem dL_law_1104 : decode cL_law 1104 = .ok (.iload 4, 2) := by decide +kernel
theorem dL_law_1106 : decode cL_law 1106 = .ok (.iconst 2, 1) := by decide +kernel
theorem dL_law_1107 : decode cL_law 1107 = .ok (.iadd, 1) := by decide +kernel
theorem dL_law_1108 : decode cL_law 1108 = .ok (.iaload, 1) := by decide +kernel
theorem dL_law_1109 : decode cL_law 1109 = .ok (.aload_n 0, 1) := by decide +kernel
theorem dL_law_1110 : decode cL_law 1110 = .ok (.iload 4, 2) := by decide +kernel
theorem dL_law_1112 : decode cL_law 1112 = .ok (.iconst 3, 1) := by decide +kernel
theorem dL_law_1113 : decode cL_law 1113 = .ok (.iadd, 1) := by decide +kernel
theorem dL_law_1114 : decode cL_law 1114 = .ok (.iaload, 1) := by decide +kernel
theorem dL_law_1115 : decode cL_law 1115 = .ok (.invokevirtual 105, 3) := by decide +kernel
theorem dL_law_1118 : decode cL_law 1118 = .ok (.aload_n 2, 1) := by decide +kernel
theorem dL_law_1119 : decode cL_law 1119 = .ok (.aload_n 0, 1) := by decide +kernel
theorem dL_law_1120 : decode cL_law 1120 = .ok (.iload 4, 2) := by decide +kernel
theorem dL_law_1122 : decode cL_law 1122 = .ok (.iconst 1, 1) := by decide +kernel
theorem dL_law_1123 : decode cL_law 1123 = .ok (.iadd, 1) := by decide +kernel
theorem dL_law_1124 : decode cL_law 1124 = .ok (.iaload, 1) := by decide +kernel
theorem dL_law_1125 : decode cL_law 1125 = .ok (.aload_n 0, 1) := by decide +kernel
theorem dL_law_1126 : decode cL_law 1126 = .ok (.iload 4, 2) := by decide +kernel
theorem dL_law_1128 : decode cL_law 1128 = .ok (.iconst 2, 1) := by decide +kernel
theorem dL_law_1129 : decode cL_law 1129 = .ok (.iadd, 1) := by decide +kernel
theorem dL_law_1130 : decode cL_law 1130 = .ok (.iaload, 1) := by decide +kernel
theorem dL_law_1131 : decode cL_law 1131 = .ok (.aload_n 0, 1) := by decide +kernel
theorem dL_law_1132 : decode cL_law 1132 = .ok (.iload 4, 2) := by decide +kernel
theorem dL_law_1134 : decode cL_law 1134 = .ok (.iconst 3, 1) := by decide +kernel
theorem dL_law_1135 : decode cL_law 1135 = .ok (.iadd, 1) := by decide +kernel
theorem dL_law_1136 : decode cL_law 1136 = .ok (.iaload, 1) := by decide +kernel
theorem dL_law_1137 : decode cL_law 1137 = .ok (.invokevirtual 108, 3) := by decide +kernel
theorem dL_law_1140 : decode cL_law 1140 = .ok (.if_icmp .eq 1261, 3) := by decide +kernel
theorem dL_law_1143 : decode cL_law 1143 = .ok (.iconst 0, 1) := by decide +kernel
theorem dL_law_1144 : decode cL_law 1144 = .ok (.ireturn, 1) := by decide +kernel
theorem dL_law_1145 : decode cL_law 1145 = .ok (.aload_n 1, 1) := by decide +kernel
theorem dL_law_1146 : decode cL_law 1146 = .ok (.aload_n 0, 1) := by decide +kernel
theorem dL_law_1147 : decode cL_law 1147 = .ok (.iload 4, 2) := by decide +kernel
theorem dL_law_1149 : decode cL_law 1149 = .ok (.iconst 1, 1) := by decide +kernel
theorem dL_law_1150 : decode cL_law 1150 = .ok (.iadd, 1) := by decide +kernel
theorem dL_law_1151 : decode cL_law 1151 = .ok (.iaload, 1) := by decide +kernel
theorem dL_law_1152 : decode cL_law 1152 = .ok (.aload_n 0, 1) := by decide +kernel
theorem dL_law_1153 : decode cL_law 1153 = .ok (.iload 4, 2) := by decide +kernel
theorem dL_law_1155 : decode cL_law 1155 = .ok (.iconst 2, 1) := by decide +kernel
theorem dL_law_1156 : decode cL_law 1156 = .ok (.iadd, 1) := by decide +kernel
theorem dL_law_1157 : decode cL_law 1157 = .ok (.iaload, 1) := by decide +kernel
theorem dL_law_1158 : decode cL_law 1158 = .ok (.aload_n 0, 1) := by decide +kernel
theorem dL_law_1159 : decode cL_law 1159 = .ok (.iload 4, 2) := by decide +kernel
theorem dL_law_1161 : decode cL_law 1161 = .ok (.iconst 3, 1) := by decide +kernel
theorem dL_law_1162 : decode cL_law 1162 = .ok (.iadd, 1) := by decide +kernel
theorem dL_law_1163 : decode cL_law 1163 = .ok (.iaload, 1) := by decide +kernel
theorem dL_law_1164 : decode cL_law 1164 = .ok (.invokevirtual 109, 3) := by decide +kernel
theorem dL_law_1167 : decode cL_law 1167 = .ok (.aload_n 2, 1) := by decide +kernel
theorem dL_law_1168 : decode cL_law 1168 = .ok (.aload_n 0, 1) := by decide +kernel
theorem dL_law_1169 : decode cL_law 1169 = .ok (.iload 4, 2) := by decide +kernel
theorem dL_law_1171 : decode cL_law 1171 = .ok (.iconst 1, 1) := by decide +kernel
theorem dL_law_1172 : decode cL_law 1172 = .ok (.iadd, 1) := by decide +kernel
theorem dL_law_1173 : decode cL_law 1173 = .ok (.iaload, 1) := by decide +kernel
theorem dL_law_1174 : decode cL_law 1174 = .ok (.aload_n 0, 1) := by decide +kernel
theorem dL_law_1175 : decode cL_law 1175 = .ok (.iload 4, 2) := by decide +kernel
theorem dL_law_1177 : decode cL_law 1177 = .ok (.iconst 2, 1) := by decide +kernel
theorem dL_law_1178 : decode cL_law 1178 = .ok (.iadd, 1) := by decide +kernel
theorem dL_law_1179 : decode cL_law 1179 = .ok (.iaload, 1) := by decide +kernel
theorem dL_law_1180 : decode cL_law 1180 = .ok (.aload_n 0, 1) := by decide +kernel
theorem dL_law_1181 : decode cL_law 1181 = .ok (.iload 4, 2) := by decide +kernel
theorem dL_law_1183 : decode cL_law 1183 = .ok (.iconst 3, 1) := by decide +kernel
theorem dL_law_1184 : decode cL_law 1184 = .ok (.iadd, 1) := by decide +kernel
theorem dL_law_1185 : decode cL_law 1185 = .ok (.iaload, 1) := by decide +kernel
theorem dL_law_1186 : decode cL_law 1186 = .ok (.invokevirtual 112, 3) := by decide +kernel
theorem dL_law_1189 : decode cL_law 1189 = .ok (.if_icmp .eq 1212, 3) := by decide +kernel
theorem dL_law_1192 : decode cL_law 1192 = .ok (.iconst 0, 1) := by decide +kernel
theorem dL_law_1193 : decode cL_law 1193 = .ok (.ireturn, 1) := by decide +kernel
theorem dL_law_1194 : decode cL_law 1194 = .ok (.aload_n 1, 1) := by decide +kernel
theorem dL_law_1195 : decode cL_law 1195 = .ok (.aload_n 0, 1) := by decide +kernel
theorem dL_law_1196 : decode cL_law 1196 = .ok (.iload 4, 2) := by decide +kernel
theorem dL_law_1198 : decode cL_law 1198 = .ok (.iconst 1, 1) := by decide +kernel
theorem dL_law_1199 : decode cL_law 1199 = .ok (.iadd, 1) := by decide +kernel
theorem dL_law_1200 : decode cL_law 1200 = .ok (.iaload, 1) := by decide +kernel
theorem dL_law_1201 : decode cL_law 1201 = .ok (.aload_n 0, 1) := by decide +kernel
theorem dL_law_1202 : decode cL_law 1202 = .ok (.iload 4, 2) := by decide +kernel
theorem dL_law_1204 : decode cL_law 1204 = .ok (.iconst 2, 1) := by decide +kernel
theorem dL_law_1205 : decode cL_law 1205 = .ok (.iadd, 1) := by decide +kernel
theorem dL_law_1206 : decode cL_law 1206 = .ok (.iaload, 1) := by decide +kernel
theorem dL_law_1207 : decode cL_law 1207 = .ok (.aload_n 0, 1) := by decide +kernel
theorem dL_law_1208 : decode cL_law 1208 = .ok (.iload 4, 2) := by decide +kernel
theorem dL_law_1210 : decode cL_law 1210 = .ok (.iconst 3, 1) := by decide +kernel
theorem dL_law_1211 : decode cL_law 1211 = .ok (.iadd, 1) := by decide +kernel
theorem dL_law_1212 : decode cL_law 1212 = .ok (.iaload, 1) := by decide +kernel
theorem dL_law_1213 : decode cL_law 1213 = .ok (.aload_n 0, 1) := by decide +kernel
theorem dL_law_1214 : decode cL_law 1214 = .ok (.iload 4, 2) := by decide +kernel
theorem dL_law_1216 : decode cL_law 1216 = .ok (.iconst 4, 1) := by decide +kernel
theorem dL_law_1217 : decode cL_law 1217 = .ok (.iadd, 1) := by decide +kernel
theorem dL_law_1218 : decode cL_law 1218 = .ok (.iaload, 1) := by decide +kernel
theorem dL_law_1219 : decode cL_law 1219 = .ok (.invokevirtual 113, 3) := by decide +kernel
theorem dL_law_1222 : decode cL_law 1222 = .ok (.aload_n 2, 1) := by decide +kernel
theorem dL_law_1223 : decode cL_law 1223 = .ok (.aload_n 0, 1) := by decide +kernel
theorem dL_law_1224 : decode cL_law 1224 = .ok (.iload 4, 2) := by decide +kernel
theorem dL_law_1226 : decode cL_law 1226 = .ok (.iconst 1, 1) := by decide +kernel
theorem dL_law_1227 : decode cL_law 1227 = .ok (.iadd, 1) := by decide +kernel
theorem dL_law_1228 : decode cL_law 1228 = .ok (.iaload, 1) := by decide +kernel
theorem dL_law_1229 : decode cL_law 1229 = .ok (.aload_n 0, 1) := by decide +kernel
theorem dL_law_1230 : decode cL_law 1230 = .ok (.iload 4, 2) := by decide +kernel
theorem dL_law_1232 : decode cL_law 1232 = .ok (.iconst 2, 1) := by decide +kernel
theorem dL_law_1233 : decode cL_law 1233 = .ok (.iadd, 1) := by decide +kernel
theorem dL_law_1234 : decode cL_law 1234 = .ok (.iaload, 1) := by decide +kernel
theorem dL_law_1235 : decode cL_law 1235 = .ok (.aload_n 0, 1) := by decide +kernel
theorem dL_law_1236 : decode cL_law 1236 = .ok (.iload 4, 2) := by decide +kernel
theorem dL_law_1238 : decode cL_law 1238 = .ok (.iconst 3, 1) := by decide +kernel
theorem dL_law_1239 : decode cL_law 1239 = .ok (.iadd, 1) := by decide +kernel
theorem dL_law_1240 : decode cL_law 1240 = .ok (.iaload, 1) := by decide +kernel
theorem dL_law_1241 : decode cL_law 1241 = .ok (.aload_n 0, 1) := by decide +kernel
theorem dL_law_1242 : decode cL_law 1242 = .ok (.iload 4, 2) := by decide +kernel
theorem dL_law_1244 : decode cL_law 1244 = .ok (.iconst 4, 1) := by decide +kernel
theorem dL_law_1245 : decode cL_law 1245 = .ok (.iadd, 1) := by decide +kernel
theorem dL_law_1246 : decode cL_law 1246 = .ok (.iaload, 1) := by decide +kernel
theorem dL_law_1247 : decode cL_law 1247 = .ok (.invokevirtual 116, 3) := by decide +kernel
theorem dL_law_1250 : decode cL_law 1250 = .ok (.if_icmp .eq 1151, 3) := by decide +kernel
theorem dL_law_1253 : decode cL_law 1253 = .ok (.iconst 0, 1) := by decide +kernel
theorem dL_law_1254 : decode cL_law 1254 = .ok (.ireturn, 1) := by decide +kernel
theorem dL_law_1255 : decode cL_law 1255 = .ok (.aload_n 1, 1) := by decide +kernel
theorem dL_law_1256 : decode cL_law 1256 = .ok (.aload_n 0, 1) := by decide +kernel
theorem dL_law_1257 : decode cL_law 1257 = .ok (.iload 4, 2) := by decide +kernel
theorem dL_law_1259 : decode cL_law 1259 = .ok (.iconst 1, 1) := by decide +kernel
theorem dL_law_1260 : decode cL_law 1260 = .ok (.iadd, 1) := by decide +kernel
theorem dL_law_1261 : decode cL_law 1261 = .ok (.iaload, 1) := by decide +kernel
theorem dL_law_1262 : decode cL_law 1262 = .ok (.aload_n 0, 1) := by decide +kernel
theorem dL_law_1263 : decode cL_law 1263 = .ok (.iload 4, 2) := by decide +kernel
theorem dL_law_1265 : decode cL_law 1265 = .ok (.iconst 2, 1) := by decide +kernel
theorem dL_law_1266 : decode cL_law 1266 = .ok (.iadd, 1) := by decide +kernel
theorem dL_law_1267 : decode cL_law 1267 = .ok (.iaload, 1) := by decide +kernel
theorem dL_law_1268 : decode cL_law 1268 = .ok (.aload_n 0, 1) := by decide +kernel
theorem dL_law_1269 : decode cL_law 1269 = .ok (.iload 4, 2) := by decide +kernel
theorem dL_law_1271 : decode cL_law 1271 = .ok (.iconst 3, 1) := by decide +kernel
theorem dL_law_1272 : decode cL_law 1272 = .ok (.iadd, 1) := by decide +kernel
theorem dL_law_1273 : decode cL_law 1273 = .ok (.iaload, 1) := by decide +kernel
theorem dL_law_1274 : decode cL_law 1274 = .ok (.aload_n 0, 1) := by decide +kernel
theorem dL_law_1275 : decode cL_law 1275 = .ok (.iload 4, 2) := by decide +kernel
theorem dL_law_1277 : decode cL_law 1277 = .ok (.iconst 4, 1) := by decide +kernel
theorem dL_law_1278 : decode cL_law 1278 = .ok (.iadd, 1) := by decide +kernel
theorem dL_law_1279 : decode cL_law 1279 = .ok (.iaload, 1) := by decide +kernel
theorem dL_law_1280 : decode cL_law 1280 = .ok (.invokevirtual 117, 3) := by decide +kernel
theorem dL_law_1283 : decode cL_law 1283 = .ok (.aload_n 2, 1) := by decide +kernel
theorem dL_law_1284 : decode cL_law 1284 = .ok (.aload_n 0, 1) := by decide +kernel
theorem dL_law_1285 : decode cL_law 1285 = .ok (.iload 4, 2) := by decide +kernel
theorem dL_law_1287 : decode cL_law 1287 = .ok (.iconst 1, 1) := by decide +kernel
theorem dL_law_1288 : decode cL_law 1288 = .ok (.iadd, 1) := by decide +kernel
theorem dL_law_1289 : decode cL_law 1289 = .ok (.iaload, 1) := by decide +kernel
theorem dL_law_1290 : decode cL_law 1290 = .ok (.aload_n 0, 1) := by decide +kernel
theorem dL_law_1291 : decode cL_law 1291 = .ok (.iload 4, 2) := by decide +kernel
theorem dL_law_1293 : decode cL_law 1293 = .ok (.iconst 2, 1) := by decide +kernel
theorem dL_law_1294 : decode cL_law 1294 = .ok (.iadd, 1) := by decide +kernel
theorem dL_law_1295 : decode cL_law 1295 = .ok (.iaload, 1) := by decide +kernel
theorem dL_law_1296 : decode cL_law 1296 = .ok (.aload_n 0, 1) := by decide +kernel
theorem dL_law_1297 : decode cL_law 1297 = .ok (.iload 4, 2) := by decide +kernel
theorem dL_law_1299 : decode cL_law 1299 = .ok (.iconst 3, 1) := by decide +kernel
theorem dL_law_1300 : decode cL_law 1300 = .ok (.iadd, 1) := by decide +kernel
theorem dL_law_1301 : decode cL_law 1301 = .ok (.iaload, 1) := by decide +kernel
theorem dL_law_1302 : decode cL_law 1302 = .ok (.aload_n 0, 1) := by decide +kernel
theorem dL_law_1303 : decode cL_law 1303 = .ok (.iload 4, 2) := by decide +kernel
theorem dL_law_1305 : decode cL_law 1305 = .ok (.iconst 4, 1) := by decide +kernel
theorem dL_law_1306 : decode cL_law 1306 = .ok (.iadd, 1) := by decide +kernel
theorem dL_law_1307 : decode cL_law 1307 = .ok (.iaload, 1) := by decide +kernel
theorem dL_law_1308 : decode cL_law 1308 = .ok (.invokevirtual 120, 3) := by decide +kernel
theorem dL_law_1311 : decode cL_law 1311 = .ok (.if_icmp .eq 1090, 3) := by decide +kernel
theorem dL_law_1314 : decode cL_law 1314 = .ok (.iconst 0, 1) := by decide +kernel
theorem dL_law_1315 : decode cL_law 1315 = .ok (.ireturn, 1) := by decide +kernel
theorem dL_law_1316 : decode cL_law 1316 = .ok (.aload_n 1, 1) := by decide +kernel
theorem dL_law_1317 : decode cL_law 1317 = .ok (.aload_n 0, 1) := by decide +kernel
theorem dL_law_1318 : decode cL_law 1318 = .ok (.iload 4, 2) := by decide +kernel
theorem dL_law_1320 : decode cL_law 1320 = .ok (.iconst 1, 1) := by decide +kernel
theorem dL_law_1321 : decode cL_law 1321 = .ok (.iadd, 1) := by decide +kernel
theorem dL_law_1322 : decode cL_law 1322 = .ok (.iaload, 1) := by decide +kernel
theorem dL_law_1323 : decode cL_law 1323 = .ok (.aload_n 0, 1) := by decide +kernel
theorem dL_law_1324 : decode cL_law 1324 = .ok (.iload 4, 2) := by decide +kernel
theorem dL_law_1326 : decode cL_law 1326 = .ok (.iconst 2, 1) := by decide +kernel
theorem dL_law_1327 : decode cL_law 1327 = .ok (.iadd, 1) := by decide +kernel
theorem dL_law_1328 : decode cL_law 1328 = .ok (.iaload, 1) := by decide +kernel
theorem dL_law_1329 : decode cL_law 1329 = .ok (.aload_n 0, 1) := by decide +kernel
theorem dL_law_1330 : decode cL_law 1330 = .ok (.iload 4, 2) := by decide +kernel
theorem dL_law_1332 : decode cL_law 1332 = .ok (.iconst 3, 1) := by decide +kernel
theorem dL_law_1333 : decode cL_law 1333 = .ok (.iadd, 1) := by decide +kernel
theorem dL_law_1334 : decode cL_law 1334 = .ok (.iaload, 1) := by decide +kernel
theorem dL_law_1335 : decode cL_law 1335 = .ok (.aload_n 0, 1) := by decide +kernel
theorem dL_law_1336 : decode cL_law 1336 = .ok (.iload 4, 2) := by decide +kernel
theorem dL_law_1338 : decode cL_law 1338 = .ok (.iconst 4, 1) := by decide +kernel
theorem dL_law_1339 : decode cL_law 1339 = .ok (.iadd, 1) := by decide +kernel
theorem dL_law_1340 : decode cL_law 1340 = .ok (.iaload, 1) := by decide +kernel
theorem dL_law_1341 : decode cL_law 1341 = .ok (.invokevirtual 121, 3) := by decide +kernel
theorem dL_law_1344 : decode cL_law 1344 = .ok (.aload_n 2, 1) := by decide +kernel
theorem dL_law_1345 : decode cL_law 1345 = .ok (.aload_n 0, 1) := by decide +kernel
theorem dL_law_1346 : decode cL_law 1346 = .ok (.iload 4, 2) := by decide +kernel
theorem dL_law_1348 : decode cL_law 1348 = .ok (.iconst 1, 1) := by decide +kernel
theorem dL_law_1349 : decode cL_law 1349 = .ok (.iadd, 1) := by decide +kernel
theorem dL_law_1350 : decode cL_law 1350 = .ok (.iaload, 1) := by decide +kernel
theorem dL_law_1351 : decode cL_law 1351 = .ok (.aload_n 0, 1) := by decide +kernel
theorem dL_law_1352 : decode cL_law 1352 = .ok (.iload 4, 2) := by decide +kernel
theorem dL_law_1354 : decode cL_law 1354 = .ok (.iconst 2, 1) := by decide +kernel
theorem dL_law_1355 : decode cL_law 1355 = .ok (.iadd, 1) := by decide +kernel
theorem dL_law_1356 : decode cL_law 1356 = .ok (.iaload, 1) := by decide +kernel
theorem dL_law_1357 : decode cL_law 1357 = .ok (.aload_n 0, 1) := by decide +kernel
theorem dL_law_1358 : decode cL_law 1358 = .ok (.iload 4, 2) := by decide +kernel
theorem dL_law_1360 : decode cL_law 1360 = .ok (.iconst 3, 1) := by decide +kernel
theorem dL_law_1361 : decode cL_law 1361 = .ok (.iadd, 1) := by decide +kernel
theorem dL_law_1362 : decode cL_law 1362 = .ok (.iaload, 1) := by decide +kernel
theorem dL_law_1363 : decode cL_law 1363 = .ok (.aload_n 0, 1) := by decide +kernel
theorem dL_law_1364 : decode cL_law 1364 = .ok (.iload 4, 2) := by decide +kernel
theorem dL_law_1366 : decode cL_law 1366 = .ok (.iconst 4, 1) := by decide +kernel
theorem dL_law_1367 : decode cL_law 1367 = .ok (.iadd, 1) := by decide +kernel
theorem dL_law_1368 : decode cL_law 1368 = .ok (.iaload, 1) := by decide +kernel
theorem dL_law_1369 : decode cL_law 1369 = .ok (.invokevirtual 124, 3) := by decide +kernel
theorem dL_law_1372 : decode cL_law 1372 = .ok (.if_icmp .eq 1029, 3) := by decide +kernel
theorem dL_law_1375 : decode cL_law 1375 = .ok (.iconst 0, 1) := by decide +kernel
theorem dL_law_1376 : decode cL_law 1376 = .ok (.ireturn, 1) := by decide +kernel
theorem dL_law_1377 : decode cL_law 1377 = .ok (.aload_n 1, 1) := by decide +kernel
theorem dL_law_1378 : decode cL_law 1378 = .ok (.aload_n 0, 1) := by decide +kernel
theorem dL_law_1379 : decode cL_law 1379 = .ok (.iload 4, 2) := by decide +kernel
theorem dL_law_1381 : decode cL_law 1381 = .ok (.iconst 1, 1) := by decide +kernel
theorem dL_law_1382 : decode cL_law 1382 = .ok (.iadd, 1) := by decide +kernel
theorem dL_law_1383 : decode cL_law 1383 = .ok (.iaload, 1) := by decide +kernel
theorem dL_law_1384 : decode cL_law 1384 = .ok (.aload_n 0, 1) := by decide +kernel
theorem dL_law_1385 : decode cL_law 1385 = .ok (.iload 4, 2) := by decide +kernel
theorem dL_law_1387 : decode cL_law 1387 = .ok (.iconst 2, 1) := by decide +kernel
theorem dL_law_1388 : decode cL_law 1388 = .ok (.iadd, 1) := by decide +kernel
theorem dL_law_1389 : decode cL_law 1389 = .ok (.iaload, 1) := by decide +kernel
theorem dL_law_1390 : decode cL_law 1390 = .ok (.aload_n 0, 1) := by decide +kernel
theorem dL_law_1391 : decode cL_law 1391 = .ok (.iload 4, 2) := by decide +kernel
theorem dL_law_1393 : decode cL_law 1393 = .ok (.iconst 3, 1) := by decide +kernel
theorem dL_law_1394 : decode cL_law 1394 = .ok (.iadd, 1) := by decide +kernel
theorem dL_law_1395 : decode cL_law 1395 = .ok (.iaload, 1) := by decide +kernel
theorem dL_law_1396 : decode cL_law 1396 = .ok (.aload_n 0, 1) := by decide +kernel
theorem dL_law_1397 : decode cL_law 1397 = .ok (.iload 4, 2) := by decide +kernel
theorem dL_law_1399 : decode cL_law 1399 = .ok (.iconst 4, 1) := by decide +kernel
theorem dL_law_1400 : decode cL_law 1400 = .ok (.iadd, 1) := by decide +kernel
theorem dL_law_1401 : decode cL_law 1401 = .ok (.iaload, 1) := by decide +kernel
theorem dL_law_1402 : decode cL_law 1402 = .ok (.invokevirtual 125, 3) := by decide +kernel
theorem dL_law_1405 : decode cL_law 1405 = .ok (.aload_n 2, 1) := by decide +kernel
theorem dL_law_1406 : decode cL_law 1406 = .ok (.aload_n 0, 1) := by decide +kernel
theorem dL_law_1407 : decode cL_law 1407 = .ok (.iload 4, 2) := by decide +kernel
theorem dL_law_1409 : decode cL_law 1409 = .ok (.iconst 1, 1) := by decide +kernel
theorem dL_law_1410 : decode cL_law 1410 = .ok (.iadd, 1) := by decide +kernel
theorem dL_law_1411 : decode cL_law 1411 = .ok (.iaload, 1) := by decide +kernel
theorem dL_law_1412 : decode cL_law 1412 = .ok (.aload_n 0, 1) := by decide +kernel
theorem dL_law_1413 : decode cL_law 1413 = .ok (.iload 4, 2) := by decide +kernel
theorem dL_law_1415 : decode cL_law 1415 = .ok (.iconst 2, 1) := by decide +kernel
theorem dL_law_1416 : decode cL_law 1416 = .ok (.iadd, 1) := by decide +kernel
theorem dL_law_1417 : decode cL_law 1417 = .ok (.iaload, 1) := by decide +kernel
theorem dL_law_1418 : decode cL_law 1418 = .ok (.aload_n 0, 1) := by decide +kernel
theorem dL_law_1419 : decode cL_law 1419 = .ok (.iload 4, 2) := by decide +kernel
theorem dL_law_1421 : decode cL_law 1421 = .ok (.iconst 3, 1) := by decide +kernel
theorem dL_law_1422 : decode cL_law 1422 = .ok (.iadd, 1) := by decide +kernel
theorem dL_law_1423 : decode cL_law 1423 = .ok (.iaload, 1) := by decide +kernel
theorem dL_law_1424 : decode cL_law 1424 = .ok (.aload_n 0, 1) := by decide +kernel
theorem dL_law_1425 : decode cL_law 1425 = .ok (.iload 4, 2) := by decide +kernel
theorem dL_law_1427 : decode cL_law 1427 = .ok (.iconst 4, 1) := by decide +kernel
theorem dL_law_1428 : decode cL_law 1428 = .ok (.iadd, 1) := by decide +kernel
theorem dL_law_1429 : decode cL_law 1429 = .ok (.iaload, 1) := by decide +kernel
theorem dL_law_1430 : decode cL_law 1430 = .ok (.invokevirtual 128, 3) := by decide +kernel
theorem dL_law_1433 : decode cL_law 1433 = .ok (.if_icmp .eq 968, 3) := by decide +kernel
theorem dL_law_1436 : decode cL_law 1436 = .ok (.iconst 0, 1) := by decide +kernel
theorem dL_law_1437 : decode cL_law 1437 = .ok (.ireturn, 1) := by decide +kernel
theorem dL_law_1438 : decode cL_law 1438 = .ok (.aload_n 1, 1) := by decide +kernel
theorem dL_law_1439 : decode cL_law 1439 = .ok (.aload_n 0, 1) := by decide +kernel
theorem dL_law_1440 : decode cL_law 1440 = .ok (.iload 4, 2) := by decide +kernel
theorem dL_law_1442 : decode cL_law 1442 = .ok (.iconst 1, 1) := by decide +kernel
theorem dL_law_1443 : decode cL_law 1443 = .ok (.iadd, 1) := by decide +kernel
theorem dL_law_1444 : decode cL_law 1444 = .ok (.iaload, 1) := by decide +kernel
theorem dL_law_1445 : decode cL_law 1445 = .ok (.aload_n 0, 1) := by decide +kernel
theorem dL_law_1446 : decode cL_law 1446 = .ok (.iload 4, 2) := by decide +kernel
theorem dL_law_1448 : decode cL_law 1448 = .ok (.iconst 2, 1) := by decide +kernel
theorem dL_law_1449 : decode cL_law 1449 = .ok (.iadd, 1) := by decide +kernel
theorem dL_law_1450 : decode cL_law 1450 = .ok (.iaload, 1) := by decide +kernel
theorem dL_law_1451 : decode cL_law 1451 = .ok (.invokevirtual 129, 3) := by decide +kernel
theorem dL_law_1454 : decode cL_law 1454 = .ok (.aload_n 2, 1) := by decide +kernel
theorem dL_law_1455 : decode cL_law 1455 = .ok (.aload_n 0, 1) := by decide +kernel
theorem dL_law_1456 : decode cL_law 1456 = .ok (.iload 4, 2) := by decide +kernel
theorem dL_law_1458 : decode cL_law 1458 = .ok (.iconst 1, 1) := by decide +kernel
theorem dL_law_1459 : decode cL_law 1459 = .ok (.iadd, 1) := by decide +kernel
theorem dL_law_1460 : decode cL_law 1460 = .ok (.iaload, 1) := by decide +kernel
theorem dL_law_1461 : decode cL_law 1461 = .ok (.aload_n 0, 1) := by decide +kernel
theorem dL_law_1462 : decode cL_law 1462 = .ok (.iload 4, 2) := by decide +kernel
theorem dL_law_1464 : decode cL_law 1464 = .ok (.iconst 2, 1) := by decide +kernel
theorem dL_law_1465 : decode cL_law 1465 = .ok (.iadd, 1) := by decide +kernel
theorem dL_law_1466 : decode cL_law 1466 = .ok (.iaload, 1) := by decide +kernel
theorem dL_law_1467 : decode cL_law 1467 = .ok (.invokevirtual 132, 3) := by decide +kernel
theorem dL_law_1470 : decode cL_law 1470 = .ok (.if_icmp .eq 931, 3) := by decide +kernel
theorem dL_law_1473 : decode cL_law 1473 = .ok (.iconst 0, 1) := by decide +kernel
theorem dL_law_1474 : decode cL_law 1474 = .ok (.ireturn, 1) := by decide +kernel
theorem dL_law_1475 : decode cL_law 1475 = .ok (.aload_n 1, 1) := by decide +kernel
theorem dL_law_1476 : decode cL_law 1476 = .ok (.aload_n 0, 1) := by decide +kernel
theorem dL_law_1477 : decode cL_law 1477 = .ok (.iload 4, 2) := by decide +kernel
theorem dL_law_1479 : decode cL_law 1479 = .ok (.iconst 1, 1) := by decide +kernel
theorem dL_law_1480 : decode cL_law 1480 = .ok (.iadd, 1) := by decide +kernel
theorem dL_law_1481 : decode cL_law 1481 = .ok (.iaload, 1) := by decide +kernel
theorem dL_law_1482 : decode cL_law 1482 = .ok (.aload_n 0, 1) := by decide +kernel
theorem dL_law_1483 : decode cL_law 1483 = .ok (.iload 4, 2) := by decide +kernel
theorem dL_law_1485 : decode cL_law 1485 = .ok (.iconst 2, 1) := by decide +kernel
theorem dL_law_1486 : decode cL_law 1486 = .ok (.iadd, 1) := by decide +kernel
theorem dL_law_1487 : decode cL_law 1487 = .ok (.iaload, 1) := by decide +kernel
theorem dL_law_1488 : decode cL_law 1488 = .ok (.aload_n 0, 1) := by decide +kernel
theorem dL_law_1489 : decode cL_law 1489 = .ok (.iload 4, 2) := by decide +kernel
theorem dL_law_1491 : decode cL_law 1491 = .ok (.iconst 3, 1) := by decide +kernel
theorem dL_law_1492 : decode cL_law 1492 = .ok (.iadd, 1) := by decide +kernel
theorem dL_law_1493 : decode cL_law 1493 = .ok (.iaload, 1) := by decide +kernel
theorem dL_law_1494 : decode cL_law 1494 = .ok (.invokevirtual 133, 3) := by decide +kernel
theorem dL_law_1497 : decode cL_law 1497 = .ok (.aload_n 2, 1) := by decide +kernel
theorem dL_law_1498 : decode cL_law 1498 = .ok (.aload_n 0, 1) := by decide +kernel
theorem dL_law_1499 : decode cL_law 1499 = .ok (.iload 4, 2) := by decide +kernel
theorem dL_law_1501 : decode cL_law 1501 = .ok (.iconst 1, 1) := by decide +kernel
theorem dL_law_1502 : decode cL_law 1502 = .ok (.iadd, 1) := by decide +kernel
theorem dL_law_1503 : decode cL_law 1503 = .ok (.iaload, 1) := by decide +kernel
theorem dL_law_1504 : decode cL_law 1504 = .ok (.aload_n 0, 1) := by decide +kernel
theorem dL_law_1505 : decode cL_law 1505 = .ok (.iload 4, 2) := by decide +kernel
theorem dL_law_1507 : decode cL_law 1507 = .ok (.iconst 2, 1) := by decide +kernel
theorem dL_law_1508 : decode cL_law 1508 = .ok (.iadd, 1) := by decide +kernel
theorem dL_law_1509 : decode cL_law 1509 = .ok (.iaload, 1) := by decide +kernel
theorem dL_law_1510 : decode cL_law 1510 = .ok (.aload_n 0, 1) := by decide +kernel
theorem dL_law_1511 : decode cL_law 1511 = .ok (.iload 4, 2) := by decide +kernel
theorem dL_law_1513 : decode cL_law 1513 = .ok (.iconst 3, 1) := by decide +kernel
theorem dL_law_1514 : decode cL_law 1514 = .ok (.iadd, 1) := by decide +kernel
theorem dL_law_1515 : decode cL_law 1515 = .ok (.iaload, 1) := by decide +kernel
theorem dL_law_1516 : decode cL_law 1516 = .ok (.invokevirtual 136, 3) := by decide +kernel
theorem dL_law_1519 : decode cL_law 1519 = .ok (.if_icmp .eq 882, 3) := by decide +kernel
theorem dL_law_1522 : decode cL_law 1522 = .ok (.iconst 0, 1) := by decide +kernel
theorem dL_law_1523 : decode cL_law 1523 = .ok (.ireturn, 1) := by decide +kernel
theorem dL_law_1524 : decode cL_law 1524 = .ok (.aload_n 1, 1) := by decide +kernel
theorem dL_law_1525 : decode cL_law 1525 = .ok (.aload_n 0, 1) := by decide +kernel
theorem dL_law_1526 : decode cL_law 1526 = .ok (.iload 4, 2) := by decide +kernel
theorem dL_law_1528 : decode cL_law 1528 = .ok (.iconst 1, 1) := by decide +kernel
theorem dL_law_1529 : decode cL_law 1529 = .ok (.iadd, 1) := by decide +kernel
theorem dL_law_1530 : decode cL_law 1530 = .ok (.iaload, 1) := by decide +kernel
theorem dL_law_1531 : decode cL_law 1531 = .ok (.aload_n 0, 1) := by decide +kernel
theorem dL_law_1532 : decode cL_law 1532 = .ok (.iload 4, 2) := by decide +kernel
theorem dL_law_1534 : decode cL_law 1534 = .ok (.iconst 2, 1) := by decide +kernel
theorem dL_law_1535 : decode cL_law 1535 = .ok (.iadd, 1) := by decide +kernel
theorem dL_law_1536 : decode cL_law 1536 = .ok (.iaload, 1) := by decide +kernel
theorem dL_law_1537 : decode cL_law 1537 = .ok (.aload_n 0, 1) := by decide +kernel
theorem dL_law_1538 : decode cL_law 1538 = .ok (.iload 4, 2) := by decide +kernel
theorem dL_law_1540 : decode cL_law 1540 = .ok (.iconst 3, 1) := by decide +kernel
theorem dL_law_1541 : decode cL_law 1541 = .ok (.iadd, 1) := by decide +kernel
theorem dL_law_1542 : decode cL_law 1542 = .ok (.iaload, 1) := by decide +kernel
theorem dL_law_1543 : decode cL_law 1543 = .ok (.aload_n 0, 1) := by decide +kernel
theorem dL_law_1544 : decode cL_law 1544 = .ok (.iload 4, 2) := by decide +kernel
theorem dL_law_1546 : decode cL_law 1546 = .ok (.iconst 4, 1) := by decide +kernel
theorem dL_law_1547 : decode cL_law 1547 = .ok (.iadd, 1) := by decide +kernel
theorem dL_law_1548 : decode cL_law 1548 = .ok (.iaload, 1) := by decide +kernel
theorem dL_law_1549 : decode cL_law 1549 = .ok (.invokevirtual 137, 3) := by decide +kernel
theorem dL_law_1552 : decode cL_law 1552 = .ok (.aload_n 2, 1) := by decide +kernel
theorem dL_law_1553 : decode cL_law 1553 = .ok (.aload_n 0, 1) := by decide +kernel
theorem dL_law_1554 : decode cL_law 1554 = .ok (.iload 4, 2) := by decide +kernel
theorem dL_law_1556 : decode cL_law 1556 = .ok (.iconst 1, 1) := by decide +kernel
theorem dL_law_1557 : decode cL_law 1557 = .ok (.iadd, 1) := by decide +kernel
theorem dL_law_1558 : decode cL_law 1558 = .ok (.iaload, 1) := by decide +kernel
theorem dL_law_1559 : decode cL_law 1559 = .ok (.aload_n 0, 1) := by decide +kernel
theorem dL_law_1560 : decode cL_law 1560 = .ok (.iload 4, 2) := by decide +kernel
theorem dL_law_1562 : decode cL_law 1562 = .ok (.iconst 2, 1) := by decide +kernel
theorem dL_law_1563 : decode cL_law 1563 = .ok (.iadd, 1) := by decide +kernel
theorem dL_law_1564 : decode cL_law 1564 = .ok (.iaload, 1) := by decide +kernel
theorem dL_law_1565 : decode cL_law 1565 = .ok (.aload_n 0, 1) := by decide +kernel
theorem dL_law_1566 : decode cL_law 1566 = .ok (.iload 4, 2) := by decide +kernel
theorem dL_law_1568 : decode cL_law 1568 = .ok (.iconst 3, 1) := by decide +kernel
theorem dL_law_1569 : decode cL_law 1569 = .ok (.iadd, 1) := by decide +kernel
theorem dL_law_1570 : decode cL_law 1570 = .ok (.iaload, 1) := by decide +kernel
theorem dL_law_1571 : decode cL_law 1571 = .ok (.aload_n 0, 1) := by decide +kernel
theorem dL_law_1572 : decode cL_law 1572 = .ok (.iload 4, 2) := by decide +kernel
theorem dL_law_1574 : decode cL_law 1574 = .ok (.iconst 4, 1) := by decide +kernel
theorem dL_law_1575 : decode cL_law 1575 = .ok (.iadd, 1) := by decide +kernel
theorem dL_law_1576 : decode cL_law 1576 = .ok (.iaload, 1) := by decide +kernel
theorem dL_law_1577 : decode cL_law 1577 = .ok (.invokevirtual 140, 3) := by decide +kernel
theorem dL_law_1580 : decode cL_law 1580 = .ok (.if_icmp .eq 821, 3) := by decide +kernel
theorem dL_law_1583 : decode cL_law 1583 = .ok (.iconst 0, 1) := by decide +kernel
theorem dL_law_1584 : decode cL_law 1584 = .ok (.ireturn, 1) := by decide +kernel
theorem dL_law_1585 : decode cL_law 1585 = .ok (.aload_n 1, 1) := by decide +kernel
theorem dL_law_1586 : decode cL_law 1586 = .ok (.aload_n 0, 1) := by decide +kernel
theorem dL_law_1587 : decode cL_law 1587 = .ok (.iload 4, 2) := by decide +kernel
theorem dL_law_1589 : decode cL_law 1589 = .ok (.iconst 1, 1) := by decide +kernel
theorem dL_law_1590 : decode cL_law 1590 = .ok (.iadd, 1) := by decide +kernel
theorem dL_law_1591 : decode cL_law 1591 = .ok (.iaload, 1) := by decide +kernel
theorem dL_law_1592 : decode cL_law 1592 = .ok (.aload_n 0, 1) := by decide +kernel
theorem dL_law_1593 : decode cL_law 1593 = .ok (.iload 4, 2) := by decide +kernel
theorem dL_law_1595 : decode cL_law 1595 = .ok (.iconst 2, 1) := by decide +kernel
theorem dL_law_1596 : decode cL_law 1596 = .ok (.iadd, 1) := by decide +kernel
theorem dL_law_1597 : decode cL_law 1597 = .ok (.iaload, 1) := by decide +kernel
theorem dL_law_1598 : decode cL_law 1598 = .ok (.invokevirtual 141, 3) := by decide +kernel
theorem dL_law_1601 : decode cL_law 1601 = .ok (.aload_n 2, 1) := by decide +kernel
theorem dL_law_1602 : decode cL_law 1602 = .ok (.aload_n 0, 1) := by decide +kernel
theorem dL_law_1603 : decode cL_law 1603 = .ok (.iload 4, 2) := by decide +kernel
theorem dL_law_1605 : decode cL_law 1605 = .ok (.iconst 1, 1) := by decide +kernel
theorem dL_law_1606 : decode cL_law 1606 = .ok (.iadd, 1) := by decide +kernel
theorem dL_law_1607 : decode cL_law 1607 = .ok (.iaload, 1) := by decide +kernel
theorem dL_law_1608 : decode cL_law 1608 = .ok (.aload_n 0, 1) := by decide +kernel
theorem dL_law_1609 : decode cL_law 1609 = .ok (.iload 4, 2) := by decide +kernel
theorem dL_law_1611 : decode cL_law 1611 = .ok (.iconst 2, 1) := by decide +kernel
theorem dL_law_1612 : decode cL_law 1612 = .ok (.iadd, 1) := by decide +kernel
theorem dL_law_1613 : decode cL_law 1613 = .ok (.iaload, 1) := by decide +kernel
theorem dL_law_1614 : decode cL_law 1614 = .ok (.invokevirtual 144, 3) := by decide +kernel
theorem dL_law_1617 : decode cL_law 1617 = .ok (.if_icmp .eq 784, 3) := by decide +kernel
theorem dL_law_1620 : decode cL_law 1620 = .ok (.iconst 0, 1) := by decide +kernel
theorem dL_law_1621 : decode cL_law 1621 = .ok (.ireturn, 1) := by decide +kernel
theorem dL_law_1622 : decode cL_law 1622 = .ok (.aload_n 1, 1) := by decide +kernel
theorem dL_law_1623 : decode cL_law 1623 = .ok (.aload_n 0, 1) := by decide +kernel
theorem dL_law_1624 : decode cL_law 1624 = .ok (.iload 4, 2) := by decide +kernel
theorem dL_law_1626 : decode cL_law 1626 = .ok (.iconst 1, 1) := by decide +kernel
theorem dL_law_1627 : decode cL_law 1627 = .ok (.iadd, 1) := by decide +kernel
theorem dL_law_1628 : decode cL_law 1628 = .ok (.iaload, 1) := by decide +kernel
theorem dL_law_1629 : decode cL_law 1629 = .ok (.invokevirtual 145, 3) := by decide +kernel
theorem dL_law_1632 : decode cL_law 1632 = .ok (.aload_n 2, 1) := by decide +kernel
theorem dL_law_1633 : decode cL_law 1633 = .ok (.aload_n 0, 1) := by decide +kernel
theorem dL_law_1634 : decode cL_law 1634 = .ok (.iload 4, 2) := by decide +kernel
theorem dL_law_1636 : decode cL_law 1636 = .ok (.iconst 1, 1) := by decide +kernel
theorem dL_law_1637 : decode cL_law 1637 = .ok (.iadd, 1) := by decide +kernel
theorem dL_law_1638 : decode cL_law 1638 = .ok (.iaload, 1) := by decide +kernel
theorem dL_law_1639 : decode cL_law 1639 = .ok (.invokevirtual 148, 3) := by decide +kernel
theorem dL_law_1642 : decode cL_law 1642 = .ok (.if_icmp .eq 759, 3) := by decide +kernel
theorem dL_law_1645 : decode cL_law 1645 = .ok (.iconst 0, 1) := by decide +kernel
theorem dL_law_1646 : decode cL_law 1646 = .ok (.ireturn, 1) := by decide +kernel
theorem dL_law_1647 : decode cL_law 1647 = .ok (.aload_n 1, 1) := by decide +kernel
theorem dL_law_1648 : decode cL_law 1648 = .ok (.aload_n 0, 1) := by decide +kernel
theorem dL_law_1649 : decode cL_law 1649 = .ok (.iload 4, 2) := by decide +kernel
theorem dL_law_1651 : decode cL_law 1651 = .ok (.iconst 1, 1) := by decide +kernel
theorem dL_law_1652 : decode cL_law 1652 = .ok (.iadd, 1) := by decide +kernel
theorem dL_law_1653 : decode cL_law 1653 = .ok (.iaload, 1) := by decide +kernel
theorem dL_law_1654 : decode cL_law 1654 = .ok (.aload_n 0, 1) := by decide +kernel
theorem dL_law_1655 : decode cL_law 1655 = .ok (.iload 4, 2) := by decide +kernel
theorem dL_law_1657 : decode cL_law 1657 = .ok (.iconst 2, 1) := by decide +kernel
theorem dL_law_1658 : decode cL_law 1658 = .ok (.iadd, 1) := by decide +kernel
theorem dL_law_1659 : decode cL_law 1659 = .ok (.iaload, 1) := by decide +kernel
theorem dL_law_1660 : decode cL_law 1660 = .ok (.aload_n 0, 1) := by decide +kernel
theorem dL_law_1661 : decode cL_law 1661 = .ok (.iload 4, 2) := by decide +kernel
theorem dL_law_1663 : decode cL_law 1663 = .ok (.iconst 3, 1) := by decide +kernel
theorem dL_law_1664 : decode cL_law 1664 = .ok (.iadd, 1) := by decide +kernel
theorem dL_law_1665 : decode cL_law 1665 = .ok (.iaload, 1) := by decide +kernel
theorem dL_law_1666 : decode cL_law 1666 = .ok (.invokevirtual 149, 3) := by decide +kernel
theorem dL_law_1669 : decode cL_law 1669 = .ok (.aload_n 2, 1) := by decide +kernel
theorem dL_law_1670 : decode cL_law 1670 = .ok (.aload_n 0, 1) := by decide +kernel
theorem dL_law_1671 : decode cL_law 1671 = .ok (.iload 4, 2) := by decide +kernel
theorem dL_law_1673 : decode cL_law 1673 = .ok (.iconst 1, 1) := by decide +kernel
theorem dL_law_1674 : decode cL_law 1674 = .ok (.iadd, 1) := by decide +kernel
theorem dL_law_1675 : decode cL_law 1675 = .ok (.iaload, 1) := by decide +kernel
theorem dL_law_1676 : decode cL_law 1676 = .ok (.aload_n 0, 1) := by decide +kernel
theorem dL_law_1677 : decode cL_law 1677 = .ok (.iload 4, 2) := by decide +kernel
theorem dL_law_1679 : decode cL_law 1679 = .ok (.iconst 2, 1) := by decide +kernel
theorem dL_law_1680 : decode cL_law 1680 = .ok (.iadd, 1) := by decide +kernel
theorem dL_law_1681 : decode cL_law 1681 = .ok (.iaload, 1) := by decide +kernel
theorem dL_law_1682 : decode cL_law 1682 = .ok (.aload_n 0, 1) := by decide +kernel
theorem dL_law_1683 : decode cL_law 1683 = .ok (.iload 4, 2) := by decide +kernel
theorem dL_law_1685 : decode cL_law 1685 = .ok (.iconst 3, 1) := by decide +kernel
theorem dL_law_1686 : decode cL_law 1686 = .ok (.iadd, 1) := by decide +kernel
theorem dL_law_1687 : decode cL_law 1687 = .ok (.iaload, 1) := by decide +kernel
theorem dL_law_1688 : decode cL_law 1688 = .ok (.invokevirtual 152, 3) := by decide +kernel
theorem dL_law_1691 : decode cL_law 1691 = .ok (.if_icmp .eq 710, 3) := by decide +kernel
theorem dL_law_1694 : decode cL_law 1694 = .ok (.iconst 0, 1) := by decide +kernel
theorem dL_law_1695 : decode cL_law 1695 = .ok (.ireturn, 1) := by decide +kernel
theorem dL_law_1696 : decode cL_law 1696 = .ok (.aload_n 1, 1) := by decide +kernel
theorem dL_law_1697 : decode cL_law 1697 = .ok (.aload_n 0, 1) := by decide +kernel
theorem dL_law_1698 : decode cL_law 1698 = .ok (.iload 4, 2) := by decide +kernel
theorem dL_law_1700 : decode cL_law 1700 = .ok (.iconst 1, 1) := by decide +kernel
theorem dL_law_1701 : decode cL_law 1701 = .ok (.iadd, 1) := by decide +kernel
theorem dL_law_1702 : decode cL_law 1702 = .ok (.iaload, 1) := by decide +kernel
theorem dL_law_1703 : decode cL_law 1703 = .ok (.aload_n 0, 1) := by decide +kernel
theorem dL_law_1704 : decode cL_law 1704 = .ok (.iload 4, 2) := by decide +kernel
theorem dL_law_1706 : decode cL_law 1706 = .ok (.iconst 2, 1) := by decide +kernel
theorem dL_law_1707 : decode cL_law 1707 = .ok (.iadd, 1) := by decide +kernel
theorem dL_law_1708 : decode cL_law 1708 = .ok (.iaload, 1) := by decide +kernel
theorem dL_law_1709 : decode cL_law 1709 = .ok (.invokevirtual 153, 3) := by decide +kernel
theorem dL_law_1712 : decode cL_law 1712 = .ok (.aload_n 2, 1) := by decide +kernel
theorem dL_law_1713 : decode cL_law 1713 = .ok (.aload_n 0, 1) := by decide +kernel
theorem dL_law_1714 : decode cL_law 1714 = .ok (.iload 4, 2) := by decide +kernel
theorem dL_law_1716 : decode cL_law 1716 = .ok (.iconst 1, 1) := by decide +kernel
theorem dL_law_1717 : decode cL_law 1717 = .ok (.iadd, 1) := by decide +kernel
theorem dL_law_1718 : decode cL_law 1718 = .ok (.iaload, 1) := by decide +kernel
theorem dL_law_1719 : decode cL_law 1719 = .ok (.aload_n 0, 1) := by decide +kernel
theorem dL_law_1720 : decode cL_law 1720 = .ok (.iload 4, 2) := by decide +kernel
theorem dL_law_1722 : decode cL_law 1722 = .ok (.iconst 2, 1) := by decide +kernel
theorem dL_law_1723 : decode cL_law 1723 = .ok (.iadd, 1) := by decide +kernel
theorem dL_law_1724 : decode cL_law 1724 = .ok (.iaload, 1) := by decide +kernel
theorem dL_law_1725 : decode cL_law 1725 = .ok (.invokevirtual 156, 3) := by decide +kernel
theorem dL_law_1728 : decode cL_law 1728 = .ok (.if_icmp .eq 673, 3) := by decide +kernel
theorem dL_law_1731 : decode cL_law 1731 = .ok (.iconst 0, 1) := by decide +kernel
theorem dL_law_1732 : decode cL_law 1732 = .ok (.ireturn, 1) := by decide +kernel
theorem dL_law_1733 : decode cL_law 1733 = .ok (.aload_n 1, 1) := by decide +kernel
theorem dL_law_1734 : decode cL_law 1734 = .ok (.aload_n 0, 1) := by decide +kernel
theorem dL_law_1735 : decode cL_law 1735 = .ok (.iload 4, 2) := by decide +kernel
theorem dL_law_1737 : decode cL_law 1737 = .ok (.iconst 1, 1) := by decide +kernel
theorem dL_law_1738 : decode cL_law 1738 = .ok (.iadd, 1) := by decide +kernel
theorem dL_law_1739 : decode cL_law 1739 = .ok (.iaload, 1) := by decide +kernel
theorem dL_law_1740 : decode cL_law 1740 = .ok (.aload_n 0, 1) := by decide +kernel
theorem dL_law_1741 : decode cL_law 1741 = .ok (.iload 4, 2) := by decide +kernel
theorem dL_law_1743 : decode cL_law 1743 = .ok (.iconst 2, 1) := by decide +kernel
theorem dL_law_1744 : decode cL_law 1744 = .ok (.iadd, 1) := by decide +kernel
theorem dL_law_1745 : decode cL_law 1745 = .ok (.iaload, 1) := by decide +kernel
theorem dL_law_1746 : decode cL_law 1746 = .ok (.invokevirtual 157, 3) := by decide +kernel
theorem dL_law_1749 : decode cL_law 1749 = .ok (.aload_n 2, 1) := by decide +kernel
theorem dL_law_1750 : decode cL_law 1750 = .ok (.aload_n 0, 1) := by decide +kernel
theorem dL_law_1751 : decode cL_law 1751 = .ok (.iload 4, 2) := by decide +kernel
theorem dL_law_1753 : decode cL_law 1753 = .ok (.iconst 1, 1) := by decide +kernel
theorem dL_law_1754 : decode cL_law 1754 = .ok (.iadd, 1) := by decide +kernel
theorem dL_law_1755 : decode cL_law 1755 = .ok (.iaload, 1) := by decide +kernel
theorem dL_law_1756 : decode cL_law 1756 = .ok (.aload_n 0, 1) := by decide +kernel
theorem dL_law_1757 : decode cL_law 1757 = .ok (.iload 4, 2) := by decide +kernel
theorem dL_law_1759 : decode cL_law 1759 = .ok (.iconst 2, 1) := by decide +kernel
theorem dL_law_1760 : decode cL_law 1760 = .ok (.iadd, 1) := by decide +kernel
theorem dL_law_1761 : decode cL_law 1761 = .ok (.iaload, 1) := by decide +kernel
theorem dL_law_1762 : decode cL_law 1762 = .ok (.invokevirtual 160, 3) := by decide +kernel
theorem dL_law_1765 : decode cL_law 1765 = .ok (.if_icmp .eq 636, 3) := by decide +kernel
theorem dL_law_1768 : decode cL_law 1768 = .ok (.iconst 0, 1) := by decide +kernel
theorem dL_law_1769 : decode cL_law 1769 = .ok (.ireturn, 1) := by decide +kernel
theorem dL_law_1770 : decode cL_law 1770 = .ok (.aload_n 1, 1) := by decide +kernel
theorem dL_law_1771 : decode cL_law 1771 = .ok (.aload_n 0, 1) := by decide +kernel
theorem dL_law_1772 : decode cL_law 1772 = .ok (.iload 4, 2) := by decide +kernel
theorem dL_law_1774 : decode cL_law 1774 = .ok (.iconst 1, 1) := by decide +kernel
theorem dL_law_1775 : decode cL_law 1775 = .ok (.iadd, 1) := by decide +kernel
theorem dL_law_1776 : decode cL_law 1776 = .ok (.iaload, 1) := by decide +kernel
theorem dL_law_1777 : decode cL_law 1777 = .ok (.aload_n 0, 1) := by decide +kernel
theorem dL_law_1778 : decode cL_law 1778 = .ok (.iload 4, 2) := by decide +kernel
theorem dL_law_1780 : decode cL_law 1780 = .ok (.iconst 2, 1) := by decide +kernel
theorem dL_law_1781 : decode cL_law 1781 = .ok (.iadd, 1) := by decide +kernel
theorem dL_law_1782 : decode cL_law 1782 = .ok (.iaload, 1) := by decide +kernel
theorem dL_law_1783 : decode cL_law 1783 = .ok (.invokevirtual 161, 3) := by decide +kernel
theorem dL_law_1786 : decode cL_law 1786 = .ok (.aload_n 2, 1) := by decide +kernel
theorem dL_law_1787 : decode cL_law 1787 = .ok (.aload_n 0, 1) := by decide +kernel
theorem dL_law_1788 : decode cL_law 1788 = .ok (.iload 4, 2) := by decide +kernel
theorem dL_law_1790 : decode cL_law 1790 = .ok (.iconst 1, 1) := by decide +kernel
theorem dL_law_1791 : decode cL_law 1791 = .ok (.iadd, 1) := by decide +kernel
theorem dL_law_1792 : decode cL_law 1792 = .ok (.iaload, 1) := by decide +kernel
theorem dL_law_1793 : decode cL_law 1793 = .ok (.aload_n 0, 1) := by decide +kernel
theorem dL_law_1794 : decode cL_law 1794 = .ok (.iload 4, 2) := by decide +kernel
theorem dL_law_1796 : decode cL_law 1796 = .ok (.iconst 2, 1) := by decide +kernel
theorem dL_law_1797 : decode cL_law 1797 = .ok (.iadd, 1) := by decide +kernel
theorem dL_law_1798 : decode cL_law 1798 = .ok (.iaload, 1) := by decide +kernel
theorem dL_law_1799 : decode cL_law 1799 = .ok (.invokevirtual 164, 3) := by decide +kernel
theorem dL_law_1802 : decode cL_law 1802 = .ok (.if_icmp .eq 599, 3) := by decide +kernel
theorem dL_law_1805 : decode cL_law 1805 = .ok (.iconst 0, 1) := by decide +kernel
theorem dL_law_1806 : decode cL_law 1806 = .ok (.ireturn, 1) := by decide +kernel
theorem dL_law_1807 : decode cL_law 1807 = .ok (.aload_n 1, 1) := by decide +kernel
theorem dL_law_1808 : decode cL_law 1808 = .ok (.aload_n 0, 1) := by decide +kernel
theorem dL_law_1809 : decode cL_law 1809 = .ok (.iload 4, 2) := by decide +kernel
theorem dL_law_1811 : decode cL_law 1811 = .ok (.iconst 1, 1) := by decide +kernel
theorem dL_law_1812 : decode cL_law 1812 = .ok (.iadd, 1) := by decide +kernel
theorem dL_law_1813 : decode cL_law 1813 = .ok (.iaload, 1) := by decide +kernel
theorem dL_law_1814 : decode cL_law 1814 = .ok (.aload_n 0, 1) := by decide +kernel
theorem dL_law_1815 : decode cL_law 1815 = .ok (.iload 4, 2) := by decide +kernel
theorem dL_law_1817 : decode cL_law 1817 = .ok (.iconst 2, 1) := by decide +kernel
theorem dL_law_1818 : decode cL_law 1818 = .ok (.iadd, 1) := by decide +kernel
theorem dL_law_1819 : decode cL_law 1819 = .ok (.iaload, 1) := by decide +kernel
theorem dL_law_1820 : decode cL_law 1820 = .ok (.aload_n 0, 1) := by decide +kernel
theorem dL_law_1821 : decode cL_law 1821 = .ok (.iload 4, 2) := by decide +kernel
theorem dL_law_1823 : decode cL_law 1823 = .ok (.iconst 3, 1) := by decide +kernel
theorem dL_law_1824 : decode cL_law 1824 = .ok (.iadd, 1) := by decide +kernel
theorem dL_law_1825 : decode cL_law 1825 = .ok (.iaload, 1) := by decide +kernel
theorem dL_law_1826 : decode cL_law 1826 = .ok (.invokevirtual 165, 3) := by decide +kernel
theorem dL_law_1829 : decode cL_law 1829 = .ok (.aload_n 2, 1) := by decide +kernel
theorem dL_law_1830 : decode cL_law 1830 = .ok (.aload_n 0, 1) := by decide +kernel
theorem dL_law_1831 : decode cL_law 1831 = .ok (.iload 4, 2) := by decide +kernel
theorem dL_law_1833 : decode cL_law 1833 = .ok (.iconst 1, 1) := by decide +kernel
theorem dL_law_1834 : decode cL_law 1834 = .ok (.iadd, 1) := by decide +kernel
theorem dL_law_1835 : decode cL_law 1835 = .ok (.iaload, 1) := by decide +kernel
theorem dL_law_1836 : decode cL_law 1836 = .ok (.aload_n 0, 1) := by decide +kernel
theorem dL_law_1837 : decode cL_law 1837 = .ok (.iload 4, 2) := by decide +kernel
theorem dL_law_1839 : decode cL_law 1839 = .ok (.iconst 2, 1) := by decide +kernel
theorem dL_law_1840 : decode cL_law 1840 = .ok (.iadd, 1) := by decide +kernel
theorem dL_law_1841 : decode cL_law 1841 = .ok (.iaload, 1) := by decide +kernel
theorem dL_law_1842 : decode cL_law 1842 = .ok (.aload_n 0, 1) := by decide +kernel
theorem dL_law_1843 : decode cL_law 1843 = .ok (.iload 4, 2) := by decide +kernel
theorem dL_law_1845 : decode cL_law 1845 = .ok (.iconst 3, 1) := by decide +kernel
theorem dL_law_1846 : decode cL_law 1846 = .ok (.iadd, 1) := by decide +kernel
theorem dL_law_1847 : decode cL_law 1847 = .ok (.iaload, 1) := by decide +kernel
theorem dL_law_1848 : decode cL_law 1848 = .ok (.invokevirtual 168, 3) := by decide +kernel
theorem dL_law_1851 : decode cL_law 1851 = .ok (.if_icmp .eq 550, 3) := by decide +kernel
theorem dL_law_1854 : decode cL_law 1854 = .ok (.iconst 0, 1) := by decide +kernel
theorem dL_law_1855 : decode cL_law 1855 = .ok (.ireturn, 1) := by decide +kernel
theorem dL_law_1856 : decode cL_law 1856 = .ok (.aload_n 1, 1) := by decide +kernel
theorem dL_law_1857 : decode cL_law 1857 = .ok (.aload_n 0, 1) := by decide +kernel
theorem dL_law_1858 : decode cL_law 1858 = .ok (.iload 4, 2) := by decide +kernel
theorem dL_law_1860 : decode cL_law 1860 = .ok (.iconst 1, 1) := by decide +kernel
theorem dL_law_1861 : decode cL_law 1861 = .ok (.iadd, 1) := by decide +kernel
theorem dL_law_1862 : decode cL_law 1862 = .ok (.iaload, 1) := by decide +kernel
theorem dL_law_1863 : decode cL_law 1863 = .ok (.aload_n 0, 1) := by decide +kernel
theorem dL_law_1864 : decode cL_law 1864 = .ok (.iload 4, 2) := by decide +kernel
theorem dL_law_1866 : decode cL_law 1866 = .ok (.iconst 2, 1) := by decide +kernel
theorem dL_law_1867 : decode cL_law 1867 = .ok (.iadd, 1) := by decide +kernel
theorem dL_law_1868 : decode cL_law 1868 = .ok (.iaload, 1) := by decide +kernel
theorem dL_law_1869 : decode cL_law 1869 = .ok (.invokevirtual 169, 3) := by decide +kernel
theorem dL_law_1872 : decode cL_law 1872 = .ok (.aload_n 2, 1) := by decide +kernel
theorem dL_law_1873 : decode cL_law 1873 = .ok (.aload_n 0, 1) := by decide +kernel
theorem dL_law_1874 : decode cL_law 1874 = .ok (.iload 4, 2) := by decide +kernel
theorem dL_law_1876 : decode cL_law 1876 = .ok (.iconst 1, 1) := by decide +kernel
theorem dL_law_1877 : decode cL_law 1877 = .ok (.iadd, 1) := by decide +kernel
theorem dL_law_1878 : decode cL_law 1878 = .ok (.iaload, 1) := by decide +kernel
theorem dL_law_1879 : decode cL_law 1879 = .ok (.aload_n 0, 1) := by decide +kernel
theorem dL_law_1880 : decode cL_law 1880 = .ok (.iload 4, 2) := by decide +kernel
theorem dL_law_1882 : decode cL_law 1882 = .ok (.iconst 2, 1) := by decide +kernel
theorem dL_law_1883 : decode cL_law 1883 = .ok (.iadd, 1) := by decide +kernel
theorem dL_law_1884 : decode cL_law 1884 = .ok (.iaload, 1) := by decide +kernel
theorem dL_law_1885 : decode cL_law 1885 = .ok (.invokevirtual 172, 3) := by decide +kernel
theorem dL_law_1888 : decode cL_law 1888 = .ok (.if_icmp .eq 513, 3) := by decide +kernel
theorem dL_law_1891 : decode cL_law 1891 = .ok (.iconst 0, 1) := by decide +kernel
theorem dL_law_1892 : decode cL_law 1892 = .ok (.ireturn, 1) := by decide +kernel
theorem dL_law_1893 : decode cL_law 1893 = .ok (.aload_n 1, 1) := by decide +kernel
theorem dL_law_1894 : decode cL_law 1894 = .ok (.aload_n 0, 1) := by decide +kernel
theorem dL_law_1895 : decode cL_law 1895 = .ok (.iload 4, 2) := by decide +kernel
theorem dL_law_1897 : decode cL_law 1897 = .ok (.iconst 1, 1) := by decide +kernel
theorem dL_law_1898 : decode cL_law 1898 = .ok (.iadd, 1) := by decide +kernel
theorem dL_law_1899 : decode cL_law 1899 = .ok (.iaload, 1) := by decide +kernel
theorem dL_law_1900 : decode cL_law 1900 = .ok (.aload_n 0, 1) := by decide +kernel
theorem dL_law_1901 : decode cL_law 1901 = .ok (.iload 4, 2) := by decide +kernel
theorem dL_law_1903 : decode cL_law 1903 = .ok (.iconst 2, 1) := by decide +kernel
theorem dL_law_1904 : decode cL_law 1904 = .ok (.iadd, 1) := by decide +kernel
theorem dL_law_1905 : decode cL_law 1905 = .ok (.iaload, 1) := by decide +kernel
theorem dL_law_1906 : decode cL_law 1906 = .ok (.invokevirtual 173, 3) := by decide +kernel
theorem dL_law_1909 : decode cL_law 1909 = .ok (.aload_n 2, 1) := by decide +kernel
theorem dL_law_1910 : decode cL_law 1910 = .ok (.aload_n 0, 1) := by decide +kernel
theorem dL_law_1911 : decode cL_law 1911 = .ok (.iload 4, 2) := by decide +kernel
theorem dL_law_1913 : decode cL_law 1913 = .ok (.iconst 1, 1) := by decide +kernel
theorem dL_law_1914 : decode cL_law 1914 = .ok (.iadd, 1) := by decide +kernel
theorem dL_law_1915 : decode cL_law 1915 = .ok (.iaload, 1) := by decide +kernel
theorem dL_law_1916 : decode cL_law 1916 = .ok (.aload_n 0, 1) := by decide +kernel
theorem dL_law_1917 : decode cL_law 1917 = .ok (.iload 4, 2) := by decide +kernel
theorem dL_law_1919 : decode cL_law 1919 = .ok (.iconst 2, 1) := by decide +kernel
theorem dL_law_1920 : decode cL_law 1920 = .ok (.iadd, 1) := by decide +kernel
theorem dL_law_1921 : decode cL_law 1921 = .ok (.iaload, 1) := by decide +kernel
theorem dL_law_1922 : decode cL_law 1922 = .ok (.invokevirtual 176, 3) := by decide +kernel
theorem dL_law_1925 : decode cL_law 1925 = .ok (.if_icmp .eq 476, 3) := by decide +kernel
theorem dL_law_1928 : decode cL_law 1928 = .ok (.iconst 0, 1) := by decide +kernel
theorem dL_law_1929 : decode cL_law 1929 = .ok (.ireturn, 1) := by decide +kernel
theorem dL_law_1930 : decode cL_law 1930 = .ok (.aload_n 1, 1) := by decide +kernel
theorem dL_law_1931 : decode cL_law 1931 = .ok (.aload_n 0, 1) := by decide +kernel
theorem dL_law_1932 : decode cL_law 1932 = .ok (.iload 4, 2) := by decide +kernel
theorem dL_law_1934 : decode cL_law 1934 = .ok (.iconst 1, 1) := by decide +kernel
theorem dL_law_1935 : decode cL_law 1935 = .ok (.iadd, 1) := by decide +kernel
theorem dL_law_1936 : decode cL_law 1936 = .ok (.iaload, 1) := by decide +kernel
theorem dL_law_1937 : decode cL_law 1937 = .ok (.aload_n 0, 1) := by decide +kernel
theorem dL_law_1938 : decode cL_law 1938 = .ok (.iload 4, 2) := by decide +kernel
theorem dL_law_1940 : decode cL_law 1940 = .ok (.iconst 2, 1) := by decide +kernel
theorem dL_law_1941 : decode cL_law 1941 = .ok (.iadd, 1) := by decide +kernel
theorem dL_law_1942 : decode cL_law 1942 = .ok (.iaload, 1) := by decide +kernel
theorem dL_law_1943 : decode cL_law 1943 = .ok (.invokevirtual 177, 3) := by decide +kernel
theorem dL_law_1946 : decode cL_law 1946 = .ok (.aload_n 2, 1) := by decide +kernel
theorem dL_law_1947 : decode cL_law 1947 = .ok (.aload_n 0, 1) := by decide +kernel
theorem dL_law_1948 : decode cL_law 1948 = .ok (.iload 4, 2) := by decide +kernel
theorem dL_law_1950 : decode cL_law 1950 = .ok (.iconst 1, 1) := by decide +kernel
theorem dL_law_1951 : decode cL_law 1951 = .ok (.iadd, 1) := by decide +kernel
theorem dL_law_1952 : decode cL_law 1952 = .ok (.iaload, 1) := by decide +kernel
theorem dL_law_1953 : decode cL_law 1953 = .ok (.aload_n 0, 1) := by decide +kernel
theorem dL_law_1954 : decode cL_law 1954 = .ok (.iload 4, 2) := by decide +kernel
theorem dL_law_1956 : decode cL_law 1956 = .ok (.iconst 2, 1) := by decide +kernel
theorem dL_law_1957 : decode cL_law 1957 = .ok (.iadd, 1) := by decide +kernel
theorem dL_law_1958 : decode cL_law 1958 = .ok (.iaload, 1) := by decide +kernel
theorem dL_law_1959 : decode cL_law 1959 = .ok (.invokevirtual 180, 3) := by decide +kernel
theorem dL_law_1962 : decode cL_law 1962 = .ok (.if_icmp .eq 439, 3) := by decide +kernel
theorem dL_law_1965 : decode cL_law 1965 = .ok (.iconst 0, 1) := by decide +kernel
theorem dL_law_1966 : decode cL_law 1966 = .ok (.ireturn, 1) := by decide +kernel
theorem dL_law_1967 : decode cL_law 1967 = .ok (.aload_n 1, 1) := by decide +kernel
theorem dL_law_1968 : decode cL_law 1968 = .ok (.aload_n 0, 1) := by decide +kernel
theorem dL_law_1969 : decode cL_law 1969 = .ok (.iload 4, 2) := by decide +kernel
theorem dL_law_1971 : decode cL_law 1971 = .ok (.iconst 1, 1) := by decide +kernel
theorem dL_law_1972 : decode cL_law 1972 = .ok (.iadd, 1) := by decide +kernel
theorem dL_law_1973 : decode cL_law 1973 = .ok (.iaload, 1) := by decide +kernel
theorem dL_law_1974 : decode cL_law 1974 = .ok (.aload_n 0, 1) := by decide +kernel
theorem dL_law_1975 : decode cL_law 1975 = .ok (.iload 4, 2) := by decide +kernel
theorem dL_law_1977 : decode cL_law 1977 = .ok (.iconst 2, 1) := by decide +kernel
theorem dL_law_1978 : decode cL_law 1978 = .ok (.iadd, 1) := by decide +kernel
theorem dL_law_1979 : decode cL_law 1979 = .ok (.iaload, 1) := by decide +kernel
theorem dL_law_1980 : decode cL_law 1980 = .ok (.invokevirtual 181, 3) := by decide +kernel
theorem dL_law_1983 : decode cL_law 1983 = .ok (.aload_n 2, 1) := by decide +kernel
theorem dL_law_1984 : decode cL_law 1984 = .ok (.aload_n 0, 1) := by decide +kernel
theorem dL_law_1985 : decode cL_law 1985 = .ok (.iload 4, 2) := by decide +kernel
theorem dL_law_1987 : decode cL_law 1987 = .ok (.iconst 1, 1) := by decide +kernel
theorem dL_law_1988 : decode cL_law 1988 = .ok (.iadd, 1) := by decide +kernel
theorem dL_law_1989 : decode cL_law 1989 = .ok (.iaload, 1) := by decide +kernel
theorem dL_law_1990 : decode cL_law 1990 = .ok (.aload_n 0, 1) := by decide +kernel
theorem dL_law_1991 : decode cL_law 1991 = .ok (.iload 4, 2) := by decide +kernel
theorem dL_law_1993 : decode cL_law 1993 = .ok (.iconst 2, 1) := by decide +kernel
theorem dL_law_1994 : decode cL_law 1994 = .ok (.iadd, 1) := by decide +kernel
theorem dL_law_1995 : decode cL_law 1995 = .ok (.iaload, 1) := by decide +kernel
theorem dL_law_1996 : decode cL_law 1996 = .ok (.invokevirtual 184, 3) := by decide +kernel
theorem dL_law_1999 : decode cL_law 1999 = .ok (.if_icmp .eq 402, 3) := by decide +kernel
theorem dL_law_2002 : decode cL_law 2002 = .ok (.iconst 0, 1) := by decide +kernel
theorem dL_law_2003 : decode cL_law 2003 = .ok (.ireturn, 1) := by decide +kernel
theorem dL_law_2004 : decode cL_law 2004 = .ok (.aload_n 1, 1) := by decide +kernel
theorem dL_law_2005 : decode cL_law 2005 = .ok (.aload_n 0, 1) := by decide +kernel
theorem dL_law_2006 : decode cL_law 2006 = .ok (.iload 4, 2) := by decide +kernel
theorem dL_law_2008 : decode cL_law 2008 = .ok (.iconst 1, 1) := by decide +kernel
theorem dL_law_2009 : decode cL_law 2009 = .ok (.iadd, 1) := by decide +kernel
theorem dL_law_2010 : decode cL_law 2010 = .ok (.iaload, 1) := by decide +kernel
theorem dL_law_2011 : decode cL_law 2011 = .ok (.aload_n 0, 1) := by decide +kernel
theorem dL_law_2012 : decode cL_law 2012 = .ok (.iload 4, 2) := by decide +kernel
theorem dL_law_2014 : decode cL_law 2014 = .ok (.iconst 2, 1) := by decide +kernel
theorem dL_law_2015 : decode cL_law 2015 = .ok (.iadd, 1) := by decide +kernel
theorem dL_law_2016 : decode cL_law 2016 = .ok (.iaload, 1) := by decide +kernel
theorem dL_law_2017 : decode cL_law 2017 = .ok (.invokevirtual 185, 3) := by decide +kernel
theorem dL_law_2020 : decode cL_law 2020 = .ok (.aload_n 2, 1) := by decide +kernel
theorem dL_law_2021 : decode cL_law 2021 = .ok (.aload_n 0, 1) := by decide +kernel
theorem dL_law_2022 : decode cL_law 2022 = .ok (.iload 4, 2) := by decide +kernel
theorem dL_law_2024 : decode cL_law 2024 = .ok (.iconst 1, 1) := by decide +kernel
theorem dL_law_2025 : decode cL_law 2025 = .ok (.iadd, 1) := by decide +kernel
theorem dL_law_2026 : decode cL_law 2026 = .ok (.iaload, 1) := by decide +kernel
theorem dL_law_2027 : decode cL_law 2027 = .ok (.aload_n 0, 1) := by decide +kernel
theorem dL_law_2028 : decode cL_law 2028 = .ok (.iload 4, 2) := by decide +kernel
theorem dL_law_2030 : decode cL_law 2030 = .ok (.iconst 2, 1) := by decide +kernel
theorem dL_law_2031 : decode cL_law 2031 = .ok (.iadd, 1) := by decide +kernel
theorem dL_law_2032 : decode cL_law 2032 = .ok (.iaload, 1) := by decide +kernel
theorem dL_law_2033 : decode cL_law 2033 = .ok (.invokevirtual 188, 3) := by decide +kernel
theorem dL_law_2036 : decode cL_law 2036 = .ok (.if_icmp .eq 365, 3) := by decide +kernel
theorem dL_law_2039 : decode cL_law 2039 = .ok (.iconst 0, 1) := by decide +kernel
theorem dL_law_2040 : decode cL_law 2040 = .ok (.ireturn, 1) := by decide +kernel
theorem dL_law_2041 : decode cL_law 2041 = .ok (.aload_n 1, 1) := by decide +kernel
theorem dL_law_2042 : decode cL_law 2042 = .ok (.aload_n 0, 1) := by decide +kernel
theorem dL_law_2043 : decode cL_law 2043 = .ok (.iload 4, 2) := by decide +kernel
theorem dL_law_2045 : decode cL_law 2045 = .ok (.iconst 1, 1) := by decide +kernel
theorem dL_law_2046 : decode cL_law 2046 = .ok (.iadd, 1) := by decide +kernel
theorem dL_law_2047 : decode cL_law 2047 = .ok (.iaload, 1) := by decide +kernel
theorem dL_law_2048 : decode cL_law 2048 = .ok (.aload_n 0, 1) := by decide +kernel
theorem dL_law_2049 : decode cL_law 2049 = .ok (.iload 4, 2) := by decide +kernel
theorem dL_law_2051 : decode cL_law 2051 = .ok (.iconst 2, 1) := by decide +kernel
theorem dL_law_2052 : decode cL_law 2052 = .ok (.iadd, 1) := by decide +kernel
theorem dL_law_2053 : decode cL_law 2053 = .ok (.iaload, 1) := by decide +kernel
theorem dL_law_2054 : decode cL_law 2054 = .ok (.invokevirtual 189, 3) := by decide +kernel
theorem dL_law_2057 : decode cL_law 2057 = .ok (.aload_n 2, 1) := by decide +kernel
theorem dL_law_2058 : decode cL_law 2058 = .ok (.aload_n 0, 1) := by decide +kernel
theorem dL_law_2059 : decode cL_law 2059 = .ok (.iload 4, 2) := by decide +kernel
theorem dL_law_2061 : decode cL_law 2061 = .ok (.iconst 1, 1) := by decide +kernel
theorem dL_law_2062 : decode cL_law 2062 = .ok (.iadd, 1) := by decide +kernel
theorem dL_law_2063 : decode cL_law 2063 = .ok (.iaload, 1) := by decide +kernel
theorem dL_law_2064 : decode cL_law 2064 = .ok (.aload_n 0, 1) := by decide +kernel
theorem dL_law_2065 : decode cL_law 2065 = .ok (.iload 4, 2) := by decide +kernel
theorem dL_law_2067 : decode cL_law 2067 = .ok (.iconst 2, 1) := by decide +kernel
theorem dL_law_2068 : decode cL_law 2068 = .ok (.iadd, 1) := by decide +kernel
theorem dL_law_2069 : decode cL_law 2069 = .ok (.iaload, 1) := by decide +kernel
theorem dL_law_2070 : decode cL_law 2070 = .ok (.invokevirtual 192, 3) := by decide +kernel
theorem dL_law_2073 : decode cL_law 2073 = .ok (.if_icmp .eq 328, 3) := by decide +kernel
theorem dL_law_2076 : decode cL_law 2076 = .ok (.iconst 0, 1) := by decide +kernel
theorem dL_law_2077 : decode cL_law 2077 = .ok (.ireturn, 1) := by decide +kernel
theorem dL_law_2078 : decode cL_law 2078 = .ok (.aload_n 1, 1) := by decide +kernel
theorem dL_law_2079 : decode cL_law 2079 = .ok (.aload_n 0, 1) := by decide +kernel
theorem dL_law_2080 : decode cL_law 2080 = .ok (.iload 4, 2) := by decide +kernel
theorem dL_law_2082 : decode cL_law 2082 = .ok (.iconst 1, 1) := by decide +kernel
theorem dL_law_2083 : decode cL_law 2083 = .ok (.iadd, 1) := by decide +kernel
theorem dL_law_2084 : decode cL_law 2084 = .ok (.iaload, 1) := by decide +kernel
theorem dL_law_2085 : decode cL_law 2085 = .ok (.aload_n 0, 1) := by decide +kernel
theorem dL_law_2086 : decode cL_law 2086 = .ok (.iload 4, 2) := by decide +kernel
theorem dL_law_2088 : decode cL_law 2088 = .ok (.iconst 2, 1) := by decide +kernel
theorem dL_law_2089 : decode cL_law 2089 = .ok (.iadd, 1) := by decide +kernel
theorem dL_law_2090 : decode cL_law 2090 = .ok (.iaload, 1) := by decide +kernel
theorem dL_law_2091 : decode cL_law 2091 = .ok (.invokevirtual 193, 3) := by decide +kernel
theorem dL_law_2094 : decode cL_law 2094 = .ok (.aload_n 2, 1) := by decide +kernel
theorem dL_law_2095 : decode cL_law 2095 = .ok (.aload_n 0, 1) := by decide +kernel
theorem dL_law_2096 : decode cL_law 2096 = .ok (.iload 4, 2) := by decide +kernel
theorem dL_law_2098 : decode cL_law 2098 = .ok (.iconst 1, 1) := by decide +kernel
theorem dL_law_2099 : decode cL_law 2099 = .ok (.iadd, 1) := by decide +kernel
theorem dL_law_2100 : decode cL_law 2100 = .ok (.iaload, 1) := by decide +kernel
theorem dL_law_2101 : decode cL_law 2101 = .ok (.aload_n 0, 1) := by decide +kernel
theorem dL_law_2102 : decode cL_law 2102 = .ok (.iload 4, 2) := by decide +kernel
theorem dL_law_2104 : decode cL_law 2104 = .ok (.iconst 2, 1) := by decide +kernel
theorem dL_law_2105 : decode cL_law 2105 = .ok (.iadd, 1) := by decide +kernel
theorem dL_law_2106 : decode cL_law 2106 = .ok (.iaload, 1) := by decide +kernel
theorem dL_law_2107 : decode cL_law 2107 = .ok (.invokevirtual 196, 3) := by decide +kernel
theorem dL_law_2110 : decode cL_law 2110 = .ok (.if_icmp .eq 291, 3) := by decide +kernel
theorem dL_law_2113 : decode cL_law 2113 = .ok (.iconst 0, 1) := by decide +kernel
theorem dL_law_2114 : decode cL_law 2114 = .ok (.ireturn, 1) := by decide +kernel
theorem dL_law_2115 : decode cL_law 2115 = .ok (.aload_n 1, 1) := by decide +kernel
theorem dL_law_2116 : decode cL_law 2116 = .ok (.aload_n 0, 1) := by decide +kernel
theorem dL_law_2117 : decode cL_law 2117 = .ok (.iload 4, 2) := by decide +kernel
theorem dL_law_2119 : decode cL_law 2119 = .ok (.iconst 1, 1) := by decide +kernel
theorem dL_law_2120 : decode cL_law 2120 = .ok (.iadd, 1) := by decide +kernel
theorem dL_law_2121 : decode cL_law 2121 = .ok (.iaload, 1) := by decide +kernel
theorem dL_law_2122 : decode cL_law 2122 = .ok (.aload_n 0, 1) := by decide +kernel
theorem dL_law_2123 : decode cL_law 2123 = .ok (.iload 4, 2) := by decide +kernel
theorem dL_law_2125 : decode cL_law 2125 = .ok (.iconst 2, 1) := by decide +kernel
theorem dL_law_2126 : decode cL_law 2126 = .ok (.iadd, 1) := by decide +kernel
theorem dL_law_2127 : decode cL_law 2127 = .ok (.iaload, 1) := by decide +kernel
theorem dL_law_2128 : decode cL_law 2128 = .ok (.invokevirtual 197, 3) := by decide +kernel
theorem dL_law_2131 : decode cL_law 2131 = .ok (.aload_n 2, 1) := by decide +kernel
theorem dL_law_2132 : decode cL_law 2132 = .ok (.aload_n 0, 1) := by decide +kernel
theorem dL_law_2133 : decode cL_law 2133 = .ok (.iload 4, 2) := by decide +kernel
theorem dL_law_2135 : decode cL_law 2135 = .ok (.iconst 1, 1) := by decide +kernel
theorem dL_law_2136 : decode cL_law 2136 = .ok (.iadd, 1) := by decide +kernel
theorem dL_law_2137 : decode cL_law 2137 = .ok (.iaload, 1) := by decide +kernel
theorem dL_law_2138 : decode cL_law 2138 = .ok (.aload_n 0, 1) := by decide +kernel
theorem dL_law_2139 : decode cL_law 2139 = .ok (.iload 4, 2) := by decide +kernel
theorem dL_law_2141 : decode cL_law 2141 = .ok (.iconst 2, 1) := by decide +kernel
theorem dL_law_2142 : decode cL_law 2142 = .ok (.iadd, 1) := by decide +kernel
theorem dL_law_2143 : decode cL_law 2143 = .ok (.iaload, 1) := by decide +kernel
theorem dL_law_2144 : decode cL_law 2144 = .ok (.invokevirtual 200, 3) := by decide +kernel
theorem dL_law_2147 : decode cL_law 2147 = .ok (.if_icmp .eq 254, 3) := by decide +kernel
theorem dL_law_2150 : decode cL_law 2150 = .ok (.iconst 0, 1) := by decide +kernel
theorem dL_law_2151 : decode cL_law 2151 = .ok (.ireturn, 1) := by decide +kernel
theorem dL_law_2152 : decode cL_law 2152 = .ok (.aload_n 1, 1) := by decide +kernel
theorem dL_law_2153 : decode cL_law 2153 = .ok (.aload_n 0, 1) := by decide +kernel
theorem dL_law_2154 : decode cL_law 2154 = .ok (.iload 4, 2) := by decide +kernel
theorem dL_law_2156 : decode cL_law 2156 = .ok (.iconst 1, 1) := by decide +kernel
theorem dL_law_2157 : decode cL_law 2157 = .ok (.iadd, 1) := by decide +kernel
theorem dL_law_2158 : decode cL_law 2158 = .ok (.iaload, 1) := by decide +kernel
theorem dL_law_2159 : decode cL_law 2159 = .ok (.invokevirtual 201, 3) := by decide +kernel
theorem dL_law_2162 : decode cL_law 2162 = .ok (.aload_n 2, 1) := by decide +kernel
theorem dL_law_2163 : decode cL_law 2163 = .ok (.aload_n 0, 1) := by decide +kernel
theorem dL_law_2164 : decode cL_law 2164 = .ok (.iload 4, 2) := by decide +kernel
theorem dL_law_2166 : decode cL_law 2166 = .ok (.iconst 1, 1) := by decide +kernel
theorem dL_law_2167 : decode cL_law 2167 = .ok (.iadd, 1) := by decide +kernel
theorem dL_law_2168 : decode cL_law 2168 = .ok (.iaload, 1) := by decide +kernel
theorem dL_law_2169 : decode cL_law 2169 = .ok (.invokevirtual 204, 3) := by decide +kernel
theorem dL_law_2172 : decode cL_law 2172 = .ok (.if_icmp .eq 229, 3) := by decide +kernel
theorem dL_law_2175 : decode cL_law 2175 = .ok (.iconst 0, 1) := by decide +kernel
theorem dL_law_2176 : decode cL_law 2176 = .ok (.ireturn, 1) := by decide +kernel
theorem dL_law_2177 : decode cL_law 2177 = .ok (.aload_n 1, 1) := by decide +kernel
theorem dL_law_2178 : decode cL_law 2178 = .ok (.invokevirtual 205, 3) := by decide +kernel
theorem dL_law_2181 : decode cL_law 2181 = .ok (.aload_n 2, 1) := by decide +kernel
theorem dL_law_2182 : decode cL_law 2182 = .ok (.invokevirtual 209, 3) := by decide +kernel
theorem dL_law_2185 : decode cL_law 2185 = .ok (.if_icmp .eq 216, 3) := by decide +kernel
theorem dL_law_2188 : decode cL_law 2188 = .ok (.iconst 0, 1) := by decide +kernel
theorem dL_law_2189 : decode cL_law 2189 = .ok (.ireturn, 1) := by decide +kernel
theorem dL_law_2190 : decode cL_law 2190 = .ok (.aload_n 1, 1) := by decide +kernel
theorem dL_law_2191 : decode cL_law 2191 = .ok (.aload_n 0, 1) := by decide +kernel
theorem dL_law_2192 : decode cL_law 2192 = .ok (.iload 4, 2) := by decide +kernel
theorem dL_law_2194 : decode cL_law 2194 = .ok (.iconst 1, 1) := by decide +kernel
theorem dL_law_2195 : decode cL_law 2195 = .ok (.iadd, 1) := by decide +kernel
theorem dL_law_2196 : decode cL_law 2196 = .ok (.iaload, 1) := by decide +kernel
theorem dL_law_2197 : decode cL_law 2197 = .ok (.invokevirtual 210, 3) := by decide +kernel
theorem dL_law_2200 : decode cL_law 2200 = .ok (.aload_n 2, 1) := by decide +kernel
theorem dL_law_2201 : decode cL_law 2201 = .ok (.aload_n 0, 1) := by decide +kernel
theorem dL_law_2202 : decode cL_law 2202 = .ok (.iload 4, 2) := by decide +kernel
theorem dL_law_2204 : decode cL_law 2204 = .ok (.iconst 1, 1) := by decide +kernel
theorem dL_law_2205 : decode cL_law 2205 = .ok (.iadd, 1) := by decide +kernel
theorem dL_law_2206 : decode cL_law 2206 = .ok (.iaload, 1) := by decide +kernel
theorem dL_law_2207 : decode cL_law 2207 = .ok (.invokevirtual 213, 3) := by decide +kernel
theorem dL_law_2210 : decode cL_law 2210 = .ok (.if_icmp .eq 191, 3) := by decide +kernel
theorem dL_law_2213 : decode cL_law 2213 = .ok (.iconst 0, 1) := by decide +kernel
theorem dL_law_2214 : decode cL_law 2214 = .ok (.ireturn, 1) := by decide +kernel
theorem dL_law_2215 : decode cL_law 2215 = .ok (.aload_n 1, 1) := by decide +kernel
theorem dL_law_2216 : decode cL_law 2216 = .ok (.aload_n 0, 1) := by decide +kernel
theorem dL_law_2217 : decode cL_law 2217 = .ok (.iload 4, 2) := by decide +kernel
theorem dL_law_2219 : decode cL_law 2219 = .ok (.iconst 1, 1) := by decide +kernel
theorem dL_law_2220 : decode cL_law 2220 = .ok (.iadd, 1) := by decide +kernel
theorem dL_law_2221 : decode cL_law 2221 = .ok (.iaload, 1) := by decide +kernel
theorem dL_law_2222 : decode cL_law 2222 = .ok (.aload_n 0, 1) := by decide +kernel
theorem dL_law_2223 : decode cL_law 2223 = .ok (.iload 4, 2) := by decide +kernel
theorem dL_law_2225 : decode cL_law 2225 = .ok (.iconst 2, 1) := by decide +kernel
theorem dL_law_2226 : decode cL_law 2226 = .ok (.iadd, 1) := by decide +kernel
theorem dL_law_2227 : decode cL_law 2227 = .ok (.iaload, 1) := by decide +kernel
theorem dL_law_2228 : decode cL_law 2228 = .ok (.invokevirtual 214, 3) := by decide +kernel
theorem dL_law_2231 : decode cL_law 2231 = .ok (.aload_n 2, 1) := by decide +kernel
theorem dL_law_2232 : decode cL_law 2232 = .ok (.aload_n 0, 1) := by decide +kernel
theorem dL_law_2233 : decode cL_law 2233 = .ok (.iload 4, 2) := by decide +kernel
theorem dL_law_2235 : decode cL_law 2235 = .ok (.iconst 1, 1) := by decide +kernel
theorem dL_law_2236 : decode cL_law 2236 = .ok (.iadd, 1) := by decide +kernel
theorem dL_law_2237 : decode cL_law 2237 = .ok (.iaload, 1) := by decide +kernel
theorem dL_law_2238 : decode cL_law 2238 = .ok (.aload_n 0, 1) := by decide +kernel
theorem dL_law_2239 : decode cL_law 2239 = .ok (.iload 4, 2) := by decide +kernel
theorem dL_law_2241 : decode cL_law 2241 = .ok (.iconst 2, 1) := by decide +kernel
theorem dL_law_2242 : decode cL_law 2242 = .ok (.iadd, 1) := by decide +kernel
theorem dL_law_2243 : decode cL_law 2243 = .ok (.iaload, 1) := by decide +kernel
theorem dL_law_2244 : decode cL_law 2244 = .ok (.invokevirtual 217, 3) := by decide +kernel
theorem dL_law_2247 : decode cL_law 2247 = .ok (.if_icmp .eq 154, 3) := by decide +kernel
theorem dL_law_2250 : decode cL_law 2250 = .ok (.iconst 0, 1) := by decide +kernel
theorem dL_law_2251 : decode cL_law 2251 = .ok (.ireturn, 1) := by decide +kernel
theorem dL_law_2252 : decode cL_law 2252 = .ok (.aload_n 1, 1) := by decide +kernel
theorem dL_law_2253 : decode cL_law 2253 = .ok (.aload_n 0, 1) := by decide +kernel
theorem dL_law_2254 : decode cL_law 2254 = .ok (.iload 4, 2) := by decide +kernel
theorem dL_law_2256 : decode cL_law 2256 = .ok (.iconst 1, 1) := by decide +kernel
theorem dL_law_2257 : decode cL_law 2257 = .ok (.iadd, 1) := by decide +kernel
theorem dL_law_2258 : decode cL_law 2258 = .ok (.iaload, 1) := by decide +kernel
theorem dL_law_2259 : decode cL_law 2259 = .ok (.aload_n 0, 1) := by decide +kernel
theorem dL_law_2260 : decode cL_law 2260 = .ok (.iload 4, 2) := by decide +kernel
theorem dL_law_2262 : decode cL_law 2262 = .ok (.iconst 2, 1) := by decide +kernel
theorem dL_law_2263 : decode cL_law 2263 = .ok (.iadd, 1) := by decide +kernel
theorem dL_law_2264 : decode cL_law 2264 = .ok (.iaload, 1) := by decide +kernel
theorem dL_law_2265 : decode cL_law 2265 = .ok (.i2l, 1) := by decide +kernel
theorem dL_law_2266 : decode cL_law 2266 = .ok (.bipush 32, 2) := by decide +kernel
theorem dL_law_2268 : decode cL_law 2268 = .ok (.lshl, 1) := by decide +kernel
theorem dL_law_2269 : decode cL_law 2269 = .ok (.aload_n 0, 1) := by decide +kernel
theorem dL_law_2270 : decode cL_law 2270 = .ok (.iload 4, 2) := by decide +kernel
theorem dL_law_2272 : decode cL_law 2272 = .ok (.iconst 3, 1) := by decide +kernel
theorem dL_law_2273 : decode cL_law 2273 = .ok (.iadd, 1) := by decide +kernel
theorem dL_law_2274 : decode cL_law 2274 = .ok (.iaload, 1) := by decide +kernel
theorem dL_law_2275 : decode cL_law 2275 = .ok (.i2l, 1) := by decide +kernel
theorem dL_law_2276 : decode cL_law 2276 = .ok (.ldc2_w 218, 3) := by decide +kernel
theorem dL_law_2279 : decode cL_law 2279 = .ok (.land, 1) := by decide +kernel
theorem dL_law_2280 : decode cL_law 2280 = .ok (.lor, 1) := by decide +kernel
theorem dL_law_2281 : decode cL_law 2281 = .ok (.invokevirtual 220, 3) := by decide +kernel
theorem dL_law_2284 : decode cL_law 2284 = .ok (.aload_n 2, 1) := by decide +kernel
theorem dL_law_2285 : decode cL_law 2285 = .ok (.aload_n 0, 1) := by decide +kernel
theorem dL_law_2286 : decode cL_law 2286 = .ok (.iload 4, 2) := by decide +kernel
theorem dL_law_2288 : decode cL_law 2288 = .ok (.iconst 1, 1) := by decide +kernel
theorem dL_law_2289 : decode cL_law 2289 = .ok (.iadd, 1) := by decide +kernel
theorem dL_law_2290 : decode cL_law 2290 = .ok (.iaload, 1) := by decide +kernel
theorem dL_law_2291 : decode cL_law 2291 = .ok (.aload_n 0, 1) := by decide +kernel
theorem dL_law_2292 : decode cL_law 2292 = .ok (.iload 4, 2) := by decide +kernel
theorem dL_law_2294 : decode cL_law 2294 = .ok (.iconst 2, 1) := by decide +kernel
theorem dL_law_2295 : decode cL_law 2295 = .ok (.iadd, 1) := by decide +kernel
theorem dL_law_2296 : decode cL_law 2296 = .ok (.iaload, 1) := by decide +kernel
theorem dL_law_2297 : decode cL_law 2297 = .ok (.i2l, 1) := by decide +kernel
theorem dL_law_2298 : decode cL_law 2298 = .ok (.bipush 32, 2) := by decide +kernel
theorem dL_law_2300 : decode cL_law 2300 = .ok (.lshl, 1) := by decide +kernel
theorem dL_law_2301 : decode cL_law 2301 = .ok (.aload_n 0, 1) := by decide +kernel
theorem dL_law_2302 : decode cL_law 2302 = .ok (.iload 4, 2) := by decide +kernel
theorem dL_law_2304 : decode cL_law 2304 = .ok (.iconst 3, 1) := by decide +kernel
theorem dL_law_2305 : decode cL_law 2305 = .ok (.iadd, 1) := by decide +kernel
theorem dL_law_2306 : decode cL_law 2306 = .ok (.iaload, 1) := by decide +kernel
theorem dL_law_2307 : decode cL_law 2307 = .ok (.i2l, 1) := by decide +kernel
theorem dL_law_2308 : decode cL_law 2308 = .ok (.ldc2_w 218, 3) := by decide +kernel
theorem dL_law_2311 : decode cL_law 2311 = .ok (.land, 1) := by decide +kernel
theorem dL_law_2312 : decode cL_law 2312 = .ok (.lor, 1) := by decide +kernel
theorem dL_law_2313 : decode cL_law 2313 = .ok (.invokevirtual 224, 3) := by decide +kernel
theorem dL_law_2316 : decode cL_law 2316 = .ok (.if_icmp .eq 85, 3) := by decide +kernel
theorem dL_law_2319 : decode cL_law 2319 = .ok (.iconst 0, 1) := by decide +kernel
theorem dL_law_2320 : decode cL_law 2320 = .ok (.ireturn, 1) := by decide +kernel
theorem dL_law_2321 : decode cL_law 2321 = .ok (.aload_n 1, 1) := by decide +kernel
theorem dL_law_2322 : decode cL_law 2322 = .ok (.aload_n 0, 1) := by decide +kernel
theorem dL_law_2323 : decode cL_law 2323 = .ok (.iload 4, 2) := by decide +kernel
theorem dL_law_2325 : decode cL_law 2325 = .ok (.iconst 1, 1) := by decide +kernel
theorem dL_law_2326 : decode cL_law 2326 = .ok (.iadd, 1) := by decide +kernel
theorem dL_law_2327 : decode cL_law 2327 = .ok (.iaload, 1) := by decide +kernel
theorem dL_law_2328 : decode cL_law 2328 = .ok (.invokevirtual 225, 3) := by decide +kernel
theorem dL_law_2331 : decode cL_law 2331 = .ok (.aload_n 2, 1) := by decide +kernel
theorem dL_law_2332 : decode cL_law 2332 = .ok (.aload_n 0, 1) := by decide +kernel
theorem dL_law_2333 : decode cL_law 2333 = .ok (.iload 4, 2) := by decide +kernel
theorem dL_law_2335 : decode cL_law 2335 = .ok (.iconst 1, 1) := by decide +kernel
theorem dL_law_2336 : decode cL_law 2336 = .ok (.iadd, 1) := by decide +kernel
theorem dL_law_2337 : decode cL_law 2337 = .ok (.iaload, 1) := by decide +kernel
theorem dL_law_2338 : decode cL_law 2338 = .ok (.invokevirtual 228, 3) := by decide +kernel
theorem dL_law_2341 : decode cL_law 2341 = .ok (.if_icmp .eq 60, 3) := by decide +kernel
theorem dL_law_2344 : decode cL_law 2344 = .ok (.iconst 0, 1) := by decide +kernel
theorem dL_law_2345 : decode cL_law 2345 = .ok (.ireturn, 1) := by decide +kernel
theorem dL_law_2346 : decode cL_law 2346 = .ok (.aload_n 1, 1) := by decide +kernel
theorem dL_law_2347 : decode cL_law 2347 = .ok (.aload_n 0, 1) := by decide +kernel
theorem dL_law_2348 : decode cL_law 2348 = .ok (.iload 4, 2) := by decide +kernel
theorem dL_law_2350 : decode cL_law 2350 = .ok (.iconst 1, 1) := by decide +kernel
theorem dL_law_2351 : decode cL_law 2351 = .ok (.iadd, 1) := by decide +kernel
theorem dL_law_2352 : decode cL_law 2352 = .ok (.iaload, 1) := by decide +kernel
theorem dL_law_2353 : decode cL_law 2353 = .ok (.aload_n 3, 1) := by decide +kernel
theorem dL_law_2354 : decode cL_law 2354 = .ok (.invokestatic 229, 3) := by decide +kernel
theorem dL_law_2357 : decode cL_law 2357 = .ok (.istore 5, 2) := by decide +kernel
theorem dL_law_2359 : decode cL_law 2359 = .ok (.aload_n 2, 1) := by decide +kernel
theorem dL_law_2360 : decode cL_law 2360 = .ok (.aload_n 0, 1) := by decide +kernel
theorem dL_law_2361 : decode cL_law 2361 = .ok (.iload 4, 2) := by decide +kernel
theorem dL_law_2363 : decode cL_law 2363 = .ok (.iconst 1, 1) := by decide +kernel
theorem dL_law_2364 : decode cL_law 2364 = .ok (.iadd, 1) := by decide +kernel
theorem dL_law_2365 : decode cL_law 2365 = .ok (.iaload, 1) := by decide +kernel
theorem dL_law_2366 : decode cL_law 2366 = .ok (.invokevirtual 234, 3) := by decide +kernel
theorem dL_law_2369 : decode cL_law 2369 = .ok (.lstore 6, 2) := by decide +kernel
theorem dL_law_2371 : decode cL_law 2371 = .ok (.aload_n 2, 1) := by decide +kernel
theorem dL_law_2372 : decode cL_law 2372 = .ok (.invokevirtual 235, 3) := by decide +kernel
theorem dL_law_2375 : decode cL_law 2375 = .ok (.iload 5, 2) := by decide +kernel
theorem dL_law_2377 : decode cL_law 2377 = .ok (.if_icmp .eq 5, 3) := by decide +kernel
theorem dL_law_2380 : decode cL_law 2380 = .ok (.iconst 0, 1) := by decide +kernel
theorem dL_law_2381 : decode cL_law 2381 = .ok (.ireturn, 1) := by decide +kernel
theorem dL_law_2382 : decode cL_law 2382 = .ok (.iload 5, 2) := by decide +kernel
theorem dL_law_2384 : decode cL_law 2384 = .ok (.ifCond .ne 14, 3) := by decide +kernel
theorem dL_law_2387 : decode cL_law 2387 = .ok (.aload_n 3, 1) := by decide +kernel
theorem dL_law_2388 : decode cL_law 2388 = .ok (.iconst 0, 1) := by decide +kernel
theorem dL_law_2389 : decode cL_law 2389 = .ok (.laload, 1) := by decide +kernel
theorem dL_law_2390 : decode cL_law 2390 = .ok (.lload 6, 2) := by decide +kernel
theorem dL_law_2392 : decode cL_law 2392 = .ok (.lcmp, 1) := by decide +kernel
theorem dL_law_2393 : decode cL_law 2393 = .ok (.ifCond .eq 5, 3) := by decide +kernel
theorem dL_law_2396 : decode cL_law 2396 = .ok (.iconst 0, 1) := by decide +kernel
theorem dL_law_2397 : decode cL_law 2397 = .ok (.ireturn, 1) := by decide +kernel
theorem dL_law_2398 : decode cL_law 2398 = .ok (.goto 3, 3) := by decide +kernel
theorem dL_law_2401 : decode cL_law 2401 = .ok (.iinc 4 6, 3) := by decide +kernel
theorem dL_law_2404 : decode cL_law 2404 = .ok (.goto (-2381), 3) := by decide +kernel
theorem dL_law_2407 : decode cL_law 2407 = .ok (.iconst 1, 1) := by decide +kernel
theorem dL_law_2408 : decode cL_law 2408 = .ok (.ireturn, 1) := by decide +kernel
