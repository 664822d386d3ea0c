theorem ix_0_0 : lkp 0 (mI mi_0) = some (false, .return_, 1, 0, 0) := rfl
theorem ix_1_0 : lkp 0 (mI mi_1) = some (false, .aload_n 0, 1, 0, 0) := rfl
theorem ix_1_1 : lkp 1 (mI mi_1) = some (false, .invokespecial 3, 4, 0, 0) := rfl
theorem ix_1_4 : lkp 4 (mI mi_1) = some (false, .aload_n 0, 5, 0, 0) := rfl
theorem ix_1_5 : lkp 5 (mI mi_1) = some (false, .bipush 10, 7, 10, 0) := rfl
theorem ix_1_7 : lkp 7 (mI mi_1) = some (false, .newarray .int, 9, 0, 0) := rfl
theorem ix_1_9 : lkp 9 (mI mi_1) = some (false, .putfield 9, 12, 1, 194) := rfl
theorem ix_1_12 : lkp 12 (mI mi_1) = some (false, .aload_n 0, 13, 0, 0) := rfl
theorem ix_1_13 : lkp 13 (mI mi_1) = some (false, .bipush 10, 15, 10, 0) := rfl
theorem ix_1_15 : lkp 15 (mI mi_1) = some (false, .newarray .int, 17, 0, 0) := rfl
theorem ix_1_17 : lkp 17 (mI mi_1) = some (false, .putfield 15, 20, 1, 195) := rfl
theorem ix_1_20 : lkp 20 (mI mi_1) = some (false, .aload_n 0, 21, 0, 0) := rfl
theorem ix_1_21 : lkp 21 (mI mi_1) = some (false, .bipush 10, 23, 10, 0) := rfl
theorem ix_1_23 : lkp 23 (mI mi_1) = some (false, .newarray .int, 25, 0, 0) := rfl
theorem ix_1_25 : lkp 25 (mI mi_1) = some (false, .putfield 18, 28, 1, 196) := rfl
theorem ix_1_28 : lkp 28 (mI mi_1) = some (false, .aload_n 0, 29, 0, 0) := rfl
theorem ix_1_29 : lkp 29 (mI mi_1) = some (false, .bipush 10, 31, 10, 0) := rfl
theorem ix_1_31 : lkp 31 (mI mi_1) = some (false, .newarray .int, 33, 0, 0) := rfl
theorem ix_1_33 : lkp 33 (mI mi_1) = some (false, .putfield 21, 36, 1, 197) := rfl
theorem ix_1_36 : lkp 36 (mI mi_1) = some (false, .return_, 37, 0, 0) := rfl
theorem ix_2_0 : lkp 0 (mI mi_2) = some (false, .aload_n 0, 1, 0, 0) := rfl
theorem ix_2_1 : lkp 1 (mI mi_2) = some (false, .iconst 0, 2, 0, 0) := rfl
theorem ix_2_2 : lkp 2 (mI mi_2) = some (false, .putfield 24, 5, 1, 0) := rfl
theorem ix_2_5 : lkp 5 (mI mi_2) = some (false, .aload_n 0, 6, 0, 0) := rfl
theorem ix_2_6 : lkp 6 (mI mi_2) = some (false, .iconst 0, 7, 0, 0) := rfl
theorem ix_2_7 : lkp 7 (mI mi_2) = some (false, .putfield 28, 10, 1, 1) := rfl
theorem ix_2_10 : lkp 10 (mI mi_2) = some (false, .return_, 11, 0, 0) := rfl
theorem ix_3_0 : lkp 0 (mI mi_3) = some (false, .aload_n 0, 1, 0, 0) := rfl
theorem ix_3_1 : lkp 1 (mI mi_3) = some (false, .aload_n 1, 2, 1, 0) := rfl
theorem ix_3_2 : lkp 2 (mI mi_3) = some (false, .getfield 24, 5, 1, 0) := rfl
theorem ix_3_5 : lkp 5 (mI mi_3) = some (false, .putfield 24, 8, 1, 0) := rfl
theorem ix_3_8 : lkp 8 (mI mi_3) = some (false, .aload_n 0, 9, 0, 0) := rfl
theorem ix_3_9 : lkp 9 (mI mi_3) = some (false, .aload_n 1, 10, 1, 0) := rfl
theorem ix_3_10 : lkp 10 (mI mi_3) = some (false, .getfield 28, 13, 1, 1) := rfl
theorem ix_3_13 : lkp 13 (mI mi_3) = some (false, .putfield 28, 16, 1, 1) := rfl
theorem ix_3_16 : lkp 16 (mI mi_3) = some (false, .aload_n 1, 17, 1, 0) := rfl
theorem ix_3_17 : lkp 17 (mI mi_3) = some (false, .getfield 9, 20, 1, 2) := rfl
theorem ix_3_20 : lkp 20 (mI mi_3) = some (false, .iconst 0, 21, 0, 0) := rfl
theorem ix_3_21 : lkp 21 (mI mi_3) = some (false, .aload_n 0, 22, 0, 0) := rfl
theorem ix_3_22 : lkp 22 (mI mi_3) = some (false, .getfield 9, 25, 1, 2) := rfl
theorem ix_3_25 : lkp 25 (mI mi_3) = some (false, .iconst 0, 26, 0, 0) := rfl
theorem ix_3_26 : lkp 26 (mI mi_3) = some (false, .bipush 10, 28, 10, 0) := rfl
theorem ix_3_28 : lkp 28 (mI mi_3) = some (false, .invokestatic 31, 31, 1000, 5) := rfl
theorem ix_3_31 : lkp 31 (mI mi_3) = some (false, .aload_n 1, 32, 1, 0) := rfl
theorem ix_3_32 : lkp 32 (mI mi_3) = some (false, .getfield 15, 35, 1, 3) := rfl
theorem ix_3_35 : lkp 35 (mI mi_3) = some (false, .iconst 0, 36, 0, 0) := rfl
theorem ix_3_36 : lkp 36 (mI mi_3) = some (false, .aload_n 0, 37, 0, 0) := rfl
theorem ix_3_37 : lkp 37 (mI mi_3) = some (false, .getfield 15, 40, 1, 3) := rfl
theorem ix_3_40 : lkp 40 (mI mi_3) = some (false, .iconst 0, 41, 0, 0) := rfl
theorem ix_3_41 : lkp 41 (mI mi_3) = some (false, .bipush 10, 43, 10, 0) := rfl
theorem ix_3_43 : lkp 43 (mI mi_3) = some (false, .invokestatic 31, 46, 1000, 5) := rfl
theorem ix_3_46 : lkp 46 (mI mi_3) = some (false, .aload_n 1, 47, 1, 0) := rfl
theorem ix_3_47 : lkp 47 (mI mi_3) = some (false, .getfield 18, 50, 1, 4) := rfl
theorem ix_3_50 : lkp 50 (mI mi_3) = some (false, .iconst 0, 51, 0, 0) := rfl
theorem ix_3_51 : lkp 51 (mI mi_3) = some (false, .aload_n 0, 52, 0, 0) := rfl
theorem ix_3_52 : lkp 52 (mI mi_3) = some (false, .getfield 18, 55, 1, 4) := rfl
theorem ix_3_55 : lkp 55 (mI mi_3) = some (false, .iconst 0, 56, 0, 0) := rfl
theorem ix_3_56 : lkp 56 (mI mi_3) = some (false, .bipush 10, 58, 10, 0) := rfl
theorem ix_3_58 : lkp 58 (mI mi_3) = some (false, .invokestatic 31, 61, 1000, 5) := rfl
theorem ix_3_61 : lkp 61 (mI mi_3) = some (false, .aload_n 1, 62, 1, 0) := rfl
theorem ix_3_62 : lkp 62 (mI mi_3) = some (false, .getfield 21, 65, 1, 5) := rfl
theorem ix_3_65 : lkp 65 (mI mi_3) = some (false, .iconst 0, 66, 0, 0) := rfl
theorem ix_3_66 : lkp 66 (mI mi_3) = some (false, .aload_n 0, 67, 0, 0) := rfl
theorem ix_3_67 : lkp 67 (mI mi_3) = some (false, .getfield 21, 70, 1, 5) := rfl
theorem ix_3_70 : lkp 70 (mI mi_3) = some (false, .iconst 0, 71, 0, 0) := rfl
theorem ix_3_71 : lkp 71 (mI mi_3) = some (false, .bipush 10, 73, 10, 0) := rfl
theorem ix_3_73 : lkp 73 (mI mi_3) = some (false, .invokestatic 31, 76, 1000, 5) := rfl
theorem ix_3_76 : lkp 76 (mI mi_3) = some (false, .return_, 77, 0, 0) := rfl
theorem ix_4_0 : lkp 0 (mI mi_4) = some (false, .aload_n 0, 1, 0, 0) := rfl
theorem ix_4_1 : lkp 1 (mI mi_4) = some (false, .getfield 24, 4, 1, 0) := rfl
theorem ix_4_4 : lkp 4 (mI mi_4) = some (false, .aload_n 1, 5, 1, 0) := rfl
theorem ix_4_5 : lkp 5 (mI mi_4) = some (false, .getfield 24, 8, 1, 0) := rfl
theorem ix_4_8 : lkp 8 (mI mi_4) = some (false, .if_icmp .ne 18, 11, 0, 26) := rfl
theorem ix_4_11 : lkp 11 (mI mi_4) = some (false, .aload_n 0, 12, 0, 0) := rfl
theorem ix_4_12 : lkp 12 (mI mi_4) = some (false, .getfield 28, 15, 1, 1) := rfl
theorem ix_4_15 : lkp 15 (mI mi_4) = some (false, .aload_n 1, 16, 1, 0) := rfl
theorem ix_4_16 : lkp 16 (mI mi_4) = some (false, .getfield 28, 19, 1, 1) := rfl
theorem ix_4_19 : lkp 19 (mI mi_4) = some (false, .if_icmp .ne 7, 22, 0, 26) := rfl
theorem ix_4_22 : lkp 22 (mI mi_4) = some (false, .iconst 1, 23, 1, 0) := rfl
theorem ix_4_23 : lkp 23 (mI mi_4) = some (false, .goto 4, 26, 0, 27) := rfl
theorem ix_4_26 : lkp 26 (mI mi_4) = some (false, .iconst 0, 27, 0, 0) := rfl
theorem ix_4_27 : lkp 27 (mI mi_4) = some (false, .istore_n 2, 28, 2, 0) := rfl
theorem ix_4_28 : lkp 28 (mI mi_4) = some (false, .iconst 0, 29, 0, 0) := rfl
theorem ix_4_29 : lkp 29 (mI mi_4) = some (false, .istore_n 3, 30, 3, 0) := rfl
theorem ix_4_30 : lkp 30 (mI mi_4) = some (true, .iload_n 2, 31, 2, 0) := rfl
theorem ix_4_31 : lkp 31 (mI mi_4) = some (false, .ifCond .eq 89, 34, 0, 120) := rfl
theorem ix_4_34 : lkp 34 (mI mi_4) = some (false, .iload_n 3, 35, 3, 0) := rfl
theorem ix_4_35 : lkp 35 (mI mi_4) = some (false, .aload_n 0, 36, 0, 0) := rfl
theorem ix_4_36 : lkp 36 (mI mi_4) = some (false, .getfield 24, 39, 1, 0) := rfl
theorem ix_4_39 : lkp 39 (mI mi_4) = some (false, .if_icmp .ge 81, 42, 0, 120) := rfl
theorem ix_4_42 : lkp 42 (mI mi_4) = some (false, .iload_n 3, 43, 3, 0) := rfl
theorem ix_4_43 : lkp 43 (mI mi_4) = some (false, .bipush 10, 45, 10, 0) := rfl
theorem ix_4_45 : lkp 45 (mI mi_4) = some (false, .if_icmp .ge 75, 48, 0, 120) := rfl
theorem ix_4_48 : lkp 48 (mI mi_4) = some (false, .aload_n 0, 49, 0, 0) := rfl
theorem ix_4_49 : lkp 49 (mI mi_4) = some (false, .getfield 9, 52, 1, 2) := rfl
theorem ix_4_52 : lkp 52 (mI mi_4) = some (false, .iload_n 3, 53, 3, 0) := rfl
theorem ix_4_53 : lkp 53 (mI mi_4) = some (false, .iaload, 54, 0, 0) := rfl
theorem ix_4_54 : lkp 54 (mI mi_4) = some (false, .aload_n 1, 55, 1, 0) := rfl
theorem ix_4_55 : lkp 55 (mI mi_4) = some (false, .getfield 9, 58, 1, 2) := rfl
theorem ix_4_58 : lkp 58 (mI mi_4) = some (false, .iload_n 3, 59, 3, 0) := rfl
theorem ix_4_59 : lkp 59 (mI mi_4) = some (false, .iaload, 60, 0, 0) := rfl
theorem ix_4_60 : lkp 60 (mI mi_4) = some (false, .if_icmp .ne 52, 63, 0, 112) := rfl
theorem ix_4_63 : lkp 63 (mI mi_4) = some (false, .aload_n 0, 64, 0, 0) := rfl
theorem ix_4_64 : lkp 64 (mI mi_4) = some (false, .getfield 15, 67, 1, 3) := rfl
theorem ix_4_67 : lkp 67 (mI mi_4) = some (false, .iload_n 3, 68, 3, 0) := rfl
theorem ix_4_68 : lkp 68 (mI mi_4) = some (false, .iaload, 69, 0, 0) := rfl
theorem ix_4_69 : lkp 69 (mI mi_4) = some (false, .aload_n 1, 70, 1, 0) := rfl
theorem ix_4_70 : lkp 70 (mI mi_4) = some (false, .getfield 15, 73, 1, 3) := rfl
theorem ix_4_73 : lkp 73 (mI mi_4) = some (false, .iload_n 3, 74, 3, 0) := rfl
theorem ix_4_74 : lkp 74 (mI mi_4) = some (false, .iaload, 75, 0, 0) := rfl
theorem ix_4_75 : lkp 75 (mI mi_4) = some (false, .if_icmp .ne 37, 78, 0, 112) := rfl
theorem ix_4_78 : lkp 78 (mI mi_4) = some (false, .aload_n 0, 79, 0, 0) := rfl
theorem ix_4_79 : lkp 79 (mI mi_4) = some (false, .getfield 18, 82, 1, 4) := rfl
theorem ix_4_82 : lkp 82 (mI mi_4) = some (false, .iload_n 3, 83, 3, 0) := rfl
theorem ix_4_83 : lkp 83 (mI mi_4) = some (false, .iaload, 84, 0, 0) := rfl
theorem ix_4_84 : lkp 84 (mI mi_4) = some (false, .aload_n 1, 85, 1, 0) := rfl
theorem ix_4_85 : lkp 85 (mI mi_4) = some (false, .getfield 18, 88, 1, 4) := rfl
theorem ix_4_88 : lkp 88 (mI mi_4) = some (false, .iload_n 3, 89, 3, 0) := rfl
theorem ix_4_89 : lkp 89 (mI mi_4) = some (false, .iaload, 90, 0, 0) := rfl
theorem ix_4_90 : lkp 90 (mI mi_4) = some (false, .if_icmp .ne 22, 93, 0, 112) := rfl
theorem ix_4_93 : lkp 93 (mI mi_4) = some (false, .aload_n 0, 94, 0, 0) := rfl
theorem ix_4_94 : lkp 94 (mI mi_4) = some (false, .getfield 21, 97, 1, 5) := rfl
theorem ix_4_97 : lkp 97 (mI mi_4) = some (false, .iload_n 3, 98, 3, 0) := rfl
theorem ix_4_98 : lkp 98 (mI mi_4) = some (false, .iaload, 99, 0, 0) := rfl
theorem ix_4_99 : lkp 99 (mI mi_4) = some (false, .aload_n 1, 100, 1, 0) := rfl
theorem ix_4_100 : lkp 100 (mI mi_4) = some (false, .getfield 21, 103, 1, 5) := rfl
theorem ix_4_103 : lkp 103 (mI mi_4) = some (false, .iload_n 3, 104, 3, 0) := rfl
theorem ix_4_104 : lkp 104 (mI mi_4) = some (false, .iaload, 105, 0, 0) := rfl
theorem ix_4_105 : lkp 105 (mI mi_4) = some (false, .if_icmp .ne 7, 108, 0, 112) := rfl
theorem ix_4_108 : lkp 108 (mI mi_4) = some (false, .iconst 1, 109, 1, 0) := rfl
theorem ix_4_109 : lkp 109 (mI mi_4) = some (false, .goto 4, 112, 0, 113) := rfl
theorem ix_4_112 : lkp 112 (mI mi_4) = some (false, .iconst 0, 113, 0, 0) := rfl
theorem ix_4_113 : lkp 113 (mI mi_4) = some (false, .istore_n 2, 114, 2, 0) := rfl
theorem ix_4_114 : lkp 114 (mI mi_4) = some (false, .iinc 3 1, 117, 3, 2) := rfl
theorem ix_4_117 : lkp 117 (mI mi_4) = some (false, .goto (-87), 120, 0, 30) := rfl
theorem ix_4_120 : lkp 120 (mI mi_4) = some (false, .iload_n 2, 121, 2, 0) := rfl
theorem ix_4_121 : lkp 121 (mI mi_4) = some (false, .ireturn, 122, 0, 1) := rfl
theorem ix_5_0 : lkp 0 (mI mi_5) = some (false, .aload_n 0, 1, 0, 0) := rfl
theorem ix_5_1 : lkp 1 (mI mi_5) = some (false, .getfield 24, 4, 1, 0) := rfl
theorem ix_5_4 : lkp 4 (mI mi_5) = some (false, .ifCond .lt 72, 7, 0, 76) := rfl
theorem ix_5_7 : lkp 7 (mI mi_5) = some (false, .aload_n 0, 8, 0, 0) := rfl
theorem ix_5_8 : lkp 8 (mI mi_5) = some (false, .getfield 24, 11, 1, 0) := rfl
theorem ix_5_11 : lkp 11 (mI mi_5) = some (false, .bipush 10, 13, 10, 0) := rfl
theorem ix_5_13 : lkp 13 (mI mi_5) = some (false, .if_icmp .ge 63, 16, 0, 76) := rfl
theorem ix_5_16 : lkp 16 (mI mi_5) = some (false, .aload_n 0, 17, 0, 0) := rfl
theorem ix_5_17 : lkp 17 (mI mi_5) = some (false, .getfield 9, 20, 1, 2) := rfl
theorem ix_5_20 : lkp 20 (mI mi_5) = some (false, .aload_n 0, 21, 0, 0) := rfl
theorem ix_5_21 : lkp 21 (mI mi_5) = some (false, .getfield 24, 24, 1, 0) := rfl
theorem ix_5_24 : lkp 24 (mI mi_5) = some (false, .iload_n 1, 25, 1, 0) := rfl
theorem ix_5_25 : lkp 25 (mI mi_5) = some (false, .iastore, 26, 0, 0) := rfl
theorem ix_5_26 : lkp 26 (mI mi_5) = some (false, .aload_n 0, 27, 0, 0) := rfl
theorem ix_5_27 : lkp 27 (mI mi_5) = some (false, .getfield 15, 30, 1, 3) := rfl
theorem ix_5_30 : lkp 30 (mI mi_5) = some (false, .aload_n 0, 31, 0, 0) := rfl
theorem ix_5_31 : lkp 31 (mI mi_5) = some (false, .getfield 24, 34, 1, 0) := rfl
theorem ix_5_34 : lkp 34 (mI mi_5) = some (false, .iload_n 2, 35, 2, 0) := rfl
theorem ix_5_35 : lkp 35 (mI mi_5) = some (false, .iastore, 36, 0, 0) := rfl
theorem ix_5_36 : lkp 36 (mI mi_5) = some (false, .aload_n 0, 37, 0, 0) := rfl
theorem ix_5_37 : lkp 37 (mI mi_5) = some (false, .getfield 18, 40, 1, 4) := rfl
theorem ix_5_40 : lkp 40 (mI mi_5) = some (false, .aload_n 0, 41, 0, 0) := rfl
theorem ix_5_41 : lkp 41 (mI mi_5) = some (false, .getfield 24, 44, 1, 0) := rfl
theorem ix_5_44 : lkp 44 (mI mi_5) = some (false, .iload_n 3, 45, 3, 0) := rfl
theorem ix_5_45 : lkp 45 (mI mi_5) = some (false, .iastore, 46, 0, 0) := rfl
theorem ix_5_46 : lkp 46 (mI mi_5) = some (false, .aload_n 0, 47, 0, 0) := rfl
theorem ix_5_47 : lkp 47 (mI mi_5) = some (false, .getfield 21, 50, 1, 5) := rfl
theorem ix_5_50 : lkp 50 (mI mi_5) = some (false, .aload_n 0, 51, 0, 0) := rfl
theorem ix_5_51 : lkp 51 (mI mi_5) = some (false, .getfield 24, 54, 1, 0) := rfl
theorem ix_5_54 : lkp 54 (mI mi_5) = some (false, .iconst 0, 55, 0, 0) := rfl
theorem ix_5_55 : lkp 55 (mI mi_5) = some (false, .iastore, 56, 0, 0) := rfl
theorem ix_5_56 : lkp 56 (mI mi_5) = some (false, .aload_n 0, 57, 0, 0) := rfl
theorem ix_5_57 : lkp 57 (mI mi_5) = some (false, .dup, 58, 0, 0) := rfl
theorem ix_5_58 : lkp 58 (mI mi_5) = some (false, .getfield 24, 61, 1, 0) := rfl
theorem ix_5_61 : lkp 61 (mI mi_5) = some (false, .iconst 1, 62, 1, 0) := rfl
theorem ix_5_62 : lkp 62 (mI mi_5) = some (false, .iadd, 63, 0, 0) := rfl
theorem ix_5_63 : lkp 63 (mI mi_5) = some (false, .putfield 24, 66, 1, 0) := rfl
theorem ix_5_66 : lkp 66 (mI mi_5) = some (false, .aload_n 0, 67, 0, 0) := rfl
theorem ix_5_67 : lkp 67 (mI mi_5) = some (false, .dup, 68, 0, 0) := rfl
theorem ix_5_68 : lkp 68 (mI mi_5) = some (false, .getfield 28, 71, 1, 1) := rfl
theorem ix_5_71 : lkp 71 (mI mi_5) = some (false, .iload_n 3, 72, 3, 0) := rfl
theorem ix_5_72 : lkp 72 (mI mi_5) = some (false, .iadd, 73, 0, 0) := rfl
theorem ix_5_73 : lkp 73 (mI mi_5) = some (false, .putfield 28, 76, 1, 1) := rfl
theorem ix_5_76 : lkp 76 (mI mi_5) = some (false, .return_, 77, 0, 0) := rfl
theorem ix_6_0 : lkp 0 (mI mi_6) = some (false, .iload_n 1, 1, 1, 0) := rfl
theorem ix_6_1 : lkp 1 (mI mi_6) = some (false, .ifCond .lt 18, 4, 0, 19) := rfl
theorem ix_6_4 : lkp 4 (mI mi_6) = some (false, .iload_n 1, 5, 1, 0) := rfl
theorem ix_6_5 : lkp 5 (mI mi_6) = some (false, .bipush 10, 7, 10, 0) := rfl
theorem ix_6_7 : lkp 7 (mI mi_6) = some (false, .if_icmp .ge 12, 10, 0, 19) := rfl
theorem ix_6_10 : lkp 10 (mI mi_6) = some (false, .aload_n 0, 11, 0, 0) := rfl
theorem ix_6_11 : lkp 11 (mI mi_6) = some (false, .getfield 9, 14, 1, 2) := rfl
theorem ix_6_14 : lkp 14 (mI mi_6) = some (false, .iload_n 1, 15, 1, 0) := rfl
theorem ix_6_15 : lkp 15 (mI mi_6) = some (false, .iaload, 16, 0, 0) := rfl
theorem ix_6_16 : lkp 16 (mI mi_6) = some (false, .goto 4, 19, 0, 20) := rfl
theorem ix_6_19 : lkp 19 (mI mi_6) = some (false, .iconst (-1), 20, 1, 1) := rfl
theorem ix_6_20 : lkp 20 (mI mi_6) = some (false, .ireturn, 21, 0, 0) := rfl
theorem ix_7_0 : lkp 0 (mI mi_7) = some (false, .iload_n 1, 1, 1, 0) := rfl
theorem ix_7_1 : lkp 1 (mI mi_7) = some (false, .ifCond .lt 18, 4, 0, 19) := rfl
theorem ix_7_4 : lkp 4 (mI mi_7) = some (false, .iload_n 1, 5, 1, 0) := rfl
theorem ix_7_5 : lkp 5 (mI mi_7) = some (false, .bipush 10, 7, 10, 0) := rfl
theorem ix_7_7 : lkp 7 (mI mi_7) = some (false, .if_icmp .ge 12, 10, 0, 19) := rfl
theorem ix_7_10 : lkp 10 (mI mi_7) = some (false, .aload_n 0, 11, 0, 0) := rfl
theorem ix_7_11 : lkp 11 (mI mi_7) = some (false, .getfield 21, 14, 1, 5) := rfl
theorem ix_7_14 : lkp 14 (mI mi_7) = some (false, .iload_n 1, 15, 1, 0) := rfl
theorem ix_7_15 : lkp 15 (mI mi_7) = some (false, .iaload, 16, 0, 0) := rfl
theorem ix_7_16 : lkp 16 (mI mi_7) = some (false, .goto 4, 19, 0, 20) := rfl
theorem ix_7_19 : lkp 19 (mI mi_7) = some (false, .iconst 0, 20, 0, 0) := rfl
theorem ix_7_20 : lkp 20 (mI mi_7) = some (false, .ireturn, 21, 0, 0) := rfl
theorem ix_8_0 : lkp 0 (mI mi_8) = some (false, .aload_n 0, 1, 0, 0) := rfl
theorem ix_8_1 : lkp 1 (mI mi_8) = some (false, .iload_n 1, 2, 1, 0) := rfl
theorem ix_8_2 : lkp 2 (mI mi_8) = some (false, .invokevirtual 37, 5, 10, 17) := rfl
theorem ix_8_5 : lkp 5 (mI mi_8) = some (false, .istore_n 2, 6, 2, 0) := rfl
theorem ix_8_6 : lkp 6 (mI mi_8) = some (false, .aload_n 0, 7, 0, 0) := rfl
theorem ix_8_7 : lkp 7 (mI mi_8) = some (false, .getfield 28, 10, 1, 1) := rfl
theorem ix_8_10 : lkp 10 (mI mi_8) = some (false, .istore_n 3, 11, 3, 0) := rfl
theorem ix_8_11 : lkp 11 (mI mi_8) = some (false, .iconst 0, 12, 0, 0) := rfl
theorem ix_8_12 : lkp 12 (mI mi_8) = some (false, .istore 4, 14, 4, 0) := rfl
theorem ix_8_14 : lkp 14 (mI mi_8) = some (true, .iload 4, 16, 4, 0) := rfl
theorem ix_8_16 : lkp 16 (mI mi_8) = some (false, .aload_n 0, 17, 0, 0) := rfl
theorem ix_8_17 : lkp 17 (mI mi_8) = some (false, .getfield 24, 20, 1, 0) := rfl
theorem ix_8_20 : lkp 20 (mI mi_8) = some (false, .if_icmp .ge 74, 23, 0, 94) := rfl
theorem ix_8_23 : lkp 23 (mI mi_8) = some (false, .iload 4, 25, 4, 0) := rfl
theorem ix_8_25 : lkp 25 (mI mi_8) = some (false, .bipush 10, 27, 10, 0) := rfl
theorem ix_8_27 : lkp 27 (mI mi_8) = some (false, .if_icmp .ge 67, 30, 0, 94) := rfl
theorem ix_8_30 : lkp 30 (mI mi_8) = some (false, .aload_n 0, 31, 0, 0) := rfl
theorem ix_8_31 : lkp 31 (mI mi_8) = some (false, .getfield 21, 34, 1, 5) := rfl
theorem ix_8_34 : lkp 34 (mI mi_8) = some (false, .iload 4, 36, 4, 0) := rfl
theorem ix_8_36 : lkp 36 (mI mi_8) = some (false, .iconst 0, 37, 0, 0) := rfl
theorem ix_8_37 : lkp 37 (mI mi_8) = some (false, .iastore, 38, 0, 0) := rfl
theorem ix_8_38 : lkp 38 (mI mi_8) = some (false, .aload_n 0, 39, 0, 0) := rfl
theorem ix_8_39 : lkp 39 (mI mi_8) = some (false, .getfield 15, 42, 1, 3) := rfl
theorem ix_8_42 : lkp 42 (mI mi_8) = some (false, .iload 4, 44, 4, 0) := rfl
theorem ix_8_44 : lkp 44 (mI mi_8) = some (false, .iaload, 45, 0, 0) := rfl
theorem ix_8_45 : lkp 45 (mI mi_8) = some (false, .iload_n 1, 46, 1, 0) := rfl
theorem ix_8_46 : lkp 46 (mI mi_8) = some (false, .if_icmp .ne 32, 49, 0, 78) := rfl
theorem ix_8_49 : lkp 49 (mI mi_8) = some (false, .iload_n 2, 50, 2, 0) := rfl
theorem ix_8_50 : lkp 50 (mI mi_8) = some (false, .ifCond .le 28, 53, 0, 78) := rfl
theorem ix_8_53 : lkp 53 (mI mi_8) = some (false, .aload_n 0, 54, 0, 0) := rfl
theorem ix_8_54 : lkp 54 (mI mi_8) = some (false, .getfield 21, 57, 1, 5) := rfl
theorem ix_8_57 : lkp 57 (mI mi_8) = some (false, .iload 4, 59, 4, 0) := rfl
theorem ix_8_59 : lkp 59 (mI mi_8) = some (false, .aload_n 0, 60, 0, 0) := rfl
theorem ix_8_60 : lkp 60 (mI mi_8) = some (false, .getfield 28, 63, 1, 1) := rfl
theorem ix_8_63 : lkp 63 (mI mi_8) = some (false, .i2l, 64, 0, 0) := rfl
theorem ix_8_64 : lkp 64 (mI mi_8) = some (false, .aload_n 0, 65, 0, 0) := rfl
theorem ix_8_65 : lkp 65 (mI mi_8) = some (false, .getfield 18, 68, 1, 4) := rfl
theorem ix_8_68 : lkp 68 (mI mi_8) = some (false, .iload 4, 70, 4, 0) := rfl
theorem ix_8_70 : lkp 70 (mI mi_8) = some (false, .iaload, 71, 0, 0) := rfl
theorem ix_8_71 : lkp 71 (mI mi_8) = some (false, .i2l, 72, 0, 0) := rfl
theorem ix_8_72 : lkp 72 (mI mi_8) = some (false, .lmul, 73, 0, 0) := rfl
theorem ix_8_73 : lkp 73 (mI mi_8) = some (false, .iload_n 2, 74, 2, 0) := rfl
theorem ix_8_74 : lkp 74 (mI mi_8) = some (false, .i2l, 75, 0, 0) := rfl
theorem ix_8_75 : lkp 75 (mI mi_8) = some (false, .ldiv, 76, 0, 0) := rfl
theorem ix_8_76 : lkp 76 (mI mi_8) = some (false, .l2i, 77, 0, 0) := rfl
theorem ix_8_77 : lkp 77 (mI mi_8) = some (false, .iastore, 78, 0, 0) := rfl
theorem ix_8_78 : lkp 78 (mI mi_8) = some (false, .iload_n 3, 79, 3, 0) := rfl
theorem ix_8_79 : lkp 79 (mI mi_8) = some (false, .aload_n 0, 80, 0, 0) := rfl
theorem ix_8_80 : lkp 80 (mI mi_8) = some (false, .getfield 21, 83, 1, 5) := rfl
theorem ix_8_83 : lkp 83 (mI mi_8) = some (false, .iload 4, 85, 4, 0) := rfl
theorem ix_8_85 : lkp 85 (mI mi_8) = some (false, .iaload, 86, 0, 0) := rfl
theorem ix_8_86 : lkp 86 (mI mi_8) = some (false, .isub, 87, 0, 0) := rfl
theorem ix_8_87 : lkp 87 (mI mi_8) = some (false, .istore_n 3, 88, 3, 0) := rfl
theorem ix_8_88 : lkp 88 (mI mi_8) = some (false, .iinc 4 1, 91, 4, 2) := rfl
theorem ix_8_91 : lkp 91 (mI mi_8) = some (false, .goto (-77), 94, 0, 14) := rfl
theorem ix_8_94 : lkp 94 (mI mi_8) = some (false, .iload_n 3, 95, 3, 0) := rfl
theorem ix_8_95 : lkp 95 (mI mi_8) = some (false, .ireturn, 96, 0, 0) := rfl
theorem ix_9_0 : lkp 0 (mI mi_9) = some (false, .aload_n 0, 1, 0, 0) := rfl
theorem ix_9_1 : lkp 1 (mI mi_9) = some (false, .getfield 28, 4, 1, 1) := rfl
theorem ix_9_4 : lkp 4 (mI mi_9) = some (false, .istore_n 1, 5, 1, 0) := rfl
theorem ix_9_5 : lkp 5 (mI mi_9) = some (false, .iconst 0, 6, 0, 0) := rfl
theorem ix_9_6 : lkp 6 (mI mi_9) = some (false, .istore_n 2, 7, 2, 0) := rfl
theorem ix_9_7 : lkp 7 (mI mi_9) = some (true, .iload_n 2, 8, 2, 0) := rfl
theorem ix_9_8 : lkp 8 (mI mi_9) = some (false, .aload_n 0, 9, 0, 0) := rfl
theorem ix_9_9 : lkp 9 (mI mi_9) = some (false, .getfield 24, 12, 1, 0) := rfl
theorem ix_9_12 : lkp 12 (mI mi_9) = some (false, .if_icmp .ge 24, 15, 0, 36) := rfl
theorem ix_9_15 : lkp 15 (mI mi_9) = some (false, .iload_n 2, 16, 2, 0) := rfl
theorem ix_9_16 : lkp 16 (mI mi_9) = some (false, .bipush 10, 18, 10, 0) := rfl
theorem ix_9_18 : lkp 18 (mI mi_9) = some (false, .if_icmp .ge 18, 21, 0, 36) := rfl
theorem ix_9_21 : lkp 21 (mI mi_9) = some (false, .iload_n 1, 22, 1, 0) := rfl
theorem ix_9_22 : lkp 22 (mI mi_9) = some (false, .aload_n 0, 23, 0, 0) := rfl
theorem ix_9_23 : lkp 23 (mI mi_9) = some (false, .getfield 21, 26, 1, 5) := rfl
theorem ix_9_26 : lkp 26 (mI mi_9) = some (false, .iload_n 2, 27, 2, 0) := rfl
theorem ix_9_27 : lkp 27 (mI mi_9) = some (false, .iaload, 28, 0, 0) := rfl
theorem ix_9_28 : lkp 28 (mI mi_9) = some (false, .isub, 29, 0, 0) := rfl
theorem ix_9_29 : lkp 29 (mI mi_9) = some (false, .istore_n 1, 30, 1, 0) := rfl
theorem ix_9_30 : lkp 30 (mI mi_9) = some (false, .iinc 2 1, 33, 2, 2) := rfl
theorem ix_9_33 : lkp 33 (mI mi_9) = some (false, .goto (-26), 36, 0, 7) := rfl
theorem ix_9_36 : lkp 36 (mI mi_9) = some (false, .iload_n 1, 37, 1, 0) := rfl
theorem ix_9_37 : lkp 37 (mI mi_9) = some (false, .ireturn, 38, 0, 0) := rfl
theorem ix_10_0 : lkp 0 (mI mi_10) = some (false, .iconst 0, 1, 0, 0) := rfl
theorem ix_10_1 : lkp 1 (mI mi_10) = some (false, .istore_n 2, 2, 2, 0) := rfl
theorem ix_10_2 : lkp 2 (mI mi_10) = some (false, .iconst 0, 3, 0, 0) := rfl
theorem ix_10_3 : lkp 3 (mI mi_10) = some (false, .istore_n 3, 4, 3, 0) := rfl
theorem ix_10_4 : lkp 4 (mI mi_10) = some (true, .iload_n 3, 5, 3, 0) := rfl
theorem ix_10_5 : lkp 5 (mI mi_10) = some (false, .aload_n 0, 6, 0, 0) := rfl
theorem ix_10_6 : lkp 6 (mI mi_10) = some (false, .getfield 24, 9, 1, 0) := rfl
theorem ix_10_9 : lkp 9 (mI mi_10) = some (false, .if_icmp .ge 38, 12, 0, 47) := rfl
theorem ix_10_12 : lkp 12 (mI mi_10) = some (false, .iload_n 3, 13, 3, 0) := rfl
theorem ix_10_13 : lkp 13 (mI mi_10) = some (false, .bipush 10, 15, 10, 0) := rfl
theorem ix_10_15 : lkp 15 (mI mi_10) = some (false, .if_icmp .ge 32, 18, 0, 47) := rfl
theorem ix_10_18 : lkp 18 (mI mi_10) = some (false, .iload_n 2, 19, 2, 0) := rfl
theorem ix_10_19 : lkp 19 (mI mi_10) = some (false, .aload_n 0, 20, 0, 0) := rfl
theorem ix_10_20 : lkp 20 (mI mi_10) = some (false, .getfield 15, 23, 1, 3) := rfl
theorem ix_10_23 : lkp 23 (mI mi_10) = some (false, .iload_n 3, 24, 3, 0) := rfl
theorem ix_10_24 : lkp 24 (mI mi_10) = some (false, .iaload, 25, 0, 0) := rfl
theorem ix_10_25 : lkp 25 (mI mi_10) = some (false, .iload_n 1, 26, 1, 0) := rfl
theorem ix_10_26 : lkp 26 (mI mi_10) = some (false, .if_icmp .ne 12, 29, 0, 38) := rfl
theorem ix_10_29 : lkp 29 (mI mi_10) = some (false, .aload_n 0, 30, 0, 0) := rfl
theorem ix_10_30 : lkp 30 (mI mi_10) = some (false, .getfield 18, 33, 1, 4) := rfl
theorem ix_10_33 : lkp 33 (mI mi_10) = some (false, .iload_n 3, 34, 3, 0) := rfl
theorem ix_10_34 : lkp 34 (mI mi_10) = some (false, .iaload, 35, 0, 0) := rfl
theorem ix_10_35 : lkp 35 (mI mi_10) = some (false, .goto 4, 38, 0, 39) := rfl
theorem ix_10_38 : lkp 38 (mI mi_10) = some (false, .iconst 0, 39, 0, 0) := rfl
theorem ix_10_39 : lkp 39 (mI mi_10) = some (false, .iadd, 40, 0, 0) := rfl
theorem ix_10_40 : lkp 40 (mI mi_10) = some (false, .istore_n 2, 41, 2, 0) := rfl
theorem ix_10_41 : lkp 41 (mI mi_10) = some (false, .iinc 3 1, 44, 3, 2) := rfl
theorem ix_10_44 : lkp 44 (mI mi_10) = some (false, .goto (-40), 47, 0, 4) := rfl
theorem ix_10_47 : lkp 47 (mI mi_10) = some (false, .iload_n 2, 48, 2, 0) := rfl
theorem ix_10_48 : lkp 48 (mI mi_10) = some (false, .ireturn, 49, 0, 0) := rfl
theorem ix_11_0 : lkp 0 (mI mi_11) = some (false, .aload_n 0, 1, 0, 0) := rfl
theorem ix_11_1 : lkp 1 (mI mi_11) = some (false, .bipush 97, 3, 97, 0) := rfl
theorem ix_11_3 : lkp 3 (mI mi_11) = some (false, .iload_n 1, 4, 1, 0) := rfl
theorem ix_11_4 : lkp 4 (mI mi_11) = some (false, .invokespecial 1, 7, 15, 2) := rfl
theorem ix_11_7 : lkp 7 (mI mi_11) = some (false, .aload_n 0, 8, 0, 0) := rfl
theorem ix_11_8 : lkp 8 (mI mi_11) = some (false, .iload_n 2, 9, 2, 0) := rfl
theorem ix_11_9 : lkp 9 (mI mi_11) = some (false, .putfield 7, 12, 2, 130) := rfl
theorem ix_11_12 : lkp 12 (mI mi_11) = some (false, .return_, 13, 0, 0) := rfl
theorem ix_12_0 : lkp 0 (mI mi_12) = some (false, .aload_n 1, 1, 1, 0) := rfl
theorem ix_12_1 : lkp 1 (mI mi_12) = some (false, .aload_n 0, 2, 0, 0) := rfl
theorem ix_12_2 : lkp 2 (mI mi_12) = some (false, .getfield 13, 5, 2, 1) := rfl
theorem ix_12_5 : lkp 5 (mI mi_12) = some (false, .invokevirtual 17, 8, 57, 113) := rfl
theorem ix_12_8 : lkp 8 (mI mi_12) = some (false, .astore_n 2, 9, 2, 0) := rfl
theorem ix_12_9 : lkp 9 (mI mi_12) = some (false, .aload_n 2, 10, 2, 0) := rfl
theorem ix_12_10 : lkp 10 (mI mi_12) = some (false, .ifnull 16, 13, 0, 26) := rfl
theorem ix_12_13 : lkp 13 (mI mi_12) = some (false, .aload_n 1, 14, 1, 0) := rfl
theorem ix_12_14 : lkp 14 (mI mi_12) = some (false, .aload_n 2, 15, 2, 0) := rfl
theorem ix_12_15 : lkp 15 (mI mi_12) = some (false, .invokevirtual 23, 18, 64, 113) := rfl
theorem ix_12_18 : lkp 18 (mI mi_12) = some (false, .aload_n 2, 19, 2, 0) := rfl
theorem ix_12_19 : lkp 19 (mI mi_12) = some (false, .aload_n 0, 20, 0, 0) := rfl
theorem ix_12_20 : lkp 20 (mI mi_12) = some (false, .getfield 7, 23, 2, 2) := rfl
theorem ix_12_23 : lkp 23 (mI mi_12) = some (false, .invokevirtual 27, 26, 40, 65) := rfl
theorem ix_12_26 : lkp 26 (mI mi_12) = some (false, .return_, 27, 0, 0) := rfl
theorem ix_13_0 : lkp 0 (mI mi_13) = some (false, .aload_n 0, 1, 0, 0) := rfl
theorem ix_13_1 : lkp 1 (mI mi_13) = some (false, .bipush 98, 3, 98, 0) := rfl
theorem ix_13_3 : lkp 3 (mI mi_13) = some (false, .iload_n 1, 4, 1, 0) := rfl
theorem ix_13_4 : lkp 4 (mI mi_13) = some (false, .invokespecial 1, 7, 15, 2) := rfl
theorem ix_13_7 : lkp 7 (mI mi_13) = some (false, .aload_n 0, 8, 0, 0) := rfl
theorem ix_13_8 : lkp 8 (mI mi_13) = some (false, .iload_n 2, 9, 2, 0) := rfl
theorem ix_13_9 : lkp 9 (mI mi_13) = some (false, .putfield 7, 12, 3, 2) := rfl
theorem ix_13_12 : lkp 12 (mI mi_13) = some (false, .aload_n 0, 13, 0, 0) := rfl
theorem ix_13_13 : lkp 13 (mI mi_13) = some (false, .iload_n 3, 14, 3, 0) := rfl
theorem ix_13_14 : lkp 14 (mI mi_13) = some (false, .putfield 13, 17, 3, 3) := rfl
theorem ix_13_17 : lkp 17 (mI mi_13) = some (false, .aload_n 0, 18, 0, 0) := rfl
theorem ix_13_18 : lkp 18 (mI mi_13) = some (false, .iload 4, 20, 4, 0) := rfl
theorem ix_13_20 : lkp 20 (mI mi_13) = some (false, .putfield 16, 23, 3, 4) := rfl
theorem ix_13_23 : lkp 23 (mI mi_13) = some (false, .return_, 24, 0, 0) := rfl
theorem ix_14_0 : lkp 0 (mI mi_14) = some (false, .aload_n 1, 1, 1, 0) := rfl
theorem ix_14_1 : lkp 1 (mI mi_14) = some (false, .aload_n 0, 2, 0, 0) := rfl
theorem ix_14_2 : lkp 2 (mI mi_14) = some (false, .getfield 19, 5, 3, 1) := rfl
theorem ix_14_5 : lkp 5 (mI mi_14) = some (false, .invokevirtual 22, 8, 57, 113) := rfl
theorem ix_14_8 : lkp 8 (mI mi_14) = some (false, .astore_n 2, 9, 2, 0) := rfl
theorem ix_14_9 : lkp 9 (mI mi_14) = some (false, .aload_n 2, 10, 2, 0) := rfl
theorem ix_14_10 : lkp 10 (mI mi_14) = some (false, .ifnull 20, 13, 0, 30) := rfl
theorem ix_14_13 : lkp 13 (mI mi_14) = some (false, .aload_n 1, 14, 1, 0) := rfl
theorem ix_14_14 : lkp 14 (mI mi_14) = some (false, .aload_n 2, 15, 2, 0) := rfl
theorem ix_14_15 : lkp 15 (mI mi_14) = some (false, .aload_n 0, 16, 0, 0) := rfl
theorem ix_14_16 : lkp 16 (mI mi_14) = some (false, .getfield 7, 19, 3, 2) := rfl
theorem ix_14_19 : lkp 19 (mI mi_14) = some (false, .aload_n 0, 20, 0, 0) := rfl
theorem ix_14_20 : lkp 20 (mI mi_14) = some (false, .getfield 13, 23, 3, 3) := rfl
theorem ix_14_23 : lkp 23 (mI mi_14) = some (false, .aload_n 0, 24, 0, 0) := rfl
theorem ix_14_24 : lkp 24 (mI mi_14) = some (false, .getfield 16, 27, 3, 4) := rfl
theorem ix_14_27 : lkp 27 (mI mi_14) = some (false, .invokevirtual 28, 30, 62, 116) := rfl
theorem ix_14_30 : lkp 30 (mI mi_14) = some (false, .return_, 31, 0, 0) := rfl
theorem ix_15_0 : lkp 0 (mI mi_15) = some (false, .aload_n 0, 1, 0, 0) := rfl
theorem ix_15_1 : lkp 1 (mI mi_15) = some (false, .invokespecial 1, 4, 0, 0) := rfl
theorem ix_15_4 : lkp 4 (mI mi_15) = some (false, .aload_n 0, 5, 0, 0) := rfl
theorem ix_15_5 : lkp 5 (mI mi_15) = some (false, .iload_n 1, 6, 1, 0) := rfl
theorem ix_15_6 : lkp 6 (mI mi_15) = some (false, .putfield 7, 9, 50, 128) := rfl
theorem ix_15_9 : lkp 9 (mI mi_15) = some (false, .aload_n 0, 10, 0, 0) := rfl
theorem ix_15_10 : lkp 10 (mI mi_15) = some (false, .iload_n 2, 11, 2, 0) := rfl
theorem ix_15_11 : lkp 11 (mI mi_15) = some (false, .putfield 13, 14, 50, 1) := rfl
theorem ix_15_14 : lkp 14 (mI mi_15) = some (false, .return_, 15, 0, 0) := rfl
theorem ix_16_0 : lkp 0 (mI mi_16) = some (false, .aload_n 0, 1, 0, 0) := rfl
theorem ix_16_1 : lkp 1 (mI mi_16) = some (false, .invokespecial 3, 4, 0, 0) := rfl
theorem ix_16_4 : lkp 4 (mI mi_16) = some (false, .aload_n 0, 5, 0, 0) := rfl
theorem ix_16_5 : lkp 5 (mI mi_16) = some (false, .aload_n 1, 6, 1, 0) := rfl
theorem ix_16_6 : lkp 6 (mI mi_16) = some (false, .putfield 9, 9, 4, 192) := rfl
theorem ix_16_9 : lkp 9 (mI mi_16) = some (false, .aload_n 0, 10, 0, 0) := rfl
theorem ix_16_10 : lkp 10 (mI mi_16) = some (false, .bipush 28, 12, 28, 0) := rfl
theorem ix_16_12 : lkp 12 (mI mi_16) = some (false, .newarray .int, 14, 0, 0) := rfl
theorem ix_16_14 : lkp 14 (mI mi_16) = some (false, .putfield 15, 17, 4, 193) := rfl
theorem ix_16_17 : lkp 17 (mI mi_16) = some (false, .aload_n 0, 18, 0, 0) := rfl
theorem ix_16_18 : lkp 18 (mI mi_16) = some (false, .iconst 4, 19, 4, 0) := rfl
theorem ix_16_19 : lkp 19 (mI mi_16) = some (false, .newarray .int, 21, 0, 0) := rfl
theorem ix_16_21 : lkp 21 (mI mi_16) = some (false, .putfield 19, 24, 4, 195) := rfl
theorem ix_16_24 : lkp 24 (mI mi_16) = some (false, .aload_n 0, 25, 0, 0) := rfl
theorem ix_16_25 : lkp 25 (mI mi_16) = some (false, .bipush 29, 27, 29, 0) := rfl
theorem ix_16_27 : lkp 27 (mI mi_16) = some (false, .newarray .int, 29, 0, 0) := rfl
theorem ix_16_29 : lkp 29 (mI mi_16) = some (false, .putfield 22, 32, 4, 196) := rfl
theorem ix_16_32 : lkp 32 (mI mi_16) = some (false, .aload_n 0, 33, 0, 0) := rfl
theorem ix_16_33 : lkp 33 (mI mi_16) = some (false, .new 25, 36, 1, 6) := rfl
theorem ix_16_36 : lkp 36 (mI mi_16) = some (false, .dup, 37, 0, 0) := rfl
theorem ix_16_37 : lkp 37 (mI mi_16) = some (false, .invokespecial 27, 40, 1, 0) := rfl
theorem ix_16_40 : lkp 40 (mI mi_16) = some (false, .putfield 28, 43, 4, 205) := rfl
theorem ix_16_43 : lkp 43 (mI mi_16) = some (false, .return_, 44, 0, 0) := rfl
theorem ix_17_0 : lkp 0 (mI mi_17) = some (false, .aload_n 0, 1, 0, 0) := rfl
theorem ix_17_1 : lkp 1 (mI mi_17) = some (false, .aload_n 1, 2, 1, 0) := rfl
theorem ix_17_2 : lkp 2 (mI mi_17) = some (false, .putfield 9, 5, 4, 192) := rfl
theorem ix_17_5 : lkp 5 (mI mi_17) = some (false, .aload_n 0, 6, 0, 0) := rfl
theorem ix_17_6 : lkp 6 (mI mi_17) = some (false, .iload_n 2, 7, 2, 0) := rfl
theorem ix_17_7 : lkp 7 (mI mi_17) = some (false, .invokevirtual 32, 10, 18, 65) := rfl
theorem ix_17_10 : lkp 10 (mI mi_17) = some (false, .aload_n 0, 11, 0, 0) := rfl
theorem ix_17_11 : lkp 11 (mI mi_17) = some (false, .invokevirtual 36, 14, 19, 64) := rfl
theorem ix_17_14 : lkp 14 (mI mi_17) = some (false, .aload_n 0, 15, 0, 0) := rfl
theorem ix_17_15 : lkp 15 (mI mi_17) = some (false, .iconst 0, 16, 0, 0) := rfl
theorem ix_17_16 : lkp 16 (mI mi_17) = some (false, .putfield 39, 19, 4, 5) := rfl
theorem ix_17_19 : lkp 19 (mI mi_17) = some (false, .aload_n 0, 20, 0, 0) := rfl
theorem ix_17_20 : lkp 20 (mI mi_17) = some (false, .iconst 0, 21, 0, 0) := rfl
theorem ix_17_21 : lkp 21 (mI mi_17) = some (false, .putfield 43, 24, 4, 6) := rfl
theorem ix_17_24 : lkp 24 (mI mi_17) = some (false, .aload_n 0, 25, 0, 0) := rfl
theorem ix_17_25 : lkp 25 (mI mi_17) = some (false, .iconst (-1), 26, 1, 1) := rfl
theorem ix_17_26 : lkp 26 (mI mi_17) = some (false, .putfield 46, 29, 4, 7) := rfl
theorem ix_17_29 : lkp 29 (mI mi_17) = some (false, .aload_n 0, 30, 0, 0) := rfl
theorem ix_17_30 : lkp 30 (mI mi_17) = some (false, .iconst 0, 31, 0, 0) := rfl
theorem ix_17_31 : lkp 31 (mI mi_17) = some (false, .putfield 49, 34, 4, 8) := rfl
theorem ix_17_34 : lkp 34 (mI mi_17) = some (false, .aload_n 0, 35, 0, 0) := rfl
theorem ix_17_35 : lkp 35 (mI mi_17) = some (false, .iconst 0, 36, 0, 0) := rfl
theorem ix_17_36 : lkp 36 (mI mi_17) = some (false, .putfield 52, 39, 4, 73) := rfl
theorem ix_17_39 : lkp 39 (mI mi_17) = some (false, .aload_n 0, 40, 0, 0) := rfl
theorem ix_17_40 : lkp 40 (mI mi_17) = some (false, .bipush (-2), 42, 2, 1) := rfl
theorem ix_17_42 : lkp 42 (mI mi_17) = some (false, .putfield 56, 45, 4, 10) := rfl
theorem ix_17_45 : lkp 45 (mI mi_17) = some (false, .aload_n 0, 46, 0, 0) := rfl
theorem ix_17_46 : lkp 46 (mI mi_17) = some (false, .aload_n 1, 47, 1, 0) := rfl
theorem ix_17_47 : lkp 47 (mI mi_17) = some (false, .getfield 59, 50, 6, 4) := rfl
theorem ix_17_50 : lkp 50 (mI mi_17) = some (false, .putfield 65, 53, 4, 139) := rfl
theorem ix_17_53 : lkp 53 (mI mi_17) = some (false, .aload_n 0, 54, 0, 0) := rfl
theorem ix_17_54 : lkp 54 (mI mi_17) = some (false, .iconst 0, 55, 0, 0) := rfl
theorem ix_17_55 : lkp 55 (mI mi_17) = some (false, .putfield 66, 58, 4, 12) := rfl
theorem ix_17_58 : lkp 58 (mI mi_17) = some (false, .aload_n 0, 59, 0, 0) := rfl
theorem ix_17_59 : lkp 59 (mI mi_17) = some (false, .getfield 28, 62, 4, 13) := rfl
theorem ix_17_62 : lkp 62 (mI mi_17) = some (false, .invokevirtual 69, 65, 2, 16) := rfl
theorem ix_17_65 : lkp 65 (mI mi_17) = some (false, .return_, 66, 0, 0) := rfl
theorem ix_18_0 : lkp 0 (mI mi_18) = some (false, .iconst 0, 1, 0, 0) := rfl
theorem ix_18_1 : lkp 1 (mI mi_18) = some (false, .istore_n 2, 2, 2, 0) := rfl
theorem ix_18_2 : lkp 2 (mI mi_18) = some (true, .iload_n 2, 3, 2, 0) := rfl
theorem ix_18_3 : lkp 3 (mI mi_18) = some (false, .aload_n 0, 4, 0, 0) := rfl
theorem ix_18_4 : lkp 4 (mI mi_18) = some (false, .getfield 9, 7, 4, 0) := rfl
theorem ix_18_7 : lkp 7 (mI mi_18) = some (false, .getfield 72, 10, 6, 5) := rfl
theorem ix_18_10 : lkp 10 (mI mi_18) = some (false, .if_icmp .ge 22, 13, 0, 32) := rfl
theorem ix_18_13 : lkp 13 (mI mi_18) = some (false, .iload_n 2, 14, 2, 0) := rfl
theorem ix_18_14 : lkp 14 (mI mi_18) = some (false, .bipush 28, 16, 28, 0) := rfl
theorem ix_18_16 : lkp 16 (mI mi_18) = some (false, .if_icmp .ge 16, 19, 0, 32) := rfl
theorem ix_18_19 : lkp 19 (mI mi_18) = some (false, .aload_n 0, 20, 0, 0) := rfl
theorem ix_18_20 : lkp 20 (mI mi_18) = some (false, .getfield 15, 23, 4, 1) := rfl
theorem ix_18_23 : lkp 23 (mI mi_18) = some (false, .iload_n 2, 24, 2, 0) := rfl
theorem ix_18_24 : lkp 24 (mI mi_18) = some (false, .iload_n 2, 25, 2, 0) := rfl
theorem ix_18_25 : lkp 25 (mI mi_18) = some (false, .iastore, 26, 0, 0) := rfl
theorem ix_18_26 : lkp 26 (mI mi_18) = some (false, .iinc 2 1, 29, 2, 2) := rfl
theorem ix_18_29 : lkp 29 (mI mi_18) = some (false, .goto (-27), 32, 0, 2) := rfl
theorem ix_18_32 : lkp 32 (mI mi_18) = some (false, .iload_n 1, 33, 1, 0) := rfl
theorem ix_18_33 : lkp 33 (mI mi_18) = some (false, .i2l, 34, 0, 0) := rfl
theorem ix_18_34 : lkp 34 (mI mi_18) = some (false, .lstore_n 2, 35, 2, 0) := rfl
theorem ix_18_35 : lkp 35 (mI mi_18) = some (false, .aload_n 0, 36, 0, 0) := rfl
theorem ix_18_36 : lkp 36 (mI mi_18) = some (false, .getfield 9, 39, 4, 0) := rfl
theorem ix_18_39 : lkp 39 (mI mi_18) = some (false, .getfield 72, 42, 6, 5) := rfl
theorem ix_18_42 : lkp 42 (mI mi_18) = some (false, .bipush 28, 44, 28, 0) := rfl
theorem ix_18_44 : lkp 44 (mI mi_18) = some (false, .invokestatic 75, 47, 1004, 2) := rfl
theorem ix_18_47 : lkp 47 (mI mi_18) = some (false, .iconst 1, 48, 1, 0) := rfl
theorem ix_18_48 : lkp 48 (mI mi_18) = some (false, .isub, 49, 0, 0) := rfl
theorem ix_18_49 : lkp 49 (mI mi_18) = some (false, .istore 4, 51, 4, 0) := rfl
theorem ix_18_51 : lkp 51 (mI mi_18) = some (true, .iload 4, 53, 4, 0) := rfl
theorem ix_18_53 : lkp 53 (mI mi_18) = some (false, .iconst 1, 54, 1, 0) := rfl
theorem ix_18_54 : lkp 54 (mI mi_18) = some (false, .if_icmp .lt 81, 57, 0, 135) := rfl
theorem ix_18_57 : lkp 57 (mI mi_18) = some (false, .lload_n 2, 58, 2, 0) := rfl
theorem ix_18_58 : lkp 58 (mI mi_18) = some (false, .ldc2_w 81, 61, 1103515245, 0) := rfl
theorem ix_18_61 : lkp 61 (mI mi_18) = some (false, .lmul, 62, 0, 0) := rfl
theorem ix_18_62 : lkp 62 (mI mi_18) = some (false, .ldc2_w 83, 65, 12345, 0) := rfl
theorem ix_18_65 : lkp 65 (mI mi_18) = some (false, .ladd, 66, 0, 0) := rfl
theorem ix_18_66 : lkp 66 (mI mi_18) = some (false, .ldc2_w 85, 69, 2147483648, 0) := rfl
theorem ix_18_69 : lkp 69 (mI mi_18) = some (false, .lrem, 70, 0, 0) := rfl
theorem ix_18_70 : lkp 70 (mI mi_18) = some (false, .lstore_n 2, 71, 2, 0) := rfl
theorem ix_18_71 : lkp 71 (mI mi_18) = some (false, .lload_n 2, 72, 2, 0) := rfl
theorem ix_18_72 : lkp 72 (mI mi_18) = some (false, .ldc2_w 87, 75, 65536, 0) := rfl
theorem ix_18_75 : lkp 75 (mI mi_18) = some (false, .ldiv, 76, 0, 0) := rfl
theorem ix_18_76 : lkp 76 (mI mi_18) = some (false, .iload 4, 78, 4, 0) := rfl
theorem ix_18_78 : lkp 78 (mI mi_18) = some (false, .iconst 1, 79, 1, 0) := rfl
theorem ix_18_79 : lkp 79 (mI mi_18) = some (false, .iadd, 80, 0, 0) := rfl
theorem ix_18_80 : lkp 80 (mI mi_18) = some (false, .i2l, 81, 0, 0) := rfl
theorem ix_18_81 : lkp 81 (mI mi_18) = some (false, .lrem, 82, 0, 0) := rfl
theorem ix_18_82 : lkp 82 (mI mi_18) = some (false, .l2i, 83, 0, 0) := rfl
theorem ix_18_83 : lkp 83 (mI mi_18) = some (false, .istore 5, 85, 5, 0) := rfl
theorem ix_18_85 : lkp 85 (mI mi_18) = some (false, .iload 5, 87, 5, 0) := rfl
theorem ix_18_87 : lkp 87 (mI mi_18) = some (false, .ifCond .lt 42, 90, 0, 129) := rfl
theorem ix_18_90 : lkp 90 (mI mi_18) = some (false, .iload 5, 92, 5, 0) := rfl
theorem ix_18_92 : lkp 92 (mI mi_18) = some (false, .iload 4, 94, 4, 0) := rfl
theorem ix_18_94 : lkp 94 (mI mi_18) = some (false, .if_icmp .gt 35, 97, 0, 129) := rfl
theorem ix_18_97 : lkp 97 (mI mi_18) = some (false, .aload_n 0, 98, 0, 0) := rfl
theorem ix_18_98 : lkp 98 (mI mi_18) = some (false, .getfield 15, 101, 4, 1) := rfl
theorem ix_18_101 : lkp 101 (mI mi_18) = some (false, .iload 4, 103, 4, 0) := rfl
theorem ix_18_103 : lkp 103 (mI mi_18) = some (false, .iaload, 104, 0, 0) := rfl
theorem ix_18_104 : lkp 104 (mI mi_18) = some (false, .istore 6, 106, 6, 0) := rfl
theorem ix_18_106 : lkp 106 (mI mi_18) = some (false, .aload_n 0, 107, 0, 0) := rfl
theorem ix_18_107 : lkp 107 (mI mi_18) = some (false, .getfield 15, 110, 4, 1) := rfl
theorem ix_18_110 : lkp 110 (mI mi_18) = some (false, .iload 4, 112, 4, 0) := rfl
theorem ix_18_112 : lkp 112 (mI mi_18) = some (false, .aload_n 0, 113, 0, 0) := rfl
theorem ix_18_113 : lkp 113 (mI mi_18) = some (false, .getfield 15, 116, 4, 1) := rfl
theorem ix_18_116 : lkp 116 (mI mi_18) = some (false, .iload 5, 118, 5, 0) := rfl
theorem ix_18_118 : lkp 118 (mI mi_18) = some (false, .iaload, 119, 0, 0) := rfl
theorem ix_18_119 : lkp 119 (mI mi_18) = some (false, .iastore, 120, 0, 0) := rfl
theorem ix_18_120 : lkp 120 (mI mi_18) = some (false, .aload_n 0, 121, 0, 0) := rfl
theorem ix_18_121 : lkp 121 (mI mi_18) = some (false, .getfield 15, 124, 4, 1) := rfl
theorem ix_18_124 : lkp 124 (mI mi_18) = some (false, .iload 5, 126, 5, 0) := rfl
theorem ix_18_126 : lkp 126 (mI mi_18) = some (false, .iload 6, 128, 6, 0) := rfl
theorem ix_18_128 : lkp 128 (mI mi_18) = some (false, .iastore, 129, 0, 0) := rfl
theorem ix_18_129 : lkp 129 (mI mi_18) = some (false, .iinc 4 (-1), 132, 4, 3) := rfl
theorem ix_18_132 : lkp 132 (mI mi_18) = some (false, .goto (-81), 135, 0, 51) := rfl
theorem ix_18_135 : lkp 135 (mI mi_18) = some (false, .return_, 136, 0, 0) := rfl
theorem ix_19_0 : lkp 0 (mI mi_19) = some (false, .aload_n 0, 1, 0, 0) := rfl
theorem ix_19_1 : lkp 1 (mI mi_19) = some (false, .iconst 0, 2, 0, 0) := rfl
theorem ix_19_2 : lkp 2 (mI mi_19) = some (false, .putfield 89, 5, 4, 2) := rfl
theorem ix_19_5 : lkp 5 (mI mi_19) = some (false, .iconst 0, 6, 0, 0) := rfl
theorem ix_19_6 : lkp 6 (mI mi_19) = some (false, .istore_n 1, 7, 1, 0) := rfl
theorem ix_19_7 : lkp 7 (mI mi_19) = some (true, .iload_n 1, 8, 1, 0) := rfl
theorem ix_19_8 : lkp 8 (mI mi_19) = some (false, .aload_n 0, 9, 0, 0) := rfl
theorem ix_19_9 : lkp 9 (mI mi_19) = some (false, .getfield 9, 12, 4, 0) := rfl
theorem ix_19_12 : lkp 12 (mI mi_19) = some (false, .getfield 92, 15, 6, 1) := rfl
theorem ix_19_15 : lkp 15 (mI mi_19) = some (false, .if_icmp .ge 65, 18, 0, 80) := rfl
theorem ix_19_18 : lkp 18 (mI mi_19) = some (false, .iload_n 1, 19, 1, 0) := rfl
theorem ix_19_19 : lkp 19 (mI mi_19) = some (false, .iconst 4, 20, 4, 0) := rfl
theorem ix_19_20 : lkp 20 (mI mi_19) = some (false, .if_icmp .ge 60, 23, 0, 80) := rfl
theorem ix_19_23 : lkp 23 (mI mi_19) = some (false, .aload_n 0, 24, 0, 0) := rfl
theorem ix_19_24 : lkp 24 (mI mi_19) = some (false, .getfield 19, 27, 4, 3) := rfl
theorem ix_19_27 : lkp 27 (mI mi_19) = some (false, .iload_n 1, 28, 1, 0) := rfl
theorem ix_19_28 : lkp 28 (mI mi_19) = some (false, .iconst 0, 29, 0, 0) := rfl
theorem ix_19_29 : lkp 29 (mI mi_19) = some (false, .iastore, 30, 0, 0) := rfl
theorem ix_19_30 : lkp 30 (mI mi_19) = some (false, .iconst 0, 31, 0, 0) := rfl
theorem ix_19_31 : lkp 31 (mI mi_19) = some (false, .istore_n 2, 32, 2, 0) := rfl
theorem ix_19_32 : lkp 32 (mI mi_19) = some (true, .iload_n 2, 33, 2, 0) := rfl
theorem ix_19_33 : lkp 33 (mI mi_19) = some (false, .aload_n 0, 34, 0, 0) := rfl
theorem ix_19_34 : lkp 34 (mI mi_19) = some (false, .getfield 9, 37, 4, 0) := rfl
theorem ix_19_37 : lkp 37 (mI mi_19) = some (false, .getfield 95, 40, 6, 2) := rfl
theorem ix_19_40 : lkp 40 (mI mi_19) = some (false, .if_icmp .ge 34, 43, 0, 74) := rfl
theorem ix_19_43 : lkp 43 (mI mi_19) = some (false, .aload_n 0, 44, 0, 0) := rfl
theorem ix_19_44 : lkp 44 (mI mi_19) = some (false, .getfield 19, 47, 4, 3) := rfl
theorem ix_19_47 : lkp 47 (mI mi_19) = some (false, .iload_n 1, 48, 1, 0) := rfl
theorem ix_19_48 : lkp 48 (mI mi_19) = some (false, .dup2, 49, 0, 0) := rfl
theorem ix_19_49 : lkp 49 (mI mi_19) = some (false, .iaload, 50, 0, 0) := rfl
theorem ix_19_50 : lkp 50 (mI mi_19) = some (false, .iconst 1, 51, 1, 0) := rfl
theorem ix_19_51 : lkp 51 (mI mi_19) = some (false, .aload_n 0, 52, 0, 0) := rfl
theorem ix_19_52 : lkp 52 (mI mi_19) = some (false, .invokevirtual 98, 55, 32, 64) := rfl
theorem ix_19_55 : lkp 55 (mI mi_19) = some (false, .ishl, 56, 0, 0) := rfl
theorem ix_19_56 : lkp 56 (mI mi_19) = some (false, .ior, 57, 0, 0) := rfl
theorem ix_19_57 : lkp 57 (mI mi_19) = some (false, .iastore, 58, 0, 0) := rfl
theorem ix_19_58 : lkp 58 (mI mi_19) = some (false, .aload_n 0, 59, 0, 0) := rfl
theorem ix_19_59 : lkp 59 (mI mi_19) = some (false, .dup, 60, 0, 0) := rfl
theorem ix_19_60 : lkp 60 (mI mi_19) = some (false, .getfield 89, 63, 4, 2) := rfl
theorem ix_19_63 : lkp 63 (mI mi_19) = some (false, .iconst 1, 64, 1, 0) := rfl
theorem ix_19_64 : lkp 64 (mI mi_19) = some (false, .iadd, 65, 0, 0) := rfl
theorem ix_19_65 : lkp 65 (mI mi_19) = some (false, .putfield 89, 68, 4, 2) := rfl
theorem ix_19_68 : lkp 68 (mI mi_19) = some (false, .iinc 2 1, 71, 2, 2) := rfl
theorem ix_19_71 : lkp 71 (mI mi_19) = some (false, .goto (-39), 74, 0, 32) := rfl
theorem ix_19_74 : lkp 74 (mI mi_19) = some (false, .iinc 1 1, 77, 1, 2) := rfl
theorem ix_19_77 : lkp 77 (mI mi_19) = some (false, .goto (-70), 80, 0, 7) := rfl
theorem ix_19_80 : lkp 80 (mI mi_19) = some (false, .return_, 81, 0, 0) := rfl
theorem ix_20_0 : lkp 0 (mI mi_20) = some (false, .aload_n 0, 1, 0, 0) := rfl
theorem ix_20_1 : lkp 1 (mI mi_20) = some (false, .aload_n 1, 2, 1, 0) := rfl
theorem ix_20_2 : lkp 2 (mI mi_20) = some (false, .getfield 9, 5, 4, 0) := rfl
theorem ix_20_5 : lkp 5 (mI mi_20) = some (false, .putfield 9, 8, 4, 192) := rfl
theorem ix_20_8 : lkp 8 (mI mi_20) = some (false, .aload_n 1, 9, 1, 0) := rfl
theorem ix_20_9 : lkp 9 (mI mi_20) = some (false, .getfield 15, 12, 4, 1) := rfl
theorem ix_20_12 : lkp 12 (mI mi_20) = some (false, .iconst 0, 13, 0, 0) := rfl
theorem ix_20_13 : lkp 13 (mI mi_20) = some (false, .aload_n 0, 14, 0, 0) := rfl
theorem ix_20_14 : lkp 14 (mI mi_20) = some (false, .getfield 15, 17, 4, 1) := rfl
theorem ix_20_17 : lkp 17 (mI mi_20) = some (false, .iconst 0, 18, 0, 0) := rfl
theorem ix_20_18 : lkp 18 (mI mi_20) = some (false, .bipush 28, 20, 28, 0) := rfl
theorem ix_20_20 : lkp 20 (mI mi_20) = some (false, .invokestatic 102, 23, 1000, 5) := rfl
theorem ix_20_23 : lkp 23 (mI mi_20) = some (false, .aload_n 0, 24, 0, 0) := rfl
theorem ix_20_24 : lkp 24 (mI mi_20) = some (false, .aload_n 1, 25, 1, 0) := rfl
theorem ix_20_25 : lkp 25 (mI mi_20) = some (false, .getfield 89, 28, 4, 2) := rfl
theorem ix_20_28 : lkp 28 (mI mi_20) = some (false, .putfield 89, 31, 4, 2) := rfl
theorem ix_20_31 : lkp 31 (mI mi_20) = some (false, .aload_n 1, 32, 1, 0) := rfl
theorem ix_20_32 : lkp 32 (mI mi_20) = some (false, .getfield 19, 35, 4, 3) := rfl
theorem ix_20_35 : lkp 35 (mI mi_20) = some (false, .iconst 0, 36, 0, 0) := rfl
theorem ix_20_36 : lkp 36 (mI mi_20) = some (false, .aload_n 0, 37, 0, 0) := rfl
theorem ix_20_37 : lkp 37 (mI mi_20) = some (false, .getfield 19, 40, 4, 3) := rfl
theorem ix_20_40 : lkp 40 (mI mi_20) = some (false, .iconst 0, 41, 0, 0) := rfl
theorem ix_20_41 : lkp 41 (mI mi_20) = some (false, .iconst 4, 42, 4, 0) := rfl
theorem ix_20_42 : lkp 42 (mI mi_20) = some (false, .invokestatic 102, 45, 1000, 5) := rfl
theorem ix_20_45 : lkp 45 (mI mi_20) = some (false, .aload_n 1, 46, 1, 0) := rfl
theorem ix_20_46 : lkp 46 (mI mi_20) = some (false, .getfield 22, 49, 4, 4) := rfl
theorem ix_20_49 : lkp 49 (mI mi_20) = some (false, .iconst 0, 50, 0, 0) := rfl
theorem ix_20_50 : lkp 50 (mI mi_20) = some (false, .aload_n 0, 51, 0, 0) := rfl
theorem ix_20_51 : lkp 51 (mI mi_20) = some (false, .getfield 22, 54, 4, 4) := rfl
theorem ix_20_54 : lkp 54 (mI mi_20) = some (false, .iconst 0, 55, 0, 0) := rfl
theorem ix_20_55 : lkp 55 (mI mi_20) = some (false, .bipush 29, 57, 29, 0) := rfl
theorem ix_20_57 : lkp 57 (mI mi_20) = some (false, .invokestatic 102, 60, 1000, 5) := rfl
theorem ix_20_60 : lkp 60 (mI mi_20) = some (false, .aload_n 0, 61, 0, 0) := rfl
theorem ix_20_61 : lkp 61 (mI mi_20) = some (false, .aload_n 1, 62, 1, 0) := rfl
theorem ix_20_62 : lkp 62 (mI mi_20) = some (false, .getfield 39, 65, 4, 5) := rfl
theorem ix_20_65 : lkp 65 (mI mi_20) = some (false, .putfield 39, 68, 4, 5) := rfl
theorem ix_20_68 : lkp 68 (mI mi_20) = some (false, .aload_n 0, 69, 0, 0) := rfl
theorem ix_20_69 : lkp 69 (mI mi_20) = some (false, .aload_n 1, 70, 1, 0) := rfl
theorem ix_20_70 : lkp 70 (mI mi_20) = some (false, .getfield 43, 73, 4, 6) := rfl
theorem ix_20_73 : lkp 73 (mI mi_20) = some (false, .putfield 43, 76, 4, 6) := rfl
theorem ix_20_76 : lkp 76 (mI mi_20) = some (false, .aload_n 0, 77, 0, 0) := rfl
theorem ix_20_77 : lkp 77 (mI mi_20) = some (false, .aload_n 1, 78, 1, 0) := rfl
theorem ix_20_78 : lkp 78 (mI mi_20) = some (false, .getfield 46, 81, 4, 7) := rfl
theorem ix_20_81 : lkp 81 (mI mi_20) = some (false, .putfield 46, 84, 4, 7) := rfl
theorem ix_20_84 : lkp 84 (mI mi_20) = some (false, .aload_n 0, 85, 0, 0) := rfl
theorem ix_20_85 : lkp 85 (mI mi_20) = some (false, .aload_n 1, 86, 1, 0) := rfl
theorem ix_20_86 : lkp 86 (mI mi_20) = some (false, .getfield 49, 89, 4, 8) := rfl
theorem ix_20_89 : lkp 89 (mI mi_20) = some (false, .putfield 49, 92, 4, 8) := rfl
theorem ix_20_92 : lkp 92 (mI mi_20) = some (false, .aload_n 0, 93, 0, 0) := rfl
theorem ix_20_93 : lkp 93 (mI mi_20) = some (false, .aload_n 1, 94, 1, 0) := rfl
theorem ix_20_94 : lkp 94 (mI mi_20) = some (false, .getfield 52, 97, 4, 9) := rfl
theorem ix_20_97 : lkp 97 (mI mi_20) = some (false, .putfield 52, 100, 4, 73) := rfl
theorem ix_20_100 : lkp 100 (mI mi_20) = some (false, .aload_n 0, 101, 0, 0) := rfl
theorem ix_20_101 : lkp 101 (mI mi_20) = some (false, .aload_n 1, 102, 1, 0) := rfl
theorem ix_20_102 : lkp 102 (mI mi_20) = some (false, .getfield 56, 105, 4, 10) := rfl
theorem ix_20_105 : lkp 105 (mI mi_20) = some (false, .putfield 56, 108, 4, 10) := rfl
theorem ix_20_108 : lkp 108 (mI mi_20) = some (false, .aload_n 0, 109, 0, 0) := rfl
theorem ix_20_109 : lkp 109 (mI mi_20) = some (false, .aload_n 1, 110, 1, 0) := rfl
theorem ix_20_110 : lkp 110 (mI mi_20) = some (false, .getfield 65, 113, 4, 11) := rfl
theorem ix_20_113 : lkp 113 (mI mi_20) = some (false, .putfield 65, 116, 4, 139) := rfl
theorem ix_20_116 : lkp 116 (mI mi_20) = some (false, .aload_n 0, 117, 0, 0) := rfl
theorem ix_20_117 : lkp 117 (mI mi_20) = some (false, .aload_n 1, 118, 1, 0) := rfl
theorem ix_20_118 : lkp 118 (mI mi_20) = some (false, .getfield 66, 121, 4, 12) := rfl
theorem ix_20_121 : lkp 121 (mI mi_20) = some (false, .putfield 66, 124, 4, 12) := rfl
theorem ix_20_124 : lkp 124 (mI mi_20) = some (false, .aload_n 0, 125, 0, 0) := rfl
theorem ix_20_125 : lkp 125 (mI mi_20) = some (false, .getfield 28, 128, 4, 13) := rfl
theorem ix_20_128 : lkp 128 (mI mi_20) = some (false, .aload_n 1, 129, 1, 0) := rfl
theorem ix_20_129 : lkp 129 (mI mi_20) = some (false, .getfield 28, 132, 4, 13) := rfl
theorem ix_20_132 : lkp 132 (mI mi_20) = some (false, .invokevirtual 108, 135, 3, 17) := rfl
theorem ix_20_135 : lkp 135 (mI mi_20) = some (false, .return_, 136, 0, 0) := rfl
theorem ix_21_0 : lkp 0 (mI mi_21) = some (false, .aload_n 0, 1, 0, 0) := rfl
theorem ix_21_1 : lkp 1 (mI mi_21) = some (false, .getfield 9, 4, 4, 0) := rfl
theorem ix_21_4 : lkp 4 (mI mi_21) = some (false, .aload_n 1, 5, 1, 0) := rfl
theorem ix_21_5 : lkp 5 (mI mi_21) = some (false, .getfield 9, 8, 4, 0) := rfl
theorem ix_21_8 : lkp 8 (mI mi_21) = some (false, .if_acmp .ne 128, 11, 0, 136) := rfl
theorem ix_21_11 : lkp 11 (mI mi_21) = some (false, .aload_n 0, 12, 0, 0) := rfl
theorem ix_21_12 : lkp 12 (mI mi_21) = some (false, .getfield 89, 15, 4, 2) := rfl
theorem ix_21_15 : lkp 15 (mI mi_21) = some (false, .aload_n 1, 16, 1, 0) := rfl
theorem ix_21_16 : lkp 16 (mI mi_21) = some (false, .getfield 89, 19, 4, 2) := rfl
theorem ix_21_19 : lkp 19 (mI mi_21) = some (false, .if_icmp .ne 117, 22, 0, 136) := rfl
theorem ix_21_22 : lkp 22 (mI mi_21) = some (false, .aload_n 0, 23, 0, 0) := rfl
theorem ix_21_23 : lkp 23 (mI mi_21) = some (false, .getfield 39, 26, 4, 5) := rfl
theorem ix_21_26 : lkp 26 (mI mi_21) = some (false, .aload_n 1, 27, 1, 0) := rfl
theorem ix_21_27 : lkp 27 (mI mi_21) = some (false, .getfield 39, 30, 4, 5) := rfl
theorem ix_21_30 : lkp 30 (mI mi_21) = some (false, .if_icmp .ne 106, 33, 0, 136) := rfl
theorem ix_21_33 : lkp 33 (mI mi_21) = some (false, .aload_n 0, 34, 0, 0) := rfl
theorem ix_21_34 : lkp 34 (mI mi_21) = some (false, .getfield 43, 37, 4, 6) := rfl
theorem ix_21_37 : lkp 37 (mI mi_21) = some (false, .aload_n 1, 38, 1, 0) := rfl
theorem ix_21_38 : lkp 38 (mI mi_21) = some (false, .getfield 43, 41, 4, 6) := rfl
theorem ix_21_41 : lkp 41 (mI mi_21) = some (false, .if_icmp .ne 95, 44, 0, 136) := rfl
theorem ix_21_44 : lkp 44 (mI mi_21) = some (false, .aload_n 0, 45, 0, 0) := rfl
theorem ix_21_45 : lkp 45 (mI mi_21) = some (false, .getfield 46, 48, 4, 7) := rfl
theorem ix_21_48 : lkp 48 (mI mi_21) = some (false, .aload_n 1, 49, 1, 0) := rfl
theorem ix_21_49 : lkp 49 (mI mi_21) = some (false, .getfield 46, 52, 4, 7) := rfl
theorem ix_21_52 : lkp 52 (mI mi_21) = some (false, .if_icmp .ne 84, 55, 0, 136) := rfl
theorem ix_21_55 : lkp 55 (mI mi_21) = some (false, .aload_n 0, 56, 0, 0) := rfl
theorem ix_21_56 : lkp 56 (mI mi_21) = some (false, .getfield 49, 59, 4, 8) := rfl
theorem ix_21_59 : lkp 59 (mI mi_21) = some (false, .aload_n 1, 60, 1, 0) := rfl
theorem ix_21_60 : lkp 60 (mI mi_21) = some (false, .getfield 49, 63, 4, 8) := rfl
theorem ix_21_63 : lkp 63 (mI mi_21) = some (false, .if_icmp .ne 73, 66, 0, 136) := rfl
theorem ix_21_66 : lkp 66 (mI mi_21) = some (false, .aload_n 0, 67, 0, 0) := rfl
theorem ix_21_67 : lkp 67 (mI mi_21) = some (false, .getfield 52, 70, 4, 9) := rfl
theorem ix_21_70 : lkp 70 (mI mi_21) = some (false, .aload_n 1, 71, 1, 0) := rfl
theorem ix_21_71 : lkp 71 (mI mi_21) = some (false, .getfield 52, 74, 4, 9) := rfl
theorem ix_21_74 : lkp 74 (mI mi_21) = some (false, .if_icmp .ne 62, 77, 0, 136) := rfl
theorem ix_21_77 : lkp 77 (mI mi_21) = some (false, .aload_n 0, 78, 0, 0) := rfl
theorem ix_21_78 : lkp 78 (mI mi_21) = some (false, .getfield 56, 81, 4, 10) := rfl
theorem ix_21_81 : lkp 81 (mI mi_21) = some (false, .aload_n 1, 82, 1, 0) := rfl
theorem ix_21_82 : lkp 82 (mI mi_21) = some (false, .getfield 56, 85, 4, 10) := rfl
theorem ix_21_85 : lkp 85 (mI mi_21) = some (false, .if_icmp .ne 51, 88, 0, 136) := rfl
theorem ix_21_88 : lkp 88 (mI mi_21) = some (false, .aload_n 0, 89, 0, 0) := rfl
theorem ix_21_89 : lkp 89 (mI mi_21) = some (false, .getfield 65, 92, 4, 11) := rfl
theorem ix_21_92 : lkp 92 (mI mi_21) = some (false, .aload_n 1, 93, 1, 0) := rfl
theorem ix_21_93 : lkp 93 (mI mi_21) = some (false, .getfield 65, 96, 4, 11) := rfl
theorem ix_21_96 : lkp 96 (mI mi_21) = some (false, .if_icmp .ne 40, 99, 0, 136) := rfl
theorem ix_21_99 : lkp 99 (mI mi_21) = some (false, .aload_n 0, 100, 0, 0) := rfl
theorem ix_21_100 : lkp 100 (mI mi_21) = some (false, .getfield 66, 103, 4, 12) := rfl
theorem ix_21_103 : lkp 103 (mI mi_21) = some (false, .aload_n 1, 104, 1, 0) := rfl
theorem ix_21_104 : lkp 104 (mI mi_21) = some (false, .getfield 66, 107, 4, 12) := rfl
theorem ix_21_107 : lkp 107 (mI mi_21) = some (false, .if_icmp .ne 29, 110, 0, 136) := rfl
theorem ix_21_110 : lkp 110 (mI mi_21) = some (false, .aload_n 0, 111, 0, 0) := rfl
theorem ix_21_111 : lkp 111 (mI mi_21) = some (false, .aload_n 1, 112, 1, 0) := rfl
theorem ix_21_112 : lkp 112 (mI mi_21) = some (false, .invokevirtual 112, 115, 22, 65) := rfl
theorem ix_21_115 : lkp 115 (mI mi_21) = some (false, .ifCond .eq 21, 118, 0, 136) := rfl
theorem ix_21_118 : lkp 118 (mI mi_21) = some (false, .aload_n 0, 119, 0, 0) := rfl
theorem ix_21_119 : lkp 119 (mI mi_21) = some (false, .getfield 28, 122, 4, 13) := rfl
theorem ix_21_122 : lkp 122 (mI mi_21) = some (false, .aload_n 1, 123, 1, 0) := rfl
theorem ix_21_123 : lkp 123 (mI mi_21) = some (false, .getfield 28, 126, 4, 13) := rfl
theorem ix_21_126 : lkp 126 (mI mi_21) = some (false, .invokevirtual 116, 129, 4, 17) := rfl
theorem ix_21_129 : lkp 129 (mI mi_21) = some (false, .ifCond .eq 7, 132, 0, 136) := rfl
theorem ix_21_132 : lkp 132 (mI mi_21) = some (false, .iconst 1, 133, 1, 0) := rfl
theorem ix_21_133 : lkp 133 (mI mi_21) = some (false, .goto 4, 136, 0, 137) := rfl
theorem ix_21_136 : lkp 136 (mI mi_21) = some (false, .iconst 0, 137, 0, 0) := rfl
theorem ix_21_137 : lkp 137 (mI mi_21) = some (false, .ireturn, 138, 0, 1) := rfl
theorem ix_22_0 : lkp 0 (mI mi_22) = some (false, .iconst 1, 1, 1, 0) := rfl
theorem ix_22_1 : lkp 1 (mI mi_22) = some (false, .istore_n 2, 2, 2, 0) := rfl
theorem ix_22_2 : lkp 2 (mI mi_22) = some (false, .aload_n 0, 3, 0, 0) := rfl
theorem ix_22_3 : lkp 3 (mI mi_22) = some (false, .getfield 89, 6, 4, 2) := rfl
theorem ix_22_6 : lkp 6 (mI mi_22) = some (false, .istore_n 3, 7, 3, 0) := rfl
theorem ix_22_7 : lkp 7 (mI mi_22) = some (true, .iload_n 2, 8, 2, 0) := rfl
theorem ix_22_8 : lkp 8 (mI mi_22) = some (false, .ifCond .eq 51, 11, 0, 59) := rfl
theorem ix_22_11 : lkp 11 (mI mi_22) = some (false, .iload_n 3, 12, 3, 0) := rfl
theorem ix_22_12 : lkp 12 (mI mi_22) = some (false, .ifCond .lt 47, 15, 0, 59) := rfl
theorem ix_22_15 : lkp 15 (mI mi_22) = some (false, .iload_n 3, 16, 3, 0) := rfl
theorem ix_22_16 : lkp 16 (mI mi_22) = some (false, .aload_n 0, 17, 0, 0) := rfl
theorem ix_22_17 : lkp 17 (mI mi_22) = some (false, .getfield 9, 20, 4, 0) := rfl
theorem ix_22_20 : lkp 20 (mI mi_22) = some (false, .getfield 72, 23, 6, 5) := rfl
theorem ix_22_23 : lkp 23 (mI mi_22) = some (false, .if_icmp .ge 36, 26, 0, 59) := rfl
theorem ix_22_26 : lkp 26 (mI mi_22) = some (false, .iload_n 3, 27, 3, 0) := rfl
theorem ix_22_27 : lkp 27 (mI mi_22) = some (false, .bipush 28, 29, 28, 0) := rfl
theorem ix_22_29 : lkp 29 (mI mi_22) = some (false, .if_icmp .ge 30, 32, 0, 59) := rfl
theorem ix_22_32 : lkp 32 (mI mi_22) = some (false, .aload_n 0, 33, 0, 0) := rfl
theorem ix_22_33 : lkp 33 (mI mi_22) = some (false, .getfield 15, 36, 4, 1) := rfl
theorem ix_22_36 : lkp 36 (mI mi_22) = some (false, .iload_n 3, 37, 3, 0) := rfl
theorem ix_22_37 : lkp 37 (mI mi_22) = some (false, .iaload, 38, 0, 0) := rfl
theorem ix_22_38 : lkp 38 (mI mi_22) = some (false, .aload_n 1, 39, 1, 0) := rfl
theorem ix_22_39 : lkp 39 (mI mi_22) = some (false, .getfield 15, 42, 4, 1) := rfl
theorem ix_22_42 : lkp 42 (mI mi_22) = some (false, .iload_n 3, 43, 3, 0) := rfl
theorem ix_22_43 : lkp 43 (mI mi_22) = some (false, .iaload, 44, 0, 0) := rfl
theorem ix_22_44 : lkp 44 (mI mi_22) = some (false, .if_icmp .ne 7, 47, 0, 51) := rfl
theorem ix_22_47 : lkp 47 (mI mi_22) = some (false, .iconst 1, 48, 1, 0) := rfl
theorem ix_22_48 : lkp 48 (mI mi_22) = some (false, .goto 4, 51, 0, 52) := rfl
theorem ix_22_51 : lkp 51 (mI mi_22) = some (false, .iconst 0, 52, 0, 0) := rfl
theorem ix_22_52 : lkp 52 (mI mi_22) = some (false, .istore_n 2, 53, 2, 0) := rfl
theorem ix_22_53 : lkp 53 (mI mi_22) = some (false, .iinc 3 1, 56, 3, 2) := rfl
theorem ix_22_56 : lkp 56 (mI mi_22) = some (false, .goto (-49), 59, 0, 7) := rfl
theorem ix_22_59 : lkp 59 (mI mi_22) = some (false, .iconst 0, 60, 0, 0) := rfl
theorem ix_22_60 : lkp 60 (mI mi_22) = some (false, .istore_n 3, 61, 3, 0) := rfl
theorem ix_22_61 : lkp 61 (mI mi_22) = some (true, .iload_n 2, 62, 2, 0) := rfl
theorem ix_22_62 : lkp 62 (mI mi_22) = some (false, .ifCond .eq 46, 65, 0, 108) := rfl
theorem ix_22_65 : lkp 65 (mI mi_22) = some (false, .iload_n 3, 66, 3, 0) := rfl
theorem ix_22_66 : lkp 66 (mI mi_22) = some (false, .aload_n 0, 67, 0, 0) := rfl
theorem ix_22_67 : lkp 67 (mI mi_22) = some (false, .getfield 9, 70, 4, 0) := rfl
theorem ix_22_70 : lkp 70 (mI mi_22) = some (false, .getfield 92, 73, 6, 1) := rfl
theorem ix_22_73 : lkp 73 (mI mi_22) = some (false, .if_icmp .ge 35, 76, 0, 108) := rfl
theorem ix_22_76 : lkp 76 (mI mi_22) = some (false, .iload_n 3, 77, 3, 0) := rfl
theorem ix_22_77 : lkp 77 (mI mi_22) = some (false, .iconst 4, 78, 4, 0) := rfl
theorem ix_22_78 : lkp 78 (mI mi_22) = some (false, .if_icmp .ge 30, 81, 0, 108) := rfl
theorem ix_22_81 : lkp 81 (mI mi_22) = some (false, .aload_n 0, 82, 0, 0) := rfl
theorem ix_22_82 : lkp 82 (mI mi_22) = some (false, .getfield 19, 85, 4, 3) := rfl
theorem ix_22_85 : lkp 85 (mI mi_22) = some (false, .iload_n 3, 86, 3, 0) := rfl
theorem ix_22_86 : lkp 86 (mI mi_22) = some (false, .iaload, 87, 0, 0) := rfl
theorem ix_22_87 : lkp 87 (mI mi_22) = some (false, .aload_n 1, 88, 1, 0) := rfl
theorem ix_22_88 : lkp 88 (mI mi_22) = some (false, .getfield 19, 91, 4, 3) := rfl
theorem ix_22_91 : lkp 91 (mI mi_22) = some (false, .iload_n 3, 92, 3, 0) := rfl
theorem ix_22_92 : lkp 92 (mI mi_22) = some (false, .iaload, 93, 0, 0) := rfl
theorem ix_22_93 : lkp 93 (mI mi_22) = some (false, .if_icmp .ne 7, 96, 0, 100) := rfl
theorem ix_22_96 : lkp 96 (mI mi_22) = some (false, .iconst 1, 97, 1, 0) := rfl
theorem ix_22_97 : lkp 97 (mI mi_22) = some (false, .goto 4, 100, 0, 101) := rfl
theorem ix_22_100 : lkp 100 (mI mi_22) = some (false, .iconst 0, 101, 0, 0) := rfl
theorem ix_22_101 : lkp 101 (mI mi_22) = some (false, .istore_n 2, 102, 2, 0) := rfl
theorem ix_22_102 : lkp 102 (mI mi_22) = some (false, .iinc 3 1, 105, 3, 2) := rfl
theorem ix_22_105 : lkp 105 (mI mi_22) = some (false, .goto (-44), 108, 0, 61) := rfl
theorem ix_22_108 : lkp 108 (mI mi_22) = some (false, .iconst 0, 109, 0, 0) := rfl
theorem ix_22_109 : lkp 109 (mI mi_22) = some (false, .istore_n 3, 110, 3, 0) := rfl
theorem ix_22_110 : lkp 110 (mI mi_22) = some (true, .iload_n 2, 111, 2, 0) := rfl
theorem ix_22_111 : lkp 111 (mI mi_22) = some (false, .ifCond .eq 51, 114, 0, 162) := rfl
theorem ix_22_114 : lkp 114 (mI mi_22) = some (false, .aload_n 0, 115, 0, 0) := rfl
theorem ix_22_115 : lkp 115 (mI mi_22) = some (false, .getfield 39, 118, 4, 5) := rfl
theorem ix_22_118 : lkp 118 (mI mi_22) = some (false, .ifCond .le 44, 121, 0, 162) := rfl
theorem ix_22_121 : lkp 121 (mI mi_22) = some (false, .iload_n 3, 122, 3, 0) := rfl
theorem ix_22_122 : lkp 122 (mI mi_22) = some (false, .aload_n 0, 123, 0, 0) := rfl
theorem ix_22_123 : lkp 123 (mI mi_22) = some (false, .getfield 39, 126, 4, 5) := rfl
theorem ix_22_126 : lkp 126 (mI mi_22) = some (false, .if_icmp .gt 36, 129, 0, 162) := rfl
theorem ix_22_129 : lkp 129 (mI mi_22) = some (false, .iload_n 3, 130, 3, 0) := rfl
theorem ix_22_130 : lkp 130 (mI mi_22) = some (false, .bipush 28, 132, 28, 0) := rfl
theorem ix_22_132 : lkp 132 (mI mi_22) = some (false, .if_icmp .gt 30, 135, 0, 162) := rfl
theorem ix_22_135 : lkp 135 (mI mi_22) = some (false, .aload_n 0, 136, 0, 0) := rfl
theorem ix_22_136 : lkp 136 (mI mi_22) = some (false, .getfield 22, 139, 4, 4) := rfl
theorem ix_22_139 : lkp 139 (mI mi_22) = some (false, .iload_n 3, 140, 3, 0) := rfl
theorem ix_22_140 : lkp 140 (mI mi_22) = some (false, .iaload, 141, 0, 0) := rfl
theorem ix_22_141 : lkp 141 (mI mi_22) = some (false, .aload_n 1, 142, 1, 0) := rfl
theorem ix_22_142 : lkp 142 (mI mi_22) = some (false, .getfield 22, 145, 4, 4) := rfl
theorem ix_22_145 : lkp 145 (mI mi_22) = some (false, .iload_n 3, 146, 3, 0) := rfl
theorem ix_22_146 : lkp 146 (mI mi_22) = some (false, .iaload, 147, 0, 0) := rfl
theorem ix_22_147 : lkp 147 (mI mi_22) = some (false, .if_icmp .ne 7, 150, 0, 154) := rfl
theorem ix_22_150 : lkp 150 (mI mi_22) = some (false, .iconst 1, 151, 1, 0) := rfl
theorem ix_22_151 : lkp 151 (mI mi_22) = some (false, .goto 4, 154, 0, 155) := rfl
theorem ix_22_154 : lkp 154 (mI mi_22) = some (false, .iconst 0, 155, 0, 0) := rfl
theorem ix_22_155 : lkp 155 (mI mi_22) = some (false, .istore_n 2, 156, 2, 0) := rfl
theorem ix_22_156 : lkp 156 (mI mi_22) = some (false, .iinc 3 1, 159, 3, 2) := rfl
theorem ix_22_159 : lkp 159 (mI mi_22) = some (false, .goto (-49), 162, 0, 110) := rfl
theorem ix_22_162 : lkp 162 (mI mi_22) = some (false, .iload_n 2, 163, 2, 0) := rfl
theorem ix_22_163 : lkp 163 (mI mi_22) = some (false, .ireturn, 164, 0, 1) := rfl
theorem ix_23_0 : lkp 0 (mI mi_23) = some (false, .iload_n 1, 1, 1, 0) := rfl
theorem ix_23_1 : lkp 1 (mI mi_23) = some (false, .ifCond .lt 18, 4, 0, 19) := rfl
theorem ix_23_4 : lkp 4 (mI mi_23) = some (false, .iload_n 1, 5, 1, 0) := rfl
theorem ix_23_5 : lkp 5 (mI mi_23) = some (false, .aload_n 0, 6, 0, 0) := rfl
theorem ix_23_6 : lkp 6 (mI mi_23) = some (false, .getfield 9, 9, 4, 0) := rfl
theorem ix_23_9 : lkp 9 (mI mi_23) = some (false, .getfield 92, 12, 6, 1) := rfl
theorem ix_23_12 : lkp 12 (mI mi_23) = some (false, .if_icmp .ge 7, 15, 0, 19) := rfl
theorem ix_23_15 : lkp 15 (mI mi_23) = some (false, .iconst 1, 16, 1, 0) := rfl
theorem ix_23_16 : lkp 16 (mI mi_23) = some (false, .goto 4, 19, 0, 20) := rfl
theorem ix_23_19 : lkp 19 (mI mi_23) = some (false, .iconst 0, 20, 0, 0) := rfl
theorem ix_23_20 : lkp 20 (mI mi_23) = some (false, .ireturn, 21, 0, 1) := rfl
theorem ix_24_0 : lkp 0 (mI mi_24) = some (false, .aload_n 0, 1, 0, 0) := rfl
theorem ix_24_1 : lkp 1 (mI mi_24) = some (false, .getfield 56, 4, 4, 10) := rfl
theorem ix_24_4 : lkp 4 (mI mi_24) = some (false, .bipush (-2), 6, 2, 1) := rfl
theorem ix_24_6 : lkp 6 (mI mi_24) = some (false, .if_icmp .eq 7, 9, 0, 13) := rfl
theorem ix_24_9 : lkp 9 (mI mi_24) = some (false, .iconst 1, 10, 1, 0) := rfl
theorem ix_24_10 : lkp 10 (mI mi_24) = some (false, .goto 4, 13, 0, 14) := rfl
theorem ix_24_13 : lkp 13 (mI mi_24) = some (false, .iconst 0, 14, 0, 0) := rfl
theorem ix_24_14 : lkp 14 (mI mi_24) = some (false, .ireturn, 15, 0, 1) := rfl
theorem ix_25_0 : lkp 0 (mI mi_25) = some (false, .iload_n 1, 1, 1, 0) := rfl
theorem ix_25_1 : lkp 1 (mI mi_25) = some (false, .ifCond .lt 17, 4, 0, 18) := rfl
theorem ix_25_4 : lkp 4 (mI mi_25) = some (false, .iload_n 1, 5, 1, 0) := rfl
theorem ix_25_5 : lkp 5 (mI mi_25) = some (false, .iconst 4, 6, 4, 0) := rfl
theorem ix_25_6 : lkp 6 (mI mi_25) = some (false, .if_icmp .ge 12, 9, 0, 18) := rfl
theorem ix_25_9 : lkp 9 (mI mi_25) = some (false, .aload_n 0, 10, 0, 0) := rfl
theorem ix_25_10 : lkp 10 (mI mi_25) = some (false, .getfield 19, 13, 4, 3) := rfl
theorem ix_25_13 : lkp 13 (mI mi_25) = some (false, .iload_n 1, 14, 1, 0) := rfl
theorem ix_25_14 : lkp 14 (mI mi_25) = some (false, .iaload, 15, 0, 0) := rfl
theorem ix_25_15 : lkp 15 (mI mi_25) = some (false, .goto 4, 18, 0, 19) := rfl
theorem ix_25_18 : lkp 18 (mI mi_25) = some (false, .iconst 0, 19, 0, 0) := rfl
theorem ix_25_19 : lkp 19 (mI mi_25) = some (false, .ireturn, 20, 0, 0) := rfl
theorem ix_26_0 : lkp 0 (mI mi_26) = some (false, .aload_n 0, 1, 0, 0) := rfl
theorem ix_26_1 : lkp 1 (mI mi_26) = some (false, .aload_n 0, 2, 0, 0) := rfl
theorem ix_26_2 : lkp 2 (mI mi_26) = some (false, .getfield 43, 5, 4, 6) := rfl
theorem ix_26_5 : lkp 5 (mI mi_26) = some (false, .invokevirtual 120, 8, 25, 65) := rfl
theorem ix_26_8 : lkp 8 (mI mi_26) = some (false, .iconst 1, 9, 1, 0) := rfl
theorem ix_26_9 : lkp 9 (mI mi_26) = some (false, .iload_n 1, 10, 1, 0) := rfl
theorem ix_26_10 : lkp 10 (mI mi_26) = some (false, .ishl, 11, 0, 0) := rfl
theorem ix_26_11 : lkp 11 (mI mi_26) = some (false, .iand, 12, 0, 0) := rfl
theorem ix_26_12 : lkp 12 (mI mi_26) = some (false, .ifCond .eq 7, 15, 0, 19) := rfl
theorem ix_26_15 : lkp 15 (mI mi_26) = some (false, .iconst 1, 16, 1, 0) := rfl
theorem ix_26_16 : lkp 16 (mI mi_26) = some (false, .goto 4, 19, 0, 20) := rfl
theorem ix_26_19 : lkp 19 (mI mi_26) = some (false, .iconst 0, 20, 0, 0) := rfl
theorem ix_26_20 : lkp 20 (mI mi_26) = some (false, .ireturn, 21, 0, 1) := rfl
theorem ix_27_0 : lkp 0 (mI mi_27) = some (false, .aload_n 0, 1, 0, 0) := rfl
theorem ix_27_1 : lkp 1 (mI mi_27) = some (false, .iload_n 1, 2, 1, 0) := rfl
theorem ix_27_2 : lkp 2 (mI mi_27) = some (false, .ifCond .eq 7, 5, 0, 9) := rfl
theorem ix_27_5 : lkp 5 (mI mi_27) = some (false, .iconst 0, 6, 0, 0) := rfl
theorem ix_27_6 : lkp 6 (mI mi_27) = some (false, .goto 7, 9, 0, 13) := rfl
theorem ix_27_9 : lkp 9 (mI mi_27) = some (false, .aload_n 0, 10, 0, 0) := rfl
theorem ix_27_10 : lkp 10 (mI mi_27) = some (false, .getfield 39, 13, 4, 5) := rfl
theorem ix_27_13 : lkp 13 (mI mi_27) = some (false, .invokevirtual 124, 16, 28, 65) := rfl
theorem ix_27_16 : lkp 16 (mI mi_27) = some (false, .ireturn, 17, 0, 0) := rfl
theorem ix_28_0 : lkp 0 (mI mi_28) = some (false, .iload_n 1, 1, 1, 0) := rfl
theorem ix_28_1 : lkp 1 (mI mi_28) = some (false, .ifCond .lt 18, 4, 0, 19) := rfl
theorem ix_28_4 : lkp 4 (mI mi_28) = some (false, .iload_n 1, 5, 1, 0) := rfl
theorem ix_28_5 : lkp 5 (mI mi_28) = some (false, .bipush 28, 7, 28, 0) := rfl
theorem ix_28_7 : lkp 7 (mI mi_28) = some (false, .if_icmp .gt 12, 10, 0, 19) := rfl
theorem ix_28_10 : lkp 10 (mI mi_28) = some (false, .aload_n 0, 11, 0, 0) := rfl
theorem ix_28_11 : lkp 11 (mI mi_28) = some (false, .getfield 22, 14, 4, 4) := rfl
theorem ix_28_14 : lkp 14 (mI mi_28) = some (false, .iload_n 1, 15, 1, 0) := rfl
theorem ix_28_15 : lkp 15 (mI mi_28) = some (false, .iaload, 16, 0, 0) := rfl
theorem ix_28_16 : lkp 16 (mI mi_28) = some (false, .goto 4, 19, 0, 20) := rfl
theorem ix_28_19 : lkp 19 (mI mi_28) = some (false, .iconst 0, 20, 0, 0) := rfl
theorem ix_28_20 : lkp 20 (mI mi_28) = some (false, .ireturn, 21, 0, 0) := rfl
theorem ix_29_0 : lkp 0 (mI mi_29) = some (false, .aload_n 0, 1, 0, 0) := rfl
theorem ix_29_1 : lkp 1 (mI mi_29) = some (false, .getfield 39, 4, 4, 5) := rfl
theorem ix_29_4 : lkp 4 (mI mi_29) = some (false, .ifCond .eq 22, 7, 0, 26) := rfl
theorem ix_29_7 : lkp 7 (mI mi_29) = some (false, .aload_n 0, 8, 0, 0) := rfl
theorem ix_29_8 : lkp 8 (mI mi_29) = some (false, .getfield 9, 11, 4, 0) := rfl
theorem ix_29_11 : lkp 11 (mI mi_29) = some (false, .aload_n 0, 12, 0, 0) := rfl
theorem ix_29_12 : lkp 12 (mI mi_29) = some (false, .iload_n 2, 13, 2, 0) := rfl
theorem ix_29_13 : lkp 13 (mI mi_29) = some (false, .invokevirtual 127, 16, 27, 65) := rfl
theorem ix_29_16 : lkp 16 (mI mi_29) = some (false, .invokevirtual 131, 19, 50, 97) := rfl
theorem ix_29_19 : lkp 19 (mI mi_29) = some (false, .iconst 1, 20, 1, 0) := rfl
theorem ix_29_20 : lkp 20 (mI mi_29) = some (false, .iload_n 1, 21, 1, 0) := rfl
theorem ix_29_21 : lkp 21 (mI mi_29) = some (false, .ishl, 22, 0, 0) := rfl
theorem ix_29_22 : lkp 22 (mI mi_29) = some (false, .iand, 23, 0, 0) := rfl
theorem ix_29_23 : lkp 23 (mI mi_29) = some (false, .ifCond .eq 7, 26, 0, 30) := rfl
theorem ix_29_26 : lkp 26 (mI mi_29) = some (false, .iconst 1, 27, 1, 0) := rfl
theorem ix_29_27 : lkp 27 (mI mi_29) = some (false, .goto 4, 30, 0, 31) := rfl
theorem ix_29_30 : lkp 30 (mI mi_29) = some (false, .iconst 0, 31, 0, 0) := rfl
theorem ix_29_31 : lkp 31 (mI mi_29) = some (false, .ireturn, 32, 0, 1) := rfl
theorem ix_30_0 : lkp 0 (mI mi_30) = some (false, .aload_n 0, 1, 0, 0) := rfl
theorem ix_30_1 : lkp 1 (mI mi_30) = some (false, .getfield 9, 4, 4, 0) := rfl
theorem ix_30_4 : lkp 4 (mI mi_30) = some (false, .aload_n 0, 5, 0, 0) := rfl
theorem ix_30_5 : lkp 5 (mI mi_30) = some (false, .iconst 1, 6, 1, 0) := rfl
theorem ix_30_6 : lkp 6 (mI mi_30) = some (false, .invokevirtual 127, 9, 27, 65) := rfl
theorem ix_30_9 : lkp 9 (mI mi_30) = some (false, .invokevirtual 131, 12, 50, 97) := rfl
theorem ix_30_12 : lkp 12 (mI mi_30) = some (false, .aload_n 0, 13, 0, 0) := rfl
theorem ix_30_13 : lkp 13 (mI mi_30) = some (false, .getfield 9, 16, 4, 0) := rfl
theorem ix_30_16 : lkp 16 (mI mi_30) = some (false, .aload_n 0, 17, 0, 0) := rfl
theorem ix_30_17 : lkp 17 (mI mi_30) = some (false, .iconst 0, 18, 0, 0) := rfl
theorem ix_30_18 : lkp 18 (mI mi_30) = some (false, .invokevirtual 127, 21, 27, 65) := rfl
theorem ix_30_21 : lkp 21 (mI mi_30) = some (false, .invokevirtual 131, 24, 50, 97) := rfl
theorem ix_30_24 : lkp 24 (mI mi_30) = some (false, .ior, 25, 0, 0) := rfl
theorem ix_30_25 : lkp 25 (mI mi_30) = some (false, .istore_n 1, 26, 1, 0) := rfl
theorem ix_30_26 : lkp 26 (mI mi_30) = some (false, .aload_n 0, 27, 0, 0) := rfl
theorem ix_30_27 : lkp 27 (mI mi_30) = some (false, .getfield 39, 30, 4, 5) := rfl
theorem ix_30_30 : lkp 30 (mI mi_30) = some (false, .ifCond .eq 16, 33, 0, 46) := rfl
theorem ix_30_33 : lkp 33 (mI mi_30) = some (false, .aload_n 0, 34, 0, 0) := rfl
theorem ix_30_34 : lkp 34 (mI mi_30) = some (false, .aload_n 0, 35, 0, 0) := rfl
theorem ix_30_35 : lkp 35 (mI mi_30) = some (false, .getfield 43, 38, 4, 6) := rfl
theorem ix_30_38 : lkp 38 (mI mi_30) = some (false, .invokevirtual 120, 41, 25, 65) := rfl
theorem ix_30_41 : lkp 41 (mI mi_30) = some (false, .iload_n 1, 42, 1, 0) := rfl
theorem ix_30_42 : lkp 42 (mI mi_30) = some (false, .iand, 43, 0, 0) := rfl
theorem ix_30_43 : lkp 43 (mI mi_30) = some (false, .ifCond .eq 7, 46, 0, 50) := rfl
theorem ix_30_46 : lkp 46 (mI mi_30) = some (false, .iconst 1, 47, 1, 0) := rfl
theorem ix_30_47 : lkp 47 (mI mi_30) = some (false, .goto 4, 50, 0, 51) := rfl
theorem ix_30_50 : lkp 50 (mI mi_30) = some (false, .iconst 0, 51, 0, 0) := rfl
theorem ix_30_51 : lkp 51 (mI mi_30) = some (false, .ireturn, 52, 0, 1) := rfl
theorem ix_31_0 : lkp 0 (mI mi_31) = some (false, .aload_n 0, 1, 0, 0) := rfl
theorem ix_31_1 : lkp 1 (mI mi_31) = some (false, .getfield 9, 4, 4, 0) := rfl
theorem ix_31_4 : lkp 4 (mI mi_31) = some (false, .getfield 134, 7, 6, 3) := rfl
theorem ix_31_7 : lkp 7 (mI mi_31) = some (false, .ifCond .eq 21, 10, 0, 28) := rfl
theorem ix_31_10 : lkp 10 (mI mi_31) = some (false, .aload_n 0, 11, 0, 0) := rfl
theorem ix_31_11 : lkp 11 (mI mi_31) = some (false, .getfield 89, 14, 4, 2) := rfl
theorem ix_31_14 : lkp 14 (mI mi_31) = some (false, .aload_n 0, 15, 0, 0) := rfl
theorem ix_31_15 : lkp 15 (mI mi_31) = some (false, .getfield 9, 18, 4, 0) := rfl
theorem ix_31_18 : lkp 18 (mI mi_31) = some (false, .getfield 72, 21, 6, 5) := rfl
theorem ix_31_21 : lkp 21 (mI mi_31) = some (false, .if_icmp .ge 7, 24, 0, 28) := rfl
theorem ix_31_24 : lkp 24 (mI mi_31) = some (false, .iconst 1, 25, 1, 0) := rfl
theorem ix_31_25 : lkp 25 (mI mi_31) = some (false, .goto 4, 28, 0, 29) := rfl
theorem ix_31_28 : lkp 28 (mI mi_31) = some (false, .iconst 0, 29, 0, 0) := rfl
theorem ix_31_29 : lkp 29 (mI mi_31) = some (false, .ireturn, 30, 0, 1) := rfl
theorem ix_32_0 : lkp 0 (mI mi_32) = some (false, .aload_n 0, 1, 0, 0) := rfl
theorem ix_32_1 : lkp 1 (mI mi_32) = some (false, .getfield 89, 4, 4, 2) := rfl
theorem ix_32_4 : lkp 4 (mI mi_32) = some (false, .ifCond .lt 24, 7, 0, 28) := rfl
theorem ix_32_7 : lkp 7 (mI mi_32) = some (false, .aload_n 0, 8, 0, 0) := rfl
theorem ix_32_8 : lkp 8 (mI mi_32) = some (false, .getfield 89, 11, 4, 2) := rfl
theorem ix_32_11 : lkp 11 (mI mi_32) = some (false, .bipush 28, 13, 28, 0) := rfl
theorem ix_32_13 : lkp 13 (mI mi_32) = some (false, .if_icmp .ge 15, 16, 0, 28) := rfl
theorem ix_32_16 : lkp 16 (mI mi_32) = some (false, .aload_n 0, 17, 0, 0) := rfl
theorem ix_32_17 : lkp 17 (mI mi_32) = some (false, .getfield 15, 20, 4, 1) := rfl
theorem ix_32_20 : lkp 20 (mI mi_32) = some (false, .aload_n 0, 21, 0, 0) := rfl
theorem ix_32_21 : lkp 21 (mI mi_32) = some (false, .getfield 89, 24, 4, 2) := rfl
theorem ix_32_24 : lkp 24 (mI mi_32) = some (false, .iaload, 25, 0, 0) := rfl
theorem ix_32_25 : lkp 25 (mI mi_32) = some (false, .goto 4, 28, 0, 29) := rfl
theorem ix_32_28 : lkp 28 (mI mi_32) = some (false, .iconst 0, 29, 0, 0) := rfl
theorem ix_32_29 : lkp 29 (mI mi_32) = some (false, .ireturn, 30, 0, 0) := rfl
theorem ix_33_0 : lkp 0 (mI mi_33) = some (false, .iload_n 1, 1, 1, 0) := rfl
theorem ix_33_1 : lkp 1 (mI mi_33) = some (false, .iconst 5, 2, 5, 0) := rfl
theorem ix_33_2 : lkp 2 (mI mi_33) = some (false, .idiv, 3, 0, 0) := rfl
theorem ix_33_3 : lkp 3 (mI mi_33) = some (false, .istore_n 3, 4, 3, 0) := rfl
theorem ix_33_4 : lkp 4 (mI mi_33) = some (false, .iload_n 1, 5, 1, 0) := rfl
theorem ix_33_5 : lkp 5 (mI mi_33) = some (false, .iconst 5, 6, 5, 0) := rfl
theorem ix_33_6 : lkp 6 (mI mi_33) = some (false, .irem, 7, 0, 0) := rfl
theorem ix_33_7 : lkp 7 (mI mi_33) = some (false, .tableswitch 51 0 3 #[29, 32, 39, 42], 36, 0, 0) := rfl
theorem ix_33_36 : lkp 36 (mI mi_33) = some (false, .bipush 91, 38, 91, 0) := rfl
theorem ix_33_38 : lkp 38 (mI mi_33) = some (false, .ireturn, 39, 0, 2) := rfl
theorem ix_33_39 : lkp 39 (mI mi_33) = some (false, .aload_n 0, 40, 0, 0) := rfl
theorem ix_33_40 : lkp 40 (mI mi_33) = some (false, .iload_n 3, 41, 3, 0) := rfl
theorem ix_33_41 : lkp 41 (mI mi_33) = some (false, .iload_n 2, 42, 2, 0) := rfl
theorem ix_33_42 : lkp 42 (mI mi_33) = some (false, .invokevirtual 137, 45, 34, 66) := rfl
theorem ix_33_45 : lkp 45 (mI mi_33) = some (false, .ireturn, 46, 0, 2) := rfl
theorem ix_33_46 : lkp 46 (mI mi_33) = some (false, .bipush 124, 48, 124, 0) := rfl
theorem ix_33_48 : lkp 48 (mI mi_33) = some (false, .ireturn, 49, 0, 2) := rfl
theorem ix_33_49 : lkp 49 (mI mi_33) = some (false, .aload_n 0, 50, 0, 0) := rfl
theorem ix_33_50 : lkp 50 (mI mi_33) = some (false, .iload_n 3, 51, 3, 0) := rfl
theorem ix_33_51 : lkp 51 (mI mi_33) = some (false, .iconst 1, 52, 1, 0) := rfl
theorem ix_33_52 : lkp 52 (mI mi_33) = some (false, .iadd, 53, 0, 0) := rfl
theorem ix_33_53 : lkp 53 (mI mi_33) = some (false, .iload_n 2, 54, 2, 0) := rfl
theorem ix_33_54 : lkp 54 (mI mi_33) = some (false, .invokevirtual 137, 57, 34, 66) := rfl
theorem ix_33_57 : lkp 57 (mI mi_33) = some (false, .ireturn, 58, 0, 2) := rfl
theorem ix_33_58 : lkp 58 (mI mi_33) = some (false, .bipush 93, 60, 93, 0) := rfl
theorem ix_33_60 : lkp 60 (mI mi_33) = some (false, .ireturn, 61, 0, 2) := rfl
theorem ix_34_0 : lkp 0 (mI mi_34) = some (false, .bipush 48, 2, 48, 0) := rfl
theorem ix_34_2 : lkp 2 (mI mi_34) = some (false, .aload_n 0, 3, 0, 0) := rfl
theorem ix_34_3 : lkp 3 (mI mi_34) = some (false, .iload_n 2, 4, 2, 0) := rfl
theorem ix_34_4 : lkp 4 (mI mi_34) = some (false, .ifCond .eq 12, 7, 0, 16) := rfl
theorem ix_34_7 : lkp 7 (mI mi_34) = some (false, .aload_n 0, 8, 0, 0) := rfl
theorem ix_34_8 : lkp 8 (mI mi_34) = some (false, .getfield 39, 11, 4, 5) := rfl
theorem ix_34_11 : lkp 11 (mI mi_34) = some (false, .iload_n 1, 12, 1, 0) := rfl
theorem ix_34_12 : lkp 12 (mI mi_34) = some (false, .isub, 13, 0, 0) := rfl
theorem ix_34_13 : lkp 13 (mI mi_34) = some (false, .goto 4, 16, 0, 17) := rfl
theorem ix_34_16 : lkp 16 (mI mi_34) = some (false, .iload_n 1, 17, 1, 0) := rfl
theorem ix_34_17 : lkp 17 (mI mi_34) = some (false, .invokevirtual 124, 20, 28, 65) := rfl
theorem ix_34_20 : lkp 20 (mI mi_34) = some (false, .iadd, 21, 0, 0) := rfl
theorem ix_34_21 : lkp 21 (mI mi_34) = some (false, .i2c, 22, 0, 0) := rfl
theorem ix_34_22 : lkp 22 (mI mi_34) = some (false, .ireturn, 23, 0, 2) := rfl
theorem ix_35_0 : lkp 0 (mI mi_35) = some (false, .aload_n 0, 1, 0, 0) := rfl
theorem ix_35_1 : lkp 1 (mI mi_35) = some (false, .aload_n 0, 2, 0, 0) := rfl
theorem ix_35_2 : lkp 2 (mI mi_35) = some (false, .getfield 9, 5, 4, 0) := rfl
theorem ix_35_5 : lkp 5 (mI mi_35) = some (false, .iload_n 1, 6, 1, 0) := rfl
theorem ix_35_6 : lkp 6 (mI mi_35) = some (false, .invokevirtual 141, 9, 48, 97) := rfl
theorem ix_35_9 : lkp 9 (mI mi_35) = some (false, .aload_n 0, 10, 0, 0) := rfl
theorem ix_35_10 : lkp 10 (mI mi_35) = some (false, .getfield 9, 13, 4, 0) := rfl
theorem ix_35_13 : lkp 13 (mI mi_35) = some (false, .iload_n 1, 14, 1, 0) := rfl
theorem ix_35_14 : lkp 14 (mI mi_35) = some (false, .invokevirtual 144, 17, 49, 97) := rfl
theorem ix_35_17 : lkp 17 (mI mi_35) = some (false, .iload_n 2, 18, 2, 0) := rfl
theorem ix_35_18 : lkp 18 (mI mi_35) = some (false, .invokevirtual 147, 21, 36, 67) := rfl
theorem ix_35_21 : lkp 21 (mI mi_35) = some (false, .aload_n 0, 22, 0, 0) := rfl
theorem ix_35_22 : lkp 22 (mI mi_35) = some (false, .iconst 0, 23, 0, 0) := rfl
theorem ix_35_23 : lkp 23 (mI mi_35) = some (false, .putfield 49, 26, 4, 8) := rfl
theorem ix_35_26 : lkp 26 (mI mi_35) = some (false, .aload_n 0, 27, 0, 0) := rfl
theorem ix_35_27 : lkp 27 (mI mi_35) = some (false, .getfield 43, 30, 4, 6) := rfl
theorem ix_35_30 : lkp 30 (mI mi_35) = some (false, .ifCond .lt 56, 33, 0, 86) := rfl
theorem ix_35_33 : lkp 33 (mI mi_35) = some (false, .aload_n 0, 34, 0, 0) := rfl
theorem ix_35_34 : lkp 34 (mI mi_35) = some (false, .getfield 43, 37, 4, 6) := rfl
theorem ix_35_37 : lkp 37 (mI mi_35) = some (false, .iconst 4, 38, 4, 0) := rfl
theorem ix_35_38 : lkp 38 (mI mi_35) = some (false, .if_icmp .ge 48, 41, 0, 86) := rfl
theorem ix_35_41 : lkp 41 (mI mi_35) = some (false, .aload_n 0, 42, 0, 0) := rfl
theorem ix_35_42 : lkp 42 (mI mi_35) = some (false, .aload_n 0, 43, 0, 0) := rfl
theorem ix_35_43 : lkp 43 (mI mi_35) = some (false, .getfield 43, 46, 4, 6) := rfl
theorem ix_35_46 : lkp 46 (mI mi_35) = some (false, .putfield 46, 49, 4, 7) := rfl
theorem ix_35_49 : lkp 49 (mI mi_35) = some (false, .aload_n 0, 50, 0, 0) := rfl
theorem ix_35_50 : lkp 50 (mI mi_35) = some (false, .getfield 19, 53, 4, 3) := rfl
theorem ix_35_53 : lkp 53 (mI mi_35) = some (false, .aload_n 0, 54, 0, 0) := rfl
theorem ix_35_54 : lkp 54 (mI mi_35) = some (false, .getfield 43, 57, 4, 6) := rfl
theorem ix_35_57 : lkp 57 (mI mi_35) = some (false, .dup2, 58, 0, 0) := rfl
theorem ix_35_58 : lkp 58 (mI mi_35) = some (false, .iaload, 59, 0, 0) := rfl
theorem ix_35_59 : lkp 59 (mI mi_35) = some (false, .iconst 1, 60, 1, 0) := rfl
theorem ix_35_60 : lkp 60 (mI mi_35) = some (false, .iload_n 1, 61, 1, 0) := rfl
theorem ix_35_61 : lkp 61 (mI mi_35) = some (false, .ishl, 62, 0, 0) := rfl
theorem ix_35_62 : lkp 62 (mI mi_35) = some (false, .iconst (-1), 63, 1, 1) := rfl
theorem ix_35_63 : lkp 63 (mI mi_35) = some (false, .ixor, 64, 0, 0) := rfl
theorem ix_35_64 : lkp 64 (mI mi_35) = some (false, .iand, 65, 0, 0) := rfl
theorem ix_35_65 : lkp 65 (mI mi_35) = some (false, .iastore, 66, 0, 0) := rfl
theorem ix_35_66 : lkp 66 (mI mi_35) = some (false, .aload_n 0, 67, 0, 0) := rfl
theorem ix_35_67 : lkp 67 (mI mi_35) = some (false, .getfield 19, 70, 4, 3) := rfl
theorem ix_35_70 : lkp 70 (mI mi_35) = some (false, .aload_n 0, 71, 0, 0) := rfl
theorem ix_35_71 : lkp 71 (mI mi_35) = some (false, .getfield 43, 74, 4, 6) := rfl
theorem ix_35_74 : lkp 74 (mI mi_35) = some (false, .iaload, 75, 0, 0) := rfl
theorem ix_35_75 : lkp 75 (mI mi_35) = some (false, .ifCond .ne 11, 78, 0, 86) := rfl
theorem ix_35_78 : lkp 78 (mI mi_35) = some (false, .aload_n 0, 79, 0, 0) := rfl
theorem ix_35_79 : lkp 79 (mI mi_35) = some (false, .aload_n 0, 80, 0, 0) := rfl
theorem ix_35_80 : lkp 80 (mI mi_35) = some (false, .getfield 43, 83, 4, 6) := rfl
theorem ix_35_83 : lkp 83 (mI mi_35) = some (false, .putfield 56, 86, 4, 10) := rfl
theorem ix_35_86 : lkp 86 (mI mi_35) = some (false, .aload_n 0, 87, 0, 0) := rfl
theorem ix_35_87 : lkp 87 (mI mi_35) = some (false, .invokevirtual 151, 90, 39, 64) := rfl
theorem ix_35_90 : lkp 90 (mI mi_35) = some (false, .return_, 91, 0, 0) := rfl
theorem ix_36_0 : lkp 0 (mI mi_36) = some (false, .aload_n 0, 1, 0, 0) := rfl
theorem ix_36_1 : lkp 1 (mI mi_36) = some (false, .getfield 39, 4, 4, 5) := rfl
theorem ix_36_4 : lkp 4 (mI mi_36) = some (false, .ifCond .lt 12, 7, 0, 16) := rfl
theorem ix_36_7 : lkp 7 (mI mi_36) = some (false, .aload_n 0, 8, 0, 0) := rfl
theorem ix_36_8 : lkp 8 (mI mi_36) = some (false, .getfield 39, 11, 4, 5) := rfl
theorem ix_36_11 : lkp 11 (mI mi_36) = some (false, .bipush 28, 13, 28, 0) := rfl
theorem ix_36_13 : lkp 13 (mI mi_36) = some (false, .if_icmp .lt 4, 16, 0, 17) := rfl
theorem ix_36_16 : lkp 16 (mI mi_36) = some (false, .return_, 17, 0, 0) := rfl
theorem ix_36_17 : lkp 17 (mI mi_36) = some (false, .aload_n 0, 18, 0, 0) := rfl
theorem ix_36_18 : lkp 18 (mI mi_36) = some (false, .getfield 39, 21, 4, 5) := rfl
theorem ix_36_21 : lkp 21 (mI mi_36) = some (false, .ifCond .ne 20, 24, 0, 41) := rfl
theorem ix_36_24 : lkp 24 (mI mi_36) = some (false, .aload_n 0, 25, 0, 0) := rfl
theorem ix_36_25 : lkp 25 (mI mi_36) = some (false, .getfield 22, 28, 4, 4) := rfl
theorem ix_36_28 : lkp 28 (mI mi_36) = some (false, .iconst 0, 29, 0, 0) := rfl
theorem ix_36_29 : lkp 29 (mI mi_36) = some (false, .iload_n 1, 30, 1, 0) := rfl
theorem ix_36_30 : lkp 30 (mI mi_36) = some (false, .iastore, 31, 0, 0) := rfl
theorem ix_36_31 : lkp 31 (mI mi_36) = some (false, .aload_n 0, 32, 0, 0) := rfl
theorem ix_36_32 : lkp 32 (mI mi_36) = some (false, .getfield 22, 35, 4, 4) := rfl
theorem ix_36_35 : lkp 35 (mI mi_36) = some (false, .iconst 1, 36, 1, 0) := rfl
theorem ix_36_36 : lkp 36 (mI mi_36) = some (false, .iload_n 2, 37, 2, 0) := rfl
theorem ix_36_37 : lkp 37 (mI mi_36) = some (false, .iastore, 38, 0, 0) := rfl
theorem ix_36_38 : lkp 38 (mI mi_36) = some (false, .goto 73, 41, 0, 111) := rfl
theorem ix_36_41 : lkp 41 (mI mi_36) = some (false, .iload_n 3, 42, 3, 0) := rfl
theorem ix_36_42 : lkp 42 (mI mi_36) = some (false, .ifCond .eq 45, 45, 0, 87) := rfl
theorem ix_36_45 : lkp 45 (mI mi_36) = some (false, .aload_n 0, 46, 0, 0) := rfl
theorem ix_36_46 : lkp 46 (mI mi_36) = some (false, .getfield 22, 49, 4, 4) := rfl
theorem ix_36_49 : lkp 49 (mI mi_36) = some (false, .iconst 0, 50, 0, 0) := rfl
theorem ix_36_50 : lkp 50 (mI mi_36) = some (false, .iaload, 51, 0, 0) := rfl
theorem ix_36_51 : lkp 51 (mI mi_36) = some (false, .istore 4, 53, 4, 0) := rfl
theorem ix_36_53 : lkp 53 (mI mi_36) = some (false, .aload_n 0, 54, 0, 0) := rfl
theorem ix_36_54 : lkp 54 (mI mi_36) = some (false, .getfield 22, 57, 4, 4) := rfl
theorem ix_36_57 : lkp 57 (mI mi_36) = some (false, .iconst 0, 58, 0, 0) := rfl
theorem ix_36_58 : lkp 58 (mI mi_36) = some (false, .aload_n 0, 59, 0, 0) := rfl
theorem ix_36_59 : lkp 59 (mI mi_36) = some (false, .getfield 22, 62, 4, 4) := rfl
theorem ix_36_62 : lkp 62 (mI mi_36) = some (false, .iconst 1, 63, 1, 0) := rfl
theorem ix_36_63 : lkp 63 (mI mi_36) = some (false, .aload_n 0, 64, 0, 0) := rfl
theorem ix_36_64 : lkp 64 (mI mi_36) = some (false, .getfield 39, 67, 4, 5) := rfl
theorem ix_36_67 : lkp 67 (mI mi_36) = some (false, .iconst 1, 68, 1, 0) := rfl
theorem ix_36_68 : lkp 68 (mI mi_36) = some (false, .iadd, 69, 0, 0) := rfl
theorem ix_36_69 : lkp 69 (mI mi_36) = some (false, .invokestatic 102, 72, 1000, 5) := rfl
theorem ix_36_72 : lkp 72 (mI mi_36) = some (false, .aload_n 0, 73, 0, 0) := rfl
theorem ix_36_73 : lkp 73 (mI mi_36) = some (false, .getfield 22, 76, 4, 4) := rfl
theorem ix_36_76 : lkp 76 (mI mi_36) = some (false, .iconst 0, 77, 0, 0) := rfl
theorem ix_36_77 : lkp 77 (mI mi_36) = some (false, .iload_n 1, 78, 1, 0) := rfl
theorem ix_36_78 : lkp 78 (mI mi_36) = some (false, .iload_n 2, 79, 2, 0) := rfl
theorem ix_36_79 : lkp 79 (mI mi_36) = some (false, .iadd, 80, 0, 0) := rfl
theorem ix_36_80 : lkp 80 (mI mi_36) = some (false, .iload 4, 82, 4, 0) := rfl
theorem ix_36_82 : lkp 82 (mI mi_36) = some (false, .isub, 83, 0, 0) := rfl
theorem ix_36_83 : lkp 83 (mI mi_36) = some (false, .iastore, 84, 0, 0) := rfl
theorem ix_36_84 : lkp 84 (mI mi_36) = some (false, .goto 27, 87, 0, 111) := rfl
theorem ix_36_87 : lkp 87 (mI mi_36) = some (false, .aload_n 0, 88, 0, 0) := rfl
theorem ix_36_88 : lkp 88 (mI mi_36) = some (false, .getfield 22, 91, 4, 4) := rfl
theorem ix_36_91 : lkp 91 (mI mi_36) = some (false, .aload_n 0, 92, 0, 0) := rfl
theorem ix_36_92 : lkp 92 (mI mi_36) = some (false, .getfield 39, 95, 4, 5) := rfl
theorem ix_36_95 : lkp 95 (mI mi_36) = some (false, .iconst 1, 96, 1, 0) := rfl
theorem ix_36_96 : lkp 96 (mI mi_36) = some (false, .iadd, 97, 0, 0) := rfl
theorem ix_36_97 : lkp 97 (mI mi_36) = some (false, .iload_n 1, 98, 1, 0) := rfl
theorem ix_36_98 : lkp 98 (mI mi_36) = some (false, .iload_n 2, 99, 2, 0) := rfl
theorem ix_36_99 : lkp 99 (mI mi_36) = some (false, .iadd, 100, 0, 0) := rfl
theorem ix_36_100 : lkp 100 (mI mi_36) = some (false, .aload_n 0, 101, 0, 0) := rfl
theorem ix_36_101 : lkp 101 (mI mi_36) = some (false, .getfield 22, 104, 4, 4) := rfl
theorem ix_36_104 : lkp 104 (mI mi_36) = some (false, .aload_n 0, 105, 0, 0) := rfl
theorem ix_36_105 : lkp 105 (mI mi_36) = some (false, .getfield 39, 108, 4, 5) := rfl
theorem ix_36_108 : lkp 108 (mI mi_36) = some (false, .iaload, 109, 0, 0) := rfl
theorem ix_36_109 : lkp 109 (mI mi_36) = some (false, .isub, 110, 0, 0) := rfl
theorem ix_36_110 : lkp 110 (mI mi_36) = some (false, .iastore, 111, 0, 0) := rfl
theorem ix_36_111 : lkp 111 (mI mi_36) = some (false, .aload_n 0, 112, 0, 0) := rfl
theorem ix_36_112 : lkp 112 (mI mi_36) = some (false, .dup, 113, 0, 0) := rfl
theorem ix_36_113 : lkp 113 (mI mi_36) = some (false, .getfield 39, 116, 4, 5) := rfl
theorem ix_36_116 : lkp 116 (mI mi_36) = some (false, .iconst 1, 117, 1, 0) := rfl
theorem ix_36_117 : lkp 117 (mI mi_36) = some (false, .iadd, 118, 0, 0) := rfl
theorem ix_36_118 : lkp 118 (mI mi_36) = some (false, .putfield 39, 121, 4, 5) := rfl
theorem ix_36_121 : lkp 121 (mI mi_36) = some (false, .return_, 122, 0, 0) := rfl
theorem ix_37_0 : lkp 0 (mI mi_37) = some (false, .aload_n 0, 1, 0, 0) := rfl
theorem ix_37_1 : lkp 1 (mI mi_37) = some (false, .getfield 43, 4, 4, 6) := rfl
theorem ix_37_4 : lkp 4 (mI mi_37) = some (false, .ifCond .lt 53, 7, 0, 57) := rfl
theorem ix_37_7 : lkp 7 (mI mi_37) = some (false, .aload_n 0, 8, 0, 0) := rfl
theorem ix_37_8 : lkp 8 (mI mi_37) = some (false, .getfield 43, 11, 4, 6) := rfl
theorem ix_37_11 : lkp 11 (mI mi_37) = some (false, .iconst 4, 12, 4, 0) := rfl
theorem ix_37_12 : lkp 12 (mI mi_37) = some (false, .if_icmp .ge 45, 15, 0, 57) := rfl
theorem ix_37_15 : lkp 15 (mI mi_37) = some (false, .aload_n 0, 16, 0, 0) := rfl
theorem ix_37_16 : lkp 16 (mI mi_37) = some (false, .getfield 89, 19, 4, 2) := rfl
theorem ix_37_19 : lkp 19 (mI mi_37) = some (false, .aload_n 0, 20, 0, 0) := rfl
theorem ix_37_20 : lkp 20 (mI mi_37) = some (false, .getfield 9, 23, 4, 0) := rfl
theorem ix_37_23 : lkp 23 (mI mi_37) = some (false, .getfield 72, 26, 6, 5) := rfl
theorem ix_37_26 : lkp 26 (mI mi_37) = some (false, .if_icmp .ge 31, 29, 0, 57) := rfl
theorem ix_37_29 : lkp 29 (mI mi_37) = some (false, .aload_n 0, 30, 0, 0) := rfl
theorem ix_37_30 : lkp 30 (mI mi_37) = some (false, .getfield 19, 33, 4, 3) := rfl
theorem ix_37_33 : lkp 33 (mI mi_37) = some (false, .aload_n 0, 34, 0, 0) := rfl
theorem ix_37_34 : lkp 34 (mI mi_37) = some (false, .getfield 43, 37, 4, 6) := rfl
theorem ix_37_37 : lkp 37 (mI mi_37) = some (false, .dup2, 38, 0, 0) := rfl
theorem ix_37_38 : lkp 38 (mI mi_37) = some (false, .iaload, 39, 0, 0) := rfl
theorem ix_37_39 : lkp 39 (mI mi_37) = some (false, .iconst 1, 40, 1, 0) := rfl
theorem ix_37_40 : lkp 40 (mI mi_37) = some (false, .aload_n 0, 41, 0, 0) := rfl
theorem ix_37_41 : lkp 41 (mI mi_37) = some (false, .invokevirtual 98, 44, 32, 64) := rfl
theorem ix_37_44 : lkp 44 (mI mi_37) = some (false, .ishl, 45, 0, 0) := rfl
theorem ix_37_45 : lkp 45 (mI mi_37) = some (false, .ior, 46, 0, 0) := rfl
theorem ix_37_46 : lkp 46 (mI mi_37) = some (false, .iastore, 47, 0, 0) := rfl
theorem ix_37_47 : lkp 47 (mI mi_37) = some (false, .aload_n 0, 48, 0, 0) := rfl
theorem ix_37_48 : lkp 48 (mI mi_37) = some (false, .dup, 49, 0, 0) := rfl
theorem ix_37_49 : lkp 49 (mI mi_37) = some (false, .getfield 89, 52, 4, 2) := rfl
theorem ix_37_52 : lkp 52 (mI mi_37) = some (false, .iconst 1, 53, 1, 0) := rfl
theorem ix_37_53 : lkp 53 (mI mi_37) = some (false, .iadd, 54, 0, 0) := rfl
theorem ix_37_54 : lkp 54 (mI mi_37) = some (false, .putfield 89, 57, 4, 2) := rfl
theorem ix_37_57 : lkp 57 (mI mi_37) = some (false, .return_, 58, 0, 0) := rfl
theorem ix_38_0 : lkp 0 (mI mi_38) = some (false, .aload_n 0, 1, 0, 0) := rfl
theorem ix_38_1 : lkp 1 (mI mi_38) = some (false, .dup, 2, 0, 0) := rfl
theorem ix_38_2 : lkp 2 (mI mi_38) = some (false, .getfield 49, 5, 4, 8) := rfl
theorem ix_38_5 : lkp 5 (mI mi_38) = some (false, .iconst 1, 6, 1, 0) := rfl
theorem ix_38_6 : lkp 6 (mI mi_38) = some (false, .iadd, 7, 0, 0) := rfl
theorem ix_38_7 : lkp 7 (mI mi_38) = some (false, .putfield 49, 10, 4, 8) := rfl
theorem ix_38_10 : lkp 10 (mI mi_38) = some (false, .aload_n 0, 11, 0, 0) := rfl
theorem ix_38_11 : lkp 11 (mI mi_38) = some (false, .getfield 49, 14, 4, 8) := rfl
theorem ix_38_14 : lkp 14 (mI mi_38) = some (false, .aload_n 0, 15, 0, 0) := rfl
theorem ix_38_15 : lkp 15 (mI mi_38) = some (false, .getfield 9, 18, 4, 0) := rfl
theorem ix_38_18 : lkp 18 (mI mi_38) = some (false, .getfield 92, 21, 6, 1) := rfl
theorem ix_38_21 : lkp 21 (mI mi_38) = some (false, .if_icmp .lt 16, 24, 0, 37) := rfl
theorem ix_38_24 : lkp 24 (mI mi_38) = some (false, .aload_n 0, 25, 0, 0) := rfl
theorem ix_38_25 : lkp 25 (mI mi_38) = some (false, .iconst 1, 26, 1, 0) := rfl
theorem ix_38_26 : lkp 26 (mI mi_38) = some (false, .putfield 52, 29, 4, 73) := rfl
theorem ix_38_29 : lkp 29 (mI mi_38) = some (false, .aload_n 0, 30, 0, 0) := rfl
theorem ix_38_30 : lkp 30 (mI mi_38) = some (false, .aload_n 0, 31, 0, 0) := rfl
theorem ix_38_31 : lkp 31 (mI mi_38) = some (false, .invokevirtual 154, 34, 41, 64) := rfl
theorem ix_38_34 : lkp 34 (mI mi_38) = some (false, .putfield 56, 37, 4, 10) := rfl
theorem ix_38_37 : lkp 37 (mI mi_38) = some (false, .aload_n 0, 38, 0, 0) := rfl
theorem ix_38_38 : lkp 38 (mI mi_38) = some (false, .invokevirtual 151, 41, 39, 64) := rfl
theorem ix_38_41 : lkp 41 (mI mi_38) = some (false, .return_, 42, 0, 0) := rfl
theorem ix_39_0 : lkp 0 (mI mi_39) = some (false, .aload_n 0, 1, 0, 0) := rfl
theorem ix_39_1 : lkp 1 (mI mi_39) = some (false, .aload_n 0, 2, 0, 0) := rfl
theorem ix_39_2 : lkp 2 (mI mi_39) = some (false, .getfield 43, 5, 4, 6) := rfl
theorem ix_39_5 : lkp 5 (mI mi_39) = some (false, .iconst 1, 6, 1, 0) := rfl
theorem ix_39_6 : lkp 6 (mI mi_39) = some (false, .iadd, 7, 0, 0) := rfl
theorem ix_39_7 : lkp 7 (mI mi_39) = some (false, .aload_n 0, 8, 0, 0) := rfl
theorem ix_39_8 : lkp 8 (mI mi_39) = some (false, .getfield 9, 11, 4, 0) := rfl
theorem ix_39_11 : lkp 11 (mI mi_39) = some (false, .getfield 92, 14, 6, 1) := rfl
theorem ix_39_14 : lkp 14 (mI mi_39) = some (false, .if_icmp .ge 12, 17, 0, 26) := rfl
theorem ix_39_17 : lkp 17 (mI mi_39) = some (false, .aload_n 0, 18, 0, 0) := rfl
theorem ix_39_18 : lkp 18 (mI mi_39) = some (false, .getfield 43, 21, 4, 6) := rfl
theorem ix_39_21 : lkp 21 (mI mi_39) = some (false, .iconst 1, 22, 1, 0) := rfl
theorem ix_39_22 : lkp 22 (mI mi_39) = some (false, .iadd, 23, 0, 0) := rfl
theorem ix_39_23 : lkp 23 (mI mi_39) = some (false, .goto 4, 26, 0, 27) := rfl
theorem ix_39_26 : lkp 26 (mI mi_39) = some (false, .iconst 0, 27, 0, 0) := rfl
theorem ix_39_27 : lkp 27 (mI mi_39) = some (false, .putfield 43, 30, 4, 6) := rfl
theorem ix_39_30 : lkp 30 (mI mi_39) = some (false, .return_, 31, 0, 0) := rfl
theorem ix_40_0 : lkp 0 (mI mi_40) = some (false, .aload_n 0, 1, 0, 0) := rfl
theorem ix_40_1 : lkp 1 (mI mi_40) = some (false, .iload_n 1, 2, 1, 0) := rfl
theorem ix_40_2 : lkp 2 (mI mi_40) = some (false, .putfield 65, 5, 4, 139) := rfl
theorem ix_40_5 : lkp 5 (mI mi_40) = some (false, .aload_n 0, 6, 0, 0) := rfl
theorem ix_40_6 : lkp 6 (mI mi_40) = some (false, .dup, 7, 0, 0) := rfl
theorem ix_40_7 : lkp 7 (mI mi_40) = some (false, .getfield 66, 10, 4, 12) := rfl
theorem ix_40_10 : lkp 10 (mI mi_40) = some (false, .iconst 1, 11, 1, 0) := rfl
theorem ix_40_11 : lkp 11 (mI mi_40) = some (false, .iadd, 12, 0, 0) := rfl
theorem ix_40_12 : lkp 12 (mI mi_40) = some (false, .putfield 66, 15, 4, 12) := rfl
theorem ix_40_15 : lkp 15 (mI mi_40) = some (false, .aload_n 0, 16, 0, 0) := rfl
theorem ix_40_16 : lkp 16 (mI mi_40) = some (false, .aload_n 0, 17, 0, 0) := rfl
theorem ix_40_17 : lkp 17 (mI mi_40) = some (false, .invokevirtual 154, 20, 41, 64) := rfl
theorem ix_40_20 : lkp 20 (mI mi_40) = some (false, .putfield 56, 23, 4, 10) := rfl
theorem ix_40_23 : lkp 23 (mI mi_40) = some (false, .return_, 24, 0, 0) := rfl
theorem ix_41_0 : lkp 0 (mI mi_41) = some (false, .aload_n 0, 1, 0, 0) := rfl
theorem ix_41_1 : lkp 1 (mI mi_41) = some (false, .getfield 65, 4, 4, 11) := rfl
theorem ix_41_4 : lkp 4 (mI mi_41) = some (false, .bipush 115, 6, 115, 0) := rfl
theorem ix_41_6 : lkp 6 (mI mi_41) = some (false, .if_icmp .ne 8, 9, 0, 14) := rfl
theorem ix_41_9 : lkp 9 (mI mi_41) = some (false, .aload_n 0, 10, 0, 0) := rfl
theorem ix_41_10 : lkp 10 (mI mi_41) = some (false, .getfield 46, 13, 4, 7) := rfl
theorem ix_41_13 : lkp 13 (mI mi_41) = some (false, .ireturn, 14, 0, 0) := rfl
theorem ix_41_14 : lkp 14 (mI mi_41) = some (false, .aload_n 0, 15, 0, 0) := rfl
theorem ix_41_15 : lkp 15 (mI mi_41) = some (false, .getfield 65, 18, 4, 11) := rfl
theorem ix_41_18 : lkp 18 (mI mi_41) = some (false, .bipush 110, 20, 110, 0) := rfl
theorem ix_41_20 : lkp 20 (mI mi_41) = some (false, .if_icmp .ne 5, 23, 0, 25) := rfl
theorem ix_41_23 : lkp 23 (mI mi_41) = some (false, .iconst (-1), 24, 1, 1) := rfl
theorem ix_41_24 : lkp 24 (mI mi_41) = some (false, .ireturn, 25, 0, 0) := rfl
theorem ix_41_25 : lkp 25 (mI mi_41) = some (false, .iconst 0, 26, 0, 0) := rfl
theorem ix_41_26 : lkp 26 (mI mi_41) = some (false, .istore_n 1, 27, 1, 0) := rfl
theorem ix_41_27 : lkp 27 (mI mi_41) = some (false, .aload_n 0, 28, 0, 0) := rfl
theorem ix_41_28 : lkp 28 (mI mi_41) = some (false, .getfield 9, 31, 4, 0) := rfl
theorem ix_41_31 : lkp 31 (mI mi_41) = some (false, .aload_n 0, 32, 0, 0) := rfl
theorem ix_41_32 : lkp 32 (mI mi_41) = some (false, .getfield 19, 35, 4, 3) := rfl
theorem ix_41_35 : lkp 35 (mI mi_41) = some (false, .iconst 0, 36, 0, 0) := rfl
theorem ix_41_36 : lkp 36 (mI mi_41) = some (false, .iaload, 37, 0, 0) := rfl
theorem ix_41_37 : lkp 37 (mI mi_41) = some (false, .invokevirtual 157, 40, 51, 97) := rfl
theorem ix_41_40 : lkp 40 (mI mi_41) = some (false, .istore_n 2, 41, 2, 0) := rfl
theorem ix_41_41 : lkp 41 (mI mi_41) = some (false, .iconst 1, 42, 1, 0) := rfl
theorem ix_41_42 : lkp 42 (mI mi_41) = some (false, .istore_n 3, 43, 3, 0) := rfl
theorem ix_41_43 : lkp 43 (mI mi_41) = some (true, .iload_n 3, 44, 3, 0) := rfl
theorem ix_41_44 : lkp 44 (mI mi_41) = some (false, .aload_n 0, 45, 0, 0) := rfl
theorem ix_41_45 : lkp 45 (mI mi_41) = some (false, .getfield 9, 48, 4, 0) := rfl
theorem ix_41_48 : lkp 48 (mI mi_41) = some (false, .getfield 92, 51, 6, 1) := rfl
theorem ix_41_51 : lkp 51 (mI mi_41) = some (false, .if_icmp .ge 51, 54, 0, 102) := rfl
theorem ix_41_54 : lkp 54 (mI mi_41) = some (false, .iload_n 3, 55, 3, 0) := rfl
theorem ix_41_55 : lkp 55 (mI mi_41) = some (false, .iconst 4, 56, 4, 0) := rfl
theorem ix_41_56 : lkp 56 (mI mi_41) = some (false, .if_icmp .ge 46, 59, 0, 102) := rfl
theorem ix_41_59 : lkp 59 (mI mi_41) = some (false, .aload_n 0, 60, 0, 0) := rfl
theorem ix_41_60 : lkp 60 (mI mi_41) = some (false, .getfield 9, 63, 4, 0) := rfl
theorem ix_41_63 : lkp 63 (mI mi_41) = some (false, .aload_n 0, 64, 0, 0) := rfl
theorem ix_41_64 : lkp 64 (mI mi_41) = some (false, .getfield 19, 67, 4, 3) := rfl
theorem ix_41_67 : lkp 67 (mI mi_41) = some (false, .iload_n 3, 68, 3, 0) := rfl
theorem ix_41_68 : lkp 68 (mI mi_41) = some (false, .iaload, 69, 0, 0) := rfl
theorem ix_41_69 : lkp 69 (mI mi_41) = some (false, .invokevirtual 157, 72, 51, 97) := rfl
theorem ix_41_72 : lkp 72 (mI mi_41) = some (false, .istore 4, 74, 4, 0) := rfl
theorem ix_41_74 : lkp 74 (mI mi_41) = some (false, .iload 4, 76, 4, 0) := rfl
theorem ix_41_76 : lkp 76 (mI mi_41) = some (false, .iload_n 2, 77, 2, 0) := rfl
theorem ix_41_77 : lkp 77 (mI mi_41) = some (false, .if_icmp .ge 11, 80, 0, 88) := rfl
theorem ix_41_80 : lkp 80 (mI mi_41) = some (false, .iload_n 3, 81, 3, 0) := rfl
theorem ix_41_81 : lkp 81 (mI mi_41) = some (false, .istore_n 1, 82, 1, 0) := rfl
theorem ix_41_82 : lkp 82 (mI mi_41) = some (false, .iload 4, 84, 4, 0) := rfl
theorem ix_41_84 : lkp 84 (mI mi_41) = some (false, .istore_n 2, 85, 2, 0) := rfl
theorem ix_41_85 : lkp 85 (mI mi_41) = some (false, .goto 11, 88, 0, 96) := rfl
theorem ix_41_88 : lkp 88 (mI mi_41) = some (false, .iload 4, 90, 4, 0) := rfl
theorem ix_41_90 : lkp 90 (mI mi_41) = some (false, .iload_n 2, 91, 2, 0) := rfl
theorem ix_41_91 : lkp 91 (mI mi_41) = some (false, .if_icmp .ne 5, 94, 0, 96) := rfl
theorem ix_41_94 : lkp 94 (mI mi_41) = some (false, .iconst (-1), 95, 1, 1) := rfl
theorem ix_41_95 : lkp 95 (mI mi_41) = some (false, .istore_n 1, 96, 1, 0) := rfl
theorem ix_41_96 : lkp 96 (mI mi_41) = some (false, .iinc 3 1, 99, 3, 2) := rfl
theorem ix_41_99 : lkp 99 (mI mi_41) = some (false, .goto (-56), 102, 0, 43) := rfl
theorem ix_41_102 : lkp 102 (mI mi_41) = some (false, .iload_n 1, 103, 1, 0) := rfl
theorem ix_41_103 : lkp 103 (mI mi_41) = some (false, .ireturn, 104, 0, 0) := rfl
theorem ix_42_0 : lkp 0 (mI mi_42) = some (false, .ldc2_w 160, 3, 31, 0) := rfl
theorem ix_42_3 : lkp 3 (mI mi_42) = some (false, .lload_n 1, 4, 1, 0) := rfl
theorem ix_42_4 : lkp 4 (mI mi_42) = some (false, .lmul, 5, 0, 0) := rfl
theorem ix_42_5 : lkp 5 (mI mi_42) = some (false, .aload_n 0, 6, 0, 0) := rfl
theorem ix_42_6 : lkp 6 (mI mi_42) = some (false, .getfield 39, 9, 4, 5) := rfl
theorem ix_42_9 : lkp 9 (mI mi_42) = some (false, .i2l, 10, 0, 0) := rfl
theorem ix_42_10 : lkp 10 (mI mi_42) = some (false, .ladd, 11, 0, 0) := rfl
theorem ix_42_11 : lkp 11 (mI mi_42) = some (false, .lstore_n 3, 12, 3, 0) := rfl
theorem ix_42_12 : lkp 12 (mI mi_42) = some (false, .iconst 0, 13, 0, 0) := rfl
theorem ix_42_13 : lkp 13 (mI mi_42) = some (false, .istore 5, 15, 5, 0) := rfl
theorem ix_42_15 : lkp 15 (mI mi_42) = some (true, .iload 5, 17, 5, 0) := rfl
theorem ix_42_17 : lkp 17 (mI mi_42) = some (false, .aload_n 0, 18, 0, 0) := rfl
theorem ix_42_18 : lkp 18 (mI mi_42) = some (false, .getfield 9, 21, 4, 0) := rfl
theorem ix_42_21 : lkp 21 (mI mi_42) = some (false, .getfield 92, 24, 6, 1) := rfl
theorem ix_42_24 : lkp 24 (mI mi_42) = some (false, .if_icmp .ge 27, 27, 0, 51) := rfl
theorem ix_42_27 : lkp 27 (mI mi_42) = some (false, .ldc2_w 160, 30, 31, 0) := rfl
theorem ix_42_30 : lkp 30 (mI mi_42) = some (false, .lload_n 3, 31, 3, 0) := rfl
theorem ix_42_31 : lkp 31 (mI mi_42) = some (false, .lmul, 32, 0, 0) := rfl
theorem ix_42_32 : lkp 32 (mI mi_42) = some (false, .aload_n 0, 33, 0, 0) := rfl
theorem ix_42_33 : lkp 33 (mI mi_42) = some (false, .iload 5, 35, 5, 0) := rfl
theorem ix_42_35 : lkp 35 (mI mi_42) = some (false, .invokevirtual 120, 38, 25, 65) := rfl
theorem ix_42_38 : lkp 38 (mI mi_42) = some (false, .i2l, 39, 0, 0) := rfl
theorem ix_42_39 : lkp 39 (mI mi_42) = some (false, .ldc2_w 162, 42, 1000003, 0) := rfl
theorem ix_42_42 : lkp 42 (mI mi_42) = some (false, .lrem, 43, 0, 0) := rfl
theorem ix_42_43 : lkp 43 (mI mi_42) = some (false, .ladd, 44, 0, 0) := rfl
theorem ix_42_44 : lkp 44 (mI mi_42) = some (false, .lstore_n 3, 45, 3, 0) := rfl
theorem ix_42_45 : lkp 45 (mI mi_42) = some (false, .iinc 5 1, 48, 5, 2) := rfl
theorem ix_42_48 : lkp 48 (mI mi_42) = some (false, .goto (-33), 51, 0, 15) := rfl
theorem ix_42_51 : lkp 51 (mI mi_42) = some (false, .ldc2_w 160, 54, 31, 0) := rfl
theorem ix_42_54 : lkp 54 (mI mi_42) = some (false, .lload_n 3, 55, 3, 0) := rfl
theorem ix_42_55 : lkp 55 (mI mi_42) = some (false, .lmul, 56, 0, 0) := rfl
theorem ix_42_56 : lkp 56 (mI mi_42) = some (false, .aload_n 0, 57, 0, 0) := rfl
theorem ix_42_57 : lkp 57 (mI mi_42) = some (false, .getfield 56, 60, 4, 10) := rfl
theorem ix_42_60 : lkp 60 (mI mi_42) = some (false, .i2l, 61, 0, 0) := rfl
theorem ix_42_61 : lkp 61 (mI mi_42) = some (false, .ladd, 62, 0, 0) := rfl
theorem ix_42_62 : lkp 62 (mI mi_42) = some (false, .lreturn, 63, 0, 0) := rfl
theorem ix_43_0 : lkp 0 (mI mi_43) = some (false, .iconst 0, 1, 0, 0) := rfl
theorem ix_43_1 : lkp 1 (mI mi_43) = some (false, .istore_n 1, 2, 1, 0) := rfl
theorem ix_43_2 : lkp 2 (mI mi_43) = some (false, .aload_n 0, 3, 0, 0) := rfl
theorem ix_43_3 : lkp 3 (mI mi_43) = some (false, .getfield 39, 6, 4, 5) := rfl
theorem ix_43_6 : lkp 6 (mI mi_43) = some (false, .istore_n 2, 7, 2, 0) := rfl
theorem ix_43_7 : lkp 7 (mI mi_43) = some (false, .iconst 0, 8, 0, 0) := rfl
theorem ix_43_8 : lkp 8 (mI mi_43) = some (false, .istore_n 3, 9, 3, 0) := rfl
theorem ix_43_9 : lkp 9 (mI mi_43) = some (true, .iload_n 3, 10, 3, 0) := rfl
theorem ix_43_10 : lkp 10 (mI mi_43) = some (false, .aload_n 0, 11, 0, 0) := rfl
theorem ix_43_11 : lkp 11 (mI mi_43) = some (false, .getfield 9, 14, 4, 0) := rfl
theorem ix_43_14 : lkp 14 (mI mi_43) = some (false, .getfield 92, 17, 6, 1) := rfl
theorem ix_43_17 : lkp 17 (mI mi_43) = some (false, .if_icmp .ge 28, 20, 0, 45) := rfl
theorem ix_43_20 : lkp 20 (mI mi_43) = some (false, .iload_n 1, 21, 1, 0) := rfl
theorem ix_43_21 : lkp 21 (mI mi_43) = some (false, .aload_n 0, 22, 0, 0) := rfl
theorem ix_43_22 : lkp 22 (mI mi_43) = some (false, .iload_n 3, 23, 3, 0) := rfl
theorem ix_43_23 : lkp 23 (mI mi_43) = some (false, .invokevirtual 120, 26, 25, 65) := rfl
theorem ix_43_26 : lkp 26 (mI mi_43) = some (false, .ior, 27, 0, 0) := rfl
theorem ix_43_27 : lkp 27 (mI mi_43) = some (false, .istore_n 1, 28, 1, 0) := rfl
theorem ix_43_28 : lkp 28 (mI mi_43) = some (false, .iload_n 2, 29, 2, 0) := rfl
theorem ix_43_29 : lkp 29 (mI mi_43) = some (false, .aload_n 0, 30, 0, 0) := rfl
theorem ix_43_30 : lkp 30 (mI mi_43) = some (false, .iload_n 3, 31, 3, 0) := rfl
theorem ix_43_31 : lkp 31 (mI mi_43) = some (false, .invokevirtual 120, 34, 25, 65) := rfl
theorem ix_43_34 : lkp 34 (mI mi_43) = some (false, .invokestatic 164, 37, 191, 1) := rfl
theorem ix_43_37 : lkp 37 (mI mi_43) = some (false, .iadd, 38, 0, 0) := rfl
theorem ix_43_38 : lkp 38 (mI mi_43) = some (false, .istore_n 2, 39, 2, 0) := rfl
theorem ix_43_39 : lkp 39 (mI mi_43) = some (false, .iinc 3 1, 42, 3, 2) := rfl
theorem ix_43_42 : lkp 42 (mI mi_43) = some (false, .goto (-33), 45, 0, 9) := rfl
theorem ix_43_45 : lkp 45 (mI mi_43) = some (false, .aload_n 0, 46, 0, 0) := rfl
theorem ix_43_46 : lkp 46 (mI mi_43) = some (false, .getfield 89, 49, 4, 2) := rfl
theorem ix_43_49 : lkp 49 (mI mi_43) = some (false, .istore_n 3, 50, 3, 0) := rfl
theorem ix_43_50 : lkp 50 (mI mi_43) = some (true, .iload_n 3, 51, 3, 0) := rfl
theorem ix_43_51 : lkp 51 (mI mi_43) = some (false, .ifCond .lt 40, 54, 0, 91) := rfl
theorem ix_43_54 : lkp 54 (mI mi_43) = some (false, .iload_n 3, 55, 3, 0) := rfl
theorem ix_43_55 : lkp 55 (mI mi_43) = some (false, .aload_n 0, 56, 0, 0) := rfl
theorem ix_43_56 : lkp 56 (mI mi_43) = some (false, .getfield 9, 59, 4, 0) := rfl
theorem ix_43_59 : lkp 59 (mI mi_43) = some (false, .getfield 72, 62, 6, 5) := rfl
theorem ix_43_62 : lkp 62 (mI mi_43) = some (false, .if_icmp .ge 29, 65, 0, 91) := rfl
theorem ix_43_65 : lkp 65 (mI mi_43) = some (false, .iload_n 3, 66, 3, 0) := rfl
theorem ix_43_66 : lkp 66 (mI mi_43) = some (false, .bipush 28, 68, 28, 0) := rfl
theorem ix_43_68 : lkp 68 (mI mi_43) = some (false, .if_icmp .ge 23, 71, 0, 91) := rfl
theorem ix_43_71 : lkp 71 (mI mi_43) = some (false, .iload_n 1, 72, 1, 0) := rfl
theorem ix_43_72 : lkp 72 (mI mi_43) = some (false, .iconst 1, 73, 1, 0) := rfl
theorem ix_43_73 : lkp 73 (mI mi_43) = some (false, .aload_n 0, 74, 0, 0) := rfl
theorem ix_43_74 : lkp 74 (mI mi_43) = some (false, .getfield 15, 77, 4, 1) := rfl
theorem ix_43_77 : lkp 77 (mI mi_43) = some (false, .iload_n 3, 78, 3, 0) := rfl
theorem ix_43_78 : lkp 78 (mI mi_43) = some (false, .iaload, 79, 0, 0) := rfl
theorem ix_43_79 : lkp 79 (mI mi_43) = some (false, .ishl, 80, 0, 0) := rfl
theorem ix_43_80 : lkp 80 (mI mi_43) = some (false, .ior, 81, 0, 0) := rfl
theorem ix_43_81 : lkp 81 (mI mi_43) = some (false, .istore_n 1, 82, 1, 0) := rfl
theorem ix_43_82 : lkp 82 (mI mi_43) = some (false, .iinc 2 1, 85, 2, 2) := rfl
theorem ix_43_85 : lkp 85 (mI mi_43) = some (false, .iinc 3 1, 88, 3, 2) := rfl
theorem ix_43_88 : lkp 88 (mI mi_43) = some (false, .goto (-38), 91, 0, 50) := rfl
theorem ix_43_91 : lkp 91 (mI mi_43) = some (false, .iconst 0, 92, 0, 0) := rfl
theorem ix_43_92 : lkp 92 (mI mi_43) = some (false, .istore_n 3, 93, 3, 0) := rfl
theorem ix_43_93 : lkp 93 (mI mi_43) = some (true, .iload_n 3, 94, 3, 0) := rfl
theorem ix_43_94 : lkp 94 (mI mi_43) = some (false, .aload_n 0, 95, 0, 0) := rfl
theorem ix_43_95 : lkp 95 (mI mi_43) = some (false, .getfield 39, 98, 4, 5) := rfl
theorem ix_43_98 : lkp 98 (mI mi_43) = some (false, .if_icmp .ge 33, 101, 0, 131) := rfl
theorem ix_43_101 : lkp 101 (mI mi_43) = some (false, .iload_n 1, 102, 1, 0) := rfl
theorem ix_43_102 : lkp 102 (mI mi_43) = some (false, .iconst 1, 103, 1, 0) := rfl
theorem ix_43_103 : lkp 103 (mI mi_43) = some (false, .aload_n 0, 104, 0, 0) := rfl
theorem ix_43_104 : lkp 104 (mI mi_43) = some (false, .getfield 9, 107, 4, 0) := rfl
theorem ix_43_107 : lkp 107 (mI mi_43) = some (false, .aload_n 0, 108, 0, 0) := rfl
theorem ix_43_108 : lkp 108 (mI mi_43) = some (false, .iload_n 3, 109, 3, 0) := rfl
theorem ix_43_109 : lkp 109 (mI mi_43) = some (false, .invokevirtual 124, 112, 28, 65) := rfl
theorem ix_43_112 : lkp 112 (mI mi_43) = some (false, .aload_n 0, 113, 0, 0) := rfl
theorem ix_43_113 : lkp 113 (mI mi_43) = some (false, .iload_n 3, 114, 3, 0) := rfl
theorem ix_43_114 : lkp 114 (mI mi_43) = some (false, .iconst 1, 115, 1, 0) := rfl
theorem ix_43_115 : lkp 115 (mI mi_43) = some (false, .iadd, 116, 0, 0) := rfl
theorem ix_43_116 : lkp 116 (mI mi_43) = some (false, .invokevirtual 124, 119, 28, 65) := rfl
theorem ix_43_119 : lkp 119 (mI mi_43) = some (false, .invokevirtual 169, 122, 52, 98) := rfl
theorem ix_43_122 : lkp 122 (mI mi_43) = some (false, .ishl, 123, 0, 0) := rfl
theorem ix_43_123 : lkp 123 (mI mi_43) = some (false, .ior, 124, 0, 0) := rfl
theorem ix_43_124 : lkp 124 (mI mi_43) = some (false, .istore_n 1, 125, 1, 0) := rfl
theorem ix_43_125 : lkp 125 (mI mi_43) = some (false, .iinc 3 1, 128, 3, 2) := rfl
theorem ix_43_128 : lkp 128 (mI mi_43) = some (false, .goto (-35), 131, 0, 93) := rfl
theorem ix_43_131 : lkp 131 (mI mi_43) = some (false, .iload_n 2, 132, 2, 0) := rfl
theorem ix_43_132 : lkp 132 (mI mi_43) = some (false, .aload_n 0, 133, 0, 0) := rfl
theorem ix_43_133 : lkp 133 (mI mi_43) = some (false, .getfield 9, 136, 4, 0) := rfl
theorem ix_43_136 : lkp 136 (mI mi_43) = some (false, .getfield 72, 139, 6, 5) := rfl
theorem ix_43_139 : lkp 139 (mI mi_43) = some (false, .if_icmp .ne 22, 142, 0, 161) := rfl
theorem ix_43_142 : lkp 142 (mI mi_43) = some (false, .iload_n 1, 143, 1, 0) := rfl
theorem ix_43_143 : lkp 143 (mI mi_43) = some (false, .iconst 1, 144, 1, 0) := rfl
theorem ix_43_144 : lkp 144 (mI mi_43) = some (false, .aload_n 0, 145, 0, 0) := rfl
theorem ix_43_145 : lkp 145 (mI mi_43) = some (false, .getfield 9, 148, 4, 0) := rfl
theorem ix_43_148 : lkp 148 (mI mi_43) = some (false, .getfield 72, 151, 6, 5) := rfl
theorem ix_43_151 : lkp 151 (mI mi_43) = some (false, .ishl, 152, 0, 0) := rfl
theorem ix_43_152 : lkp 152 (mI mi_43) = some (false, .iconst 1, 153, 1, 0) := rfl
theorem ix_43_153 : lkp 153 (mI mi_43) = some (false, .isub, 154, 0, 0) := rfl
theorem ix_43_154 : lkp 154 (mI mi_43) = some (false, .if_icmp .ne 7, 157, 0, 161) := rfl
theorem ix_43_157 : lkp 157 (mI mi_43) = some (false, .iconst 1, 158, 1, 0) := rfl
theorem ix_43_158 : lkp 158 (mI mi_43) = some (false, .goto 4, 161, 0, 162) := rfl
theorem ix_43_161 : lkp 161 (mI mi_43) = some (false, .iconst 0, 162, 0, 0) := rfl
theorem ix_43_162 : lkp 162 (mI mi_43) = some (false, .ireturn, 163, 0, 1) := rfl
theorem ix_44_0 : lkp 0 (mI mi_44) = some (false, .aload_n 0, 1, 0, 0) := rfl
theorem ix_44_1 : lkp 1 (mI mi_44) = some (false, .bipush 103, 3, 103, 0) := rfl
theorem ix_44_3 : lkp 3 (mI mi_44) = some (false, .iload_n 1, 4, 1, 0) := rfl
theorem ix_44_4 : lkp 4 (mI mi_44) = some (false, .invokespecial 1, 7, 15, 2) := rfl
theorem ix_44_7 : lkp 7 (mI mi_44) = some (false, .aload_n 0, 8, 0, 0) := rfl
theorem ix_44_8 : lkp 8 (mI mi_44) = some (false, .aload_n 2, 9, 2, 0) := rfl
theorem ix_44_9 : lkp 9 (mI mi_44) = some (false, .putfield 7, 12, 5, 194) := rfl
theorem ix_44_12 : lkp 12 (mI mi_44) = some (false, .aload_n 0, 13, 0, 0) := rfl
theorem ix_44_13 : lkp 13 (mI mi_44) = some (false, .iload_n 3, 14, 3, 0) := rfl
theorem ix_44_14 : lkp 14 (mI mi_44) = some (false, .putfield 13, 17, 5, 3) := rfl
theorem ix_44_17 : lkp 17 (mI mi_44) = some (false, .return_, 18, 0, 0) := rfl
theorem ix_45_0 : lkp 0 (mI mi_45) = some (false, .aload_n 1, 1, 1, 0) := rfl
theorem ix_45_1 : lkp 1 (mI mi_45) = some (false, .invokevirtual 17, 4, 61, 112) := rfl
theorem ix_45_4 : lkp 4 (mI mi_45) = some (false, .astore_n 2, 5, 2, 0) := rfl
theorem ix_45_5 : lkp 5 (mI mi_45) = some (false, .aload_n 2, 6, 2, 0) := rfl
theorem ix_45_6 : lkp 6 (mI mi_45) = some (false, .ifnull 15, 9, 0, 21) := rfl
theorem ix_45_9 : lkp 9 (mI mi_45) = some (false, .aload_n 2, 10, 2, 0) := rfl
theorem ix_45_10 : lkp 10 (mI mi_45) = some (false, .aload_n 0, 11, 0, 0) := rfl
theorem ix_45_11 : lkp 11 (mI mi_45) = some (false, .getfield 7, 14, 5, 2) := rfl
theorem ix_45_14 : lkp 14 (mI mi_45) = some (false, .aload_n 0, 15, 0, 0) := rfl
theorem ix_45_15 : lkp 15 (mI mi_45) = some (false, .getfield 13, 18, 5, 3) := rfl
theorem ix_45_18 : lkp 18 (mI mi_45) = some (false, .invokevirtual 23, 21, 17, 66) := rfl
theorem ix_45_21 : lkp 21 (mI mi_45) = some (false, .return_, 22, 0, 0) := rfl
theorem ix_46_0 : lkp 0 (mI mi_46) = some (false, .aload_n 0, 1, 0, 0) := rfl
theorem ix_46_1 : lkp 1 (mI mi_46) = some (false, .invokespecial 3, 4, 0, 0) := rfl
theorem ix_46_4 : lkp 4 (mI mi_46) = some (false, .aload_n 0, 5, 0, 0) := rfl
theorem ix_46_5 : lkp 5 (mI mi_46) = some (false, .iload_n 1, 6, 1, 0) := rfl
theorem ix_46_6 : lkp 6 (mI mi_46) = some (false, .putfield 9, 9, 6, 0) := rfl
theorem ix_46_9 : lkp 9 (mI mi_46) = some (false, .aload_n 0, 10, 0, 0) := rfl
theorem ix_46_10 : lkp 10 (mI mi_46) = some (false, .iload_n 2, 11, 2, 0) := rfl
theorem ix_46_11 : lkp 11 (mI mi_46) = some (false, .putfield 15, 14, 6, 1) := rfl
theorem ix_46_14 : lkp 14 (mI mi_46) = some (false, .aload_n 0, 15, 0, 0) := rfl
theorem ix_46_15 : lkp 15 (mI mi_46) = some (false, .iload_n 3, 16, 3, 0) := rfl
theorem ix_46_16 : lkp 16 (mI mi_46) = some (false, .putfield 18, 19, 6, 2) := rfl
theorem ix_46_19 : lkp 19 (mI mi_46) = some (false, .aload_n 0, 20, 0, 0) := rfl
theorem ix_46_20 : lkp 20 (mI mi_46) = some (false, .iload 4, 22, 4, 0) := rfl
theorem ix_46_22 : lkp 22 (mI mi_46) = some (false, .putfield 21, 25, 6, 67) := rfl
theorem ix_46_25 : lkp 25 (mI mi_46) = some (false, .aload_n 0, 26, 0, 0) := rfl
theorem ix_46_26 : lkp 26 (mI mi_46) = some (false, .iload 5, 28, 5, 0) := rfl
theorem ix_46_28 : lkp 28 (mI mi_46) = some (false, .putfield 25, 31, 6, 132) := rfl
theorem ix_46_31 : lkp 31 (mI mi_46) = some (false, .aload_n 0, 32, 0, 0) := rfl
theorem ix_46_32 : lkp 32 (mI mi_46) = some (false, .iload_n 1, 33, 1, 0) := rfl
theorem ix_46_33 : lkp 33 (mI mi_46) = some (false, .invokestatic 29, 36, 47, 1) := rfl
theorem ix_46_36 : lkp 36 (mI mi_46) = some (false, .putfield 33, 39, 6, 5) := rfl
theorem ix_46_39 : lkp 39 (mI mi_46) = some (false, .aload_n 0, 40, 0, 0) := rfl
theorem ix_46_40 : lkp 40 (mI mi_46) = some (false, .bipush 28, 42, 28, 0) := rfl
theorem ix_46_42 : lkp 42 (mI mi_46) = some (false, .newarray .int, 44, 0, 0) := rfl
theorem ix_46_44 : lkp 44 (mI mi_46) = some (false, .putfield 36, 47, 6, 198) := rfl
theorem ix_46_47 : lkp 47 (mI mi_46) = some (false, .aload_n 0, 48, 0, 0) := rfl
theorem ix_46_48 : lkp 48 (mI mi_46) = some (false, .bipush 28, 50, 28, 0) := rfl
theorem ix_46_50 : lkp 50 (mI mi_46) = some (false, .newarray .int, 52, 0, 0) := rfl
theorem ix_46_52 : lkp 52 (mI mi_46) = some (false, .putfield 40, 55, 6, 199) := rfl
theorem ix_46_55 : lkp 55 (mI mi_46) = some (false, .aload_n 0, 56, 0, 0) := rfl
theorem ix_46_56 : lkp 56 (mI mi_46) = some (false, .bipush 7, 58, 7, 0) := rfl
theorem ix_46_58 : lkp 58 (mI mi_46) = some (false, .newarray .int, 60, 0, 0) := rfl
theorem ix_46_60 : lkp 60 (mI mi_46) = some (false, .putfield 43, 63, 6, 200) := rfl
theorem ix_46_63 : lkp 63 (mI mi_46) = some (false, .iconst 0, 64, 0, 0) := rfl
theorem ix_46_64 : lkp 64 (mI mi_46) = some (false, .istore 6, 66, 6, 0) := rfl
theorem ix_46_66 : lkp 66 (mI mi_46) = some (false, .iconst 0, 67, 0, 0) := rfl
theorem ix_46_67 : lkp 67 (mI mi_46) = some (false, .istore 7, 69, 7, 0) := rfl
theorem ix_46_69 : lkp 69 (mI mi_46) = some (true, .iload 7, 71, 7, 0) := rfl
theorem ix_46_71 : lkp 71 (mI mi_46) = some (false, .iload_n 1, 72, 1, 0) := rfl
theorem ix_46_72 : lkp 72 (mI mi_46) = some (false, .if_icmp .gt 95, 75, 0, 167) := rfl
theorem ix_46_75 : lkp 75 (mI mi_46) = some (false, .iload 7, 77, 7, 0) := rfl
theorem ix_46_77 : lkp 77 (mI mi_46) = some (false, .bipush 6, 79, 6, 0) := rfl
theorem ix_46_79 : lkp 79 (mI mi_46) = some (false, .if_icmp .gt 88, 82, 0, 167) := rfl
theorem ix_46_82 : lkp 82 (mI mi_46) = some (false, .iload 7, 84, 7, 0) := rfl
theorem ix_46_84 : lkp 84 (mI mi_46) = some (false, .istore 8, 86, 8, 0) := rfl
theorem ix_46_86 : lkp 86 (mI mi_46) = some (true, .iload 8, 88, 8, 0) := rfl
theorem ix_46_88 : lkp 88 (mI mi_46) = some (false, .iload_n 1, 89, 1, 0) := rfl
theorem ix_46_89 : lkp 89 (mI mi_46) = some (false, .if_icmp .gt 72, 92, 0, 161) := rfl
theorem ix_46_92 : lkp 92 (mI mi_46) = some (false, .iload 8, 94, 8, 0) := rfl
theorem ix_46_94 : lkp 94 (mI mi_46) = some (false, .bipush 6, 96, 6, 0) := rfl
theorem ix_46_96 : lkp 96 (mI mi_46) = some (false, .if_icmp .gt 65, 99, 0, 161) := rfl
theorem ix_46_99 : lkp 99 (mI mi_46) = some (false, .iload 6, 101, 6, 0) := rfl
theorem ix_46_101 : lkp 101 (mI mi_46) = some (false, .bipush 28, 103, 28, 0) := rfl
theorem ix_46_103 : lkp 103 (mI mi_46) = some (false, .if_icmp .ge 58, 106, 0, 161) := rfl
theorem ix_46_106 : lkp 106 (mI mi_46) = some (false, .aload_n 0, 107, 0, 0) := rfl
theorem ix_46_107 : lkp 107 (mI mi_46) = some (false, .getfield 36, 110, 6, 6) := rfl
theorem ix_46_110 : lkp 110 (mI mi_46) = some (false, .iload 6, 112, 6, 0) := rfl
theorem ix_46_112 : lkp 112 (mI mi_46) = some (false, .iload 7, 114, 7, 0) := rfl
theorem ix_46_114 : lkp 114 (mI mi_46) = some (false, .iastore, 115, 0, 0) := rfl
theorem ix_46_115 : lkp 115 (mI mi_46) = some (false, .aload_n 0, 116, 0, 0) := rfl
theorem ix_46_116 : lkp 116 (mI mi_46) = some (false, .getfield 40, 119, 6, 7) := rfl
theorem ix_46_119 : lkp 119 (mI mi_46) = some (false, .iload 6, 121, 6, 0) := rfl
theorem ix_46_121 : lkp 121 (mI mi_46) = some (false, .iload 8, 123, 8, 0) := rfl
theorem ix_46_123 : lkp 123 (mI mi_46) = some (false, .iastore, 124, 0, 0) := rfl
theorem ix_46_124 : lkp 124 (mI mi_46) = some (false, .aload_n 0, 125, 0, 0) := rfl
theorem ix_46_125 : lkp 125 (mI mi_46) = some (false, .getfield 43, 128, 6, 8) := rfl
theorem ix_46_128 : lkp 128 (mI mi_46) = some (false, .iload 7, 130, 7, 0) := rfl
theorem ix_46_130 : lkp 130 (mI mi_46) = some (false, .dup2, 131, 0, 0) := rfl
theorem ix_46_131 : lkp 131 (mI mi_46) = some (false, .iaload, 132, 0, 0) := rfl
theorem ix_46_132 : lkp 132 (mI mi_46) = some (false, .iconst 1, 133, 1, 0) := rfl
theorem ix_46_133 : lkp 133 (mI mi_46) = some (false, .iload 6, 135, 6, 0) := rfl
theorem ix_46_135 : lkp 135 (mI mi_46) = some (false, .ishl, 136, 0, 0) := rfl
theorem ix_46_136 : lkp 136 (mI mi_46) = some (false, .ior, 137, 0, 0) := rfl
theorem ix_46_137 : lkp 137 (mI mi_46) = some (false, .iastore, 138, 0, 0) := rfl
theorem ix_46_138 : lkp 138 (mI mi_46) = some (false, .aload_n 0, 139, 0, 0) := rfl
theorem ix_46_139 : lkp 139 (mI mi_46) = some (false, .getfield 43, 142, 6, 8) := rfl
theorem ix_46_142 : lkp 142 (mI mi_46) = some (false, .iload 8, 144, 8, 0) := rfl
theorem ix_46_144 : lkp 144 (mI mi_46) = some (false, .dup2, 145, 0, 0) := rfl
theorem ix_46_145 : lkp 145 (mI mi_46) = some (false, .iaload, 146, 0, 0) := rfl
theorem ix_46_146 : lkp 146 (mI mi_46) = some (false, .iconst 1, 147, 1, 0) := rfl
theorem ix_46_147 : lkp 147 (mI mi_46) = some (false, .iload 6, 149, 6, 0) := rfl
theorem ix_46_149 : lkp 149 (mI mi_46) = some (false, .ishl, 150, 0, 0) := rfl
theorem ix_46_150 : lkp 150 (mI mi_46) = some (false, .ior, 151, 0, 0) := rfl
theorem ix_46_151 : lkp 151 (mI mi_46) = some (false, .iastore, 152, 0, 0) := rfl
theorem ix_46_152 : lkp 152 (mI mi_46) = some (false, .iinc 6 1, 155, 6, 2) := rfl
theorem ix_46_155 : lkp 155 (mI mi_46) = some (false, .iinc 8 1, 158, 8, 2) := rfl
theorem ix_46_158 : lkp 158 (mI mi_46) = some (false, .goto (-72), 161, 0, 86) := rfl
theorem ix_46_161 : lkp 161 (mI mi_46) = some (false, .iinc 7 1, 164, 7, 2) := rfl
theorem ix_46_164 : lkp 164 (mI mi_46) = some (false, .goto (-95), 167, 0, 69) := rfl
theorem ix_46_167 : lkp 167 (mI mi_46) = some (false, .return_, 168, 0, 0) := rfl
theorem ix_47_0 : lkp 0 (mI mi_47) = some (false, .iload_n 0, 1, 0, 0) := rfl
theorem ix_47_1 : lkp 1 (mI mi_47) = some (false, .iconst 1, 2, 1, 0) := rfl
theorem ix_47_2 : lkp 2 (mI mi_47) = some (false, .iadd, 3, 0, 0) := rfl
theorem ix_47_3 : lkp 3 (mI mi_47) = some (false, .iload_n 0, 4, 0, 0) := rfl
theorem ix_47_4 : lkp 4 (mI mi_47) = some (false, .iconst 2, 5, 2, 0) := rfl
theorem ix_47_5 : lkp 5 (mI mi_47) = some (false, .iadd, 6, 0, 0) := rfl
theorem ix_47_6 : lkp 6 (mI mi_47) = some (false, .imul, 7, 0, 0) := rfl
theorem ix_47_7 : lkp 7 (mI mi_47) = some (false, .iconst 2, 8, 2, 0) := rfl
theorem ix_47_8 : lkp 8 (mI mi_47) = some (false, .idiv, 9, 0, 0) := rfl
theorem ix_47_9 : lkp 9 (mI mi_47) = some (false, .ireturn, 10, 0, 0) := rfl
theorem ix_48_0 : lkp 0 (mI mi_48) = some (false, .iload_n 1, 1, 1, 0) := rfl
theorem ix_48_1 : lkp 1 (mI mi_48) = some (false, .ifCond .lt 18, 4, 0, 19) := rfl
theorem ix_48_4 : lkp 4 (mI mi_48) = some (false, .iload_n 1, 5, 1, 0) := rfl
theorem ix_48_5 : lkp 5 (mI mi_48) = some (false, .bipush 28, 7, 28, 0) := rfl
theorem ix_48_7 : lkp 7 (mI mi_48) = some (false, .if_icmp .ge 12, 10, 0, 19) := rfl
theorem ix_48_10 : lkp 10 (mI mi_48) = some (false, .aload_n 0, 11, 0, 0) := rfl
theorem ix_48_11 : lkp 11 (mI mi_48) = some (false, .getfield 36, 14, 6, 6) := rfl
theorem ix_48_14 : lkp 14 (mI mi_48) = some (false, .iload_n 1, 15, 1, 0) := rfl
theorem ix_48_15 : lkp 15 (mI mi_48) = some (false, .iaload, 16, 0, 0) := rfl
theorem ix_48_16 : lkp 16 (mI mi_48) = some (false, .goto 4, 19, 0, 20) := rfl
theorem ix_48_19 : lkp 19 (mI mi_48) = some (false, .iconst 0, 20, 0, 0) := rfl
theorem ix_48_20 : lkp 20 (mI mi_48) = some (false, .ireturn, 21, 0, 0) := rfl
theorem ix_49_0 : lkp 0 (mI mi_49) = some (false, .iload_n 1, 1, 1, 0) := rfl
theorem ix_49_1 : lkp 1 (mI mi_49) = some (false, .ifCond .lt 18, 4, 0, 19) := rfl
theorem ix_49_4 : lkp 4 (mI mi_49) = some (false, .iload_n 1, 5, 1, 0) := rfl
theorem ix_49_5 : lkp 5 (mI mi_49) = some (false, .bipush 28, 7, 28, 0) := rfl
theorem ix_49_7 : lkp 7 (mI mi_49) = some (false, .if_icmp .ge 12, 10, 0, 19) := rfl
theorem ix_49_10 : lkp 10 (mI mi_49) = some (false, .aload_n 0, 11, 0, 0) := rfl
theorem ix_49_11 : lkp 11 (mI mi_49) = some (false, .getfield 40, 14, 6, 7) := rfl
theorem ix_49_14 : lkp 14 (mI mi_49) = some (false, .iload_n 1, 15, 1, 0) := rfl
theorem ix_49_15 : lkp 15 (mI mi_49) = some (false, .iaload, 16, 0, 0) := rfl
theorem ix_49_16 : lkp 16 (mI mi_49) = some (false, .goto 4, 19, 0, 20) := rfl
theorem ix_49_19 : lkp 19 (mI mi_49) = some (false, .iconst 0, 20, 0, 0) := rfl
theorem ix_49_20 : lkp 20 (mI mi_49) = some (false, .ireturn, 21, 0, 0) := rfl
theorem ix_50_0 : lkp 0 (mI mi_50) = some (false, .iload_n 1, 1, 1, 0) := rfl
theorem ix_50_1 : lkp 1 (mI mi_50) = some (false, .ifCond .lt 18, 4, 0, 19) := rfl
theorem ix_50_4 : lkp 4 (mI mi_50) = some (false, .iload_n 1, 5, 1, 0) := rfl
theorem ix_50_5 : lkp 5 (mI mi_50) = some (false, .bipush 6, 7, 6, 0) := rfl
theorem ix_50_7 : lkp 7 (mI mi_50) = some (false, .if_icmp .gt 12, 10, 0, 19) := rfl
theorem ix_50_10 : lkp 10 (mI mi_50) = some (false, .aload_n 0, 11, 0, 0) := rfl
theorem ix_50_11 : lkp 11 (mI mi_50) = some (false, .getfield 43, 14, 6, 8) := rfl
theorem ix_50_14 : lkp 14 (mI mi_50) = some (false, .iload_n 1, 15, 1, 0) := rfl
theorem ix_50_15 : lkp 15 (mI mi_50) = some (false, .iaload, 16, 0, 0) := rfl
theorem ix_50_16 : lkp 16 (mI mi_50) = some (false, .goto 4, 19, 0, 20) := rfl
theorem ix_50_19 : lkp 19 (mI mi_50) = some (false, .iconst 0, 20, 0, 0) := rfl
theorem ix_50_20 : lkp 20 (mI mi_50) = some (false, .ireturn, 21, 0, 0) := rfl
theorem ix_51_0 : lkp 0 (mI mi_51) = some (false, .iconst 0, 1, 0, 0) := rfl
theorem ix_51_1 : lkp 1 (mI mi_51) = some (false, .istore_n 2, 2, 2, 0) := rfl
theorem ix_51_2 : lkp 2 (mI mi_51) = some (false, .iconst 0, 3, 0, 0) := rfl
theorem ix_51_3 : lkp 3 (mI mi_51) = some (false, .istore_n 3, 4, 3, 0) := rfl
theorem ix_51_4 : lkp 4 (mI mi_51) = some (true, .iload_n 3, 5, 3, 0) := rfl
theorem ix_51_5 : lkp 5 (mI mi_51) = some (false, .aload_n 0, 6, 0, 0) := rfl
theorem ix_51_6 : lkp 6 (mI mi_51) = some (false, .getfield 33, 9, 6, 5) := rfl
theorem ix_51_9 : lkp 9 (mI mi_51) = some (false, .if_icmp .ge 39, 12, 0, 48) := rfl
theorem ix_51_12 : lkp 12 (mI mi_51) = some (false, .iload_n 3, 13, 3, 0) := rfl
theorem ix_51_13 : lkp 13 (mI mi_51) = some (false, .bipush 28, 15, 28, 0) := rfl
theorem ix_51_15 : lkp 15 (mI mi_51) = some (false, .if_icmp .ge 33, 18, 0, 48) := rfl
theorem ix_51_18 : lkp 18 (mI mi_51) = some (false, .iload_n 1, 19, 1, 0) := rfl
theorem ix_51_19 : lkp 19 (mI mi_51) = some (false, .iconst 1, 20, 1, 0) := rfl
theorem ix_51_20 : lkp 20 (mI mi_51) = some (false, .iload_n 3, 21, 3, 0) := rfl
theorem ix_51_21 : lkp 21 (mI mi_51) = some (false, .ishl, 22, 0, 0) := rfl
theorem ix_51_22 : lkp 22 (mI mi_51) = some (false, .iand, 23, 0, 0) := rfl
theorem ix_51_23 : lkp 23 (mI mi_51) = some (false, .ifCond .eq 19, 26, 0, 42) := rfl
theorem ix_51_26 : lkp 26 (mI mi_51) = some (false, .iload_n 2, 27, 2, 0) := rfl
theorem ix_51_27 : lkp 27 (mI mi_51) = some (false, .aload_n 0, 28, 0, 0) := rfl
theorem ix_51_28 : lkp 28 (mI mi_51) = some (false, .getfield 36, 31, 6, 6) := rfl
theorem ix_51_31 : lkp 31 (mI mi_51) = some (false, .iload_n 3, 32, 3, 0) := rfl
theorem ix_51_32 : lkp 32 (mI mi_51) = some (false, .iaload, 33, 0, 0) := rfl
theorem ix_51_33 : lkp 33 (mI mi_51) = some (false, .aload_n 0, 34, 0, 0) := rfl
theorem ix_51_34 : lkp 34 (mI mi_51) = some (false, .getfield 40, 37, 6, 7) := rfl
theorem ix_51_37 : lkp 37 (mI mi_51) = some (false, .iload_n 3, 38, 3, 0) := rfl
theorem ix_51_38 : lkp 38 (mI mi_51) = some (false, .iaload, 39, 0, 0) := rfl
theorem ix_51_39 : lkp 39 (mI mi_51) = some (false, .iadd, 40, 0, 0) := rfl
theorem ix_51_40 : lkp 40 (mI mi_51) = some (false, .iadd, 41, 0, 0) := rfl
theorem ix_51_41 : lkp 41 (mI mi_51) = some (false, .istore_n 2, 42, 2, 0) := rfl
theorem ix_51_42 : lkp 42 (mI mi_51) = some (false, .iinc 3 1, 45, 3, 2) := rfl
theorem ix_51_45 : lkp 45 (mI mi_51) = some (false, .goto (-41), 48, 0, 4) := rfl
theorem ix_51_48 : lkp 48 (mI mi_51) = some (false, .iload_n 2, 49, 2, 0) := rfl
theorem ix_51_49 : lkp 49 (mI mi_51) = some (false, .ireturn, 50, 0, 0) := rfl
theorem ix_52_0 : lkp 0 (mI mi_52) = some (false, .iload_n 1, 1, 1, 0) := rfl
theorem ix_52_1 : lkp 1 (mI mi_52) = some (false, .iload_n 2, 2, 2, 0) := rfl
theorem ix_52_2 : lkp 2 (mI mi_52) = some (false, .invokestatic 46, 5, 1004, 2) := rfl
theorem ix_52_5 : lkp 5 (mI mi_52) = some (false, .istore_n 3, 6, 3, 0) := rfl
theorem ix_52_6 : lkp 6 (mI mi_52) = some (false, .iload_n 1, 7, 1, 0) := rfl
theorem ix_52_7 : lkp 7 (mI mi_52) = some (false, .iload_n 2, 8, 2, 0) := rfl
theorem ix_52_8 : lkp 8 (mI mi_52) = some (false, .invokestatic 52, 11, 1005, 2) := rfl
theorem ix_52_11 : lkp 11 (mI mi_52) = some (false, .istore 4, 13, 4, 0) := rfl
theorem ix_52_13 : lkp 13 (mI mi_52) = some (false, .iload_n 3, 14, 3, 0) := rfl
theorem ix_52_14 : lkp 14 (mI mi_52) = some (false, .aload_n 0, 15, 0, 0) := rfl
theorem ix_52_15 : lkp 15 (mI mi_52) = some (false, .getfield 9, 18, 6, 0) := rfl
theorem ix_52_18 : lkp 18 (mI mi_52) = some (false, .iconst 1, 19, 1, 0) := rfl
theorem ix_52_19 : lkp 19 (mI mi_52) = some (false, .iadd, 20, 0, 0) := rfl
theorem ix_52_20 : lkp 20 (mI mi_52) = some (false, .imul, 21, 0, 0) := rfl
theorem ix_52_21 : lkp 21 (mI mi_52) = some (false, .iload_n 3, 22, 3, 0) := rfl
theorem ix_52_22 : lkp 22 (mI mi_52) = some (false, .iload_n 3, 23, 3, 0) := rfl
theorem ix_52_23 : lkp 23 (mI mi_52) = some (false, .iconst 1, 24, 1, 0) := rfl
theorem ix_52_24 : lkp 24 (mI mi_52) = some (false, .isub, 25, 0, 0) := rfl
theorem ix_52_25 : lkp 25 (mI mi_52) = some (false, .imul, 26, 0, 0) := rfl
theorem ix_52_26 : lkp 26 (mI mi_52) = some (false, .iconst 2, 27, 2, 0) := rfl
theorem ix_52_27 : lkp 27 (mI mi_52) = some (false, .idiv, 28, 0, 0) := rfl
theorem ix_52_28 : lkp 28 (mI mi_52) = some (false, .isub, 29, 0, 0) := rfl
theorem ix_52_29 : lkp 29 (mI mi_52) = some (false, .iload 4, 31, 4, 0) := rfl
theorem ix_52_31 : lkp 31 (mI mi_52) = some (false, .iadd, 32, 0, 0) := rfl
theorem ix_52_32 : lkp 32 (mI mi_52) = some (false, .iload_n 3, 33, 3, 0) := rfl
theorem ix_52_33 : lkp 33 (mI mi_52) = some (false, .isub, 34, 0, 0) := rfl
theorem ix_52_34 : lkp 34 (mI mi_52) = some (false, .ireturn, 35, 0, 0) := rfl
theorem ix_53_0 : lkp 0 (mI mi_53) = some (false, .aload_n 0, 1, 0, 0) := rfl
theorem ix_53_1 : lkp 1 (mI mi_53) = some (false, .invokespecial 3, 4, 0, 0) := rfl
theorem ix_53_4 : lkp 4 (mI mi_53) = some (false, .aload_n 0, 5, 0, 0) := rfl
theorem ix_53_5 : lkp 5 (mI mi_53) = some (false, .bipush 6, 7, 6, 0) := rfl
theorem ix_53_7 : lkp 7 (mI mi_53) = some (false, .anewarray 9, 10, 2, 0) := rfl
theorem ix_53_10 : lkp 10 (mI mi_53) = some (false, .putfield 11, 13, 7, 194) := rfl
theorem ix_53_13 : lkp 13 (mI mi_53) = some (false, .iconst 0, 14, 0, 0) := rfl
theorem ix_53_14 : lkp 14 (mI mi_53) = some (false, .istore_n 2, 15, 2, 0) := rfl
theorem ix_53_15 : lkp 15 (mI mi_53) = some (true, .iload_n 2, 16, 2, 0) := rfl
theorem ix_53_16 : lkp 16 (mI mi_53) = some (false, .bipush 6, 18, 6, 0) := rfl
theorem ix_53_18 : lkp 18 (mI mi_53) = some (false, .if_icmp .ge 23, 21, 0, 41) := rfl
theorem ix_53_21 : lkp 21 (mI mi_53) = some (false, .aload_n 0, 22, 0, 0) := rfl
theorem ix_53_22 : lkp 22 (mI mi_53) = some (false, .getfield 11, 25, 7, 2) := rfl
theorem ix_53_25 : lkp 25 (mI mi_53) = some (false, .iload_n 2, 26, 2, 0) := rfl
theorem ix_53_26 : lkp 26 (mI mi_53) = some (false, .new 9, 29, 4, 14) := rfl
theorem ix_53_29 : lkp 29 (mI mi_53) = some (false, .dup, 30, 0, 0) := rfl
theorem ix_53_30 : lkp 30 (mI mi_53) = some (false, .aload_n 1, 31, 1, 0) := rfl
theorem ix_53_31 : lkp 31 (mI mi_53) = some (false, .invokespecial 17, 34, 16, 1) := rfl
theorem ix_53_34 : lkp 34 (mI mi_53) = some (false, .aastore, 35, 0, 0) := rfl
theorem ix_53_35 : lkp 35 (mI mi_53) = some (false, .iinc 2 1, 38, 2, 2) := rfl
theorem ix_53_38 : lkp 38 (mI mi_53) = some (false, .goto (-23), 41, 0, 15) := rfl
theorem ix_53_41 : lkp 41 (mI mi_53) = some (false, .aload_n 0, 42, 0, 0) := rfl
theorem ix_53_42 : lkp 42 (mI mi_53) = some (false, .iconst 4, 43, 4, 0) := rfl
theorem ix_53_43 : lkp 43 (mI mi_53) = some (false, .newarray .int, 45, 0, 0) := rfl
theorem ix_53_45 : lkp 45 (mI mi_53) = some (false, .putfield 20, 48, 7, 195) := rfl
theorem ix_53_48 : lkp 48 (mI mi_53) = some (false, .iconst 0, 49, 0, 0) := rfl
theorem ix_53_49 : lkp 49 (mI mi_53) = some (false, .istore_n 2, 50, 2, 0) := rfl
theorem ix_53_50 : lkp 50 (mI mi_53) = some (true, .iload_n 2, 51, 2, 0) := rfl
theorem ix_53_51 : lkp 51 (mI mi_53) = some (false, .iconst 4, 52, 4, 0) := rfl
theorem ix_53_52 : lkp 52 (mI mi_53) = some (false, .if_icmp .ge 17, 55, 0, 69) := rfl
theorem ix_53_55 : lkp 55 (mI mi_53) = some (false, .aload_n 0, 56, 0, 0) := rfl
theorem ix_53_56 : lkp 56 (mI mi_53) = some (false, .getfield 20, 59, 7, 3) := rfl
theorem ix_53_59 : lkp 59 (mI mi_53) = some (false, .iload_n 2, 60, 2, 0) := rfl
theorem ix_53_60 : lkp 60 (mI mi_53) = some (false, .bipush 100, 62, 100, 0) := rfl
theorem ix_53_62 : lkp 62 (mI mi_53) = some (false, .iastore, 63, 0, 0) := rfl
theorem ix_53_63 : lkp 63 (mI mi_53) = some (false, .iinc 2 1, 66, 2, 2) := rfl
theorem ix_53_66 : lkp 66 (mI mi_53) = some (false, .goto (-16), 69, 0, 50) := rfl
theorem ix_53_69 : lkp 69 (mI mi_53) = some (false, .return_, 70, 0, 0) := rfl
theorem ix_54_0 : lkp 0 (mI mi_54) = some (false, .aload_n 0, 1, 0, 0) := rfl
theorem ix_54_1 : lkp 1 (mI mi_54) = some (false, .iconst 0, 2, 0, 0) := rfl
theorem ix_54_2 : lkp 2 (mI mi_54) = some (false, .putfield 24, 5, 7, 0) := rfl
theorem ix_54_5 : lkp 5 (mI mi_54) = some (false, .aload_n 0, 6, 0, 0) := rfl
theorem ix_54_6 : lkp 6 (mI mi_54) = some (false, .iconst 0, 7, 0, 0) := rfl
theorem ix_54_7 : lkp 7 (mI mi_54) = some (false, .putfield 28, 10, 7, 1) := rfl
theorem ix_54_10 : lkp 10 (mI mi_54) = some (false, .iconst 0, 11, 0, 0) := rfl
theorem ix_54_11 : lkp 11 (mI mi_54) = some (false, .istore_n 1, 12, 1, 0) := rfl
theorem ix_54_12 : lkp 12 (mI mi_54) = some (true, .iload_n 1, 13, 1, 0) := rfl
theorem ix_54_13 : lkp 13 (mI mi_54) = some (false, .iconst 4, 14, 4, 0) := rfl
theorem ix_54_14 : lkp 14 (mI mi_54) = some (false, .if_icmp .ge 17, 17, 0, 31) := rfl
theorem ix_54_17 : lkp 17 (mI mi_54) = some (false, .aload_n 0, 18, 0, 0) := rfl
theorem ix_54_18 : lkp 18 (mI mi_54) = some (false, .getfield 20, 21, 7, 3) := rfl
theorem ix_54_21 : lkp 21 (mI mi_54) = some (false, .iload_n 1, 22, 1, 0) := rfl
theorem ix_54_22 : lkp 22 (mI mi_54) = some (false, .bipush 100, 24, 100, 0) := rfl
theorem ix_54_24 : lkp 24 (mI mi_54) = some (false, .iastore, 25, 0, 0) := rfl
theorem ix_54_25 : lkp 25 (mI mi_54) = some (false, .iinc 1 1, 28, 1, 2) := rfl
theorem ix_54_28 : lkp 28 (mI mi_54) = some (false, .goto (-16), 31, 0, 12) := rfl
theorem ix_54_31 : lkp 31 (mI mi_54) = some (false, .aload_n 0, 32, 0, 0) := rfl
theorem ix_54_32 : lkp 32 (mI mi_54) = some (false, .iconst 0, 33, 0, 0) := rfl
theorem ix_54_33 : lkp 33 (mI mi_54) = some (false, .putfield 31, 36, 7, 4) := rfl
theorem ix_54_36 : lkp 36 (mI mi_54) = some (false, .return_, 37, 0, 0) := rfl
theorem ix_55_0 : lkp 0 (mI mi_55) = some (false, .aload_n 0, 1, 0, 0) := rfl
theorem ix_55_1 : lkp 1 (mI mi_55) = some (false, .aload_n 1, 2, 1, 0) := rfl
theorem ix_55_2 : lkp 2 (mI mi_55) = some (false, .getfield 24, 5, 7, 0) := rfl
theorem ix_55_5 : lkp 5 (mI mi_55) = some (false, .putfield 24, 8, 7, 0) := rfl
theorem ix_55_8 : lkp 8 (mI mi_55) = some (false, .aload_n 0, 9, 0, 0) := rfl
theorem ix_55_9 : lkp 9 (mI mi_55) = some (false, .aload_n 1, 10, 1, 0) := rfl
theorem ix_55_10 : lkp 10 (mI mi_55) = some (false, .getfield 28, 13, 7, 1) := rfl
theorem ix_55_13 : lkp 13 (mI mi_55) = some (false, .putfield 28, 16, 7, 1) := rfl
theorem ix_55_16 : lkp 16 (mI mi_55) = some (false, .iconst 0, 17, 0, 0) := rfl
theorem ix_55_17 : lkp 17 (mI mi_55) = some (false, .istore_n 2, 18, 2, 0) := rfl
theorem ix_55_18 : lkp 18 (mI mi_55) = some (true, .iload_n 2, 19, 2, 0) := rfl
theorem ix_55_19 : lkp 19 (mI mi_55) = some (false, .aload_n 0, 20, 0, 0) := rfl
theorem ix_55_20 : lkp 20 (mI mi_55) = some (false, .getfield 28, 23, 7, 1) := rfl
theorem ix_55_23 : lkp 23 (mI mi_55) = some (false, .if_icmp .ge 30, 26, 0, 53) := rfl
theorem ix_55_26 : lkp 26 (mI mi_55) = some (false, .iload_n 2, 27, 2, 0) := rfl
theorem ix_55_27 : lkp 27 (mI mi_55) = some (false, .bipush 6, 29, 6, 0) := rfl
theorem ix_55_29 : lkp 29 (mI mi_55) = some (false, .if_icmp .ge 24, 32, 0, 53) := rfl
theorem ix_55_32 : lkp 32 (mI mi_55) = some (false, .aload_n 0, 33, 0, 0) := rfl
theorem ix_55_33 : lkp 33 (mI mi_55) = some (false, .getfield 11, 36, 7, 2) := rfl
theorem ix_55_36 : lkp 36 (mI mi_55) = some (false, .iload_n 2, 37, 2, 0) := rfl
theorem ix_55_37 : lkp 37 (mI mi_55) = some (false, .aaload, 38, 0, 0) := rfl
theorem ix_55_38 : lkp 38 (mI mi_55) = some (false, .aload_n 1, 39, 1, 0) := rfl
theorem ix_55_39 : lkp 39 (mI mi_55) = some (false, .getfield 11, 42, 7, 2) := rfl
theorem ix_55_42 : lkp 42 (mI mi_55) = some (false, .iload_n 2, 43, 2, 0) := rfl
theorem ix_55_43 : lkp 43 (mI mi_55) = some (false, .aaload, 44, 0, 0) := rfl
theorem ix_55_44 : lkp 44 (mI mi_55) = some (false, .invokevirtual 34, 47, 20, 65) := rfl
theorem ix_55_47 : lkp 47 (mI mi_55) = some (false, .iinc 2 1, 50, 2, 2) := rfl
theorem ix_55_50 : lkp 50 (mI mi_55) = some (false, .goto (-32), 53, 0, 18) := rfl
theorem ix_55_53 : lkp 53 (mI mi_55) = some (false, .aload_n 1, 54, 1, 0) := rfl
theorem ix_55_54 : lkp 54 (mI mi_55) = some (false, .getfield 20, 57, 7, 3) := rfl
theorem ix_55_57 : lkp 57 (mI mi_55) = some (false, .iconst 0, 58, 0, 0) := rfl
theorem ix_55_58 : lkp 58 (mI mi_55) = some (false, .aload_n 0, 59, 0, 0) := rfl
theorem ix_55_59 : lkp 59 (mI mi_55) = some (false, .getfield 20, 62, 7, 3) := rfl
theorem ix_55_62 : lkp 62 (mI mi_55) = some (false, .iconst 0, 63, 0, 0) := rfl
theorem ix_55_63 : lkp 63 (mI mi_55) = some (false, .iconst 4, 64, 4, 0) := rfl
theorem ix_55_64 : lkp 64 (mI mi_55) = some (false, .invokestatic 38, 67, 1000, 5) := rfl
theorem ix_55_67 : lkp 67 (mI mi_55) = some (false, .aload_n 0, 68, 0, 0) := rfl
theorem ix_55_68 : lkp 68 (mI mi_55) = some (false, .aload_n 1, 69, 1, 0) := rfl
theorem ix_55_69 : lkp 69 (mI mi_55) = some (false, .getfield 31, 72, 7, 4) := rfl
theorem ix_55_72 : lkp 72 (mI mi_55) = some (false, .putfield 31, 75, 7, 4) := rfl
theorem ix_55_75 : lkp 75 (mI mi_55) = some (false, .return_, 76, 0, 0) := rfl
theorem ix_56_0 : lkp 0 (mI mi_56) = some (false, .aload_n 0, 1, 0, 0) := rfl
theorem ix_56_1 : lkp 1 (mI mi_56) = some (false, .getfield 24, 4, 7, 0) := rfl
theorem ix_56_4 : lkp 4 (mI mi_56) = some (false, .aload_n 1, 5, 1, 0) := rfl
theorem ix_56_5 : lkp 5 (mI mi_56) = some (false, .getfield 24, 8, 7, 0) := rfl
theorem ix_56_8 : lkp 8 (mI mi_56) = some (false, .if_icmp .ne 29, 11, 0, 37) := rfl
theorem ix_56_11 : lkp 11 (mI mi_56) = some (false, .aload_n 0, 12, 0, 0) := rfl
theorem ix_56_12 : lkp 12 (mI mi_56) = some (false, .getfield 28, 15, 7, 1) := rfl
theorem ix_56_15 : lkp 15 (mI mi_56) = some (false, .aload_n 1, 16, 1, 0) := rfl
theorem ix_56_16 : lkp 16 (mI mi_56) = some (false, .getfield 28, 19, 7, 1) := rfl
theorem ix_56_19 : lkp 19 (mI mi_56) = some (false, .if_icmp .ne 18, 22, 0, 37) := rfl
theorem ix_56_22 : lkp 22 (mI mi_56) = some (false, .aload_n 0, 23, 0, 0) := rfl
theorem ix_56_23 : lkp 23 (mI mi_56) = some (false, .getfield 31, 26, 7, 4) := rfl
theorem ix_56_26 : lkp 26 (mI mi_56) = some (false, .aload_n 1, 27, 1, 0) := rfl
theorem ix_56_27 : lkp 27 (mI mi_56) = some (false, .getfield 31, 30, 7, 4) := rfl
theorem ix_56_30 : lkp 30 (mI mi_56) = some (false, .if_icmp .ne 7, 33, 0, 37) := rfl
theorem ix_56_33 : lkp 33 (mI mi_56) = some (false, .iconst 1, 34, 1, 0) := rfl
theorem ix_56_34 : lkp 34 (mI mi_56) = some (false, .goto 4, 37, 0, 38) := rfl
theorem ix_56_37 : lkp 37 (mI mi_56) = some (false, .iconst 0, 38, 0, 0) := rfl
theorem ix_56_38 : lkp 38 (mI mi_56) = some (false, .istore_n 2, 39, 2, 0) := rfl
theorem ix_56_39 : lkp 39 (mI mi_56) = some (false, .iconst 0, 40, 0, 0) := rfl
theorem ix_56_40 : lkp 40 (mI mi_56) = some (false, .istore_n 3, 41, 3, 0) := rfl
theorem ix_56_41 : lkp 41 (mI mi_56) = some (true, .iload_n 2, 42, 2, 0) := rfl
theorem ix_56_42 : lkp 42 (mI mi_56) = some (false, .ifCond .eq 39, 45, 0, 81) := rfl
theorem ix_56_45 : lkp 45 (mI mi_56) = some (false, .iload_n 3, 46, 3, 0) := rfl
theorem ix_56_46 : lkp 46 (mI mi_56) = some (false, .aload_n 0, 47, 0, 0) := rfl
theorem ix_56_47 : lkp 47 (mI mi_56) = some (false, .getfield 28, 50, 7, 1) := rfl
theorem ix_56_50 : lkp 50 (mI mi_56) = some (false, .if_icmp .ge 31, 53, 0, 81) := rfl
theorem ix_56_53 : lkp 53 (mI mi_56) = some (false, .iload_n 3, 54, 3, 0) := rfl
theorem ix_56_54 : lkp 54 (mI mi_56) = some (false, .bipush 6, 56, 6, 0) := rfl
theorem ix_56_56 : lkp 56 (mI mi_56) = some (false, .if_icmp .ge 25, 59, 0, 81) := rfl
theorem ix_56_59 : lkp 59 (mI mi_56) = some (false, .aload_n 0, 60, 0, 0) := rfl
theorem ix_56_60 : lkp 60 (mI mi_56) = some (false, .getfield 11, 63, 7, 2) := rfl
theorem ix_56_63 : lkp 63 (mI mi_56) = some (false, .iload_n 3, 64, 3, 0) := rfl
theorem ix_56_64 : lkp 64 (mI mi_56) = some (false, .aaload, 65, 0, 0) := rfl
theorem ix_56_65 : lkp 65 (mI mi_56) = some (false, .aload_n 1, 66, 1, 0) := rfl
theorem ix_56_66 : lkp 66 (mI mi_56) = some (false, .getfield 11, 69, 7, 2) := rfl
theorem ix_56_69 : lkp 69 (mI mi_56) = some (false, .iload_n 3, 70, 3, 0) := rfl
theorem ix_56_70 : lkp 70 (mI mi_56) = some (false, .aaload, 71, 0, 0) := rfl
theorem ix_56_71 : lkp 71 (mI mi_56) = some (false, .invokevirtual 44, 74, 21, 65) := rfl
theorem ix_56_74 : lkp 74 (mI mi_56) = some (false, .istore_n 2, 75, 2, 0) := rfl
theorem ix_56_75 : lkp 75 (mI mi_56) = some (false, .iinc 3 1, 78, 3, 2) := rfl
theorem ix_56_78 : lkp 78 (mI mi_56) = some (false, .goto (-37), 81, 0, 41) := rfl
theorem ix_56_81 : lkp 81 (mI mi_56) = some (false, .iconst 0, 82, 0, 0) := rfl
theorem ix_56_82 : lkp 82 (mI mi_56) = some (false, .istore_n 3, 83, 3, 0) := rfl
theorem ix_56_83 : lkp 83 (mI mi_56) = some (true, .iload_n 2, 84, 2, 0) := rfl
theorem ix_56_84 : lkp 84 (mI mi_56) = some (false, .ifCond .eq 35, 87, 0, 119) := rfl
theorem ix_56_87 : lkp 87 (mI mi_56) = some (false, .iload_n 3, 88, 3, 0) := rfl
theorem ix_56_88 : lkp 88 (mI mi_56) = some (false, .iconst 4, 89, 4, 0) := rfl
theorem ix_56_89 : lkp 89 (mI mi_56) = some (false, .if_icmp .ge 30, 92, 0, 119) := rfl
theorem ix_56_92 : lkp 92 (mI mi_56) = some (false, .aload_n 0, 93, 0, 0) := rfl
theorem ix_56_93 : lkp 93 (mI mi_56) = some (false, .getfield 20, 96, 7, 3) := rfl
theorem ix_56_96 : lkp 96 (mI mi_56) = some (false, .iload_n 3, 97, 3, 0) := rfl
theorem ix_56_97 : lkp 97 (mI mi_56) = some (false, .iaload, 98, 0, 0) := rfl
theorem ix_56_98 : lkp 98 (mI mi_56) = some (false, .aload_n 1, 99, 1, 0) := rfl
theorem ix_56_99 : lkp 99 (mI mi_56) = some (false, .getfield 20, 102, 7, 3) := rfl
theorem ix_56_102 : lkp 102 (mI mi_56) = some (false, .iload_n 3, 103, 3, 0) := rfl
theorem ix_56_103 : lkp 103 (mI mi_56) = some (false, .iaload, 104, 0, 0) := rfl
theorem ix_56_104 : lkp 104 (mI mi_56) = some (false, .if_icmp .ne 7, 107, 0, 111) := rfl
theorem ix_56_107 : lkp 107 (mI mi_56) = some (false, .iconst 1, 108, 1, 0) := rfl
theorem ix_56_108 : lkp 108 (mI mi_56) = some (false, .goto 4, 111, 0, 112) := rfl
theorem ix_56_111 : lkp 111 (mI mi_56) = some (false, .iconst 0, 112, 0, 0) := rfl
theorem ix_56_112 : lkp 112 (mI mi_56) = some (false, .istore_n 2, 113, 2, 0) := rfl
theorem ix_56_113 : lkp 113 (mI mi_56) = some (false, .iinc 3 1, 116, 3, 2) := rfl
theorem ix_56_116 : lkp 116 (mI mi_56) = some (false, .goto (-33), 119, 0, 83) := rfl
theorem ix_56_119 : lkp 119 (mI mi_56) = some (false, .iload_n 2, 120, 2, 0) := rfl
theorem ix_56_120 : lkp 120 (mI mi_56) = some (false, .ireturn, 121, 0, 1) := rfl
theorem ix_57_0 : lkp 0 (mI mi_57) = some (false, .iload_n 1, 1, 1, 0) := rfl
theorem ix_57_1 : lkp 1 (mI mi_57) = some (false, .ifCond .lt 26, 4, 0, 27) := rfl
theorem ix_57_4 : lkp 4 (mI mi_57) = some (false, .iload_n 1, 5, 1, 0) := rfl
theorem ix_57_5 : lkp 5 (mI mi_57) = some (false, .aload_n 0, 6, 0, 0) := rfl
theorem ix_57_6 : lkp 6 (mI mi_57) = some (false, .getfield 28, 9, 7, 1) := rfl
theorem ix_57_9 : lkp 9 (mI mi_57) = some (false, .if_icmp .ge 18, 12, 0, 27) := rfl
theorem ix_57_12 : lkp 12 (mI mi_57) = some (false, .iload_n 1, 13, 1, 0) := rfl
theorem ix_57_13 : lkp 13 (mI mi_57) = some (false, .bipush 6, 15, 6, 0) := rfl
theorem ix_57_15 : lkp 15 (mI mi_57) = some (false, .if_icmp .ge 12, 18, 0, 27) := rfl
theorem ix_57_18 : lkp 18 (mI mi_57) = some (false, .aload_n 0, 19, 0, 0) := rfl
theorem ix_57_19 : lkp 19 (mI mi_57) = some (false, .getfield 11, 22, 7, 2) := rfl
theorem ix_57_22 : lkp 22 (mI mi_57) = some (false, .iload_n 1, 23, 1, 0) := rfl
theorem ix_57_23 : lkp 23 (mI mi_57) = some (false, .aaload, 24, 0, 0) := rfl
theorem ix_57_24 : lkp 24 (mI mi_57) = some (false, .goto 4, 27, 0, 28) := rfl
theorem ix_57_27 : lkp 27 (mI mi_57) = some (false, .aconst_null, 28, 0, 0) := rfl
theorem ix_57_28 : lkp 28 (mI mi_57) = some (false, .areturn, 29, 0, 0) := rfl
theorem ix_58_0 : lkp 0 (mI mi_58) = some (false, .iload_n 1, 1, 1, 0) := rfl
theorem ix_58_1 : lkp 1 (mI mi_58) = some (false, .ifCond .lt 17, 4, 0, 18) := rfl
theorem ix_58_4 : lkp 4 (mI mi_58) = some (false, .iload_n 1, 5, 1, 0) := rfl
theorem ix_58_5 : lkp 5 (mI mi_58) = some (false, .iconst 4, 6, 4, 0) := rfl
theorem ix_58_6 : lkp 6 (mI mi_58) = some (false, .if_icmp .ge 12, 9, 0, 18) := rfl
theorem ix_58_9 : lkp 9 (mI mi_58) = some (false, .aload_n 0, 10, 0, 0) := rfl
theorem ix_58_10 : lkp 10 (mI mi_58) = some (false, .getfield 20, 13, 7, 3) := rfl
theorem ix_58_13 : lkp 13 (mI mi_58) = some (false, .iload_n 1, 14, 1, 0) := rfl
theorem ix_58_14 : lkp 14 (mI mi_58) = some (false, .iaload, 15, 0, 0) := rfl
theorem ix_58_15 : lkp 15 (mI mi_58) = some (false, .goto 4, 18, 0, 19) := rfl
theorem ix_58_18 : lkp 18 (mI mi_58) = some (false, .iconst 0, 19, 0, 0) := rfl
theorem ix_58_19 : lkp 19 (mI mi_58) = some (false, .ireturn, 20, 0, 0) := rfl
theorem ix_59_0 : lkp 0 (mI mi_59) = some (false, .iload_n 1, 1, 1, 0) := rfl
theorem ix_59_1 : lkp 1 (mI mi_59) = some (false, .ifCond .lt 18, 4, 0, 19) := rfl
theorem ix_59_4 : lkp 4 (mI mi_59) = some (false, .iload_n 1, 5, 1, 0) := rfl
theorem ix_59_5 : lkp 5 (mI mi_59) = some (false, .iconst 4, 6, 4, 0) := rfl
theorem ix_59_6 : lkp 6 (mI mi_59) = some (false, .if_icmp .ge 13, 9, 0, 19) := rfl
theorem ix_59_9 : lkp 9 (mI mi_59) = some (false, .aload_n 0, 10, 0, 0) := rfl
theorem ix_59_10 : lkp 10 (mI mi_59) = some (false, .getfield 20, 13, 7, 3) := rfl
theorem ix_59_13 : lkp 13 (mI mi_59) = some (false, .iload_n 1, 14, 1, 0) := rfl
theorem ix_59_14 : lkp 14 (mI mi_59) = some (false, .dup2, 15, 0, 0) := rfl
theorem ix_59_15 : lkp 15 (mI mi_59) = some (false, .iaload, 16, 0, 0) := rfl
theorem ix_59_16 : lkp 16 (mI mi_59) = some (false, .iload_n 2, 17, 2, 0) := rfl
theorem ix_59_17 : lkp 17 (mI mi_59) = some (false, .iadd, 18, 0, 0) := rfl
theorem ix_59_18 : lkp 18 (mI mi_59) = some (false, .iastore, 19, 0, 0) := rfl
theorem ix_59_19 : lkp 19 (mI mi_59) = some (false, .return_, 20, 0, 0) := rfl
theorem ix_60_0 : lkp 0 (mI mi_60) = some (false, .aload_n 0, 1, 0, 0) := rfl
theorem ix_60_1 : lkp 1 (mI mi_60) = some (false, .dup, 2, 0, 0) := rfl
theorem ix_60_2 : lkp 2 (mI mi_60) = some (false, .getfield 24, 5, 7, 0) := rfl
theorem ix_60_5 : lkp 5 (mI mi_60) = some (false, .iconst 1, 6, 1, 0) := rfl
theorem ix_60_6 : lkp 6 (mI mi_60) = some (false, .iadd, 7, 0, 0) := rfl
theorem ix_60_7 : lkp 7 (mI mi_60) = some (false, .putfield 24, 10, 7, 0) := rfl
theorem ix_60_10 : lkp 10 (mI mi_60) = some (false, .aload_n 1, 11, 1, 0) := rfl
theorem ix_60_11 : lkp 11 (mI mi_60) = some (false, .aload_n 0, 12, 0, 0) := rfl
theorem ix_60_12 : lkp 12 (mI mi_60) = some (false, .invokevirtual 48, 15, 500, 1) := rfl
theorem ix_60_15 : lkp 15 (mI mi_60) = some (false, .aload_n 0, 16, 0, 0) := rfl
theorem ix_60_16 : lkp 16 (mI mi_60) = some (false, .aload_n 1, 17, 1, 0) := rfl
theorem ix_60_17 : lkp 17 (mI mi_60) = some (false, .getfield 54, 20, 50, 1) := rfl
theorem ix_60_20 : lkp 20 (mI mi_60) = some (false, .invokevirtual 57, 23, 57, 113) := rfl
theorem ix_60_23 : lkp 23 (mI mi_60) = some (false, .astore_n 2, 24, 2, 0) := rfl
theorem ix_60_24 : lkp 24 (mI mi_60) = some (false, .aload_n 2, 25, 2, 0) := rfl
theorem ix_60_25 : lkp 25 (mI mi_60) = some (false, .ifnull 15, 28, 0, 40) := rfl
theorem ix_60_28 : lkp 28 (mI mi_60) = some (false, .aload_n 2, 29, 2, 0) := rfl
theorem ix_60_29 : lkp 29 (mI mi_60) = some (false, .invokevirtual 61, 32, 24, 64) := rfl
theorem ix_60_32 : lkp 32 (mI mi_60) = some (false, .ifCond .eq 8, 35, 0, 40) := rfl
theorem ix_60_35 : lkp 35 (mI mi_60) = some (false, .aload_n 0, 36, 0, 0) := rfl
theorem ix_60_36 : lkp 36 (mI mi_60) = some (false, .aload_n 2, 37, 2, 0) := rfl
theorem ix_60_37 : lkp 37 (mI mi_60) = some (false, .invokevirtual 65, 40, 63, 113) := rfl
theorem ix_60_40 : lkp 40 (mI mi_60) = some (false, .return_, 41, 0, 0) := rfl
theorem ix_61_0 : lkp 0 (mI mi_61) = some (false, .aload_n 0, 1, 0, 0) := rfl
theorem ix_61_1 : lkp 1 (mI mi_61) = some (false, .getfield 28, 4, 7, 1) := rfl
theorem ix_61_4 : lkp 4 (mI mi_61) = some (false, .ifCond .lt 12, 7, 0, 16) := rfl
theorem ix_61_7 : lkp 7 (mI mi_61) = some (false, .aload_n 0, 8, 0, 0) := rfl
theorem ix_61_8 : lkp 8 (mI mi_61) = some (false, .getfield 28, 11, 7, 1) := rfl
theorem ix_61_11 : lkp 11 (mI mi_61) = some (false, .bipush 6, 13, 6, 0) := rfl
theorem ix_61_13 : lkp 13 (mI mi_61) = some (false, .if_icmp .lt 5, 16, 0, 18) := rfl
theorem ix_61_16 : lkp 16 (mI mi_61) = some (false, .aconst_null, 17, 0, 0) := rfl
theorem ix_61_17 : lkp 17 (mI mi_61) = some (false, .areturn, 18, 0, 0) := rfl
theorem ix_61_18 : lkp 18 (mI mi_61) = some (false, .aload_n 0, 19, 0, 0) := rfl
theorem ix_61_19 : lkp 19 (mI mi_61) = some (false, .dup, 20, 0, 0) := rfl
theorem ix_61_20 : lkp 20 (mI mi_61) = some (false, .getfield 28, 23, 7, 1) := rfl
theorem ix_61_23 : lkp 23 (mI mi_61) = some (false, .iconst 1, 24, 1, 0) := rfl
theorem ix_61_24 : lkp 24 (mI mi_61) = some (false, .iadd, 25, 0, 0) := rfl
theorem ix_61_25 : lkp 25 (mI mi_61) = some (false, .putfield 28, 28, 7, 1) := rfl
theorem ix_61_28 : lkp 28 (mI mi_61) = some (false, .aload_n 0, 29, 0, 0) := rfl
theorem ix_61_29 : lkp 29 (mI mi_61) = some (false, .getfield 11, 32, 7, 2) := rfl
theorem ix_61_32 : lkp 32 (mI mi_61) = some (false, .aload_n 0, 33, 0, 0) := rfl
theorem ix_61_33 : lkp 33 (mI mi_61) = some (false, .getfield 28, 36, 7, 1) := rfl
theorem ix_61_36 : lkp 36 (mI mi_61) = some (false, .iconst 1, 37, 1, 0) := rfl
theorem ix_61_37 : lkp 37 (mI mi_61) = some (false, .isub, 38, 0, 0) := rfl
theorem ix_61_38 : lkp 38 (mI mi_61) = some (false, .aaload, 39, 0, 0) := rfl
theorem ix_61_39 : lkp 39 (mI mi_61) = some (false, .areturn, 40, 0, 0) := rfl
theorem ix_62_0 : lkp 0 (mI mi_62) = some (false, .aload_n 0, 1, 0, 0) := rfl
theorem ix_62_1 : lkp 1 (mI mi_62) = some (false, .iload_n 2, 2, 2, 0) := rfl
theorem ix_62_2 : lkp 2 (mI mi_62) = some (false, .iload 4, 4, 4, 0) := rfl
theorem ix_62_4 : lkp 4 (mI mi_62) = some (false, .ineg, 5, 0, 0) := rfl
theorem ix_62_5 : lkp 5 (mI mi_62) = some (false, .invokevirtual 68, 8, 59, 114) := rfl
theorem ix_62_8 : lkp 8 (mI mi_62) = some (false, .aload_n 1, 9, 1, 0) := rfl
theorem ix_62_9 : lkp 9 (mI mi_62) = some (false, .getfield 72, 12, 4, 13) := rfl
theorem ix_62_12 : lkp 12 (mI mi_62) = some (false, .iload_n 2, 13, 2, 0) := rfl
theorem ix_62_13 : lkp 13 (mI mi_62) = some (false, .iload_n 3, 14, 3, 0) := rfl
theorem ix_62_14 : lkp 14 (mI mi_62) = some (false, .iload 4, 16, 4, 0) := rfl
theorem ix_62_16 : lkp 16 (mI mi_62) = some (false, .invokevirtual 76, 19, 5, 19) := rfl
theorem ix_62_19 : lkp 19 (mI mi_62) = some (false, .return_, 20, 0, 0) := rfl
theorem ix_63_0 : lkp 0 (mI mi_63) = some (false, .aload_n 0, 1, 0, 0) := rfl
theorem ix_63_1 : lkp 1 (mI mi_63) = some (false, .dup, 2, 0, 0) := rfl
theorem ix_63_2 : lkp 2 (mI mi_63) = some (false, .getfield 31, 5, 7, 4) := rfl
theorem ix_63_5 : lkp 5 (mI mi_63) = some (false, .aload_n 1, 6, 1, 0) := rfl
theorem ix_63_6 : lkp 6 (mI mi_63) = some (false, .getfield 72, 9, 4, 13) := rfl
theorem ix_63_9 : lkp 9 (mI mi_63) = some (false, .aload_n 1, 10, 1, 0) := rfl
theorem ix_63_10 : lkp 10 (mI mi_63) = some (false, .getfield 82, 13, 4, 10) := rfl
theorem ix_63_13 : lkp 13 (mI mi_63) = some (false, .invokevirtual 85, 16, 8, 17) := rfl
theorem ix_63_16 : lkp 16 (mI mi_63) = some (false, .iadd, 17, 0, 0) := rfl
theorem ix_63_17 : lkp 17 (mI mi_63) = some (false, .putfield 31, 20, 7, 4) := rfl
theorem ix_63_20 : lkp 20 (mI mi_63) = some (false, .aload_n 0, 21, 0, 0) := rfl
theorem ix_63_21 : lkp 21 (mI mi_63) = some (false, .aload_n 1, 22, 1, 0) := rfl
theorem ix_63_22 : lkp 22 (mI mi_63) = some (false, .iconst 1, 23, 1, 0) := rfl
theorem ix_63_23 : lkp 23 (mI mi_63) = some (false, .invokevirtual 89, 26, 65, 114) := rfl
theorem ix_63_26 : lkp 26 (mI mi_63) = some (false, .return_, 27, 0, 0) := rfl
theorem ix_64_0 : lkp 0 (mI mi_64) = some (false, .aload_n 0, 1, 0, 0) := rfl
theorem ix_64_1 : lkp 1 (mI mi_64) = some (false, .dup, 2, 0, 0) := rfl
theorem ix_64_2 : lkp 2 (mI mi_64) = some (false, .getfield 31, 5, 7, 4) := rfl
theorem ix_64_5 : lkp 5 (mI mi_64) = some (false, .aload_n 1, 6, 1, 0) := rfl
theorem ix_64_6 : lkp 6 (mI mi_64) = some (false, .getfield 72, 9, 4, 13) := rfl
theorem ix_64_9 : lkp 9 (mI mi_64) = some (false, .invokevirtual 93, 12, 9, 16) := rfl
theorem ix_64_12 : lkp 12 (mI mi_64) = some (false, .isub, 13, 0, 0) := rfl
theorem ix_64_13 : lkp 13 (mI mi_64) = some (false, .putfield 31, 16, 7, 4) := rfl
theorem ix_64_16 : lkp 16 (mI mi_64) = some (false, .aload_n 0, 17, 0, 0) := rfl
theorem ix_64_17 : lkp 17 (mI mi_64) = some (false, .aload_n 1, 18, 1, 0) := rfl
theorem ix_64_18 : lkp 18 (mI mi_64) = some (false, .iconst (-1), 19, 1, 1) := rfl
theorem ix_64_19 : lkp 19 (mI mi_64) = some (false, .invokevirtual 89, 22, 65, 114) := rfl
theorem ix_64_22 : lkp 22 (mI mi_64) = some (false, .return_, 23, 0, 0) := rfl
theorem ix_65_0 : lkp 0 (mI mi_65) = some (false, .iconst 0, 1, 0, 0) := rfl
theorem ix_65_1 : lkp 1 (mI mi_65) = some (false, .istore_n 3, 2, 3, 0) := rfl
theorem ix_65_2 : lkp 2 (mI mi_65) = some (true, .iload_n 3, 3, 3, 0) := rfl
theorem ix_65_3 : lkp 3 (mI mi_65) = some (false, .aload_n 1, 4, 1, 0) := rfl
theorem ix_65_4 : lkp 4 (mI mi_65) = some (false, .getfield 72, 7, 4, 13) := rfl
theorem ix_65_7 : lkp 7 (mI mi_65) = some (false, .getfield 97, 10, 1, 0) := rfl
theorem ix_65_10 : lkp 10 (mI mi_65) = some (false, .if_icmp .ge 31, 13, 0, 41) := rfl
theorem ix_65_13 : lkp 13 (mI mi_65) = some (false, .aload_n 0, 14, 0, 0) := rfl
theorem ix_65_14 : lkp 14 (mI mi_65) = some (false, .aload_n 1, 15, 1, 0) := rfl
theorem ix_65_15 : lkp 15 (mI mi_65) = some (false, .getfield 72, 18, 4, 13) := rfl
theorem ix_65_18 : lkp 18 (mI mi_65) = some (false, .iload_n 3, 19, 3, 0) := rfl
theorem ix_65_19 : lkp 19 (mI mi_65) = some (false, .invokevirtual 100, 22, 6, 17) := rfl
theorem ix_65_22 : lkp 22 (mI mi_65) = some (false, .iload_n 2, 23, 2, 0) := rfl
theorem ix_65_23 : lkp 23 (mI mi_65) = some (false, .aload_n 1, 24, 1, 0) := rfl
theorem ix_65_24 : lkp 24 (mI mi_65) = some (false, .getfield 72, 27, 4, 13) := rfl
theorem ix_65_27 : lkp 27 (mI mi_65) = some (false, .iload_n 3, 28, 3, 0) := rfl
theorem ix_65_28 : lkp 28 (mI mi_65) = some (false, .invokevirtual 103, 31, 7, 17) := rfl
theorem ix_65_31 : lkp 31 (mI mi_65) = some (false, .imul, 32, 0, 0) := rfl
theorem ix_65_32 : lkp 32 (mI mi_65) = some (false, .invokevirtual 68, 35, 59, 114) := rfl
theorem ix_65_35 : lkp 35 (mI mi_65) = some (false, .iinc 3 1, 38, 3, 2) := rfl
theorem ix_65_38 : lkp 38 (mI mi_65) = some (false, .goto (-36), 41, 0, 2) := rfl
theorem ix_65_41 : lkp 41 (mI mi_65) = some (false, .return_, 42, 0, 0) := rfl
theorem ix_66_0 : lkp 0 (mI mi_66) = some (false, .aload_n 0, 1, 0, 0) := rfl
theorem ix_66_1 : lkp 1 (mI mi_66) = some (false, .invokevirtual 106, 4, 67, 112) := rfl
theorem ix_66_4 : lkp 4 (mI mi_66) = some (false, .ifCond .le 7, 7, 0, 11) := rfl
theorem ix_66_7 : lkp 7 (mI mi_66) = some (false, .iconst 1, 8, 1, 0) := rfl
theorem ix_66_8 : lkp 8 (mI mi_66) = some (false, .goto 4, 11, 0, 12) := rfl
theorem ix_66_11 : lkp 11 (mI mi_66) = some (false, .iconst 0, 12, 0, 0) := rfl
theorem ix_66_12 : lkp 12 (mI mi_66) = some (false, .ireturn, 13, 0, 1) := rfl
theorem ix_67_0 : lkp 0 (mI mi_67) = some (false, .iconst 0, 1, 0, 0) := rfl
theorem ix_67_1 : lkp 1 (mI mi_67) = some (false, .istore_n 1, 2, 1, 0) := rfl
theorem ix_67_2 : lkp 2 (mI mi_67) = some (false, .iconst 0, 3, 0, 0) := rfl
theorem ix_67_3 : lkp 3 (mI mi_67) = some (false, .istore_n 2, 4, 2, 0) := rfl
theorem ix_67_4 : lkp 4 (mI mi_67) = some (true, .iload_n 2, 5, 2, 0) := rfl
theorem ix_67_5 : lkp 5 (mI mi_67) = some (false, .aload_n 0, 6, 0, 0) := rfl
theorem ix_67_6 : lkp 6 (mI mi_67) = some (false, .getfield 28, 9, 7, 1) := rfl
theorem ix_67_9 : lkp 9 (mI mi_67) = some (false, .if_icmp .ge 46, 12, 0, 55) := rfl
theorem ix_67_12 : lkp 12 (mI mi_67) = some (false, .iload_n 2, 13, 2, 0) := rfl
theorem ix_67_13 : lkp 13 (mI mi_67) = some (false, .bipush 6, 15, 6, 0) := rfl
theorem ix_67_15 : lkp 15 (mI mi_67) = some (false, .if_icmp .ge 40, 18, 0, 55) := rfl
theorem ix_67_18 : lkp 18 (mI mi_67) = some (false, .iload_n 1, 19, 1, 0) := rfl
theorem ix_67_19 : lkp 19 (mI mi_67) = some (false, .aload_n 0, 20, 0, 0) := rfl
theorem ix_67_20 : lkp 20 (mI mi_67) = some (false, .getfield 11, 23, 7, 2) := rfl
theorem ix_67_23 : lkp 23 (mI mi_67) = some (false, .iload_n 2, 24, 2, 0) := rfl
theorem ix_67_24 : lkp 24 (mI mi_67) = some (false, .aaload, 25, 0, 0) := rfl
theorem ix_67_25 : lkp 25 (mI mi_67) = some (false, .invokevirtual 61, 28, 24, 64) := rfl
theorem ix_67_28 : lkp 28 (mI mi_67) = some (false, .ifCond .eq 7, 31, 0, 35) := rfl
theorem ix_67_31 : lkp 31 (mI mi_67) = some (false, .iconst 0, 32, 0, 0) := rfl
theorem ix_67_32 : lkp 32 (mI mi_67) = some (false, .goto 15, 35, 0, 47) := rfl
theorem ix_67_35 : lkp 35 (mI mi_67) = some (false, .aload_n 0, 36, 0, 0) := rfl
theorem ix_67_36 : lkp 36 (mI mi_67) = some (false, .getfield 11, 39, 7, 2) := rfl
theorem ix_67_39 : lkp 39 (mI mi_67) = some (false, .iload_n 2, 40, 2, 0) := rfl
theorem ix_67_40 : lkp 40 (mI mi_67) = some (false, .aaload, 41, 0, 0) := rfl
theorem ix_67_41 : lkp 41 (mI mi_67) = some (false, .getfield 72, 44, 4, 13) := rfl
theorem ix_67_44 : lkp 44 (mI mi_67) = some (false, .getfield 109, 47, 1, 1) := rfl
theorem ix_67_47 : lkp 47 (mI mi_67) = some (false, .iadd, 48, 0, 0) := rfl
theorem ix_67_48 : lkp 48 (mI mi_67) = some (false, .istore_n 1, 49, 1, 0) := rfl
theorem ix_67_49 : lkp 49 (mI mi_67) = some (false, .iinc 2 1, 52, 2, 2) := rfl
theorem ix_67_52 : lkp 52 (mI mi_67) = some (false, .goto (-48), 55, 0, 4) := rfl
theorem ix_67_55 : lkp 55 (mI mi_67) = some (false, .iload_n 1, 56, 1, 0) := rfl
theorem ix_67_56 : lkp 56 (mI mi_67) = some (false, .ireturn, 57, 0, 0) := rfl
theorem ix_68_0 : lkp 0 (mI mi_68) = some (false, .iconst 0, 1, 0, 0) := rfl
theorem ix_68_1 : lkp 1 (mI mi_68) = some (false, .istore_n 1, 2, 1, 0) := rfl
theorem ix_68_2 : lkp 2 (mI mi_68) = some (false, .iconst 0, 3, 0, 0) := rfl
theorem ix_68_3 : lkp 3 (mI mi_68) = some (false, .istore_n 2, 4, 2, 0) := rfl
theorem ix_68_4 : lkp 4 (mI mi_68) = some (true, .iload_n 2, 5, 2, 0) := rfl
theorem ix_68_5 : lkp 5 (mI mi_68) = some (false, .iconst 4, 6, 4, 0) := rfl
theorem ix_68_6 : lkp 6 (mI mi_68) = some (false, .if_icmp .ge 18, 9, 0, 24) := rfl
theorem ix_68_9 : lkp 9 (mI mi_68) = some (false, .iload_n 1, 10, 1, 0) := rfl
theorem ix_68_10 : lkp 10 (mI mi_68) = some (false, .aload_n 0, 11, 0, 0) := rfl
theorem ix_68_11 : lkp 11 (mI mi_68) = some (false, .getfield 20, 14, 7, 3) := rfl
theorem ix_68_14 : lkp 14 (mI mi_68) = some (false, .iload_n 2, 15, 2, 0) := rfl
theorem ix_68_15 : lkp 15 (mI mi_68) = some (false, .iaload, 16, 0, 0) := rfl
theorem ix_68_16 : lkp 16 (mI mi_68) = some (false, .iadd, 17, 0, 0) := rfl
theorem ix_68_17 : lkp 17 (mI mi_68) = some (false, .istore_n 1, 18, 1, 0) := rfl
theorem ix_68_18 : lkp 18 (mI mi_68) = some (false, .iinc 2 1, 21, 2, 2) := rfl
theorem ix_68_21 : lkp 21 (mI mi_68) = some (false, .goto (-17), 24, 0, 4) := rfl
theorem ix_68_24 : lkp 24 (mI mi_68) = some (false, .iload_n 1, 25, 1, 0) := rfl
theorem ix_68_25 : lkp 25 (mI mi_68) = some (false, .ireturn, 26, 0, 0) := rfl
theorem ix_69_0 : lkp 0 (mI mi_69) = some (false, .aload_n 0, 1, 0, 0) := rfl
theorem ix_69_1 : lkp 1 (mI mi_69) = some (false, .invokevirtual 112, 4, 68, 112) := rfl
theorem ix_69_4 : lkp 4 (mI mi_69) = some (false, .aload_n 0, 5, 0, 0) := rfl
theorem ix_69_5 : lkp 5 (mI mi_69) = some (false, .getfield 31, 8, 7, 4) := rfl
theorem ix_69_8 : lkp 8 (mI mi_69) = some (false, .iadd, 9, 0, 0) := rfl
theorem ix_69_9 : lkp 9 (mI mi_69) = some (false, .aload_n 0, 10, 0, 0) := rfl
theorem ix_69_10 : lkp 10 (mI mi_69) = some (false, .invokevirtual 106, 13, 67, 112) := rfl
theorem ix_69_13 : lkp 13 (mI mi_69) = some (false, .iadd, 14, 0, 0) := rfl
theorem ix_69_14 : lkp 14 (mI mi_69) = some (false, .ireturn, 15, 0, 0) := rfl
theorem ix_70_0 : lkp 0 (mI mi_70) = some (false, .iconst 0, 1, 0, 0) := rfl
theorem ix_70_1 : lkp 1 (mI mi_70) = some (false, .istore_n 1, 2, 1, 0) := rfl
theorem ix_70_2 : lkp 2 (mI mi_70) = some (false, .iconst 0, 3, 0, 0) := rfl
theorem ix_70_3 : lkp 3 (mI mi_70) = some (false, .istore_n 2, 4, 2, 0) := rfl
theorem ix_70_4 : lkp 4 (mI mi_70) = some (true, .iload_n 2, 5, 2, 0) := rfl
theorem ix_70_5 : lkp 5 (mI mi_70) = some (false, .aload_n 0, 6, 0, 0) := rfl
theorem ix_70_6 : lkp 6 (mI mi_70) = some (false, .getfield 28, 9, 7, 1) := rfl
theorem ix_70_9 : lkp 9 (mI mi_70) = some (false, .if_icmp .ge 35, 12, 0, 44) := rfl
theorem ix_70_12 : lkp 12 (mI mi_70) = some (false, .iload_n 2, 13, 2, 0) := rfl
theorem ix_70_13 : lkp 13 (mI mi_70) = some (false, .bipush 6, 15, 6, 0) := rfl
theorem ix_70_15 : lkp 15 (mI mi_70) = some (false, .if_icmp .ge 29, 18, 0, 44) := rfl
theorem ix_70_18 : lkp 18 (mI mi_70) = some (false, .iload_n 1, 19, 1, 0) := rfl
theorem ix_70_19 : lkp 19 (mI mi_70) = some (false, .aload_n 0, 20, 0, 0) := rfl
theorem ix_70_20 : lkp 20 (mI mi_70) = some (false, .getfield 11, 23, 7, 2) := rfl
theorem ix_70_23 : lkp 23 (mI mi_70) = some (false, .iload_n 2, 24, 2, 0) := rfl
theorem ix_70_24 : lkp 24 (mI mi_70) = some (false, .aaload, 25, 0, 0) := rfl
theorem ix_70_25 : lkp 25 (mI mi_70) = some (false, .invokevirtual 61, 28, 24, 64) := rfl
theorem ix_70_28 : lkp 28 (mI mi_70) = some (false, .ifCond .eq 7, 31, 0, 35) := rfl
theorem ix_70_31 : lkp 31 (mI mi_70) = some (false, .iconst 1, 32, 1, 0) := rfl
theorem ix_70_32 : lkp 32 (mI mi_70) = some (false, .goto 4, 35, 0, 36) := rfl
theorem ix_70_35 : lkp 35 (mI mi_70) = some (false, .iconst 0, 36, 0, 0) := rfl
theorem ix_70_36 : lkp 36 (mI mi_70) = some (false, .iadd, 37, 0, 0) := rfl
theorem ix_70_37 : lkp 37 (mI mi_70) = some (false, .istore_n 1, 38, 1, 0) := rfl
theorem ix_70_38 : lkp 38 (mI mi_70) = some (false, .iinc 2 1, 41, 2, 2) := rfl
theorem ix_70_41 : lkp 41 (mI mi_70) = some (false, .goto (-37), 44, 0, 4) := rfl
theorem ix_70_44 : lkp 44 (mI mi_70) = some (false, .iload_n 1, 45, 1, 0) := rfl
theorem ix_70_45 : lkp 45 (mI mi_70) = some (false, .ireturn, 46, 0, 0) := rfl
theorem ix_71_0 : lkp 0 (mI mi_71) = some (false, .iconst 1, 1, 1, 0) := rfl
theorem ix_71_1 : lkp 1 (mI mi_71) = some (false, .istore_n 1, 2, 1, 0) := rfl
theorem ix_71_2 : lkp 2 (mI mi_71) = some (false, .iconst 0, 3, 0, 0) := rfl
theorem ix_71_3 : lkp 3 (mI mi_71) = some (false, .istore_n 2, 4, 2, 0) := rfl
theorem ix_71_4 : lkp 4 (mI mi_71) = some (true, .iload_n 1, 5, 1, 0) := rfl
theorem ix_71_5 : lkp 5 (mI mi_71) = some (false, .ifCond .eq 33, 8, 0, 38) := rfl
theorem ix_71_8 : lkp 8 (mI mi_71) = some (false, .iload_n 2, 9, 2, 0) := rfl
theorem ix_71_9 : lkp 9 (mI mi_71) = some (false, .aload_n 0, 10, 0, 0) := rfl
theorem ix_71_10 : lkp 10 (mI mi_71) = some (false, .getfield 28, 13, 7, 1) := rfl
theorem ix_71_13 : lkp 13 (mI mi_71) = some (false, .if_icmp .ge 25, 16, 0, 38) := rfl
theorem ix_71_16 : lkp 16 (mI mi_71) = some (false, .iload_n 2, 17, 2, 0) := rfl
theorem ix_71_17 : lkp 17 (mI mi_71) = some (false, .bipush 6, 19, 6, 0) := rfl
theorem ix_71_19 : lkp 19 (mI mi_71) = some (false, .if_icmp .ge 19, 22, 0, 38) := rfl
theorem ix_71_22 : lkp 22 (mI mi_71) = some (false, .aload_n 0, 23, 0, 0) := rfl
theorem ix_71_23 : lkp 23 (mI mi_71) = some (false, .getfield 11, 26, 7, 2) := rfl
theorem ix_71_26 : lkp 26 (mI mi_71) = some (false, .iload_n 2, 27, 2, 0) := rfl
theorem ix_71_27 : lkp 27 (mI mi_71) = some (false, .aaload, 28, 0, 0) := rfl
theorem ix_71_28 : lkp 28 (mI mi_71) = some (false, .invokevirtual 115, 31, 43, 64) := rfl
theorem ix_71_31 : lkp 31 (mI mi_71) = some (false, .istore_n 1, 32, 1, 0) := rfl
theorem ix_71_32 : lkp 32 (mI mi_71) = some (false, .iinc 2 1, 35, 2, 2) := rfl
theorem ix_71_35 : lkp 35 (mI mi_71) = some (false, .goto (-31), 38, 0, 4) := rfl
theorem ix_71_38 : lkp 38 (mI mi_71) = some (false, .iload_n 1, 39, 1, 0) := rfl
theorem ix_71_39 : lkp 39 (mI mi_71) = some (false, .ireturn, 40, 0, 1) := rfl
theorem ix_72_0 : lkp 0 (mI mi_72) = some (false, .ldc2_w 118, 3, 7, 0) := rfl
theorem ix_72_3 : lkp 3 (mI mi_72) = some (false, .lstore_n 1, 4, 1, 0) := rfl
theorem ix_72_4 : lkp 4 (mI mi_72) = some (false, .iconst 0, 5, 0, 0) := rfl
theorem ix_72_5 : lkp 5 (mI mi_72) = some (false, .istore_n 3, 6, 3, 0) := rfl
theorem ix_72_6 : lkp 6 (mI mi_72) = some (true, .iload_n 3, 7, 3, 0) := rfl
theorem ix_72_7 : lkp 7 (mI mi_72) = some (false, .aload_n 0, 8, 0, 0) := rfl
theorem ix_72_8 : lkp 8 (mI mi_72) = some (false, .getfield 28, 11, 7, 1) := rfl
theorem ix_72_11 : lkp 11 (mI mi_72) = some (false, .if_icmp .ge 26, 14, 0, 37) := rfl
theorem ix_72_14 : lkp 14 (mI mi_72) = some (false, .iload_n 3, 15, 3, 0) := rfl
theorem ix_72_15 : lkp 15 (mI mi_72) = some (false, .bipush 6, 17, 6, 0) := rfl
theorem ix_72_17 : lkp 17 (mI mi_72) = some (false, .if_icmp .ge 20, 20, 0, 37) := rfl
theorem ix_72_20 : lkp 20 (mI mi_72) = some (false, .aload_n 0, 21, 0, 0) := rfl
theorem ix_72_21 : lkp 21 (mI mi_72) = some (false, .getfield 11, 24, 7, 2) := rfl
theorem ix_72_24 : lkp 24 (mI mi_72) = some (false, .iload_n 3, 25, 3, 0) := rfl
theorem ix_72_25 : lkp 25 (mI mi_72) = some (false, .aaload, 26, 0, 0) := rfl
theorem ix_72_26 : lkp 26 (mI mi_72) = some (false, .lload_n 1, 27, 1, 0) := rfl
theorem ix_72_27 : lkp 27 (mI mi_72) = some (false, .invokevirtual 120, 30, 42, 65) := rfl
theorem ix_72_30 : lkp 30 (mI mi_72) = some (false, .lstore_n 1, 31, 1, 0) := rfl
theorem ix_72_31 : lkp 31 (mI mi_72) = some (false, .iinc 3 1, 34, 3, 2) := rfl
theorem ix_72_34 : lkp 34 (mI mi_72) = some (false, .goto (-28), 37, 0, 6) := rfl
theorem ix_72_37 : lkp 37 (mI mi_72) = some (false, .iconst 0, 38, 0, 0) := rfl
theorem ix_72_38 : lkp 38 (mI mi_72) = some (false, .istore_n 3, 39, 3, 0) := rfl
theorem ix_72_39 : lkp 39 (mI mi_72) = some (true, .iload_n 3, 40, 3, 0) := rfl
theorem ix_72_40 : lkp 40 (mI mi_72) = some (false, .iconst 4, 41, 4, 0) := rfl
theorem ix_72_41 : lkp 41 (mI mi_72) = some (false, .if_icmp .ge 23, 44, 0, 64) := rfl
theorem ix_72_44 : lkp 44 (mI mi_72) = some (false, .ldc2_w 124, 47, 31, 0) := rfl
theorem ix_72_47 : lkp 47 (mI mi_72) = some (false, .lload_n 1, 48, 1, 0) := rfl
theorem ix_72_48 : lkp 48 (mI mi_72) = some (false, .lmul, 49, 0, 0) := rfl
theorem ix_72_49 : lkp 49 (mI mi_72) = some (false, .aload_n 0, 50, 0, 0) := rfl
theorem ix_72_50 : lkp 50 (mI mi_72) = some (false, .getfield 20, 53, 7, 3) := rfl
theorem ix_72_53 : lkp 53 (mI mi_72) = some (false, .iload_n 3, 54, 3, 0) := rfl
theorem ix_72_54 : lkp 54 (mI mi_72) = some (false, .iaload, 55, 0, 0) := rfl
theorem ix_72_55 : lkp 55 (mI mi_72) = some (false, .i2l, 56, 0, 0) := rfl
theorem ix_72_56 : lkp 56 (mI mi_72) = some (false, .ladd, 57, 0, 0) := rfl
theorem ix_72_57 : lkp 57 (mI mi_72) = some (false, .lstore_n 1, 58, 1, 0) := rfl
theorem ix_72_58 : lkp 58 (mI mi_72) = some (false, .iinc 3 1, 61, 3, 2) := rfl
theorem ix_72_61 : lkp 61 (mI mi_72) = some (false, .goto (-22), 64, 0, 39) := rfl
theorem ix_72_64 : lkp 64 (mI mi_72) = some (false, .ldc2_w 124, 67, 31, 0) := rfl
theorem ix_72_67 : lkp 67 (mI mi_72) = some (false, .lload_n 1, 68, 1, 0) := rfl
theorem ix_72_68 : lkp 68 (mI mi_72) = some (false, .lmul, 69, 0, 0) := rfl
theorem ix_72_69 : lkp 69 (mI mi_72) = some (false, .aload_n 0, 70, 0, 0) := rfl
theorem ix_72_70 : lkp 70 (mI mi_72) = some (false, .getfield 31, 73, 7, 4) := rfl
theorem ix_72_73 : lkp 73 (mI mi_72) = some (false, .i2l, 74, 0, 0) := rfl
theorem ix_72_74 : lkp 74 (mI mi_72) = some (false, .ladd, 75, 0, 0) := rfl
theorem ix_72_75 : lkp 75 (mI mi_72) = some (false, .lreturn, 76, 0, 0) := rfl
theorem ix_73_0 : lkp 0 (mI mi_73) = some (false, .aload_n 0, 1, 0, 0) := rfl
theorem ix_73_1 : lkp 1 (mI mi_73) = some (false, .bipush 100, 3, 100, 0) := rfl
theorem ix_73_3 : lkp 3 (mI mi_73) = some (false, .iload_n 1, 4, 1, 0) := rfl
theorem ix_73_4 : lkp 4 (mI mi_73) = some (false, .invokespecial 1, 7, 15, 2) := rfl
theorem ix_73_7 : lkp 7 (mI mi_73) = some (false, .return_, 8, 0, 0) := rfl
theorem ix_74_0 : lkp 0 (mI mi_74) = some (false, .aload_n 1, 1, 1, 0) := rfl
theorem ix_74_1 : lkp 1 (mI mi_74) = some (false, .aload_n 0, 2, 0, 0) := rfl
theorem ix_74_2 : lkp 2 (mI mi_74) = some (false, .getfield 7, 5, 8, 1) := rfl
theorem ix_74_5 : lkp 5 (mI mi_74) = some (false, .invokevirtual 13, 8, 57, 113) := rfl
theorem ix_74_8 : lkp 8 (mI mi_74) = some (false, .astore_n 2, 9, 2, 0) := rfl
theorem ix_74_9 : lkp 9 (mI mi_74) = some (false, .aload_n 2, 10, 2, 0) := rfl
theorem ix_74_10 : lkp 10 (mI mi_74) = some (false, .ifnull 7, 13, 0, 17) := rfl
theorem ix_74_13 : lkp 13 (mI mi_74) = some (false, .aload_n 2, 14, 2, 0) := rfl
theorem ix_74_14 : lkp 14 (mI mi_74) = some (false, .invokevirtual 19, 17, 37, 64) := rfl
theorem ix_74_17 : lkp 17 (mI mi_74) = some (false, .return_, 18, 0, 0) := rfl
theorem ix_75_0 : lkp 0 (mI mi_75) = some (false, .aload_n 0, 1, 0, 0) := rfl
theorem ix_75_1 : lkp 1 (mI mi_75) = some (false, .bipush 116, 3, 116, 0) := rfl
theorem ix_75_3 : lkp 3 (mI mi_75) = some (false, .iload_n 1, 4, 1, 0) := rfl
theorem ix_75_4 : lkp 4 (mI mi_75) = some (false, .invokespecial 1, 7, 15, 2) := rfl
theorem ix_75_7 : lkp 7 (mI mi_75) = some (false, .aload_n 0, 8, 0, 0) := rfl
theorem ix_75_8 : lkp 8 (mI mi_75) = some (false, .iload_n 2, 9, 2, 0) := rfl
theorem ix_75_9 : lkp 9 (mI mi_75) = some (false, .putfield 7, 12, 9, 2) := rfl
theorem ix_75_12 : lkp 12 (mI mi_75) = some (false, .aload_n 0, 13, 0, 0) := rfl
theorem ix_75_13 : lkp 13 (mI mi_75) = some (false, .iload_n 3, 14, 3, 0) := rfl
theorem ix_75_14 : lkp 14 (mI mi_75) = some (false, .putfield 13, 17, 9, 67) := rfl
theorem ix_75_17 : lkp 17 (mI mi_75) = some (false, .return_, 18, 0, 0) := rfl
theorem ix_76_0 : lkp 0 (mI mi_76) = some (false, .aload_n 1, 1, 1, 0) := rfl
theorem ix_76_1 : lkp 1 (mI mi_76) = some (false, .aload_n 0, 2, 0, 0) := rfl
theorem ix_76_2 : lkp 2 (mI mi_76) = some (false, .getfield 17, 5, 9, 1) := rfl
theorem ix_76_5 : lkp 5 (mI mi_76) = some (false, .invokevirtual 20, 8, 57, 113) := rfl
theorem ix_76_8 : lkp 8 (mI mi_76) = some (false, .astore_n 2, 9, 2, 0) := rfl
theorem ix_76_9 : lkp 9 (mI mi_76) = some (false, .aload_n 2, 10, 2, 0) := rfl
theorem ix_76_10 : lkp 10 (mI mi_76) = some (false, .ifnull 15, 13, 0, 25) := rfl
theorem ix_76_13 : lkp 13 (mI mi_76) = some (false, .aload_n 2, 14, 2, 0) := rfl
theorem ix_76_14 : lkp 14 (mI mi_76) = some (false, .aload_n 0, 15, 0, 0) := rfl
theorem ix_76_15 : lkp 15 (mI mi_76) = some (false, .getfield 7, 18, 9, 2) := rfl
theorem ix_76_18 : lkp 18 (mI mi_76) = some (false, .aload_n 0, 19, 0, 0) := rfl
theorem ix_76_19 : lkp 19 (mI mi_76) = some (false, .getfield 13, 22, 9, 3) := rfl
theorem ix_76_22 : lkp 22 (mI mi_76) = some (false, .invokevirtual 26, 25, 35, 66) := rfl
theorem ix_76_25 : lkp 25 (mI mi_76) = some (false, .return_, 26, 0, 0) := rfl
theorem ix_77_0 : lkp 0 (mI mi_77) = some (false, .aload_n 0, 1, 0, 0) := rfl
theorem ix_77_1 : lkp 1 (mI mi_77) = some (false, .bipush 112, 3, 112, 0) := rfl
theorem ix_77_3 : lkp 3 (mI mi_77) = some (false, .iload_n 1, 4, 1, 0) := rfl
theorem ix_77_4 : lkp 4 (mI mi_77) = some (false, .invokespecial 1, 7, 15, 2) := rfl
theorem ix_77_7 : lkp 7 (mI mi_77) = some (false, .return_, 8, 0, 0) := rfl
theorem ix_78_0 : lkp 0 (mI mi_78) = some (false, .aload_n 1, 1, 1, 0) := rfl
theorem ix_78_1 : lkp 1 (mI mi_78) = some (false, .aload_n 0, 2, 0, 0) := rfl
theorem ix_78_2 : lkp 2 (mI mi_78) = some (false, .getfield 7, 5, 10, 1) := rfl
theorem ix_78_5 : lkp 5 (mI mi_78) = some (false, .invokevirtual 13, 8, 57, 113) := rfl
theorem ix_78_8 : lkp 8 (mI mi_78) = some (false, .astore_n 2, 9, 2, 0) := rfl
theorem ix_78_9 : lkp 9 (mI mi_78) = some (false, .aload_n 2, 10, 2, 0) := rfl
theorem ix_78_10 : lkp 10 (mI mi_78) = some (false, .ifnull 7, 13, 0, 17) := rfl
theorem ix_78_13 : lkp 13 (mI mi_78) = some (false, .aload_n 2, 14, 2, 0) := rfl
theorem ix_78_14 : lkp 14 (mI mi_78) = some (false, .invokevirtual 19, 17, 38, 64) := rfl
theorem ix_78_17 : lkp 17 (mI mi_78) = some (false, .return_, 18, 0, 0) := rfl
theorem ix_79_0 : lkp 0 (mI mi_79) = some (false, .aload_n 0, 1, 0, 0) := rfl
theorem ix_79_1 : lkp 1 (mI mi_79) = some (false, .invokespecial 1, 4, 0, 0) := rfl
theorem ix_79_4 : lkp 4 (mI mi_79) = some (false, .aload_n 0, 5, 0, 0) := rfl
theorem ix_79_5 : lkp 5 (mI mi_79) = some (false, .new 7, 8, 0, 3) := rfl
theorem ix_79_8 : lkp 8 (mI mi_79) = some (false, .dup, 9, 0, 0) := rfl
theorem ix_79_9 : lkp 9 (mI mi_79) = some (false, .invokespecial 9, 12, 196, 0) := rfl
theorem ix_79_12 : lkp 12 (mI mi_79) = some (false, .putfield 10, 15, 11, 192) := rfl
theorem ix_79_15 : lkp 15 (mI mi_79) = some (false, .aload_n 0, 16, 0, 0) := rfl
theorem ix_79_16 : lkp 16 (mI mi_79) = some (false, .new 7, 19, 0, 3) := rfl
theorem ix_79_19 : lkp 19 (mI mi_79) = some (false, .dup, 20, 0, 0) := rfl
theorem ix_79_20 : lkp 20 (mI mi_79) = some (false, .invokespecial 9, 23, 196, 0) := rfl
theorem ix_79_23 : lkp 23 (mI mi_79) = some (false, .putfield 16, 26, 11, 193) := rfl
theorem ix_79_26 : lkp 26 (mI mi_79) = some (false, .aload_n 0, 27, 0, 0) := rfl
theorem ix_79_27 : lkp 27 (mI mi_79) = some (false, .new 7, 30, 0, 3) := rfl
theorem ix_79_30 : lkp 30 (mI mi_79) = some (false, .dup, 31, 0, 0) := rfl
theorem ix_79_31 : lkp 31 (mI mi_79) = some (false, .invokespecial 9, 34, 196, 0) := rfl
theorem ix_79_34 : lkp 34 (mI mi_79) = some (false, .putfield 19, 37, 11, 195) := rfl
theorem ix_79_37 : lkp 37 (mI mi_79) = some (false, .aload_n 0, 38, 0, 0) := rfl
theorem ix_79_38 : lkp 38 (mI mi_79) = some (false, .new 22, 41, 6, 9) := rfl
theorem ix_79_41 : lkp 41 (mI mi_79) = some (false, .dup, 42, 0, 0) := rfl
theorem ix_79_42 : lkp 42 (mI mi_79) = some (false, .iconst 2, 43, 2, 0) := rfl
theorem ix_79_43 : lkp 43 (mI mi_79) = some (false, .iconst 2, 44, 2, 0) := rfl
theorem ix_79_44 : lkp 44 (mI mi_79) = some (false, .iconst 1, 45, 1, 0) := rfl
theorem ix_79_45 : lkp 45 (mI mi_79) = some (false, .iconst 0, 46, 0, 0) := rfl
theorem ix_79_46 : lkp 46 (mI mi_79) = some (false, .bipush 110, 48, 110, 0) := rfl
theorem ix_79_48 : lkp 48 (mI mi_79) = some (false, .invokespecial 24, 51, 46, 5) := rfl
theorem ix_79_51 : lkp 51 (mI mi_79) = some (false, .putfield 27, 54, 11, 198) := rfl
theorem ix_79_54 : lkp 54 (mI mi_79) = some (false, .aload_n 0, 55, 0, 0) := rfl
theorem ix_79_55 : lkp 55 (mI mi_79) = some (false, .new 31, 58, 7, 5) := rfl
theorem ix_79_58 : lkp 58 (mI mi_79) = some (false, .dup, 59, 0, 0) := rfl
theorem ix_79_59 : lkp 59 (mI mi_79) = some (false, .aload_n 0, 60, 0, 0) := rfl
theorem ix_79_60 : lkp 60 (mI mi_79) = some (false, .getfield 27, 63, 11, 6) := rfl
theorem ix_79_63 : lkp 63 (mI mi_79) = some (false, .invokespecial 33, 66, 53, 1) := rfl
theorem ix_79_66 : lkp 66 (mI mi_79) = some (false, .putfield 36, 69, 11, 196) := rfl
theorem ix_79_69 : lkp 69 (mI mi_79) = some (false, .aload_n 0, 70, 0, 0) := rfl
theorem ix_79_70 : lkp 70 (mI mi_79) = some (false, .new 31, 73, 7, 5) := rfl
theorem ix_79_73 : lkp 73 (mI mi_79) = some (false, .dup, 74, 0, 0) := rfl
theorem ix_79_74 : lkp 74 (mI mi_79) = some (false, .aload_n 0, 75, 0, 0) := rfl
theorem ix_79_75 : lkp 75 (mI mi_79) = some (false, .getfield 27, 78, 11, 6) := rfl
theorem ix_79_78 : lkp 78 (mI mi_79) = some (false, .invokespecial 33, 81, 53, 1) := rfl
theorem ix_79_81 : lkp 81 (mI mi_79) = some (false, .putfield 40, 84, 11, 197) := rfl
theorem ix_79_84 : lkp 84 (mI mi_79) = some (false, .return_, 85, 0, 0) := rfl
theorem ix_80_0 : lkp 0 (mI mi_80) = some (false, .iload_n 1, 1, 1, 0) := rfl
theorem ix_80_1 : lkp 1 (mI mi_80) = some (false, .iconst 2, 2, 2, 0) := rfl
theorem ix_80_2 : lkp 2 (mI mi_80) = some (false, .if_icmp .lt 19, 5, 0, 21) := rfl
theorem ix_80_5 : lkp 5 (mI mi_80) = some (false, .iload_n 1, 6, 1, 0) := rfl
theorem ix_80_6 : lkp 6 (mI mi_80) = some (false, .bipush 6, 8, 6, 0) := rfl
theorem ix_80_8 : lkp 8 (mI mi_80) = some (false, .if_icmp .gt 13, 11, 0, 21) := rfl
theorem ix_80_11 : lkp 11 (mI mi_80) = some (false, .iload_n 2, 12, 2, 0) := rfl
theorem ix_80_12 : lkp 12 (mI mi_80) = some (false, .iconst 2, 13, 2, 0) := rfl
theorem ix_80_13 : lkp 13 (mI mi_80) = some (false, .if_icmp .lt 8, 16, 0, 21) := rfl
theorem ix_80_16 : lkp 16 (mI mi_80) = some (false, .iload_n 2, 17, 2, 0) := rfl
theorem ix_80_17 : lkp 17 (mI mi_80) = some (false, .iconst 4, 18, 4, 0) := rfl
theorem ix_80_18 : lkp 18 (mI mi_80) = some (false, .if_icmp .le 13, 21, 0, 31) := rfl
theorem ix_80_21 : lkp 21 (mI mi_80) = some (false, .new 43, 24, 901, 0) := rfl
theorem ix_80_31 : lkp 31 (mI mi_80) = some (false, .iload_n 3, 32, 3, 0) := rfl
theorem ix_80_32 : lkp 32 (mI mi_80) = some (false, .iconst 1, 33, 1, 0) := rfl
theorem ix_80_33 : lkp 33 (mI mi_80) = some (false, .if_icmp .lt 17, 36, 0, 50) := rfl
theorem ix_80_36 : lkp 36 (mI mi_80) = some (false, .iload_n 3, 37, 3, 0) := rfl
theorem ix_80_37 : lkp 37 (mI mi_80) = some (false, .bipush 7, 39, 7, 0) := rfl
theorem ix_80_39 : lkp 39 (mI mi_80) = some (false, .if_icmp .gt 11, 42, 0, 50) := rfl
theorem ix_80_42 : lkp 42 (mI mi_80) = some (false, .iload 5, 44, 5, 0) := rfl
theorem ix_80_44 : lkp 44 (mI mi_80) = some (false, .invokestatic 50, 47, 115, 1) := rfl
theorem ix_80_47 : lkp 47 (mI mi_80) = some (false, .ifCond .ne 13, 50, 0, 60) := rfl
theorem ix_80_50 : lkp 50 (mI mi_80) = some (false, .new 43, 53, 901, 0) := rfl
theorem ix_80_60 : lkp 60 (mI mi_80) = some (false, .iload_n 2, 61, 2, 0) := rfl
theorem ix_80_61 : lkp 61 (mI mi_80) = some (false, .iload_n 3, 62, 3, 0) := rfl
theorem ix_80_62 : lkp 62 (mI mi_80) = some (false, .imul, 63, 0, 0) := rfl
theorem ix_80_63 : lkp 63 (mI mi_80) = some (false, .iload_n 1, 64, 1, 0) := rfl
theorem ix_80_64 : lkp 64 (mI mi_80) = some (false, .invokestatic 56, 67, 47, 1) := rfl
theorem ix_80_67 : lkp 67 (mI mi_80) = some (false, .if_icmp .le 13, 70, 0, 80) := rfl
theorem ix_80_70 : lkp 70 (mI mi_80) = some (false, .new 43, 73, 901, 0) := rfl
theorem ix_80_80 : lkp 80 (mI mi_80) = some (false, .aload_n 0, 81, 0, 0) := rfl
theorem ix_80_81 : lkp 81 (mI mi_80) = some (false, .getfield 10, 84, 11, 0) := rfl
theorem ix_80_84 : lkp 84 (mI mi_80) = some (false, .invokevirtual 62, 87, 199, 0) := rfl
theorem ix_80_87 : lkp 87 (mI mi_80) = some (false, .iconst 4, 88, 4, 0) := rfl
theorem ix_80_88 : lkp 88 (mI mi_80) = some (false, .if_icmp .lt 13, 91, 0, 101) := rfl
theorem ix_80_91 : lkp 91 (mI mi_80) = some (false, .new 66, 94, 902, 0) := rfl
theorem ix_80_101 : lkp 101 (mI mi_80) = some (false, .aload_n 0, 102, 0, 0) := rfl
theorem ix_80_102 : lkp 102 (mI mi_80) = some (false, .getfield 10, 105, 11, 0) := rfl
theorem ix_80_105 : lkp 105 (mI mi_80) = some (false, .new 22, 108, 6, 9) := rfl
theorem ix_80_108 : lkp 108 (mI mi_80) = some (false, .dup, 109, 0, 0) := rfl
theorem ix_80_109 : lkp 109 (mI mi_80) = some (false, .iload_n 1, 110, 1, 0) := rfl
theorem ix_80_110 : lkp 110 (mI mi_80) = some (false, .iload_n 2, 111, 2, 0) := rfl
theorem ix_80_111 : lkp 111 (mI mi_80) = some (false, .iload_n 3, 112, 3, 0) := rfl
theorem ix_80_112 : lkp 112 (mI mi_80) = some (false, .iload 4, 114, 4, 0) := rfl
theorem ix_80_114 : lkp 114 (mI mi_80) = some (false, .iload 5, 116, 5, 0) := rfl
theorem ix_80_116 : lkp 116 (mI mi_80) = some (false, .invokespecial 24, 119, 46, 5) := rfl
theorem ix_80_119 : lkp 119 (mI mi_80) = some (false, .invokevirtual 71, 122, 203, 1) := rfl
theorem ix_80_122 : lkp 122 (mI mi_80) = some (false, .pop, 123, 0, 0) := rfl
theorem ix_80_123 : lkp 123 (mI mi_80) = some (false, .aload_n 0, 124, 0, 0) := rfl
theorem ix_80_124 : lkp 124 (mI mi_80) = some (false, .getfield 10, 127, 11, 0) := rfl
theorem ix_80_127 : lkp 127 (mI mi_80) = some (false, .invokevirtual 62, 130, 199, 0) := rfl
theorem ix_80_130 : lkp 130 (mI mi_80) = some (false, .iconst 1, 131, 1, 0) := rfl
theorem ix_80_131 : lkp 131 (mI mi_80) = some (false, .isub, 132, 0, 0) := rfl
theorem ix_80_132 : lkp 132 (mI mi_80) = some (false, .ireturn, 133, 0, 0) := rfl
theorem ix_81_0 : lkp 0 (mI mi_81) = some (false, .iload_n 1, 1, 1, 0) := rfl
theorem ix_81_1 : lkp 1 (mI mi_81) = some (false, .ifCond .lt 14, 4, 0, 15) := rfl
theorem ix_81_4 : lkp 4 (mI mi_81) = some (false, .iload_n 1, 5, 1, 0) := rfl
theorem ix_81_5 : lkp 5 (mI mi_81) = some (false, .aload_n 0, 6, 0, 0) := rfl
theorem ix_81_6 : lkp 6 (mI mi_81) = some (false, .getfield 10, 9, 11, 0) := rfl
theorem ix_81_9 : lkp 9 (mI mi_81) = some (false, .invokevirtual 62, 12, 199, 0) := rfl
theorem ix_81_12 : lkp 12 (mI mi_81) = some (false, .if_icmp .lt 13, 15, 0, 25) := rfl
theorem ix_81_15 : lkp 15 (mI mi_81) = some (false, .new 75, 18, 900, 0) := rfl
theorem ix_81_25 : lkp 25 (mI mi_81) = some (false, .iload_n 2, 26, 2, 0) := rfl
theorem ix_81_26 : lkp 26 (mI mi_81) = some (false, .ifCond .lt 9, 29, 0, 35) := rfl
theorem ix_81_29 : lkp 29 (mI mi_81) = some (false, .iload_n 2, 30, 2, 0) := rfl
theorem ix_81_30 : lkp 30 (mI mi_81) = some (false, .ldc 80, 32, 999999, 0) := rfl
theorem ix_81_32 : lkp 32 (mI mi_81) = some (false, .if_icmp .le 13, 35, 0, 45) := rfl
theorem ix_81_35 : lkp 35 (mI mi_81) = some (false, .new 43, 38, 901, 0) := rfl
theorem ix_81_45 : lkp 45 (mI mi_81) = some (false, .aload_n 0, 46, 0, 0) := rfl
theorem ix_81_46 : lkp 46 (mI mi_81) = some (false, .getfield 36, 49, 11, 4) := rfl
theorem ix_81_49 : lkp 49 (mI mi_81) = some (false, .getfield 83, 52, 7, 1) := rfl
theorem ix_81_52 : lkp 52 (mI mi_81) = some (false, .bipush 6, 54, 6, 0) := rfl
theorem ix_81_54 : lkp 54 (mI mi_81) = some (false, .if_icmp .ge 10, 57, 0, 64) := rfl
theorem ix_81_57 : lkp 57 (mI mi_81) = some (false, .aload_n 0, 58, 0, 0) := rfl
theorem ix_81_58 : lkp 58 (mI mi_81) = some (false, .invokevirtual 87, 61, 118, 176) := rfl
theorem ix_81_61 : lkp 61 (mI mi_81) = some (false, .ifCond .eq 13, 64, 0, 74) := rfl
theorem ix_81_64 : lkp 64 (mI mi_81) = some (false, .new 66, 67, 902, 0) := rfl
theorem ix_81_74 : lkp 74 (mI mi_81) = some (false, .aload_n 0, 75, 0, 0) := rfl
theorem ix_81_75 : lkp 75 (mI mi_81) = some (false, .getfield 36, 78, 11, 4) := rfl
theorem ix_81_78 : lkp 78 (mI mi_81) = some (false, .getfield 83, 81, 7, 1) := rfl
theorem ix_81_81 : lkp 81 (mI mi_81) = some (false, .istore_n 3, 82, 3, 0) := rfl
theorem ix_81_82 : lkp 82 (mI mi_81) = some (false, .aload_n 0, 83, 0, 0) := rfl
theorem ix_81_83 : lkp 83 (mI mi_81) = some (false, .new 93, 86, 5, 4) := rfl
theorem ix_81_86 : lkp 86 (mI mi_81) = some (false, .dup, 87, 0, 0) := rfl
theorem ix_81_87 : lkp 87 (mI mi_81) = some (false, .iload_n 3, 88, 3, 0) := rfl
theorem ix_81_88 : lkp 88 (mI mi_81) = some (false, .aload_n 0, 89, 0, 0) := rfl
theorem ix_81_89 : lkp 89 (mI mi_81) = some (false, .getfield 10, 92, 11, 0) := rfl
theorem ix_81_92 : lkp 92 (mI mi_81) = some (false, .iload_n 1, 93, 1, 0) := rfl
theorem ix_81_93 : lkp 93 (mI mi_81) = some (false, .invokevirtual 95, 96, 201, 1) := rfl
theorem ix_81_96 : lkp 96 (mI mi_81) = some (false, .checkcast 22, 99, 6, 0) := rfl
theorem ix_81_99 : lkp 99 (mI mi_81) = some (false, .iload_n 2, 100, 2, 0) := rfl
theorem ix_81_100 : lkp 100 (mI mi_81) = some (false, .invokespecial 99, 103, 44, 3) := rfl
theorem ix_81_103 : lkp 103 (mI mi_81) = some (false, .invokevirtual 102, 106, 121, 177) := rfl
theorem ix_81_106 : lkp 106 (mI mi_81) = some (false, .iload_n 3, 107, 3, 0) := rfl
theorem ix_81_107 : lkp 107 (mI mi_81) = some (false, .ireturn, 108, 0, 0) := rfl
theorem ix_82_0 : lkp 0 (mI mi_82) = some (false, .aload_n 0, 1, 0, 0) := rfl
theorem ix_82_1 : lkp 1 (mI mi_82) = some (false, .iload_n 1, 2, 1, 0) := rfl
theorem ix_82_2 : lkp 2 (mI mi_82) = some (false, .invokevirtual 106, 5, 116, 177) := rfl
theorem ix_82_5 : lkp 5 (mI mi_82) = some (false, .astore 4, 7, 4, 0) := rfl
theorem ix_82_7 : lkp 7 (mI mi_82) = some (false, .iload_n 2, 8, 2, 0) := rfl
theorem ix_82_8 : lkp 8 (mI mi_82) = some (false, .ifCond .lt 15, 11, 0, 23) := rfl
theorem ix_82_11 : lkp 11 (mI mi_82) = some (false, .iload_n 2, 12, 2, 0) := rfl
theorem ix_82_12 : lkp 12 (mI mi_82) = some (false, .aload 4, 14, 4, 0) := rfl
theorem ix_82_14 : lkp 14 (mI mi_82) = some (false, .getfield 110, 17, 4, 0) := rfl
theorem ix_82_17 : lkp 17 (mI mi_82) = some (false, .getfield 115, 20, 6, 5) := rfl
theorem ix_82_20 : lkp 20 (mI mi_82) = some (false, .if_icmp .lt 13, 23, 0, 33) := rfl
theorem ix_82_23 : lkp 23 (mI mi_82) = some (false, .new 43, 26, 901, 0) := rfl
theorem ix_82_33 : lkp 33 (mI mi_82) = some (false, .aload_n 0, 34, 0, 0) := rfl
theorem ix_82_34 : lkp 34 (mI mi_82) = some (false, .aload 4, 36, 4, 0) := rfl
theorem ix_82_36 : lkp 36 (mI mi_82) = some (false, .invokevirtual 119, 39, 119, 177) := rfl
theorem ix_82_39 : lkp 39 (mI mi_82) = some (false, .aload 4, 41, 4, 0) := rfl
theorem ix_82_41 : lkp 41 (mI mi_82) = some (false, .iload_n 2, 42, 2, 0) := rfl
theorem ix_82_42 : lkp 42 (mI mi_82) = some (false, .invokevirtual 123, 45, 26, 65) := rfl
theorem ix_82_45 : lkp 45 (mI mi_82) = some (false, .ifCond .ne 19, 48, 0, 64) := rfl
theorem ix_82_48 : lkp 48 (mI mi_82) = some (false, .aload_n 0, 49, 0, 0) := rfl
theorem ix_82_49 : lkp 49 (mI mi_82) = some (false, .iconst 0, 50, 0, 0) := rfl
theorem ix_82_50 : lkp 50 (mI mi_82) = some (false, .iconst 0, 51, 0, 0) := rfl
theorem ix_82_51 : lkp 51 (mI mi_82) = some (false, .invokevirtual 127, 54, 120, 178) := rfl
theorem ix_82_54 : lkp 54 (mI mi_82) = some (false, .new 131, 57, 903, 0) := rfl
theorem ix_82_64 : lkp 64 (mI mi_82) = some (false, .aload 4, 66, 4, 0) := rfl
theorem ix_82_66 : lkp 66 (mI mi_82) = some (false, .iload_n 2, 67, 2, 0) := rfl
theorem ix_82_67 : lkp 67 (mI mi_82) = some (false, .iload_n 3, 68, 3, 0) := rfl
theorem ix_82_68 : lkp 68 (mI mi_82) = some (false, .invokevirtual 136, 71, 29, 66) := rfl
theorem ix_82_71 : lkp 71 (mI mi_82) = some (false, .ifCond .ne 24, 74, 0, 95) := rfl
theorem ix_82_74 : lkp 74 (mI mi_82) = some (false, .aload_n 0, 75, 0, 0) := rfl
theorem ix_82_75 : lkp 75 (mI mi_82) = some (false, .iconst 1, 76, 1, 0) := rfl
theorem ix_82_76 : lkp 76 (mI mi_82) = some (false, .aload 4, 78, 4, 0) := rfl
theorem ix_82_78 : lkp 78 (mI mi_82) = some (false, .iload_n 3, 79, 3, 0) := rfl
theorem ix_82_79 : lkp 79 (mI mi_82) = some (false, .invokevirtual 140, 82, 27, 65) := rfl
theorem ix_82_82 : lkp 82 (mI mi_82) = some (false, .invokevirtual 127, 85, 120, 178) := rfl
theorem ix_82_85 : lkp 85 (mI mi_82) = some (false, .new 131, 88, 903, 0) := rfl
theorem ix_82_95 : lkp 95 (mI mi_82) = some (false, .aload_n 0, 96, 0, 0) := rfl
theorem ix_82_96 : lkp 96 (mI mi_82) = some (false, .new 146, 99, 9, 4) := rfl
theorem ix_82_99 : lkp 99 (mI mi_82) = some (false, .dup, 100, 0, 0) := rfl
theorem ix_82_100 : lkp 100 (mI mi_82) = some (false, .iload_n 1, 101, 1, 0) := rfl
theorem ix_82_101 : lkp 101 (mI mi_82) = some (false, .iload_n 2, 102, 2, 0) := rfl
theorem ix_82_102 : lkp 102 (mI mi_82) = some (false, .iload_n 3, 103, 3, 0) := rfl
theorem ix_82_103 : lkp 103 (mI mi_82) = some (false, .invokespecial 148, 106, 75, 3) := rfl
theorem ix_82_106 : lkp 106 (mI mi_82) = some (false, .invokevirtual 102, 109, 121, 177) := rfl
theorem ix_82_109 : lkp 109 (mI mi_82) = some (false, .aload 4, 111, 4, 0) := rfl
theorem ix_82_111 : lkp 111 (mI mi_82) = some (false, .invokevirtual 151, 114, 24, 64) := rfl
theorem ix_82_114 : lkp 114 (mI mi_82) = some (false, .ireturn, 115, 0, 1) := rfl
theorem ix_83_0 : lkp 0 (mI mi_83) = some (false, .aload_n 0, 1, 0, 0) := rfl
theorem ix_83_1 : lkp 1 (mI mi_83) = some (false, .iload_n 1, 2, 1, 0) := rfl
theorem ix_83_2 : lkp 2 (mI mi_83) = some (false, .invokevirtual 106, 5, 116, 177) := rfl
theorem ix_83_5 : lkp 5 (mI mi_83) = some (false, .astore_n 2, 6, 2, 0) := rfl
theorem ix_83_6 : lkp 6 (mI mi_83) = some (false, .aload_n 0, 7, 0, 0) := rfl
theorem ix_83_7 : lkp 7 (mI mi_83) = some (false, .aload_n 2, 8, 2, 0) := rfl
theorem ix_83_8 : lkp 8 (mI mi_83) = some (false, .invokevirtual 119, 11, 119, 177) := rfl
theorem ix_83_11 : lkp 11 (mI mi_83) = some (false, .aload_n 2, 12, 2, 0) := rfl
theorem ix_83_12 : lkp 12 (mI mi_83) = some (false, .invokevirtual 154, 15, 30, 64) := rfl
theorem ix_83_15 : lkp 15 (mI mi_83) = some (false, .ifCond .ne 10, 18, 0, 25) := rfl
theorem ix_83_18 : lkp 18 (mI mi_83) = some (false, .aload_n 2, 19, 2, 0) := rfl
theorem ix_83_19 : lkp 19 (mI mi_83) = some (false, .invokevirtual 157, 22, 31, 64) := rfl
theorem ix_83_22 : lkp 22 (mI mi_83) = some (false, .ifCond .ne 13, 25, 0, 35) := rfl
theorem ix_83_25 : lkp 25 (mI mi_83) = some (false, .new 131, 28, 903, 0) := rfl
theorem ix_83_35 : lkp 35 (mI mi_83) = some (false, .aload_n 2, 36, 2, 0) := rfl
theorem ix_83_36 : lkp 36 (mI mi_83) = some (false, .invokevirtual 162, 39, 32, 64) := rfl
theorem ix_83_39 : lkp 39 (mI mi_83) = some (false, .istore_n 3, 40, 3, 0) := rfl
theorem ix_83_40 : lkp 40 (mI mi_83) = some (false, .aload_n 0, 41, 0, 0) := rfl
theorem ix_83_41 : lkp 41 (mI mi_83) = some (false, .new 165, 44, 8, 2) := rfl
theorem ix_83_44 : lkp 44 (mI mi_83) = some (false, .dup, 45, 0, 0) := rfl
theorem ix_83_45 : lkp 45 (mI mi_83) = some (false, .iload_n 1, 46, 1, 0) := rfl
theorem ix_83_46 : lkp 46 (mI mi_83) = some (false, .invokespecial 167, 49, 73, 1) := rfl
theorem ix_83_49 : lkp 49 (mI mi_83) = some (false, .invokevirtual 102, 52, 121, 177) := rfl
theorem ix_83_52 : lkp 52 (mI mi_83) = some (false, .iload_n 3, 53, 3, 0) := rfl
theorem ix_83_53 : lkp 53 (mI mi_83) = some (false, .ireturn, 54, 0, 0) := rfl
theorem ix_84_0 : lkp 0 (mI mi_84) = some (false, .aload_n 0, 1, 0, 0) := rfl
theorem ix_84_1 : lkp 1 (mI mi_84) = some (false, .iload_n 1, 2, 1, 0) := rfl
theorem ix_84_2 : lkp 2 (mI mi_84) = some (false, .invokevirtual 106, 5, 116, 177) := rfl
theorem ix_84_5 : lkp 5 (mI mi_84) = some (false, .astore_n 2, 6, 2, 0) := rfl
theorem ix_84_6 : lkp 6 (mI mi_84) = some (false, .aload_n 0, 7, 0, 0) := rfl
theorem ix_84_7 : lkp 7 (mI mi_84) = some (false, .aload_n 2, 8, 2, 0) := rfl
theorem ix_84_8 : lkp 8 (mI mi_84) = some (false, .invokevirtual 119, 11, 119, 177) := rfl
theorem ix_84_11 : lkp 11 (mI mi_84) = some (false, .aload_n 2, 12, 2, 0) := rfl
theorem ix_84_12 : lkp 12 (mI mi_84) = some (false, .invokevirtual 154, 15, 30, 64) := rfl
theorem ix_84_15 : lkp 15 (mI mi_84) = some (false, .ifCond .ne 10, 18, 0, 25) := rfl
theorem ix_84_18 : lkp 18 (mI mi_84) = some (false, .aload_n 2, 19, 2, 0) := rfl
theorem ix_84_19 : lkp 19 (mI mi_84) = some (false, .invokevirtual 157, 22, 31, 64) := rfl
theorem ix_84_22 : lkp 22 (mI mi_84) = some (false, .ifCond .eq 13, 25, 0, 35) := rfl
theorem ix_84_25 : lkp 25 (mI mi_84) = some (false, .new 131, 28, 903, 0) := rfl
theorem ix_84_35 : lkp 35 (mI mi_84) = some (false, .aload_n 0, 36, 0, 0) := rfl
theorem ix_84_36 : lkp 36 (mI mi_84) = some (false, .new 172, 39, 10, 2) := rfl
theorem ix_84_39 : lkp 39 (mI mi_84) = some (false, .dup, 40, 0, 0) := rfl
theorem ix_84_40 : lkp 40 (mI mi_84) = some (false, .iload_n 1, 41, 1, 0) := rfl
theorem ix_84_41 : lkp 41 (mI mi_84) = some (false, .invokespecial 174, 44, 77, 1) := rfl
theorem ix_84_44 : lkp 44 (mI mi_84) = some (false, .invokevirtual 102, 47, 121, 177) := rfl
theorem ix_84_47 : lkp 47 (mI mi_84) = some (false, .aload_n 2, 48, 2, 0) := rfl
theorem ix_84_48 : lkp 48 (mI mi_84) = some (false, .invokevirtual 151, 51, 24, 64) := rfl
theorem ix_84_51 : lkp 51 (mI mi_84) = some (false, .ireturn, 52, 0, 1) := rfl
theorem ix_85_0 : lkp 0 (mI mi_85) = some (false, .aload_n 0, 1, 0, 0) := rfl
theorem ix_85_1 : lkp 1 (mI mi_85) = some (false, .iload_n 1, 2, 1, 0) := rfl
theorem ix_85_2 : lkp 2 (mI mi_85) = some (false, .invokevirtual 106, 5, 116, 177) := rfl
theorem ix_85_5 : lkp 5 (mI mi_85) = some (false, .astore_n 2, 6, 2, 0) := rfl
theorem ix_85_6 : lkp 6 (mI mi_85) = some (false, .aload_n 2, 7, 2, 0) := rfl
theorem ix_85_7 : lkp 7 (mI mi_85) = some (false, .invokevirtual 151, 10, 24, 64) := rfl
theorem ix_85_10 : lkp 10 (mI mi_85) = some (false, .ifCond .eq 13, 13, 0, 23) := rfl
theorem ix_85_13 : lkp 13 (mI mi_85) = some (false, .new 66, 16, 902, 0) := rfl
theorem ix_85_23 : lkp 23 (mI mi_85) = some (false, .aload_n 2, 24, 2, 0) := rfl
theorem ix_85_24 : lkp 24 (mI mi_85) = some (false, .getfield 177, 27, 4, 6) := rfl
theorem ix_85_27 : lkp 27 (mI mi_85) = some (false, .ireturn, 28, 0, 0) := rfl
theorem ix_86_0 : lkp 0 (mI mi_86) = some (false, .aload_n 0, 1, 0, 0) := rfl
theorem ix_86_1 : lkp 1 (mI mi_86) = some (false, .iload_n 1, 2, 1, 0) := rfl
theorem ix_86_2 : lkp 2 (mI mi_86) = some (false, .invokevirtual 106, 5, 116, 177) := rfl
theorem ix_86_5 : lkp 5 (mI mi_86) = some (false, .astore_n 3, 6, 3, 0) := rfl
theorem ix_86_6 : lkp 6 (mI mi_86) = some (false, .aload_n 3, 7, 3, 0) := rfl
theorem ix_86_7 : lkp 7 (mI mi_86) = some (false, .iload_n 2, 8, 2, 0) := rfl
theorem ix_86_8 : lkp 8 (mI mi_86) = some (false, .invokevirtual 180, 11, 23, 65) := rfl
theorem ix_86_11 : lkp 11 (mI mi_86) = some (false, .ifCond .ne 13, 14, 0, 24) := rfl
theorem ix_86_14 : lkp 14 (mI mi_86) = some (false, .new 75, 17, 900, 0) := rfl
theorem ix_86_24 : lkp 24 (mI mi_86) = some (false, .aload_n 3, 25, 3, 0) := rfl
theorem ix_86_25 : lkp 25 (mI mi_86) = some (false, .iload_n 2, 26, 2, 0) := rfl
theorem ix_86_26 : lkp 26 (mI mi_86) = some (false, .invokevirtual 185, 29, 25, 65) := rfl
theorem ix_86_29 : lkp 29 (mI mi_86) = some (false, .i2l, 30, 0, 0) := rfl
theorem ix_86_30 : lkp 30 (mI mi_86) = some (false, .lreturn, 31, 0, 0) := rfl
theorem ix_87_0 : lkp 0 (mI mi_87) = some (false, .aload_n 0, 1, 0, 0) := rfl
theorem ix_87_1 : lkp 1 (mI mi_87) = some (false, .iload_n 1, 2, 1, 0) := rfl
theorem ix_87_2 : lkp 2 (mI mi_87) = some (false, .invokevirtual 106, 5, 116, 177) := rfl
theorem ix_87_5 : lkp 5 (mI mi_87) = some (false, .astore_n 2, 6, 2, 0) := rfl
theorem ix_87_6 : lkp 6 (mI mi_87) = some (false, .aload_n 2, 7, 2, 0) := rfl
theorem ix_87_7 : lkp 7 (mI mi_87) = some (false, .getfield 110, 10, 4, 0) := rfl
theorem ix_87_10 : lkp 10 (mI mi_87) = some (false, .getfield 115, 13, 6, 5) := rfl
theorem ix_87_13 : lkp 13 (mI mi_87) = some (false, .aload_n 2, 14, 2, 0) := rfl
theorem ix_87_14 : lkp 14 (mI mi_87) = some (false, .getfield 188, 17, 4, 2) := rfl
theorem ix_87_17 : lkp 17 (mI mi_87) = some (false, .isub, 18, 0, 0) := rfl
theorem ix_87_18 : lkp 18 (mI mi_87) = some (false, .ireturn, 19, 0, 0) := rfl
theorem ix_88_0 : lkp 0 (mI mi_88) = some (false, .aload_n 0, 1, 0, 0) := rfl
theorem ix_88_1 : lkp 1 (mI mi_88) = some (false, .iload_n 1, 2, 1, 0) := rfl
theorem ix_88_2 : lkp 2 (mI mi_88) = some (false, .invokevirtual 106, 5, 116, 177) := rfl
theorem ix_88_5 : lkp 5 (mI mi_88) = some (false, .astore_n 3, 6, 3, 0) := rfl
theorem ix_88_6 : lkp 6 (mI mi_88) = some (false, .aload_n 3, 7, 3, 0) := rfl
theorem ix_88_7 : lkp 7 (mI mi_88) = some (false, .getfield 191, 10, 4, 5) := rfl
theorem ix_88_10 : lkp 10 (mI mi_88) = some (false, .ifCond .ne 13, 13, 0, 23) := rfl
theorem ix_88_13 : lkp 13 (mI mi_88) = some (false, .new 194, 16, 904, 0) := rfl
theorem ix_88_23 : lkp 23 (mI mi_88) = some (false, .aload_n 3, 24, 3, 0) := rfl
theorem ix_88_24 : lkp 24 (mI mi_88) = some (false, .iload_n 2, 25, 2, 0) := rfl
theorem ix_88_25 : lkp 25 (mI mi_88) = some (false, .invokevirtual 140, 28, 27, 65) := rfl
theorem ix_88_28 : lkp 28 (mI mi_88) = some (false, .ireturn, 29, 0, 0) := rfl
theorem ix_89_0 : lkp 0 (mI mi_89) = some (false, .aload_n 0, 1, 0, 0) := rfl
theorem ix_89_1 : lkp 1 (mI mi_89) = some (false, .iload_n 1, 2, 1, 0) := rfl
theorem ix_89_2 : lkp 2 (mI mi_89) = some (false, .invokevirtual 106, 5, 116, 177) := rfl
theorem ix_89_5 : lkp 5 (mI mi_89) = some (false, .getfield 191, 8, 4, 5) := rfl
theorem ix_89_8 : lkp 8 (mI mi_89) = some (false, .iconst 5, 9, 5, 0) := rfl
theorem ix_89_9 : lkp 9 (mI mi_89) = some (false, .imul, 10, 0, 0) := rfl
theorem ix_89_10 : lkp 10 (mI mi_89) = some (false, .ireturn, 11, 0, 0) := rfl
theorem ix_90_0 : lkp 0 (mI mi_90) = some (false, .aload_n 0, 1, 0, 0) := rfl
theorem ix_90_1 : lkp 1 (mI mi_90) = some (false, .iload_n 1, 2, 1, 0) := rfl
theorem ix_90_2 : lkp 2 (mI mi_90) = some (false, .invokevirtual 106, 5, 116, 177) := rfl
theorem ix_90_5 : lkp 5 (mI mi_90) = some (false, .astore 4, 7, 4, 0) := rfl
theorem ix_90_7 : lkp 7 (mI mi_90) = some (false, .iload_n 2, 8, 2, 0) := rfl
theorem ix_90_8 : lkp 8 (mI mi_90) = some (false, .ifCond .lt 14, 11, 0, 22) := rfl
theorem ix_90_11 : lkp 11 (mI mi_90) = some (false, .iload_n 2, 12, 2, 0) := rfl
theorem ix_90_12 : lkp 12 (mI mi_90) = some (false, .aload 4, 14, 4, 0) := rfl
theorem ix_90_14 : lkp 14 (mI mi_90) = some (false, .getfield 191, 17, 4, 5) := rfl
theorem ix_90_17 : lkp 17 (mI mi_90) = some (false, .iconst 5, 18, 5, 0) := rfl
theorem ix_90_18 : lkp 18 (mI mi_90) = some (false, .imul, 19, 0, 0) := rfl
theorem ix_90_19 : lkp 19 (mI mi_90) = some (false, .if_icmp .lt 13, 22, 0, 32) := rfl
theorem ix_90_22 : lkp 22 (mI mi_90) = some (false, .new 194, 25, 904, 0) := rfl
theorem ix_90_32 : lkp 32 (mI mi_90) = some (false, .aload 4, 34, 4, 0) := rfl
theorem ix_90_34 : lkp 34 (mI mi_90) = some (false, .iload_n 2, 35, 2, 0) := rfl
theorem ix_90_35 : lkp 35 (mI mi_90) = some (false, .iload_n 3, 36, 3, 0) := rfl
theorem ix_90_36 : lkp 36 (mI mi_90) = some (false, .invokevirtual 201, 39, 33, 66) := rfl
theorem ix_90_39 : lkp 39 (mI mi_90) = some (false, .ireturn, 40, 0, 2) := rfl
theorem ix_91_0 : lkp 0 (mI mi_91) = some (false, .aload_n 0, 1, 0, 0) := rfl
theorem ix_91_1 : lkp 1 (mI mi_91) = some (false, .iload_n 1, 2, 1, 0) := rfl
theorem ix_91_2 : lkp 2 (mI mi_91) = some (false, .invokevirtual 106, 5, 116, 177) := rfl
theorem ix_91_5 : lkp 5 (mI mi_91) = some (false, .invokevirtual 151, 8, 24, 64) := rfl
theorem ix_91_8 : lkp 8 (mI mi_91) = some (false, .ireturn, 9, 0, 1) := rfl
theorem ix_92_0 : lkp 0 (mI mi_92) = some (false, .aload_n 0, 1, 0, 0) := rfl
theorem ix_92_1 : lkp 1 (mI mi_92) = some (false, .iload_n 1, 2, 1, 0) := rfl
theorem ix_92_2 : lkp 2 (mI mi_92) = some (false, .invokevirtual 106, 5, 116, 177) := rfl
theorem ix_92_5 : lkp 5 (mI mi_92) = some (false, .getfield 205, 8, 4, 9) := rfl
theorem ix_92_8 : lkp 8 (mI mi_92) = some (false, .ireturn, 9, 0, 1) := rfl
theorem ix_93_0 : lkp 0 (mI mi_93) = some (false, .aload_n 0, 1, 0, 0) := rfl
theorem ix_93_1 : lkp 1 (mI mi_93) = some (false, .iload_n 1, 2, 1, 0) := rfl
theorem ix_93_2 : lkp 2 (mI mi_93) = some (false, .invokevirtual 106, 5, 116, 177) := rfl
theorem ix_93_5 : lkp 5 (mI mi_93) = some (false, .astore_n 2, 6, 2, 0) := rfl
theorem ix_93_6 : lkp 6 (mI mi_93) = some (false, .aload_n 2, 7, 2, 0) := rfl
theorem ix_93_7 : lkp 7 (mI mi_93) = some (false, .invokevirtual 151, 10, 24, 64) := rfl
theorem ix_93_10 : lkp 10 (mI mi_93) = some (false, .ifCond .ne 13, 13, 0, 23) := rfl
theorem ix_93_13 : lkp 13 (mI mi_93) = some (false, .new 194, 16, 904, 0) := rfl
theorem ix_93_23 : lkp 23 (mI mi_93) = some (false, .aload_n 2, 24, 2, 0) := rfl
theorem ix_93_24 : lkp 24 (mI mi_93) = some (false, .getfield 211, 27, 4, 10) := rfl
theorem ix_93_27 : lkp 27 (mI mi_93) = some (false, .ireturn, 28, 0, 0) := rfl
theorem ix_94_0 : lkp 0 (mI mi_94) = some (false, .aload_n 0, 1, 0, 0) := rfl
theorem ix_94_1 : lkp 1 (mI mi_94) = some (false, .getfield 214, 4, 11, 7) := rfl
theorem ix_94_4 : lkp 4 (mI mi_94) = some (false, .ifCond .eq 22, 7, 0, 26) := rfl
theorem ix_94_7 : lkp 7 (mI mi_94) = some (false, .iload_n 1, 8, 1, 0) := rfl
theorem ix_94_8 : lkp 8 (mI mi_94) = some (false, .ifCond .ne 18, 11, 0, 26) := rfl
theorem ix_94_11 : lkp 11 (mI mi_94) = some (false, .aload_n 0, 12, 0, 0) := rfl
theorem ix_94_12 : lkp 12 (mI mi_94) = some (false, .getfield 217, 15, 11, 8) := rfl
theorem ix_94_15 : lkp 15 (mI mi_94) = some (false, .ifCond .eq 8, 18, 0, 23) := rfl
theorem ix_94_18 : lkp 18 (mI mi_94) = some (false, .bipush 102, 20, 102, 0) := rfl
theorem ix_94_20 : lkp 20 (mI mi_94) = some (false, .goto 5, 23, 0, 25) := rfl
theorem ix_94_23 : lkp 23 (mI mi_94) = some (false, .bipush 104, 25, 104, 0) := rfl
theorem ix_94_25 : lkp 25 (mI mi_94) = some (false, .ireturn, 26, 0, 2) := rfl
theorem ix_94_26 : lkp 26 (mI mi_94) = some (false, .aload_n 0, 27, 0, 0) := rfl
theorem ix_94_27 : lkp 27 (mI mi_94) = some (false, .getfield 214, 30, 11, 7) := rfl
theorem ix_94_30 : lkp 30 (mI mi_94) = some (false, .ifCond .eq 24, 33, 0, 54) := rfl
theorem ix_94_33 : lkp 33 (mI mi_94) = some (false, .aload_n 0, 34, 0, 0) := rfl
theorem ix_94_34 : lkp 34 (mI mi_94) = some (false, .getfield 217, 37, 11, 8) := rfl
theorem ix_94_37 : lkp 37 (mI mi_94) = some (false, .ifCond .eq 17, 40, 0, 54) := rfl
theorem ix_94_40 : lkp 40 (mI mi_94) = some (false, .iload_n 1, 41, 1, 0) := rfl
theorem ix_94_41 : lkp 41 (mI mi_94) = some (false, .iconst 1, 42, 1, 0) := rfl
theorem ix_94_42 : lkp 42 (mI mi_94) = some (false, .if_icmp .ne 12, 45, 0, 54) := rfl
theorem ix_94_45 : lkp 45 (mI mi_94) = some (false, .bipush 48, 47, 48, 0) := rfl
theorem ix_94_47 : lkp 47 (mI mi_94) = some (false, .aload_n 0, 48, 0, 0) := rfl
theorem ix_94_48 : lkp 48 (mI mi_94) = some (false, .getfield 220, 51, 11, 9) := rfl
theorem ix_94_51 : lkp 51 (mI mi_94) = some (false, .iadd, 52, 0, 0) := rfl
theorem ix_94_52 : lkp 52 (mI mi_94) = some (false, .i2c, 53, 0, 0) := rfl
theorem ix_94_53 : lkp 53 (mI mi_94) = some (false, .ireturn, 54, 0, 2) := rfl
theorem ix_94_54 : lkp 54 (mI mi_94) = some (false, .new 194, 57, 904, 0) := rfl
theorem ix_95_0 : lkp 0 (mI mi_95) = some (false, .iload_n 1, 1, 1, 0) := rfl
theorem ix_95_1 : lkp 1 (mI mi_95) = some (false, .ifCond .lt 8, 4, 0, 9) := rfl
theorem ix_95_4 : lkp 4 (mI mi_95) = some (false, .iload_n 1, 5, 1, 0) := rfl
theorem ix_95_5 : lkp 5 (mI mi_95) = some (false, .iconst 4, 6, 4, 0) := rfl
theorem ix_95_6 : lkp 6 (mI mi_95) = some (false, .if_icmp .lt 13, 9, 0, 19) := rfl
theorem ix_95_9 : lkp 9 (mI mi_95) = some (false, .new 75, 12, 900, 0) := rfl
theorem ix_95_19 : lkp 19 (mI mi_95) = some (false, .aload_n 0, 20, 0, 0) := rfl
theorem ix_95_20 : lkp 20 (mI mi_95) = some (false, .iload_n 2, 21, 2, 0) := rfl
theorem ix_95_21 : lkp 21 (mI mi_95) = some (false, .invokevirtual 106, 24, 116, 177) := rfl
theorem ix_95_24 : lkp 24 (mI mi_95) = some (false, .astore 5, 26, 5, 0) := rfl
theorem ix_95_26 : lkp 26 (mI mi_95) = some (false, .aload 5, 28, 5, 0) := rfl
theorem ix_95_28 : lkp 28 (mI mi_95) = some (false, .iload_n 3, 29, 3, 0) := rfl
theorem ix_95_29 : lkp 29 (mI mi_95) = some (false, .invokevirtual 180, 32, 23, 65) := rfl
theorem ix_95_32 : lkp 32 (mI mi_95) = some (false, .ifCond .ne 13, 35, 0, 45) := rfl
theorem ix_95_35 : lkp 35 (mI mi_95) = some (false, .new 75, 38, 900, 0) := rfl
theorem ix_95_45 : lkp 45 (mI mi_95) = some (false, .iload 4, 47, 4, 0) := rfl
theorem ix_95_47 : lkp 47 (mI mi_95) = some (false, .iconst 1, 48, 1, 0) := rfl
theorem ix_95_48 : lkp 48 (mI mi_95) = some (false, .if_icmp .lt 16, 51, 0, 64) := rfl
theorem ix_95_51 : lkp 51 (mI mi_95) = some (false, .iload 4, 53, 4, 0) := rfl
theorem ix_95_53 : lkp 53 (mI mi_95) = some (false, .aload_n 0, 54, 0, 0) := rfl
theorem ix_95_54 : lkp 54 (mI mi_95) = some (false, .getfield 36, 57, 11, 4) := rfl
theorem ix_95_57 : lkp 57 (mI mi_95) = some (false, .iload_n 1, 58, 1, 0) := rfl
theorem ix_95_58 : lkp 58 (mI mi_95) = some (false, .invokevirtual 227, 61, 58, 113) := rfl
theorem ix_95_61 : lkp 61 (mI mi_95) = some (false, .if_icmp .le 13, 64, 0, 74) := rfl
theorem ix_95_64 : lkp 64 (mI mi_95) = some (false, .new 43, 67, 901, 0) := rfl
theorem ix_95_74 : lkp 74 (mI mi_95) = some (false, .aload_n 0, 75, 0, 0) := rfl
theorem ix_95_75 : lkp 75 (mI mi_95) = some (false, .aload 5, 77, 5, 0) := rfl
theorem ix_95_77 : lkp 77 (mI mi_95) = some (false, .invokevirtual 119, 80, 119, 177) := rfl
theorem ix_95_80 : lkp 80 (mI mi_95) = some (false, .aload 5, 82, 5, 0) := rfl
theorem ix_95_82 : lkp 82 (mI mi_95) = some (false, .getfield 232, 85, 4, 13) := rfl
theorem ix_95_85 : lkp 85 (mI mi_95) = some (false, .getfield 236, 88, 1, 0) := rfl
theorem ix_95_88 : lkp 88 (mI mi_95) = some (false, .bipush 10, 90, 10, 0) := rfl
theorem ix_95_90 : lkp 90 (mI mi_95) = some (false, .if_icmp .lt 13, 93, 0, 103) := rfl
theorem ix_95_93 : lkp 93 (mI mi_95) = some (false, .new 66, 96, 902, 0) := rfl
theorem ix_95_103 : lkp 103 (mI mi_95) = some (false, .aload_n 0, 104, 0, 0) := rfl
theorem ix_95_104 : lkp 104 (mI mi_95) = some (false, .new 243, 107, 3, 5) := rfl
theorem ix_95_107 : lkp 107 (mI mi_95) = some (false, .dup, 108, 0, 0) := rfl
theorem ix_95_108 : lkp 108 (mI mi_95) = some (false, .iload_n 2, 109, 2, 0) := rfl
theorem ix_95_109 : lkp 109 (mI mi_95) = some (false, .iload_n 1, 110, 1, 0) := rfl
theorem ix_95_110 : lkp 110 (mI mi_95) = some (false, .iload_n 3, 111, 3, 0) := rfl
theorem ix_95_111 : lkp 111 (mI mi_95) = some (false, .iload 4, 113, 4, 0) := rfl
theorem ix_95_113 : lkp 113 (mI mi_95) = some (false, .invokespecial 245, 116, 13, 4) := rfl
theorem ix_95_116 : lkp 116 (mI mi_95) = some (false, .invokevirtual 102, 119, 121, 177) := rfl
theorem ix_95_119 : lkp 119 (mI mi_95) = some (false, .aload 5, 121, 5, 0) := rfl
theorem ix_95_121 : lkp 121 (mI mi_95) = some (false, .getfield 232, 124, 4, 13) := rfl
theorem ix_95_124 : lkp 124 (mI mi_95) = some (false, .getfield 248, 127, 1, 1) := rfl
theorem ix_95_127 : lkp 127 (mI mi_95) = some (false, .ireturn, 128, 0, 0) := rfl
theorem ix_96_0 : lkp 0 (mI mi_96) = some (false, .iload_n 1, 1, 1, 0) := rfl
theorem ix_96_1 : lkp 1 (mI mi_96) = some (false, .ifCond .lt 8, 4, 0, 9) := rfl
theorem ix_96_4 : lkp 4 (mI mi_96) = some (false, .iload_n 1, 5, 1, 0) := rfl
theorem ix_96_5 : lkp 5 (mI mi_96) = some (false, .iconst 4, 6, 4, 0) := rfl
theorem ix_96_6 : lkp 6 (mI mi_96) = some (false, .if_icmp .lt 13, 9, 0, 19) := rfl
theorem ix_96_9 : lkp 9 (mI mi_96) = some (false, .new 75, 12, 900, 0) := rfl
theorem ix_96_19 : lkp 19 (mI mi_96) = some (false, .aload_n 0, 20, 0, 0) := rfl
theorem ix_96_20 : lkp 20 (mI mi_96) = some (false, .getfield 36, 23, 11, 4) := rfl
theorem ix_96_23 : lkp 23 (mI mi_96) = some (false, .iload_n 1, 24, 1, 0) := rfl
theorem ix_96_24 : lkp 24 (mI mi_96) = some (false, .invokevirtual 227, 27, 58, 113) := rfl
theorem ix_96_27 : lkp 27 (mI mi_96) = some (false, .ireturn, 28, 0, 0) := rfl
theorem ix_97_0 : lkp 0 (mI mi_97) = some (false, .aload_n 0, 1, 0, 0) := rfl
theorem ix_97_1 : lkp 1 (mI mi_97) = some (false, .iload_n 1, 2, 1, 0) := rfl
theorem ix_97_2 : lkp 2 (mI mi_97) = some (false, .invokevirtual 106, 5, 116, 177) := rfl
theorem ix_97_5 : lkp 5 (mI mi_97) = some (false, .getfield 232, 8, 4, 13) := rfl
theorem ix_97_8 : lkp 8 (mI mi_97) = some (false, .getfield 248, 11, 1, 1) := rfl
theorem ix_97_11 : lkp 11 (mI mi_97) = some (false, .ireturn, 12, 0, 0) := rfl
theorem ix_98_0 : lkp 0 (mI mi_98) = some (false, .aload_n 0, 1, 0, 0) := rfl
theorem ix_98_1 : lkp 1 (mI mi_98) = some (false, .iload_n 1, 2, 1, 0) := rfl
theorem ix_98_2 : lkp 2 (mI mi_98) = some (false, .invokevirtual 106, 5, 116, 177) := rfl
theorem ix_98_5 : lkp 5 (mI mi_98) = some (false, .astore_n 3, 6, 3, 0) := rfl
theorem ix_98_6 : lkp 6 (mI mi_98) = some (false, .iload_n 2, 7, 2, 0) := rfl
theorem ix_98_7 : lkp 7 (mI mi_98) = some (false, .ifCond .lt 14, 10, 0, 21) := rfl
theorem ix_98_10 : lkp 10 (mI mi_98) = some (false, .iload_n 2, 11, 2, 0) := rfl
theorem ix_98_11 : lkp 11 (mI mi_98) = some (false, .aload_n 3, 12, 3, 0) := rfl
theorem ix_98_12 : lkp 12 (mI mi_98) = some (false, .getfield 232, 15, 4, 13) := rfl
theorem ix_98_15 : lkp 15 (mI mi_98) = some (false, .getfield 236, 18, 1, 0) := rfl
theorem ix_98_18 : lkp 18 (mI mi_98) = some (false, .if_icmp .lt 13, 21, 0, 31) := rfl
theorem ix_98_21 : lkp 21 (mI mi_98) = some (false, .new 75, 24, 900, 0) := rfl
theorem ix_98_31 : lkp 31 (mI mi_98) = some (false, .aload_n 3, 32, 3, 0) := rfl
theorem ix_98_32 : lkp 32 (mI mi_98) = some (false, .getfield 232, 35, 4, 13) := rfl
theorem ix_98_35 : lkp 35 (mI mi_98) = some (false, .iload_n 2, 36, 2, 0) := rfl
theorem ix_98_36 : lkp 36 (mI mi_98) = some (false, .invokevirtual 253, 39, 7, 17) := rfl
theorem ix_98_39 : lkp 39 (mI mi_98) = some (false, .ireturn, 40, 0, 0) := rfl
theorem ix_99_0 : lkp 0 (mI mi_99) = some (false, .aload_n 0, 1, 0, 0) := rfl
theorem ix_99_1 : lkp 1 (mI mi_99) = some (false, .getfield 36, 4, 11, 4) := rfl
theorem ix_99_4 : lkp 4 (mI mi_99) = some (false, .getfield 256, 7, 7, 4) := rfl
theorem ix_99_7 : lkp 7 (mI mi_99) = some (false, .ireturn, 8, 0, 0) := rfl
theorem ix_100_0 : lkp 0 (mI mi_100) = some (false, .aload_n 0, 1, 0, 0) := rfl
theorem ix_100_1 : lkp 1 (mI mi_100) = some (false, .iload_n 1, 2, 1, 0) := rfl
theorem ix_100_2 : lkp 2 (mI mi_100) = some (false, .invokevirtual 106, 5, 116, 177) := rfl
theorem ix_100_5 : lkp 5 (mI mi_100) = some (false, .astore_n 3, 6, 3, 0) := rfl
theorem ix_100_6 : lkp 6 (mI mi_100) = some (false, .iload_n 2, 7, 2, 0) := rfl
theorem ix_100_7 : lkp 7 (mI mi_100) = some (false, .invokestatic 50, 10, 115, 1) := rfl
theorem ix_100_10 : lkp 10 (mI mi_100) = some (false, .ifCond .ne 14, 13, 0, 24) := rfl
theorem ix_100_13 : lkp 13 (mI mi_100) = some (false, .new 43, 16, 901, 0) := rfl
theorem ix_100_24 : lkp 24 (mI mi_100) = some (false, .aload_n 3, 25, 3, 0) := rfl
theorem ix_100_25 : lkp 25 (mI mi_100) = some (false, .getfield 205, 28, 4, 9) := rfl
theorem ix_100_28 : lkp 28 (mI mi_100) = some (false, .ifCond .eq 19, 31, 0, 47) := rfl
theorem ix_100_31 : lkp 31 (mI mi_100) = some (false, .aload_n 3, 32, 3, 0) := rfl
theorem ix_100_32 : lkp 32 (mI mi_100) = some (false, .getfield 261, 35, 4, 11) := rfl
theorem ix_100_35 : lkp 35 (mI mi_100) = some (false, .iload_n 2, 36, 2, 0) := rfl
theorem ix_100_36 : lkp 36 (mI mi_100) = some (false, .if_icmp .eq 11, 39, 0, 47) := rfl
theorem ix_100_39 : lkp 39 (mI mi_100) = some (false, .aload_n 3, 40, 3, 0) := rfl
theorem ix_100_40 : lkp 40 (mI mi_100) = some (false, .getfield 265, 43, 4, 12) := rfl
theorem ix_100_43 : lkp 43 (mI mi_100) = some (false, .iconst 2, 44, 2, 0) := rfl
theorem ix_100_44 : lkp 44 (mI mi_100) = some (false, .if_icmp .lt 14, 47, 0, 58) := rfl
theorem ix_100_47 : lkp 47 (mI mi_100) = some (false, .new 131, 50, 903, 0) := rfl
theorem ix_100_58 : lkp 58 (mI mi_100) = some (false, .aload_n 0, 59, 0, 0) := rfl
theorem ix_100_59 : lkp 59 (mI mi_100) = some (false, .iload_n 1, 60, 1, 0) := rfl
theorem ix_100_60 : lkp 60 (mI mi_100) = some (false, .invokevirtual 270, 63, 122, 177) := rfl
theorem ix_100_63 : lkp 63 (mI mi_100) = some (false, .ifCond .ne 10, 66, 0, 73) := rfl
theorem ix_100_66 : lkp 66 (mI mi_100) = some (false, .aload_n 0, 67, 0, 0) := rfl
theorem ix_100_67 : lkp 67 (mI mi_100) = some (false, .invokevirtual 87, 70, 118, 176) := rfl
theorem ix_100_70 : lkp 70 (mI mi_100) = some (false, .ifCond .eq 14, 73, 0, 84) := rfl
theorem ix_100_73 : lkp 73 (mI mi_100) = some (false, .new 66, 76, 902, 0) := rfl
theorem ix_100_84 : lkp 84 (mI mi_100) = some (false, .aload_n 0, 85, 0, 0) := rfl
theorem ix_100_85 : lkp 85 (mI mi_100) = some (false, .new 275, 88, 2, 3) := rfl
theorem ix_100_88 : lkp 88 (mI mi_100) = some (false, .dup, 89, 0, 0) := rfl
theorem ix_100_89 : lkp 89 (mI mi_100) = some (false, .iload_n 1, 90, 1, 0) := rfl
theorem ix_100_90 : lkp 90 (mI mi_100) = some (false, .iload_n 2, 91, 2, 0) := rfl
theorem ix_100_91 : lkp 91 (mI mi_100) = some (false, .invokespecial 277, 94, 11, 2) := rfl
theorem ix_100_94 : lkp 94 (mI mi_100) = some (false, .invokevirtual 102, 97, 121, 177) := rfl
theorem ix_100_97 : lkp 97 (mI mi_100) = some (false, .aload_n 3, 98, 3, 0) := rfl
theorem ix_100_98 : lkp 98 (mI mi_100) = some (false, .getfield 211, 101, 4, 10) := rfl
theorem ix_100_101 : lkp 101 (mI mi_100) = some (false, .ireturn, 102, 0, 0) := rfl
theorem ix_101_0 : lkp 0 (mI mi_101) = some (false, .aload_n 0, 1, 0, 0) := rfl
theorem ix_101_1 : lkp 1 (mI mi_101) = some (false, .iload_n 1, 2, 1, 0) := rfl
theorem ix_101_2 : lkp 2 (mI mi_101) = some (false, .invokevirtual 106, 5, 116, 177) := rfl
theorem ix_101_5 : lkp 5 (mI mi_101) = some (false, .getfield 261, 8, 4, 11) := rfl
theorem ix_101_8 : lkp 8 (mI mi_101) = some (false, .ireturn, 9, 0, 2) := rfl
theorem ix_102_0 : lkp 0 (mI mi_102) = some (false, .aload_n 0, 1, 0, 0) := rfl
theorem ix_102_1 : lkp 1 (mI mi_102) = some (false, .getfield 16, 4, 11, 1) := rfl
theorem ix_102_4 : lkp 4 (mI mi_102) = some (false, .invokevirtual 62, 7, 199, 0) := rfl
theorem ix_102_7 : lkp 7 (mI mi_102) = some (false, .ireturn, 8, 0, 0) := rfl
theorem ix_103_0 : lkp 0 (mI mi_103) = some (false, .aload_n 0, 1, 0, 0) := rfl
theorem ix_103_1 : lkp 1 (mI mi_103) = some (false, .getfield 16, 4, 11, 1) := rfl
theorem ix_103_4 : lkp 4 (mI mi_103) = some (false, .invokevirtual 62, 7, 199, 0) := rfl
theorem ix_103_7 : lkp 7 (mI mi_103) = some (false, .aload_n 0, 8, 0, 0) := rfl
theorem ix_103_8 : lkp 8 (mI mi_103) = some (false, .getfield 280, 11, 11, 2) := rfl
theorem ix_103_11 : lkp 11 (mI mi_103) = some (false, .isub, 12, 0, 0) := rfl
theorem ix_103_12 : lkp 12 (mI mi_103) = some (false, .ireturn, 13, 0, 0) := rfl
theorem ix_104_0 : lkp 0 (mI mi_104) = some (false, .aload_n 0, 1, 0, 0) := rfl
theorem ix_104_1 : lkp 1 (mI mi_104) = some (false, .iload_n 1, 2, 1, 0) := rfl
theorem ix_104_2 : lkp 2 (mI mi_104) = some (false, .invokevirtual 283, 5, 117, 177) := rfl
theorem ix_104_5 : lkp 5 (mI mi_104) = some (false, .getfield 287, 8, 50, 0) := rfl
theorem ix_104_8 : lkp 8 (mI mi_104) = some (false, .ireturn, 9, 0, 2) := rfl
theorem ix_105_0 : lkp 0 (mI mi_105) = some (false, .aload_n 0, 1, 0, 0) := rfl
theorem ix_105_1 : lkp 1 (mI mi_105) = some (false, .iload_n 1, 2, 1, 0) := rfl
theorem ix_105_2 : lkp 2 (mI mi_105) = some (false, .invokevirtual 283, 5, 117, 177) := rfl
theorem ix_105_5 : lkp 5 (mI mi_105) = some (false, .getfield 292, 8, 50, 1) := rfl
theorem ix_105_8 : lkp 8 (mI mi_105) = some (false, .ireturn, 9, 0, 0) := rfl
theorem ix_106_0 : lkp 0 (mI mi_106) = some (false, .aload_n 0, 1, 0, 0) := rfl
theorem ix_106_1 : lkp 1 (mI mi_106) = some (false, .getfield 16, 4, 11, 1) := rfl
theorem ix_106_4 : lkp 4 (mI mi_106) = some (false, .invokevirtual 62, 7, 199, 0) := rfl
theorem ix_106_7 : lkp 7 (mI mi_106) = some (false, .aload_n 0, 8, 0, 0) := rfl
theorem ix_106_8 : lkp 8 (mI mi_106) = some (false, .getfield 280, 11, 11, 2) := rfl
theorem ix_106_11 : lkp 11 (mI mi_106) = some (false, .isub, 12, 0, 0) := rfl
theorem ix_106_12 : lkp 12 (mI mi_106) = some (false, .istore_n 1, 13, 1, 0) := rfl
theorem ix_106_13 : lkp 13 (mI mi_106) = some (false, .aload_n 0, 14, 0, 0) := rfl
theorem ix_106_14 : lkp 14 (mI mi_106) = some (false, .aload_n 0, 15, 0, 0) := rfl
theorem ix_106_15 : lkp 15 (mI mi_106) = some (false, .getfield 16, 18, 11, 1) := rfl
theorem ix_106_18 : lkp 18 (mI mi_106) = some (false, .invokevirtual 62, 21, 199, 0) := rfl
theorem ix_106_21 : lkp 21 (mI mi_106) = some (false, .putfield 280, 24, 11, 2) := rfl
theorem ix_106_24 : lkp 24 (mI mi_106) = some (false, .iload_n 1, 25, 1, 0) := rfl
theorem ix_106_25 : lkp 25 (mI mi_106) = some (false, .ireturn, 26, 0, 0) := rfl
theorem ix_107_0 : lkp 0 (mI mi_107) = some (false, .aload_n 0, 1, 0, 0) := rfl
theorem ix_107_1 : lkp 1 (mI mi_107) = some (false, .getfield 16, 4, 11, 1) := rfl
theorem ix_107_4 : lkp 4 (mI mi_107) = some (false, .invokevirtual 62, 7, 199, 0) := rfl
theorem ix_107_7 : lkp 7 (mI mi_107) = some (false, .aload_n 0, 8, 0, 0) := rfl
theorem ix_107_8 : lkp 8 (mI mi_107) = some (false, .getfield 280, 11, 11, 2) := rfl
theorem ix_107_11 : lkp 11 (mI mi_107) = some (false, .isub, 12, 0, 0) := rfl
theorem ix_107_12 : lkp 12 (mI mi_107) = some (false, .istore_n 1, 13, 1, 0) := rfl
theorem ix_107_13 : lkp 13 (mI mi_107) = some (false, .aload_n 0, 14, 0, 0) := rfl
theorem ix_107_14 : lkp 14 (mI mi_107) = some (false, .getfield 16, 17, 11, 1) := rfl
theorem ix_107_17 : lkp 17 (mI mi_107) = some (false, .invokevirtual 62, 20, 199, 0) := rfl
theorem ix_107_20 : lkp 20 (mI mi_107) = some (false, .iconst 1, 21, 1, 0) := rfl
theorem ix_107_21 : lkp 21 (mI mi_107) = some (false, .isub, 22, 0, 0) := rfl
theorem ix_107_22 : lkp 22 (mI mi_107) = some (false, .istore_n 2, 23, 2, 0) := rfl
theorem ix_107_23 : lkp 23 (mI mi_107) = some (true, .iload_n 2, 24, 2, 0) := rfl
theorem ix_107_24 : lkp 24 (mI mi_107) = some (false, .ifCond .lt 26, 27, 0, 50) := rfl
theorem ix_107_27 : lkp 27 (mI mi_107) = some (false, .iload_n 2, 28, 2, 0) := rfl
theorem ix_107_28 : lkp 28 (mI mi_107) = some (false, .aload_n 0, 29, 0, 0) := rfl
theorem ix_107_29 : lkp 29 (mI mi_107) = some (false, .getfield 280, 32, 11, 2) := rfl
theorem ix_107_32 : lkp 32 (mI mi_107) = some (false, .if_icmp .lt 18, 35, 0, 50) := rfl
theorem ix_107_35 : lkp 35 (mI mi_107) = some (false, .aload_n 0, 36, 0, 0) := rfl
theorem ix_107_36 : lkp 36 (mI mi_107) = some (false, .getfield 16, 39, 11, 1) := rfl
theorem ix_107_39 : lkp 39 (mI mi_107) = some (false, .iload_n 2, 40, 2, 0) := rfl
theorem ix_107_40 : lkp 40 (mI mi_107) = some (false, .invokevirtual 295, 43, 204, 1) := rfl
theorem ix_107_43 : lkp 43 (mI mi_107) = some (false, .pop, 44, 0, 0) := rfl
theorem ix_107_44 : lkp 44 (mI mi_107) = some (false, .iinc 2 (-1), 47, 2, 3) := rfl
theorem ix_107_47 : lkp 47 (mI mi_107) = some (false, .goto (-24), 50, 0, 23) := rfl
theorem ix_107_50 : lkp 50 (mI mi_107) = some (false, .aload_n 0, 51, 0, 0) := rfl
theorem ix_107_51 : lkp 51 (mI mi_107) = some (false, .iconst (-1), 52, 1, 1) := rfl
theorem ix_107_52 : lkp 52 (mI mi_107) = some (false, .aload_n 0, 53, 0, 0) := rfl
theorem ix_107_53 : lkp 53 (mI mi_107) = some (false, .getfield 36, 56, 11, 4) := rfl
theorem ix_107_56 : lkp 56 (mI mi_107) = some (false, .invokevirtual 298, 59, 123, 178) := rfl
theorem ix_107_59 : lkp 59 (mI mi_107) = some (false, .iload_n 1, 60, 1, 0) := rfl
theorem ix_107_60 : lkp 60 (mI mi_107) = some (false, .ireturn, 61, 0, 0) := rfl
theorem ix_108_0 : lkp 0 (mI mi_108) = some (false, .aload_n 0, 1, 0, 0) := rfl
theorem ix_108_1 : lkp 1 (mI mi_108) = some (false, .getfield 36, 4, 11, 4) := rfl
theorem ix_108_4 : lkp 4 (mI mi_108) = some (false, .invokevirtual 302, 7, 66, 112) := rfl
theorem ix_108_7 : lkp 7 (mI mi_108) = some (false, .ifCond .eq 14, 10, 0, 21) := rfl
theorem ix_108_10 : lkp 10 (mI mi_108) = some (false, .new 131, 13, 903, 0) := rfl
theorem ix_108_21 : lkp 21 (mI mi_108) = some (false, .aload_n 0, 22, 0, 0) := rfl
theorem ix_108_22 : lkp 22 (mI mi_108) = some (false, .getfield 19, 25, 11, 3) := rfl
theorem ix_108_25 : lkp 25 (mI mi_108) = some (false, .invokevirtual 62, 28, 199, 0) := rfl
theorem ix_108_28 : lkp 28 (mI mi_108) = some (false, .iconst 5, 29, 5, 0) := rfl
theorem ix_108_29 : lkp 29 (mI mi_108) = some (false, .if_icmp .lt 14, 32, 0, 43) := rfl
theorem ix_108_32 : lkp 32 (mI mi_108) = some (false, .new 66, 35, 902, 0) := rfl
theorem ix_108_43 : lkp 43 (mI mi_108) = some (false, .aload_n 0, 44, 0, 0) := rfl
theorem ix_108_44 : lkp 44 (mI mi_108) = some (false, .aload_n 0, 45, 0, 0) := rfl
theorem ix_108_45 : lkp 45 (mI mi_108) = some (false, .getfield 16, 48, 11, 1) := rfl
theorem ix_108_48 : lkp 48 (mI mi_108) = some (false, .invokevirtual 62, 51, 199, 0) := rfl
theorem ix_108_51 : lkp 51 (mI mi_108) = some (false, .putfield 280, 54, 11, 2) := rfl
theorem ix_108_54 : lkp 54 (mI mi_108) = some (false, .new 31, 57, 7, 5) := rfl
theorem ix_108_57 : lkp 57 (mI mi_108) = some (false, .dup, 58, 0, 0) := rfl
theorem ix_108_58 : lkp 58 (mI mi_108) = some (false, .aload_n 0, 59, 0, 0) := rfl
theorem ix_108_59 : lkp 59 (mI mi_108) = some (false, .getfield 27, 62, 11, 6) := rfl
theorem ix_108_62 : lkp 62 (mI mi_108) = some (false, .invokespecial 33, 65, 53, 1) := rfl
theorem ix_108_65 : lkp 65 (mI mi_108) = some (false, .astore_n 1, 66, 1, 0) := rfl
theorem ix_108_66 : lkp 66 (mI mi_108) = some (false, .aload_n 1, 67, 1, 0) := rfl
theorem ix_108_67 : lkp 67 (mI mi_108) = some (false, .aload_n 0, 68, 0, 0) := rfl
theorem ix_108_68 : lkp 68 (mI mi_108) = some (false, .getfield 36, 71, 11, 4) := rfl
theorem ix_108_71 : lkp 71 (mI mi_108) = some (false, .invokevirtual 309, 74, 55, 113) := rfl
theorem ix_108_74 : lkp 74 (mI mi_108) = some (false, .aload_n 0, 75, 0, 0) := rfl
theorem ix_108_75 : lkp 75 (mI mi_108) = some (false, .getfield 19, 78, 11, 3) := rfl
theorem ix_108_78 : lkp 78 (mI mi_108) = some (false, .aload_n 1, 79, 1, 0) := rfl
theorem ix_108_79 : lkp 79 (mI mi_108) = some (false, .invokevirtual 71, 82, 203, 1) := rfl
theorem ix_108_82 : lkp 82 (mI mi_108) = some (false, .pop, 83, 0, 0) := rfl
theorem ix_108_83 : lkp 83 (mI mi_108) = some (false, .aload_n 0, 84, 0, 0) := rfl
theorem ix_108_84 : lkp 84 (mI mi_108) = some (false, .getfield 19, 87, 11, 3) := rfl
theorem ix_108_87 : lkp 87 (mI mi_108) = some (false, .invokevirtual 62, 90, 199, 0) := rfl
theorem ix_108_90 : lkp 90 (mI mi_108) = some (false, .iconst 1, 91, 1, 0) := rfl
theorem ix_108_91 : lkp 91 (mI mi_108) = some (false, .isub, 92, 0, 0) := rfl
theorem ix_108_92 : lkp 92 (mI mi_108) = some (false, .ireturn, 93, 0, 0) := rfl
theorem ix_109_0 : lkp 0 (mI mi_109) = some (false, .iload_n 1, 1, 1, 0) := rfl
theorem ix_109_1 : lkp 1 (mI mi_109) = some (false, .ifCond .lt 14, 4, 0, 15) := rfl
theorem ix_109_4 : lkp 4 (mI mi_109) = some (false, .iload_n 1, 5, 1, 0) := rfl
theorem ix_109_5 : lkp 5 (mI mi_109) = some (false, .aload_n 0, 6, 0, 0) := rfl
theorem ix_109_6 : lkp 6 (mI mi_109) = some (false, .getfield 19, 9, 11, 3) := rfl
theorem ix_109_9 : lkp 9 (mI mi_109) = some (false, .invokevirtual 62, 12, 199, 0) := rfl
theorem ix_109_12 : lkp 12 (mI mi_109) = some (false, .if_icmp .lt 14, 15, 0, 26) := rfl
theorem ix_109_15 : lkp 15 (mI mi_109) = some (false, .new 75, 18, 900, 0) := rfl
theorem ix_109_26 : lkp 26 (mI mi_109) = some (false, .aload_n 0, 27, 0, 0) := rfl
theorem ix_109_27 : lkp 27 (mI mi_109) = some (false, .getfield 16, 30, 11, 1) := rfl
theorem ix_109_30 : lkp 30 (mI mi_109) = some (false, .invokevirtual 62, 33, 199, 0) := rfl
theorem ix_109_33 : lkp 33 (mI mi_109) = some (false, .aload_n 0, 34, 0, 0) := rfl
theorem ix_109_34 : lkp 34 (mI mi_109) = some (false, .getfield 19, 37, 11, 3) := rfl
theorem ix_109_37 : lkp 37 (mI mi_109) = some (false, .iload_n 1, 38, 1, 0) := rfl
theorem ix_109_38 : lkp 38 (mI mi_109) = some (false, .invokevirtual 95, 41, 201, 1) := rfl
theorem ix_109_41 : lkp 41 (mI mi_109) = some (false, .checkcast 31, 44, 7, 0) := rfl
theorem ix_109_44 : lkp 44 (mI mi_109) = some (false, .getfield 315, 47, 7, 0) := rfl
theorem ix_109_47 : lkp 47 (mI mi_109) = some (false, .isub, 48, 0, 0) := rfl
theorem ix_109_48 : lkp 48 (mI mi_109) = some (false, .ireturn, 49, 0, 0) := rfl
theorem ix_110_0 : lkp 0 (mI mi_110) = some (false, .iload_n 1, 1, 1, 0) := rfl
theorem ix_110_1 : lkp 1 (mI mi_110) = some (false, .iconst (-1), 2, 1, 1) := rfl
theorem ix_110_2 : lkp 2 (mI mi_110) = some (false, .if_icmp .eq 29, 5, 0, 31) := rfl
theorem ix_110_5 : lkp 5 (mI mi_110) = some (false, .iload_n 1, 6, 1, 0) := rfl
theorem ix_110_6 : lkp 6 (mI mi_110) = some (false, .ifCond .lt 14, 9, 0, 20) := rfl
theorem ix_110_9 : lkp 9 (mI mi_110) = some (false, .iload_n 1, 10, 1, 0) := rfl
theorem ix_110_10 : lkp 10 (mI mi_110) = some (false, .aload_n 0, 11, 0, 0) := rfl
theorem ix_110_11 : lkp 11 (mI mi_110) = some (false, .getfield 19, 14, 11, 3) := rfl
theorem ix_110_14 : lkp 14 (mI mi_110) = some (false, .invokevirtual 62, 17, 199, 0) := rfl
theorem ix_110_17 : lkp 17 (mI mi_110) = some (false, .if_icmp .lt 14, 20, 0, 31) := rfl
theorem ix_110_20 : lkp 20 (mI mi_110) = some (false, .new 75, 23, 900, 0) := rfl
theorem ix_110_31 : lkp 31 (mI mi_110) = some (false, .aload_n 0, 32, 0, 0) := rfl
theorem ix_110_32 : lkp 32 (mI mi_110) = some (false, .iload_n 1, 33, 1, 0) := rfl
theorem ix_110_33 : lkp 33 (mI mi_110) = some (false, .aload_n 0, 34, 0, 0) := rfl
theorem ix_110_34 : lkp 34 (mI mi_110) = some (false, .getfield 40, 37, 11, 5) := rfl
theorem ix_110_37 : lkp 37 (mI mi_110) = some (false, .invokevirtual 298, 40, 123, 178) := rfl
theorem ix_110_40 : lkp 40 (mI mi_110) = some (false, .aload_n 0, 41, 0, 0) := rfl
theorem ix_110_41 : lkp 41 (mI mi_110) = some (false, .getfield 40, 44, 11, 5) := rfl
theorem ix_110_44 : lkp 44 (mI mi_110) = some (false, .invokevirtual 318, 47, 72, 112) := rfl
theorem ix_110_47 : lkp 47 (mI mi_110) = some (false, .lreturn, 48, 0, 0) := rfl
theorem ix_111_0 : lkp 0 (mI mi_111) = some (false, .aload_n 0, 1, 0, 0) := rfl
theorem ix_111_1 : lkp 1 (mI mi_111) = some (false, .getfield 36, 4, 11, 4) := rfl
theorem ix_111_4 : lkp 4 (mI mi_111) = some (false, .invokevirtual 318, 7, 72, 112) := rfl
theorem ix_111_7 : lkp 7 (mI mi_111) = some (false, .lreturn, 8, 0, 0) := rfl
theorem ix_112_0 : lkp 0 (mI mi_112) = some (false, .aload_n 0, 1, 0, 0) := rfl
theorem ix_112_1 : lkp 1 (mI mi_112) = some (false, .getfield 36, 4, 11, 4) := rfl
theorem ix_112_4 : lkp 4 (mI mi_112) = some (false, .getfield 83, 7, 7, 1) := rfl
theorem ix_112_7 : lkp 7 (mI mi_112) = some (false, .ifCond .ne 14, 10, 0, 21) := rfl
theorem ix_112_10 : lkp 10 (mI mi_112) = some (false, .new 194, 13, 904, 0) := rfl
theorem ix_112_21 : lkp 21 (mI mi_112) = some (false, .aload_n 0, 22, 0, 0) := rfl
theorem ix_112_22 : lkp 22 (mI mi_112) = some (false, .getfield 36, 25, 11, 4) := rfl
theorem ix_112_25 : lkp 25 (mI mi_112) = some (false, .invokevirtual 324, 28, 70, 112) := rfl
theorem ix_112_28 : lkp 28 (mI mi_112) = some (false, .i2f, 29, 0, 0) := rfl
theorem ix_112_29 : lkp 29 (mI mi_112) = some (false, .aload_n 0, 30, 0, 0) := rfl
theorem ix_112_30 : lkp 30 (mI mi_112) = some (false, .getfield 36, 33, 11, 4) := rfl
theorem ix_112_33 : lkp 33 (mI mi_112) = some (false, .getfield 83, 36, 7, 1) := rfl
theorem ix_112_36 : lkp 36 (mI mi_112) = some (false, .i2f, 37, 0, 0) := rfl
theorem ix_112_37 : lkp 37 (mI mi_112) = some (false, .fdiv, 38, 0, 0) := rfl
theorem ix_112_38 : lkp 38 (mI mi_112) = some (false, .freturn, 39, 0, 0) := rfl
theorem ix_113_0 : lkp 0 (mI mi_113) = some (false, .aload_n 0, 1, 0, 0) := rfl
theorem ix_113_1 : lkp 1 (mI mi_113) = some (false, .getfield 36, 4, 11, 4) := rfl
theorem ix_113_4 : lkp 4 (mI mi_113) = some (false, .invokevirtual 327, 7, 68, 112) := rfl
theorem ix_113_7 : lkp 7 (mI mi_113) = some (false, .i2d, 8, 0, 0) := rfl
theorem ix_113_8 : lkp 8 (mI mi_113) = some (false, .ldc2_w 330, 11, 4616189618054758400, 1) := rfl
theorem ix_113_11 : lkp 11 (mI mi_113) = some (false, .ddiv, 12, 0, 0) := rfl
theorem ix_113_12 : lkp 12 (mI mi_113) = some (false, .dreturn, 13, 0, 0) := rfl
theorem ix_114_0 : lkp 0 (mI mi_114) = some (false, .iconst (-1), 1, 1, 1) := rfl
theorem ix_114_1 : lkp 1 (mI mi_114) = some (false, .istore_n 1, 2, 1, 0) := rfl
theorem ix_114_2 : lkp 2 (mI mi_114) = some (true, .iload_n 1, 3, 1, 0) := rfl
theorem ix_114_3 : lkp 3 (mI mi_114) = some (false, .aload_n 0, 4, 0, 0) := rfl
theorem ix_114_4 : lkp 4 (mI mi_114) = some (false, .getfield 19, 7, 11, 3) := rfl
theorem ix_114_7 : lkp 7 (mI mi_114) = some (false, .invokevirtual 62, 10, 199, 0) := rfl
theorem ix_114_10 : lkp 10 (mI mi_114) = some (false, .if_icmp .ge 34, 13, 0, 44) := rfl
theorem ix_114_13 : lkp 13 (mI mi_114) = some (false, .aload_n 0, 14, 0, 0) := rfl
theorem ix_114_14 : lkp 14 (mI mi_114) = some (false, .iload_n 1, 15, 1, 0) := rfl
theorem ix_114_15 : lkp 15 (mI mi_114) = some (false, .aload_n 0, 16, 0, 0) := rfl
theorem ix_114_16 : lkp 16 (mI mi_114) = some (false, .getfield 40, 19, 11, 5) := rfl
theorem ix_114_19 : lkp 19 (mI mi_114) = some (false, .invokevirtual 298, 22, 123, 178) := rfl
theorem ix_114_22 : lkp 22 (mI mi_114) = some (false, .aload_n 0, 23, 0, 0) := rfl
theorem ix_114_23 : lkp 23 (mI mi_114) = some (false, .getfield 40, 26, 11, 5) := rfl
theorem ix_114_26 : lkp 26 (mI mi_114) = some (false, .aload_n 0, 27, 0, 0) := rfl
theorem ix_114_27 : lkp 27 (mI mi_114) = some (false, .getfield 36, 30, 11, 4) := rfl
theorem ix_114_30 : lkp 30 (mI mi_114) = some (false, .invokevirtual 332, 33, 56, 113) := rfl
theorem ix_114_33 : lkp 33 (mI mi_114) = some (false, .ifCond .ne 5, 36, 0, 38) := rfl
theorem ix_114_36 : lkp 36 (mI mi_114) = some (false, .iconst 0, 37, 0, 0) := rfl
theorem ix_114_37 : lkp 37 (mI mi_114) = some (false, .ireturn, 38, 0, 1) := rfl
theorem ix_114_38 : lkp 38 (mI mi_114) = some (false, .iinc 1 1, 41, 1, 2) := rfl
theorem ix_114_41 : lkp 41 (mI mi_114) = some (false, .goto (-39), 44, 0, 2) := rfl
theorem ix_114_44 : lkp 44 (mI mi_114) = some (false, .aload_n 0, 45, 0, 0) := rfl
theorem ix_114_45 : lkp 45 (mI mi_114) = some (false, .getfield 36, 48, 11, 4) := rfl
theorem ix_114_48 : lkp 48 (mI mi_114) = some (false, .invokevirtual 336, 51, 71, 112) := rfl
theorem ix_114_51 : lkp 51 (mI mi_114) = some (false, .ifCond .eq 20, 54, 0, 71) := rfl
theorem ix_114_54 : lkp 54 (mI mi_114) = some (false, .aload_n 0, 55, 0, 0) := rfl
theorem ix_114_55 : lkp 55 (mI mi_114) = some (false, .getfield 36, 58, 11, 4) := rfl
theorem ix_114_58 : lkp 58 (mI mi_114) = some (false, .invokevirtual 339, 61, 69, 112) := rfl
theorem ix_114_61 : lkp 61 (mI mi_114) = some (false, .sipush 400, 64, 400, 0) := rfl
theorem ix_114_64 : lkp 64 (mI mi_114) = some (false, .if_icmp .ne 7, 67, 0, 71) := rfl
theorem ix_114_67 : lkp 67 (mI mi_114) = some (false, .iconst 1, 68, 1, 0) := rfl
theorem ix_114_68 : lkp 68 (mI mi_114) = some (false, .goto 4, 71, 0, 72) := rfl
theorem ix_114_71 : lkp 71 (mI mi_114) = some (false, .iconst 0, 72, 0, 0) := rfl
theorem ix_114_72 : lkp 72 (mI mi_114) = some (false, .ireturn, 73, 0, 1) := rfl
theorem ix_115_0 : lkp 0 (mI mi_115) = some (false, .iload_n 0, 1, 0, 0) := rfl
theorem ix_115_1 : lkp 1 (mI mi_115) = some (false, .bipush 108, 3, 108, 0) := rfl
theorem ix_115_3 : lkp 3 (mI mi_115) = some (false, .if_icmp .eq 15, 6, 0, 18) := rfl
theorem ix_115_6 : lkp 6 (mI mi_115) = some (false, .iload_n 0, 7, 0, 0) := rfl
theorem ix_115_7 : lkp 7 (mI mi_115) = some (false, .bipush 115, 9, 115, 0) := rfl
theorem ix_115_9 : lkp 9 (mI mi_115) = some (false, .if_icmp .eq 9, 12, 0, 18) := rfl
theorem ix_115_12 : lkp 12 (mI mi_115) = some (false, .iload_n 0, 13, 0, 0) := rfl
theorem ix_115_13 : lkp 13 (mI mi_115) = some (false, .bipush 110, 15, 110, 0) := rfl
theorem ix_115_15 : lkp 15 (mI mi_115) = some (false, .if_icmp .ne 7, 18, 0, 22) := rfl
theorem ix_115_18 : lkp 18 (mI mi_115) = some (false, .iconst 1, 19, 1, 0) := rfl
theorem ix_115_19 : lkp 19 (mI mi_115) = some (false, .goto 4, 22, 0, 23) := rfl
theorem ix_115_22 : lkp 22 (mI mi_115) = some (false, .iconst 0, 23, 0, 0) := rfl
theorem ix_115_23 : lkp 23 (mI mi_115) = some (false, .ireturn, 24, 0, 1) := rfl
theorem ix_116_0 : lkp 0 (mI mi_116) = some (false, .aload_n 0, 1, 0, 0) := rfl
theorem ix_116_1 : lkp 1 (mI mi_116) = some (false, .getfield 36, 4, 11, 4) := rfl
theorem ix_116_4 : lkp 4 (mI mi_116) = some (false, .iload_n 1, 5, 1, 0) := rfl
theorem ix_116_5 : lkp 5 (mI mi_116) = some (false, .invokevirtual 342, 8, 57, 113) := rfl
theorem ix_116_8 : lkp 8 (mI mi_116) = some (false, .astore_n 2, 9, 2, 0) := rfl
theorem ix_116_9 : lkp 9 (mI mi_116) = some (false, .aload_n 2, 10, 2, 0) := rfl
theorem ix_116_10 : lkp 10 (mI mi_116) = some (false, .ifnonnull 14, 13, 0, 24) := rfl
theorem ix_116_13 : lkp 13 (mI mi_116) = some (false, .new 75, 16, 900, 0) := rfl
theorem ix_116_24 : lkp 24 (mI mi_116) = some (false, .aload_n 2, 25, 2, 0) := rfl
theorem ix_116_25 : lkp 25 (mI mi_116) = some (false, .areturn, 26, 0, 0) := rfl
theorem ix_117_0 : lkp 0 (mI mi_117) = some (false, .iload_n 1, 1, 1, 0) := rfl
theorem ix_117_1 : lkp 1 (mI mi_117) = some (false, .ifCond .lt 14, 4, 0, 15) := rfl
theorem ix_117_4 : lkp 4 (mI mi_117) = some (false, .iload_n 1, 5, 1, 0) := rfl
theorem ix_117_5 : lkp 5 (mI mi_117) = some (false, .aload_n 0, 6, 0, 0) := rfl
theorem ix_117_6 : lkp 6 (mI mi_117) = some (false, .getfield 16, 9, 11, 1) := rfl
theorem ix_117_9 : lkp 9 (mI mi_117) = some (false, .invokevirtual 62, 12, 199, 0) := rfl
theorem ix_117_12 : lkp 12 (mI mi_117) = some (false, .if_icmp .lt 14, 15, 0, 26) := rfl
theorem ix_117_15 : lkp 15 (mI mi_117) = some (false, .new 194, 18, 904, 0) := rfl
theorem ix_117_26 : lkp 26 (mI mi_117) = some (false, .aload_n 0, 27, 0, 0) := rfl
theorem ix_117_27 : lkp 27 (mI mi_117) = some (false, .getfield 16, 30, 11, 1) := rfl
theorem ix_117_30 : lkp 30 (mI mi_117) = some (false, .iload_n 1, 31, 1, 0) := rfl
theorem ix_117_31 : lkp 31 (mI mi_117) = some (false, .invokevirtual 95, 34, 201, 1) := rfl
theorem ix_117_34 : lkp 34 (mI mi_117) = some (false, .checkcast 288, 37, 50, 0) := rfl
theorem ix_117_37 : lkp 37 (mI mi_117) = some (false, .areturn, 38, 0, 0) := rfl
theorem ix_118_0 : lkp 0 (mI mi_118) = some (false, .aload_n 0, 1, 0, 0) := rfl
theorem ix_118_1 : lkp 1 (mI mi_118) = some (false, .getfield 16, 4, 11, 1) := rfl
theorem ix_118_4 : lkp 4 (mI mi_118) = some (false, .invokevirtual 62, 7, 199, 0) := rfl
theorem ix_118_7 : lkp 7 (mI mi_118) = some (false, .sipush 400, 10, 400, 0) := rfl
theorem ix_118_10 : lkp 10 (mI mi_118) = some (false, .if_icmp .lt 7, 13, 0, 17) := rfl
theorem ix_118_13 : lkp 13 (mI mi_118) = some (false, .iconst 1, 14, 1, 0) := rfl
theorem ix_118_14 : lkp 14 (mI mi_118) = some (false, .goto 4, 17, 0, 18) := rfl
theorem ix_118_17 : lkp 17 (mI mi_118) = some (false, .iconst 0, 18, 0, 0) := rfl
theorem ix_118_18 : lkp 18 (mI mi_118) = some (false, .ireturn, 19, 0, 1) := rfl
theorem ix_119_0 : lkp 0 (mI mi_119) = some (false, .aload_n 1, 1, 1, 0) := rfl
theorem ix_119_1 : lkp 1 (mI mi_119) = some (false, .invokevirtual 151, 4, 24, 64) := rfl
theorem ix_119_4 : lkp 4 (mI mi_119) = some (false, .ifCond .ne 10, 7, 0, 14) := rfl
theorem ix_119_7 : lkp 7 (mI mi_119) = some (false, .aload_n 0, 8, 0, 0) := rfl
theorem ix_119_8 : lkp 8 (mI mi_119) = some (false, .invokevirtual 87, 11, 118, 176) := rfl
theorem ix_119_11 : lkp 11 (mI mi_119) = some (false, .ifCond .eq 14, 14, 0, 25) := rfl
theorem ix_119_14 : lkp 14 (mI mi_119) = some (false, .new 66, 17, 902, 0) := rfl
theorem ix_119_25 : lkp 25 (mI mi_119) = some (false, .return_, 26, 0, 0) := rfl
theorem ix_120_0 : lkp 0 (mI mi_120) = some (false, .aload_n 0, 1, 0, 0) := rfl
theorem ix_120_1 : lkp 1 (mI mi_120) = some (false, .iconst 1, 2, 1, 0) := rfl
theorem ix_120_2 : lkp 2 (mI mi_120) = some (false, .putfield 214, 5, 11, 71) := rfl
theorem ix_120_5 : lkp 5 (mI mi_120) = some (false, .aload_n 0, 6, 0, 0) := rfl
theorem ix_120_6 : lkp 6 (mI mi_120) = some (false, .iload_n 1, 7, 1, 0) := rfl
theorem ix_120_7 : lkp 7 (mI mi_120) = some (false, .putfield 217, 10, 11, 72) := rfl
theorem ix_120_10 : lkp 10 (mI mi_120) = some (false, .aload_n 0, 11, 0, 0) := rfl
theorem ix_120_11 : lkp 11 (mI mi_120) = some (false, .iload_n 2, 12, 2, 0) := rfl
theorem ix_120_12 : lkp 12 (mI mi_120) = some (false, .putfield 220, 15, 11, 9) := rfl
theorem ix_120_15 : lkp 15 (mI mi_120) = some (false, .return_, 16, 0, 0) := rfl
theorem ix_121_0 : lkp 0 (mI mi_121) = some (false, .aload_n 0, 1, 0, 0) := rfl
theorem ix_121_1 : lkp 1 (mI mi_121) = some (false, .getfield 16, 4, 11, 1) := rfl
theorem ix_121_4 : lkp 4 (mI mi_121) = some (false, .aload_n 1, 5, 1, 0) := rfl
theorem ix_121_5 : lkp 5 (mI mi_121) = some (false, .invokevirtual 71, 8, 203, 1) := rfl
theorem ix_121_8 : lkp 8 (mI mi_121) = some (false, .pop, 9, 0, 0) := rfl
theorem ix_121_9 : lkp 9 (mI mi_121) = some (false, .aload_n 0, 10, 0, 0) := rfl
theorem ix_121_10 : lkp 10 (mI mi_121) = some (false, .getfield 36, 13, 11, 4) := rfl
theorem ix_121_13 : lkp 13 (mI mi_121) = some (false, .aload_n 1, 14, 1, 0) := rfl
theorem ix_121_14 : lkp 14 (mI mi_121) = some (false, .invokevirtual 351, 17, 60, 113) := rfl
theorem ix_121_17 : lkp 17 (mI mi_121) = some (false, .return_, 18, 0, 0) := rfl
theorem ix_122_0 : lkp 0 (mI mi_122) = some (false, .aload_n 0, 1, 0, 0) := rfl
theorem ix_122_1 : lkp 1 (mI mi_122) = some (false, .getfield 19, 4, 11, 3) := rfl
theorem ix_122_4 : lkp 4 (mI mi_122) = some (false, .invokevirtual 62, 7, 199, 0) := rfl
theorem ix_122_7 : lkp 7 (mI mi_122) = some (false, .iconst 1, 8, 1, 0) := rfl
theorem ix_122_8 : lkp 8 (mI mi_122) = some (false, .isub, 9, 0, 0) := rfl
theorem ix_122_9 : lkp 9 (mI mi_122) = some (false, .istore_n 2, 10, 2, 0) := rfl
theorem ix_122_10 : lkp 10 (mI mi_122) = some (false, .iload_n 2, 11, 2, 0) := rfl
theorem ix_122_11 : lkp 11 (mI mi_122) = some (false, .ifCond .lt 21, 14, 0, 32) := rfl
theorem ix_122_14 : lkp 14 (mI mi_122) = some (false, .aload_n 0, 15, 0, 0) := rfl
theorem ix_122_15 : lkp 15 (mI mi_122) = some (false, .getfield 19, 18, 11, 3) := rfl
theorem ix_122_18 : lkp 18 (mI mi_122) = some (false, .iload_n 2, 19, 2, 0) := rfl
theorem ix_122_19 : lkp 19 (mI mi_122) = some (false, .invokevirtual 95, 22, 201, 1) := rfl
theorem ix_122_22 : lkp 22 (mI mi_122) = some (false, .checkcast 31, 25, 7, 0) := rfl
theorem ix_122_25 : lkp 25 (mI mi_122) = some (false, .iload_n 1, 26, 1, 0) := rfl
theorem ix_122_26 : lkp 26 (mI mi_122) = some (false, .invokevirtual 342, 29, 57, 113) := rfl
theorem ix_122_29 : lkp 29 (mI mi_122) = some (false, .goto 4, 32, 0, 33) := rfl
theorem ix_122_32 : lkp 32 (mI mi_122) = some (false, .aconst_null, 33, 0, 0) := rfl
theorem ix_122_33 : lkp 33 (mI mi_122) = some (false, .astore_n 3, 34, 3, 0) := rfl
theorem ix_122_34 : lkp 34 (mI mi_122) = some (false, .aload_n 3, 35, 3, 0) := rfl
theorem ix_122_35 : lkp 35 (mI mi_122) = some (false, .ifnull 14, 38, 0, 49) := rfl
theorem ix_122_38 : lkp 38 (mI mi_122) = some (false, .aload_n 3, 39, 3, 0) := rfl
theorem ix_122_39 : lkp 39 (mI mi_122) = some (false, .invokevirtual 151, 42, 24, 64) := rfl
theorem ix_122_42 : lkp 42 (mI mi_122) = some (false, .ifCond .eq 7, 45, 0, 49) := rfl
theorem ix_122_45 : lkp 45 (mI mi_122) = some (false, .iconst 1, 46, 1, 0) := rfl
theorem ix_122_46 : lkp 46 (mI mi_122) = some (false, .goto 4, 49, 0, 50) := rfl
theorem ix_122_49 : lkp 49 (mI mi_122) = some (false, .iconst 0, 50, 0, 0) := rfl
theorem ix_122_50 : lkp 50 (mI mi_122) = some (false, .ireturn, 51, 0, 1) := rfl
theorem ix_123_0 : lkp 0 (mI mi_123) = some (false, .iload_n 1, 1, 1, 0) := rfl
theorem ix_123_1 : lkp 1 (mI mi_123) = some (false, .ifCond .lt 32, 4, 0, 33) := rfl
theorem ix_123_4 : lkp 4 (mI mi_123) = some (false, .iload_n 1, 5, 1, 0) := rfl
theorem ix_123_5 : lkp 5 (mI mi_123) = some (false, .aload_n 0, 6, 0, 0) := rfl
theorem ix_123_6 : lkp 6 (mI mi_123) = some (false, .getfield 19, 9, 11, 3) := rfl
theorem ix_123_9 : lkp 9 (mI mi_123) = some (false, .invokevirtual 62, 12, 199, 0) := rfl
theorem ix_123_12 : lkp 12 (mI mi_123) = some (false, .if_icmp .ge 21, 15, 0, 33) := rfl
theorem ix_123_15 : lkp 15 (mI mi_123) = some (false, .aload_n 2, 16, 2, 0) := rfl
theorem ix_123_16 : lkp 16 (mI mi_123) = some (false, .aload_n 0, 17, 0, 0) := rfl
theorem ix_123_17 : lkp 17 (mI mi_123) = some (false, .getfield 19, 20, 11, 3) := rfl
theorem ix_123_20 : lkp 20 (mI mi_123) = some (false, .iload_n 1, 21, 1, 0) := rfl
theorem ix_123_21 : lkp 21 (mI mi_123) = some (false, .invokevirtual 95, 24, 201, 1) := rfl
theorem ix_123_24 : lkp 24 (mI mi_123) = some (false, .checkcast 31, 27, 7, 0) := rfl
theorem ix_123_27 : lkp 27 (mI mi_123) = some (false, .invokevirtual 309, 30, 55, 113) := rfl
theorem ix_123_30 : lkp 30 (mI mi_123) = some (false, .goto 7, 33, 0, 37) := rfl
theorem ix_123_33 : lkp 33 (mI mi_123) = some (false, .aload_n 2, 34, 2, 0) := rfl
theorem ix_123_34 : lkp 34 (mI mi_123) = some (false, .invokevirtual 354, 37, 54, 112) := rfl
theorem ix_123_37 : lkp 37 (mI mi_123) = some (false, .aload_n 2, 38, 2, 0) := rfl
theorem ix_123_38 : lkp 38 (mI mi_123) = some (false, .getfield 315, 41, 7, 0) := rfl
theorem ix_123_41 : lkp 41 (mI mi_123) = some (false, .istore_n 3, 42, 3, 0) := rfl
theorem ix_123_42 : lkp 42 (mI mi_123) = some (true, .iload_n 3, 43, 3, 0) := rfl
theorem ix_123_43 : lkp 43 (mI mi_123) = some (false, .ifCond .lt 35, 46, 0, 78) := rfl
theorem ix_123_46 : lkp 46 (mI mi_123) = some (false, .iload_n 3, 47, 3, 0) := rfl
theorem ix_123_47 : lkp 47 (mI mi_123) = some (false, .aload_n 0, 48, 0, 0) := rfl
theorem ix_123_48 : lkp 48 (mI mi_123) = some (false, .getfield 16, 51, 11, 1) := rfl
theorem ix_123_51 : lkp 51 (mI mi_123) = some (false, .invokevirtual 62, 54, 199, 0) := rfl
theorem ix_123_54 : lkp 54 (mI mi_123) = some (false, .if_icmp .ge 24, 57, 0, 78) := rfl
theorem ix_123_57 : lkp 57 (mI mi_123) = some (false, .aload_n 2, 58, 2, 0) := rfl
theorem ix_123_58 : lkp 58 (mI mi_123) = some (false, .aload_n 0, 59, 0, 0) := rfl
theorem ix_123_59 : lkp 59 (mI mi_123) = some (false, .getfield 16, 62, 11, 1) := rfl
theorem ix_123_62 : lkp 62 (mI mi_123) = some (false, .iload_n 3, 63, 3, 0) := rfl
theorem ix_123_63 : lkp 63 (mI mi_123) = some (false, .invokevirtual 95, 66, 201, 1) := rfl
theorem ix_123_66 : lkp 66 (mI mi_123) = some (false, .checkcast 288, 69, 50, 0) := rfl
theorem ix_123_69 : lkp 69 (mI mi_123) = some (false, .invokevirtual 351, 72, 60, 113) := rfl
theorem ix_123_72 : lkp 72 (mI mi_123) = some (false, .iinc 3 1, 75, 3, 2) := rfl
theorem ix_123_75 : lkp 75 (mI mi_123) = some (false, .goto (-33), 78, 0, 42) := rfl
theorem ix_123_78 : lkp 78 (mI mi_123) = some (false, .return_, 79, 0, 0) := rfl
theorem ix_124_0 : lkp 0 (mI mi_124) = some (false, .aload_n 0, 1, 0, 0) := rfl
theorem ix_124_1 : lkp 1 (mI mi_124) = some (false, .invokespecial 1, 4, 0, 0) := rfl
theorem ix_124_4 : lkp 4 (mI mi_124) = some (false, .aload_n 0, 5, 0, 0) := rfl
theorem ix_124_5 : lkp 5 (mI mi_124) = some (false, .iconst 4, 6, 4, 0) := rfl
theorem ix_124_6 : lkp 6 (mI mi_124) = some (false, .newarray .int, 8, 0, 0) := rfl
theorem ix_124_8 : lkp 8 (mI mi_124) = some (false, .putfield 7, 11, 12, 194) := rfl
theorem ix_124_11 : lkp 11 (mI mi_124) = some (false, .aload_n 0, 12, 0, 0) := rfl
theorem ix_124_12 : lkp 12 (mI mi_124) = some (false, .iconst 4, 13, 4, 0) := rfl
theorem ix_124_13 : lkp 13 (mI mi_124) = some (false, .newarray .int, 15, 0, 0) := rfl
theorem ix_124_15 : lkp 15 (mI mi_124) = some (false, .putfield 13, 18, 12, 195) := rfl
theorem ix_124_18 : lkp 18 (mI mi_124) = some (false, .aload_n 0, 19, 0, 0) := rfl
theorem ix_124_19 : lkp 19 (mI mi_124) = some (false, .iconst 4, 20, 4, 0) := rfl
theorem ix_124_20 : lkp 20 (mI mi_124) = some (false, .newarray .int, 22, 0, 0) := rfl
theorem ix_124_22 : lkp 22 (mI mi_124) = some (false, .putfield 16, 25, 12, 196) := rfl
theorem ix_124_25 : lkp 25 (mI mi_124) = some (false, .aload_n 0, 26, 0, 0) := rfl
theorem ix_124_26 : lkp 26 (mI mi_124) = some (false, .iconst 4, 27, 4, 0) := rfl
theorem ix_124_27 : lkp 27 (mI mi_124) = some (false, .newarray .boolean, 29, 1, 0) := rfl
theorem ix_124_29 : lkp 29 (mI mi_124) = some (false, .putfield 19, 32, 12, 197) := rfl
theorem ix_124_32 : lkp 32 (mI mi_124) = some (false, .aload_n 0, 33, 0, 0) := rfl
theorem ix_124_33 : lkp 33 (mI mi_124) = some (false, .iconst 4, 34, 4, 0) := rfl
theorem ix_124_34 : lkp 34 (mI mi_124) = some (false, .newarray .int, 36, 0, 0) := rfl
theorem ix_124_36 : lkp 36 (mI mi_124) = some (false, .putfield 23, 39, 12, 198) := rfl
theorem ix_124_39 : lkp 39 (mI mi_124) = some (false, .aload_n 0, 40, 0, 0) := rfl
theorem ix_124_40 : lkp 40 (mI mi_124) = some (false, .sipush 400, 43, 400, 0) := rfl
theorem ix_124_43 : lkp 43 (mI mi_124) = some (false, .newarray .int, 45, 0, 0) := rfl
theorem ix_124_45 : lkp 45 (mI mi_124) = some (false, .putfield 26, 48, 12, 201) := rfl
theorem ix_124_48 : lkp 48 (mI mi_124) = some (false, .aload_n 0, 49, 0, 0) := rfl
theorem ix_124_49 : lkp 49 (mI mi_124) = some (false, .sipush 400, 52, 400, 0) := rfl
theorem ix_124_52 : lkp 52 (mI mi_124) = some (false, .newarray .int, 54, 0, 0) := rfl
theorem ix_124_54 : lkp 54 (mI mi_124) = some (false, .putfield 29, 57, 12, 202) := rfl
theorem ix_124_57 : lkp 57 (mI mi_124) = some (false, .aload_n 0, 58, 0, 0) := rfl
theorem ix_124_58 : lkp 58 (mI mi_124) = some (false, .sipush 400, 61, 400, 0) := rfl
theorem ix_124_61 : lkp 61 (mI mi_124) = some (false, .newarray .int, 63, 0, 0) := rfl
theorem ix_124_63 : lkp 63 (mI mi_124) = some (false, .putfield 32, 66, 12, 203) := rfl
theorem ix_124_66 : lkp 66 (mI mi_124) = some (false, .aload_n 0, 67, 0, 0) := rfl
theorem ix_124_67 : lkp 67 (mI mi_124) = some (false, .sipush 400, 70, 400, 0) := rfl
theorem ix_124_70 : lkp 70 (mI mi_124) = some (false, .newarray .int, 72, 0, 0) := rfl
theorem ix_124_72 : lkp 72 (mI mi_124) = some (false, .putfield 35, 75, 12, 204) := rfl
theorem ix_124_75 : lkp 75 (mI mi_124) = some (false, .aload_n 0, 76, 0, 0) := rfl
theorem ix_124_76 : lkp 76 (mI mi_124) = some (false, .sipush 400, 79, 400, 0) := rfl
theorem ix_124_79 : lkp 79 (mI mi_124) = some (false, .newarray .int, 81, 0, 0) := rfl
theorem ix_124_81 : lkp 81 (mI mi_124) = some (false, .putfield 38, 84, 12, 205) := rfl
theorem ix_124_84 : lkp 84 (mI mi_124) = some (false, .aload_n 0, 85, 0, 0) := rfl
theorem ix_124_85 : lkp 85 (mI mi_124) = some (false, .iconst 5, 86, 5, 0) := rfl
theorem ix_124_86 : lkp 86 (mI mi_124) = some (false, .newarray .int, 88, 0, 0) := rfl
theorem ix_124_88 : lkp 88 (mI mi_124) = some (false, .putfield 41, 91, 12, 207) := rfl
theorem ix_124_91 : lkp 91 (mI mi_124) = some (false, .aload_n 0, 92, 0, 0) := rfl
theorem ix_124_92 : lkp 92 (mI mi_124) = some (false, .bipush 6, 94, 6, 0) := rfl
theorem ix_124_94 : lkp 94 (mI mi_124) = some (false, .newarray .int, 96, 0, 0) := rfl
theorem ix_124_96 : lkp 96 (mI mi_124) = some (false, .putfield 44, 99, 12, 209) := rfl
theorem ix_124_99 : lkp 99 (mI mi_124) = some (false, .aload_n 0, 100, 0, 0) := rfl
theorem ix_124_100 : lkp 100 (mI mi_124) = some (false, .sipush 168, 103, 168, 0) := rfl
theorem ix_124_103 : lkp 103 (mI mi_124) = some (false, .newarray .int, 105, 0, 0) := rfl
theorem ix_124_105 : lkp 105 (mI mi_124) = some (false, .putfield 47, 108, 12, 210) := rfl
theorem ix_124_108 : lkp 108 (mI mi_124) = some (false, .aload_n 0, 109, 0, 0) := rfl
theorem ix_124_109 : lkp 109 (mI mi_124) = some (false, .bipush 24, 111, 24, 0) := rfl
theorem ix_124_111 : lkp 111 (mI mi_124) = some (false, .newarray .int, 113, 0, 0) := rfl
theorem ix_124_113 : lkp 113 (mI mi_124) = some (false, .putfield 50, 116, 12, 211) := rfl
theorem ix_124_116 : lkp 116 (mI mi_124) = some (false, .aload_n 0, 117, 0, 0) := rfl
theorem ix_124_117 : lkp 117 (mI mi_124) = some (false, .bipush 6, 119, 6, 0) := rfl
theorem ix_124_119 : lkp 119 (mI mi_124) = some (false, .newarray .int, 121, 0, 0) := rfl
theorem ix_124_121 : lkp 121 (mI mi_124) = some (false, .putfield 53, 124, 12, 212) := rfl
theorem ix_124_124 : lkp 124 (mI mi_124) = some (false, .aload_n 0, 125, 0, 0) := rfl
theorem ix_124_125 : lkp 125 (mI mi_124) = some (false, .bipush 6, 127, 6, 0) := rfl
theorem ix_124_127 : lkp 127 (mI mi_124) = some (false, .newarray .int, 129, 0, 0) := rfl
theorem ix_124_129 : lkp 129 (mI mi_124) = some (false, .putfield 56, 132, 12, 213) := rfl
theorem ix_124_132 : lkp 132 (mI mi_124) = some (false, .aload_n 0, 133, 0, 0) := rfl
theorem ix_124_133 : lkp 133 (mI mi_124) = some (false, .bipush 6, 135, 6, 0) := rfl
theorem ix_124_135 : lkp 135 (mI mi_124) = some (false, .newarray .int, 137, 0, 0) := rfl
theorem ix_124_137 : lkp 137 (mI mi_124) = some (false, .putfield 59, 140, 12, 214) := rfl
theorem ix_124_140 : lkp 140 (mI mi_124) = some (false, .aload_n 0, 141, 0, 0) := rfl
theorem ix_124_141 : lkp 141 (mI mi_124) = some (false, .bipush 6, 143, 6, 0) := rfl
theorem ix_124_143 : lkp 143 (mI mi_124) = some (false, .newarray .int, 145, 0, 0) := rfl
theorem ix_124_145 : lkp 145 (mI mi_124) = some (false, .putfield 62, 148, 12, 215) := rfl
theorem ix_124_148 : lkp 148 (mI mi_124) = some (false, .aload_n 0, 149, 0, 0) := rfl
theorem ix_124_149 : lkp 149 (mI mi_124) = some (false, .sipush 360, 152, 360, 0) := rfl
theorem ix_124_152 : lkp 152 (mI mi_124) = some (false, .newarray .int, 154, 0, 0) := rfl
theorem ix_124_154 : lkp 154 (mI mi_124) = some (false, .putfield 65, 157, 12, 216) := rfl
theorem ix_124_157 : lkp 157 (mI mi_124) = some (false, .aload_n 0, 158, 0, 0) := rfl
theorem ix_124_158 : lkp 158 (mI mi_124) = some (false, .bipush 6, 160, 6, 0) := rfl
theorem ix_124_160 : lkp 160 (mI mi_124) = some (false, .newarray .int, 162, 0, 0) := rfl
theorem ix_124_162 : lkp 162 (mI mi_124) = some (false, .putfield 68, 165, 12, 217) := rfl
theorem ix_124_165 : lkp 165 (mI mi_124) = some (false, .aload_n 0, 166, 0, 0) := rfl
theorem ix_124_166 : lkp 166 (mI mi_124) = some (false, .bipush 6, 168, 6, 0) := rfl
theorem ix_124_168 : lkp 168 (mI mi_124) = some (false, .newarray .int, 170, 0, 0) := rfl
theorem ix_124_170 : lkp 170 (mI mi_124) = some (false, .putfield 71, 173, 12, 218) := rfl
theorem ix_124_173 : lkp 173 (mI mi_124) = some (false, .aload_n 0, 174, 0, 0) := rfl
theorem ix_124_174 : lkp 174 (mI mi_124) = some (false, .bipush 6, 176, 6, 0) := rfl
theorem ix_124_176 : lkp 176 (mI mi_124) = some (false, .newarray .boolean, 178, 1, 0) := rfl
theorem ix_124_178 : lkp 178 (mI mi_124) = some (false, .putfield 74, 181, 12, 219) := rfl
theorem ix_124_181 : lkp 181 (mI mi_124) = some (false, .aload_n 0, 182, 0, 0) := rfl
theorem ix_124_182 : lkp 182 (mI mi_124) = some (false, .bipush 6, 184, 6, 0) := rfl
theorem ix_124_184 : lkp 184 (mI mi_124) = some (false, .newarray .int, 186, 0, 0) := rfl
theorem ix_124_186 : lkp 186 (mI mi_124) = some (false, .putfield 77, 189, 12, 220) := rfl
theorem ix_124_189 : lkp 189 (mI mi_124) = some (false, .aload_n 0, 190, 0, 0) := rfl
theorem ix_124_190 : lkp 190 (mI mi_124) = some (false, .bipush 6, 192, 6, 0) := rfl
theorem ix_124_192 : lkp 192 (mI mi_124) = some (false, .newarray .int, 194, 0, 0) := rfl
theorem ix_124_194 : lkp 194 (mI mi_124) = some (false, .putfield 80, 197, 12, 221) := rfl
theorem ix_124_197 : lkp 197 (mI mi_124) = some (false, .aload_n 0, 198, 0, 0) := rfl
theorem ix_124_198 : lkp 198 (mI mi_124) = some (false, .bipush 6, 200, 6, 0) := rfl
theorem ix_124_200 : lkp 200 (mI mi_124) = some (false, .newarray .int, 202, 0, 0) := by decide +kernel
theorem ix_124_202 : lkp 202 (mI mi_124) = some (false, .putfield 83, 205, 12, 222) := by decide +kernel
theorem ix_124_205 : lkp 205 (mI mi_124) = some (false, .aload_n 0, 206, 0, 0) := by decide +kernel
theorem ix_124_206 : lkp 206 (mI mi_124) = some (false, .bipush 6, 208, 6, 0) := by decide +kernel
theorem ix_124_208 : lkp 208 (mI mi_124) = some (false, .newarray .int, 210, 0, 0) := by decide +kernel
theorem ix_124_210 : lkp 210 (mI mi_124) = some (false, .putfield 86, 213, 12, 223) := by decide +kernel
theorem ix_124_213 : lkp 213 (mI mi_124) = some (false, .aload_n 0, 214, 0, 0) := by decide +kernel
theorem ix_124_214 : lkp 214 (mI mi_124) = some (false, .bipush 6, 216, 6, 0) := by decide +kernel
theorem ix_124_216 : lkp 216 (mI mi_124) = some (false, .newarray .int, 218, 0, 0) := by decide +kernel
theorem ix_124_218 : lkp 218 (mI mi_124) = some (false, .putfield 89, 221, 12, 224) := by decide +kernel
theorem ix_124_221 : lkp 221 (mI mi_124) = some (false, .aload_n 0, 222, 0, 0) := by decide +kernel
theorem ix_124_222 : lkp 222 (mI mi_124) = some (false, .bipush 60, 224, 60, 0) := by decide +kernel
theorem ix_124_224 : lkp 224 (mI mi_124) = some (false, .newarray .int, 226, 0, 0) := by decide +kernel
theorem ix_124_226 : lkp 226 (mI mi_124) = some (false, .putfield 92, 229, 12, 225) := by decide +kernel
theorem ix_124_229 : lkp 229 (mI mi_124) = some (false, .aload_n 0, 230, 0, 0) := by decide +kernel
theorem ix_124_230 : lkp 230 (mI mi_124) = some (false, .bipush 60, 232, 60, 0) := by decide +kernel
theorem ix_124_232 : lkp 232 (mI mi_124) = some (false, .newarray .int, 234, 0, 0) := by decide +kernel
theorem ix_124_234 : lkp 234 (mI mi_124) = some (false, .putfield 95, 237, 12, 226) := by decide +kernel
theorem ix_124_237 : lkp 237 (mI mi_124) = some (false, .aload_n 0, 238, 0, 0) := by decide +kernel
theorem ix_124_238 : lkp 238 (mI mi_124) = some (false, .bipush 60, 240, 60, 0) := by decide +kernel
theorem ix_124_240 : lkp 240 (mI mi_124) = some (false, .newarray .int, 242, 0, 0) := by decide +kernel
theorem ix_124_242 : lkp 242 (mI mi_124) = some (false, .putfield 98, 245, 12, 227) := by decide +kernel
theorem ix_124_245 : lkp 245 (mI mi_124) = some (false, .aload_n 0, 246, 0, 0) := by decide +kernel
theorem ix_124_246 : lkp 246 (mI mi_124) = some (false, .bipush 60, 248, 60, 0) := by decide +kernel
theorem ix_124_248 : lkp 248 (mI mi_124) = some (false, .newarray .int, 250, 0, 0) := by decide +kernel
theorem ix_124_250 : lkp 250 (mI mi_124) = some (false, .putfield 101, 253, 12, 228) := by decide +kernel
theorem ix_124_253 : lkp 253 (mI mi_124) = some (false, .aload_n 0, 254, 0, 0) := by decide +kernel
theorem ix_124_254 : lkp 254 (mI mi_124) = some (false, .iconst 4, 255, 4, 0) := by decide +kernel
theorem ix_124_255 : lkp 255 (mI mi_124) = some (false, .newarray .int, 257, 0, 0) := by decide +kernel
theorem ix_124_257 : lkp 257 (mI mi_124) = some (false, .dup, 258, 0, 0) := by decide +kernel
theorem ix_124_258 : lkp 258 (mI mi_124) = some (false, .iconst 0, 259, 0, 0) := by decide +kernel
theorem ix_124_259 : lkp 259 (mI mi_124) = some (false, .bipush 100, 261, 100, 0) := by decide +kernel
theorem ix_124_261 : lkp 261 (mI mi_124) = some (false, .iastore, 262, 0, 0) := by decide +kernel
theorem ix_124_262 : lkp 262 (mI mi_124) = some (false, .dup, 263, 0, 0) := by decide +kernel
theorem ix_124_263 : lkp 263 (mI mi_124) = some (false, .iconst 1, 264, 1, 0) := by decide +kernel
theorem ix_124_264 : lkp 264 (mI mi_124) = some (false, .bipush 100, 266, 100, 0) := by decide +kernel
theorem ix_124_266 : lkp 266 (mI mi_124) = some (false, .iastore, 267, 0, 0) := by decide +kernel
theorem ix_124_267 : lkp 267 (mI mi_124) = some (false, .dup, 268, 0, 0) := by decide +kernel
theorem ix_124_268 : lkp 268 (mI mi_124) = some (false, .iconst 2, 269, 2, 0) := by decide +kernel
theorem ix_124_269 : lkp 269 (mI mi_124) = some (false, .bipush 100, 271, 100, 0) := by decide +kernel
theorem ix_124_271 : lkp 271 (mI mi_124) = some (false, .iastore, 272, 0, 0) := by decide +kernel
theorem ix_124_272 : lkp 272 (mI mi_124) = some (false, .dup, 273, 0, 0) := by decide +kernel
theorem ix_124_273 : lkp 273 (mI mi_124) = some (false, .iconst 3, 274, 3, 0) := by decide +kernel
theorem ix_124_274 : lkp 274 (mI mi_124) = some (false, .bipush 100, 276, 100, 0) := by decide +kernel
theorem ix_124_276 : lkp 276 (mI mi_124) = some (false, .iastore, 277, 0, 0) := by decide +kernel
theorem ix_124_277 : lkp 277 (mI mi_124) = some (false, .putfield 104, 280, 12, 229) := by decide +kernel
theorem ix_124_280 : lkp 280 (mI mi_124) = some (false, .aload_n 0, 281, 0, 0) := by decide +kernel
theorem ix_124_281 : lkp 281 (mI mi_124) = some (false, .iconst (-1), 282, 1, 1) := by decide +kernel
theorem ix_124_282 : lkp 282 (mI mi_124) = some (false, .putfield 107, 285, 12, 39) := by decide +kernel
theorem ix_124_285 : lkp 285 (mI mi_124) = some (false, .aload_n 0, 286, 0, 0) := by decide +kernel
theorem ix_124_286 : lkp 286 (mI mi_124) = some (false, .iconst (-1), 287, 1, 1) := by decide +kernel
theorem ix_124_287 : lkp 287 (mI mi_124) = some (false, .putfield 111, 290, 12, 40) := by decide +kernel
theorem ix_124_290 : lkp 290 (mI mi_124) = some (false, .aload_n 0, 291, 0, 0) := by decide +kernel
theorem ix_124_291 : lkp 291 (mI mi_124) = some (false, .iconst 0, 292, 0, 0) := by decide +kernel
theorem ix_124_292 : lkp 292 (mI mi_124) = some (false, .putfield 114, 295, 12, 0) := by decide +kernel
theorem ix_124_295 : lkp 295 (mI mi_124) = some (false, .return_, 296, 0, 0) := by decide +kernel
theorem ix_125_0 : lkp 0 (mI mi_125) = some (false, .aload_n 0, 1, 0, 0) := rfl
theorem ix_125_1 : lkp 1 (mI mi_125) = some (false, .getfield 114, 4, 12, 0) := rfl
theorem ix_125_4 : lkp 4 (mI mi_125) = some (false, .ireturn, 5, 0, 0) := rfl
theorem ix_126_0 : lkp 0 (mI mi_126) = some (false, .iload_n 0, 1, 0, 0) := rfl
theorem ix_126_1 : lkp 1 (mI mi_126) = some (false, .iload_n 1, 2, 1, 0) := rfl
theorem ix_126_2 : lkp 2 (mI mi_126) = some (false, .if_icmp .lt 12, 5, 0, 14) := rfl
theorem ix_126_5 : lkp 5 (mI mi_126) = some (false, .iload_n 0, 6, 0, 0) := rfl
theorem ix_126_6 : lkp 6 (mI mi_126) = some (false, .iload_n 2, 7, 2, 0) := rfl
theorem ix_126_7 : lkp 7 (mI mi_126) = some (false, .if_icmp .gt 7, 10, 0, 14) := rfl
theorem ix_126_10 : lkp 10 (mI mi_126) = some (false, .iconst 1, 11, 1, 0) := rfl
theorem ix_126_11 : lkp 11 (mI mi_126) = some (false, .goto 4, 14, 0, 15) := rfl
theorem ix_126_14 : lkp 14 (mI mi_126) = some (false, .iconst 0, 15, 0, 0) := rfl
theorem ix_126_15 : lkp 15 (mI mi_126) = some (false, .ireturn, 16, 0, 1) := rfl
theorem ix_127_0 : lkp 0 (mI mi_127) = some (false, .iload_n 0, 1, 0, 0) := rfl
theorem ix_127_1 : lkp 1 (mI mi_127) = some (false, .iconst 1, 2, 1, 0) := rfl
theorem ix_127_2 : lkp 2 (mI mi_127) = some (false, .iadd, 3, 0, 0) := rfl
theorem ix_127_3 : lkp 3 (mI mi_127) = some (false, .iload_n 0, 4, 0, 0) := rfl
theorem ix_127_4 : lkp 4 (mI mi_127) = some (false, .iconst 2, 5, 2, 0) := rfl
theorem ix_127_5 : lkp 5 (mI mi_127) = some (false, .iadd, 6, 0, 0) := rfl
theorem ix_127_6 : lkp 6 (mI mi_127) = some (false, .imul, 7, 0, 0) := rfl
theorem ix_127_7 : lkp 7 (mI mi_127) = some (false, .iconst 2, 8, 2, 0) := rfl
theorem ix_127_8 : lkp 8 (mI mi_127) = some (false, .idiv, 9, 0, 0) := rfl
theorem ix_127_9 : lkp 9 (mI mi_127) = some (false, .ireturn, 10, 0, 0) := rfl
theorem ix_128_0 : lkp 0 (mI mi_128) = some (false, .iload_n 0, 1, 0, 0) := rfl
theorem ix_128_1 : lkp 1 (mI mi_128) = some (false, .bipush 108, 3, 108, 0) := rfl
theorem ix_128_3 : lkp 3 (mI mi_128) = some (false, .if_icmp .eq 15, 6, 0, 18) := rfl
theorem ix_128_6 : lkp 6 (mI mi_128) = some (false, .iload_n 0, 7, 0, 0) := rfl
theorem ix_128_7 : lkp 7 (mI mi_128) = some (false, .bipush 115, 9, 115, 0) := rfl
theorem ix_128_9 : lkp 9 (mI mi_128) = some (false, .if_icmp .eq 9, 12, 0, 18) := rfl
theorem ix_128_12 : lkp 12 (mI mi_128) = some (false, .iload_n 0, 13, 0, 0) := rfl
theorem ix_128_13 : lkp 13 (mI mi_128) = some (false, .bipush 110, 15, 110, 0) := rfl
theorem ix_128_15 : lkp 15 (mI mi_128) = some (false, .if_icmp .ne 7, 18, 0, 22) := rfl
theorem ix_128_18 : lkp 18 (mI mi_128) = some (false, .iconst 1, 19, 1, 0) := rfl
theorem ix_128_19 : lkp 19 (mI mi_128) = some (false, .goto 4, 22, 0, 23) := rfl
theorem ix_128_22 : lkp 22 (mI mi_128) = some (false, .iconst 0, 23, 0, 0) := rfl
theorem ix_128_23 : lkp 23 (mI mi_128) = some (false, .ireturn, 24, 0, 1) := rfl
theorem ix_129_0 : lkp 0 (mI mi_129) = some (false, .iload_n 1, 1, 1, 0) := rfl
theorem ix_129_1 : lkp 1 (mI mi_129) = some (false, .iconst 0, 2, 0, 0) := rfl
theorem ix_129_2 : lkp 2 (mI mi_129) = some (false, .aload_n 0, 3, 0, 0) := rfl
theorem ix_129_3 : lkp 3 (mI mi_129) = some (false, .getfield 117, 6, 12, 16) := rfl
theorem ix_129_6 : lkp 6 (mI mi_129) = some (false, .iconst 1, 7, 1, 0) := rfl
theorem ix_129_7 : lkp 7 (mI mi_129) = some (false, .isub, 8, 0, 0) := rfl
theorem ix_129_8 : lkp 8 (mI mi_129) = some (false, .invokestatic 120, 11, 126, 3) := rfl
theorem ix_129_11 : lkp 11 (mI mi_129) = some (false, .ireturn, 12, 0, 1) := rfl
theorem ix_130_0 : lkp 0 (mI mi_130) = some (false, .aload_n 0, 1, 0, 0) := rfl
theorem ix_130_1 : lkp 1 (mI mi_130) = some (false, .getfield 7, 4, 12, 2) := rfl
theorem ix_130_4 : lkp 4 (mI mi_130) = some (false, .aload_n 0, 5, 0, 0) := rfl
theorem ix_130_5 : lkp 5 (mI mi_130) = some (false, .getfield 44, 8, 12, 17) := rfl
theorem ix_130_8 : lkp 8 (mI mi_130) = some (false, .iload_n 1, 9, 1, 0) := rfl
theorem ix_130_9 : lkp 9 (mI mi_130) = some (false, .iaload, 10, 0, 0) := rfl
theorem ix_130_10 : lkp 10 (mI mi_130) = some (false, .iaload, 11, 0, 0) := rfl
theorem ix_130_11 : lkp 11 (mI mi_130) = some (false, .invokestatic 124, 14, 127, 1) := rfl
theorem ix_130_14 : lkp 14 (mI mi_130) = some (false, .ireturn, 15, 0, 0) := rfl
theorem ix_131_0 : lkp 0 (mI mi_131) = some (false, .aload_n 0, 1, 0, 0) := rfl
theorem ix_131_1 : lkp 1 (mI mi_131) = some (false, .getfield 13, 4, 12, 3) := rfl
theorem ix_131_4 : lkp 4 (mI mi_131) = some (false, .aload_n 0, 5, 0, 0) := rfl
theorem ix_131_5 : lkp 5 (mI mi_131) = some (false, .getfield 44, 8, 12, 17) := rfl
theorem ix_131_8 : lkp 8 (mI mi_131) = some (false, .iload_n 1, 9, 1, 0) := rfl
theorem ix_131_9 : lkp 9 (mI mi_131) = some (false, .iaload, 10, 0, 0) := rfl
theorem ix_131_10 : lkp 10 (mI mi_131) = some (false, .iaload, 11, 0, 0) := rfl
theorem ix_131_11 : lkp 11 (mI mi_131) = some (false, .ireturn, 12, 0, 0) := rfl
theorem ix_132_0 : lkp 0 (mI mi_132) = some (false, .iload_n 0, 1, 0, 0) := rfl
theorem ix_132_1 : lkp 1 (mI mi_132) = some (false, .istore_n 2, 2, 2, 0) := rfl
theorem ix_132_2 : lkp 2 (mI mi_132) = some (false, .iconst 0, 3, 0, 0) := rfl
theorem ix_132_3 : lkp 3 (mI mi_132) = some (false, .istore_n 3, 4, 3, 0) := rfl
theorem ix_132_4 : lkp 4 (mI mi_132) = some (true, .iload_n 2, 5, 2, 0) := rfl
theorem ix_132_5 : lkp 5 (mI mi_132) = some (false, .iload_n 1, 6, 1, 0) := rfl
theorem ix_132_6 : lkp 6 (mI mi_132) = some (false, .iload_n 3, 7, 3, 0) := rfl
theorem ix_132_7 : lkp 7 (mI mi_132) = some (false, .isub, 8, 0, 0) := rfl
theorem ix_132_8 : lkp 8 (mI mi_132) = some (false, .if_icmp .le 17, 11, 0, 25) := rfl
theorem ix_132_11 : lkp 11 (mI mi_132) = some (false, .iload_n 2, 12, 2, 0) := rfl
theorem ix_132_12 : lkp 12 (mI mi_132) = some (false, .iload_n 1, 13, 1, 0) := rfl
theorem ix_132_13 : lkp 13 (mI mi_132) = some (false, .iload_n 3, 14, 3, 0) := rfl
theorem ix_132_14 : lkp 14 (mI mi_132) = some (false, .isub, 15, 0, 0) := rfl
theorem ix_132_15 : lkp 15 (mI mi_132) = some (false, .iconst 1, 16, 1, 0) := rfl
theorem ix_132_16 : lkp 16 (mI mi_132) = some (false, .iadd, 17, 0, 0) := rfl
theorem ix_132_17 : lkp 17 (mI mi_132) = some (false, .isub, 18, 0, 0) := rfl
theorem ix_132_18 : lkp 18 (mI mi_132) = some (false, .istore_n 2, 19, 2, 0) := rfl
theorem ix_132_19 : lkp 19 (mI mi_132) = some (false, .iinc 3 1, 22, 3, 2) := rfl
theorem ix_132_22 : lkp 22 (mI mi_132) = some (false, .goto (-18), 25, 0, 4) := rfl
theorem ix_132_25 : lkp 25 (mI mi_132) = some (false, .iload_n 3, 26, 3, 0) := rfl
theorem ix_132_26 : lkp 26 (mI mi_132) = some (false, .ireturn, 27, 0, 0) := rfl
theorem ix_133_0 : lkp 0 (mI mi_133) = some (false, .iload_n 0, 1, 0, 0) := rfl
theorem ix_133_1 : lkp 1 (mI mi_133) = some (false, .istore_n 2, 2, 2, 0) := rfl
theorem ix_133_2 : lkp 2 (mI mi_133) = some (false, .iconst 0, 3, 0, 0) := rfl
theorem ix_133_3 : lkp 3 (mI mi_133) = some (false, .istore_n 3, 4, 3, 0) := rfl
theorem ix_133_4 : lkp 4 (mI mi_133) = some (true, .iload_n 2, 5, 2, 0) := rfl
theorem ix_133_5 : lkp 5 (mI mi_133) = some (false, .iload_n 1, 6, 1, 0) := rfl
theorem ix_133_6 : lkp 6 (mI mi_133) = some (false, .iload_n 3, 7, 3, 0) := rfl
theorem ix_133_7 : lkp 7 (mI mi_133) = some (false, .isub, 8, 0, 0) := rfl
theorem ix_133_8 : lkp 8 (mI mi_133) = some (false, .if_icmp .le 17, 11, 0, 25) := rfl
theorem ix_133_11 : lkp 11 (mI mi_133) = some (false, .iload_n 2, 12, 2, 0) := rfl
theorem ix_133_12 : lkp 12 (mI mi_133) = some (false, .iload_n 1, 13, 1, 0) := rfl
theorem ix_133_13 : lkp 13 (mI mi_133) = some (false, .iload_n 3, 14, 3, 0) := rfl
theorem ix_133_14 : lkp 14 (mI mi_133) = some (false, .isub, 15, 0, 0) := rfl
theorem ix_133_15 : lkp 15 (mI mi_133) = some (false, .iconst 1, 16, 1, 0) := rfl
theorem ix_133_16 : lkp 16 (mI mi_133) = some (false, .iadd, 17, 0, 0) := rfl
theorem ix_133_17 : lkp 17 (mI mi_133) = some (false, .isub, 18, 0, 0) := rfl
theorem ix_133_18 : lkp 18 (mI mi_133) = some (false, .istore_n 2, 19, 2, 0) := rfl
theorem ix_133_19 : lkp 19 (mI mi_133) = some (false, .iinc 3 1, 22, 3, 2) := rfl
theorem ix_133_22 : lkp 22 (mI mi_133) = some (false, .goto (-18), 25, 0, 4) := rfl
theorem ix_133_25 : lkp 25 (mI mi_133) = some (false, .iload_n 3, 26, 3, 0) := rfl
theorem ix_133_26 : lkp 26 (mI mi_133) = some (false, .iload_n 2, 27, 2, 0) := rfl
theorem ix_133_27 : lkp 27 (mI mi_133) = some (false, .iadd, 28, 0, 0) := rfl
theorem ix_133_28 : lkp 28 (mI mi_133) = some (false, .ireturn, 29, 0, 0) := rfl
theorem ix_134_0 : lkp 0 (mI mi_134) = some (false, .iload_n 1, 1, 1, 0) := rfl
theorem ix_134_1 : lkp 1 (mI mi_134) = some (false, .iconst 2, 2, 2, 0) := rfl
theorem ix_134_2 : lkp 2 (mI mi_134) = some (false, .bipush 6, 4, 6, 0) := rfl
theorem ix_134_4 : lkp 4 (mI mi_134) = some (false, .invokestatic 120, 7, 126, 3) := rfl
theorem ix_134_7 : lkp 7 (mI mi_134) = some (false, .ifCond .eq 34, 10, 0, 41) := rfl
theorem ix_134_10 : lkp 10 (mI mi_134) = some (false, .iload_n 2, 11, 2, 0) := rfl
theorem ix_134_11 : lkp 11 (mI mi_134) = some (false, .iconst 2, 12, 2, 0) := rfl
theorem ix_134_12 : lkp 12 (mI mi_134) = some (false, .iconst 4, 13, 4, 0) := rfl
theorem ix_134_13 : lkp 13 (mI mi_134) = some (false, .invokestatic 120, 16, 126, 3) := rfl
theorem ix_134_16 : lkp 16 (mI mi_134) = some (false, .ifCond .eq 25, 19, 0, 41) := rfl
theorem ix_134_19 : lkp 19 (mI mi_134) = some (false, .iload_n 3, 20, 3, 0) := rfl
theorem ix_134_20 : lkp 20 (mI mi_134) = some (false, .iconst 1, 21, 1, 0) := rfl
theorem ix_134_21 : lkp 21 (mI mi_134) = some (false, .bipush 7, 23, 7, 0) := rfl
theorem ix_134_23 : lkp 23 (mI mi_134) = some (false, .invokestatic 120, 26, 126, 3) := rfl
theorem ix_134_26 : lkp 26 (mI mi_134) = some (false, .ifCond .eq 15, 29, 0, 41) := rfl
theorem ix_134_29 : lkp 29 (mI mi_134) = some (false, .iload 5, 31, 5, 0) := rfl
theorem ix_134_31 : lkp 31 (mI mi_134) = some (false, .invokestatic 128, 34, 128, 1) := rfl
theorem ix_134_34 : lkp 34 (mI mi_134) = some (false, .ifCond .eq 7, 37, 0, 41) := rfl
theorem ix_134_37 : lkp 37 (mI mi_134) = some (false, .iconst 1, 38, 1, 0) := rfl
theorem ix_134_38 : lkp 38 (mI mi_134) = some (false, .goto 4, 41, 0, 42) := rfl
theorem ix_134_41 : lkp 41 (mI mi_134) = some (false, .iconst 0, 42, 0, 0) := rfl
theorem ix_134_42 : lkp 42 (mI mi_134) = some (false, .istore 6, 44, 6, 0) := rfl
theorem ix_134_44 : lkp 44 (mI mi_134) = some (false, .aload_n 0, 45, 0, 0) := rfl
theorem ix_134_45 : lkp 45 (mI mi_134) = some (false, .iload 6, 47, 6, 0) := rfl
theorem ix_134_47 : lkp 47 (mI mi_134) = some (false, .ifCond .eq 13, 50, 0, 60) := rfl
theorem ix_134_50 : lkp 50 (mI mi_134) = some (false, .iload_n 2, 51, 2, 0) := rfl
theorem ix_134_51 : lkp 51 (mI mi_134) = some (false, .iload_n 3, 52, 3, 0) := rfl
theorem ix_134_52 : lkp 52 (mI mi_134) = some (false, .imul, 53, 0, 0) := rfl
theorem ix_134_53 : lkp 53 (mI mi_134) = some (false, .iload_n 1, 54, 1, 0) := rfl
theorem ix_134_54 : lkp 54 (mI mi_134) = some (false, .invokestatic 124, 57, 127, 1) := rfl
theorem ix_134_57 : lkp 57 (mI mi_134) = some (false, .if_icmp .le 7, 60, 0, 64) := rfl
theorem ix_134_60 : lkp 60 (mI mi_134) = some (false, .iconst 1, 61, 1, 0) := rfl
theorem ix_134_61 : lkp 61 (mI mi_134) = some (false, .goto 16, 64, 0, 77) := rfl
theorem ix_134_64 : lkp 64 (mI mi_134) = some (false, .aload_n 0, 65, 0, 0) := rfl
theorem ix_134_65 : lkp 65 (mI mi_134) = some (false, .getfield 132, 68, 12, 1) := rfl
theorem ix_134_68 : lkp 68 (mI mi_134) = some (false, .iconst 4, 69, 4, 0) := rfl
theorem ix_134_69 : lkp 69 (mI mi_134) = some (false, .if_icmp .ne 7, 72, 0, 76) := rfl
theorem ix_134_72 : lkp 72 (mI mi_134) = some (false, .iconst 2, 73, 2, 0) := rfl
theorem ix_134_73 : lkp 73 (mI mi_134) = some (false, .goto 4, 76, 0, 77) := rfl
theorem ix_134_76 : lkp 76 (mI mi_134) = some (false, .iconst 0, 77, 0, 0) := rfl
theorem ix_134_77 : lkp 77 (mI mi_134) = some (false, .putfield 114, 80, 12, 0) := rfl
theorem ix_134_80 : lkp 80 (mI mi_134) = some (false, .aload_n 0, 81, 0, 0) := rfl
theorem ix_134_81 : lkp 81 (mI mi_134) = some (false, .getfield 114, 84, 12, 0) := rfl
theorem ix_134_84 : lkp 84 (mI mi_134) = some (false, .ifCond .le 5, 87, 0, 89) := rfl
theorem ix_134_87 : lkp 87 (mI mi_134) = some (false, .iconst 0, 88, 0, 0) := rfl
theorem ix_134_88 : lkp 88 (mI mi_134) = some (false, .ireturn, 89, 0, 0) := rfl
theorem ix_134_89 : lkp 89 (mI mi_134) = some (false, .aload_n 0, 90, 0, 0) := rfl
theorem ix_134_90 : lkp 90 (mI mi_134) = some (false, .getfield 7, 93, 12, 2) := rfl
theorem ix_134_93 : lkp 93 (mI mi_134) = some (false, .aload_n 0, 94, 0, 0) := rfl
theorem ix_134_94 : lkp 94 (mI mi_134) = some (false, .getfield 132, 97, 12, 1) := rfl
theorem ix_134_97 : lkp 97 (mI mi_134) = some (false, .iload_n 1, 98, 1, 0) := rfl
theorem ix_134_98 : lkp 98 (mI mi_134) = some (false, .iastore, 99, 0, 0) := rfl
theorem ix_134_99 : lkp 99 (mI mi_134) = some (false, .aload_n 0, 100, 0, 0) := rfl
theorem ix_134_100 : lkp 100 (mI mi_134) = some (false, .getfield 13, 103, 12, 3) := rfl
theorem ix_134_103 : lkp 103 (mI mi_134) = some (false, .aload_n 0, 104, 0, 0) := rfl
theorem ix_134_104 : lkp 104 (mI mi_134) = some (false, .getfield 132, 107, 12, 1) := rfl
theorem ix_134_107 : lkp 107 (mI mi_134) = some (false, .iload_n 2, 108, 2, 0) := rfl
theorem ix_134_108 : lkp 108 (mI mi_134) = some (false, .iastore, 109, 0, 0) := rfl
theorem ix_134_109 : lkp 109 (mI mi_134) = some (false, .aload_n 0, 110, 0, 0) := rfl
theorem ix_134_110 : lkp 110 (mI mi_134) = some (false, .getfield 16, 113, 12, 4) := rfl
theorem ix_134_113 : lkp 113 (mI mi_134) = some (false, .aload_n 0, 114, 0, 0) := rfl
theorem ix_134_114 : lkp 114 (mI mi_134) = some (false, .getfield 132, 117, 12, 1) := rfl
theorem ix_134_117 : lkp 117 (mI mi_134) = some (false, .iload_n 3, 118, 3, 0) := rfl
theorem ix_134_118 : lkp 118 (mI mi_134) = some (false, .iastore, 119, 0, 0) := rfl
theorem ix_134_119 : lkp 119 (mI mi_134) = some (false, .aload_n 0, 120, 0, 0) := rfl
theorem ix_134_120 : lkp 120 (mI mi_134) = some (false, .getfield 19, 123, 12, 5) := rfl
theorem ix_134_123 : lkp 123 (mI mi_134) = some (false, .aload_n 0, 124, 0, 0) := rfl
theorem ix_134_124 : lkp 124 (mI mi_134) = some (false, .getfield 132, 127, 12, 1) := rfl
theorem ix_134_127 : lkp 127 (mI mi_134) = some (false, .iload 4, 129, 4, 0) := rfl
theorem ix_134_129 : lkp 129 (mI mi_134) = some (false, .bastore, 130, 0, 0) := rfl
theorem ix_134_130 : lkp 130 (mI mi_134) = some (false, .aload_n 0, 131, 0, 0) := rfl
theorem ix_134_131 : lkp 131 (mI mi_134) = some (false, .getfield 23, 134, 12, 6) := rfl
theorem ix_134_134 : lkp 134 (mI mi_134) = some (false, .aload_n 0, 135, 0, 0) := rfl
theorem ix_134_135 : lkp 135 (mI mi_134) = some (false, .getfield 132, 138, 12, 1) := rfl
theorem ix_134_138 : lkp 138 (mI mi_134) = some (false, .iload 5, 140, 5, 0) := rfl
theorem ix_134_140 : lkp 140 (mI mi_134) = some (false, .iastore, 141, 0, 0) := rfl
theorem ix_134_141 : lkp 141 (mI mi_134) = some (false, .aload_n 0, 142, 0, 0) := rfl
theorem ix_134_142 : lkp 142 (mI mi_134) = some (false, .dup, 143, 0, 0) := rfl
theorem ix_134_143 : lkp 143 (mI mi_134) = some (false, .getfield 132, 146, 12, 1) := rfl
theorem ix_134_146 : lkp 146 (mI mi_134) = some (false, .iconst 1, 147, 1, 0) := rfl
theorem ix_134_147 : lkp 147 (mI mi_134) = some (false, .iadd, 148, 0, 0) := rfl
theorem ix_134_148 : lkp 148 (mI mi_134) = some (false, .putfield 132, 151, 12, 1) := rfl
theorem ix_134_151 : lkp 151 (mI mi_134) = some (false, .aload_n 0, 152, 0, 0) := rfl
theorem ix_134_152 : lkp 152 (mI mi_134) = some (false, .getfield 132, 155, 12, 1) := rfl
theorem ix_134_155 : lkp 155 (mI mi_134) = some (false, .iconst 1, 156, 1, 0) := rfl
theorem ix_134_156 : lkp 156 (mI mi_134) = some (false, .isub, 157, 0, 0) := rfl
theorem ix_134_157 : lkp 157 (mI mi_134) = some (false, .ireturn, 158, 0, 0) := rfl
theorem ix_135_0 : lkp 0 (mI mi_135) = some (false, .aload_n 0, 1, 0, 0) := rfl
theorem ix_135_1 : lkp 1 (mI mi_135) = some (false, .getfield 26, 4, 12, 9) := rfl
theorem ix_135_4 : lkp 4 (mI mi_135) = some (false, .aload_n 0, 5, 0, 0) := rfl
theorem ix_135_5 : lkp 5 (mI mi_135) = some (false, .getfield 135, 8, 12, 7) := rfl
theorem ix_135_8 : lkp 8 (mI mi_135) = some (false, .iload_n 1, 9, 1, 0) := rfl
theorem ix_135_9 : lkp 9 (mI mi_135) = some (false, .iastore, 10, 0, 0) := rfl
theorem ix_135_10 : lkp 10 (mI mi_135) = some (false, .aload_n 0, 11, 0, 0) := rfl
theorem ix_135_11 : lkp 11 (mI mi_135) = some (false, .getfield 29, 14, 12, 10) := rfl
theorem ix_135_14 : lkp 14 (mI mi_135) = some (false, .aload_n 0, 15, 0, 0) := rfl
theorem ix_135_15 : lkp 15 (mI mi_135) = some (false, .getfield 135, 18, 12, 7) := rfl
theorem ix_135_18 : lkp 18 (mI mi_135) = some (false, .iload_n 2, 19, 2, 0) := rfl
theorem ix_135_19 : lkp 19 (mI mi_135) = some (false, .iastore, 20, 0, 0) := rfl
theorem ix_135_20 : lkp 20 (mI mi_135) = some (false, .aload_n 0, 21, 0, 0) := rfl
theorem ix_135_21 : lkp 21 (mI mi_135) = some (false, .getfield 32, 24, 12, 11) := rfl
theorem ix_135_24 : lkp 24 (mI mi_135) = some (false, .aload_n 0, 25, 0, 0) := rfl
theorem ix_135_25 : lkp 25 (mI mi_135) = some (false, .getfield 135, 28, 12, 7) := rfl
theorem ix_135_28 : lkp 28 (mI mi_135) = some (false, .iload_n 3, 29, 3, 0) := rfl
theorem ix_135_29 : lkp 29 (mI mi_135) = some (false, .iastore, 30, 0, 0) := rfl
theorem ix_135_30 : lkp 30 (mI mi_135) = some (false, .aload_n 0, 31, 0, 0) := rfl
theorem ix_135_31 : lkp 31 (mI mi_135) = some (false, .getfield 35, 34, 12, 12) := rfl
theorem ix_135_34 : lkp 34 (mI mi_135) = some (false, .aload_n 0, 35, 0, 0) := rfl
theorem ix_135_35 : lkp 35 (mI mi_135) = some (false, .getfield 135, 38, 12, 7) := rfl
theorem ix_135_38 : lkp 38 (mI mi_135) = some (false, .iload 4, 40, 4, 0) := rfl
theorem ix_135_40 : lkp 40 (mI mi_135) = some (false, .iastore, 41, 0, 0) := rfl
theorem ix_135_41 : lkp 41 (mI mi_135) = some (false, .aload_n 0, 42, 0, 0) := rfl
theorem ix_135_42 : lkp 42 (mI mi_135) = some (false, .getfield 38, 45, 12, 13) := rfl
theorem ix_135_45 : lkp 45 (mI mi_135) = some (false, .aload_n 0, 46, 0, 0) := rfl
theorem ix_135_46 : lkp 46 (mI mi_135) = some (false, .getfield 135, 49, 12, 7) := rfl
theorem ix_135_49 : lkp 49 (mI mi_135) = some (false, .iload 5, 51, 5, 0) := rfl
theorem ix_135_51 : lkp 51 (mI mi_135) = some (false, .iastore, 52, 0, 0) := rfl
theorem ix_135_52 : lkp 52 (mI mi_135) = some (false, .aload_n 0, 53, 0, 0) := rfl
theorem ix_135_53 : lkp 53 (mI mi_135) = some (false, .dup, 54, 0, 0) := rfl
theorem ix_135_54 : lkp 54 (mI mi_135) = some (false, .getfield 135, 57, 12, 7) := rfl
theorem ix_135_57 : lkp 57 (mI mi_135) = some (false, .iconst 1, 58, 1, 0) := rfl
theorem ix_135_58 : lkp 58 (mI mi_135) = some (false, .iadd, 59, 0, 0) := rfl
theorem ix_135_59 : lkp 59 (mI mi_135) = some (false, .putfield 135, 62, 12, 7) := rfl
theorem ix_135_62 : lkp 62 (mI mi_135) = some (false, .aload_n 0, 63, 0, 0) := rfl
theorem ix_135_63 : lkp 63 (mI mi_135) = some (false, .aload_n 0, 64, 0, 0) := rfl
theorem ix_135_64 : lkp 64 (mI mi_135) = some (false, .getfield 135, 67, 12, 7) := rfl
theorem ix_135_67 : lkp 67 (mI mi_135) = some (false, .iconst 1, 68, 1, 0) := rfl
theorem ix_135_68 : lkp 68 (mI mi_135) = some (false, .isub, 69, 0, 0) := rfl
theorem ix_135_69 : lkp 69 (mI mi_135) = some (false, .invokevirtual 138, 72, 136, 193) := rfl
theorem ix_135_72 : lkp 72 (mI mi_135) = some (false, .return_, 73, 0, 0) := rfl
theorem ix_136_0 : lkp 0 (mI mi_136) = some (false, .aload_n 0, 1, 0, 0) := rfl
theorem ix_136_1 : lkp 1 (mI mi_136) = some (false, .getfield 29, 4, 12, 10) := rfl
theorem ix_136_4 : lkp 4 (mI mi_136) = some (false, .iload_n 1, 5, 1, 0) := rfl
theorem ix_136_5 : lkp 5 (mI mi_136) = some (false, .iaload, 6, 0, 0) := rfl
theorem ix_136_6 : lkp 6 (mI mi_136) = some (false, .istore_n 2, 7, 2, 0) := rfl
theorem ix_136_7 : lkp 7 (mI mi_136) = some (false, .aload_n 0, 8, 0, 0) := rfl
theorem ix_136_8 : lkp 8 (mI mi_136) = some (false, .getfield 26, 11, 12, 9) := rfl
theorem ix_136_11 : lkp 11 (mI mi_136) = some (false, .iload_n 1, 12, 1, 0) := rfl
theorem ix_136_12 : lkp 12 (mI mi_136) = some (false, .iaload, 13, 0, 0) := rfl
theorem ix_136_13 : lkp 13 (mI mi_136) = some (false, .bipush 103, 15, 103, 0) := rfl
theorem ix_136_15 : lkp 15 (mI mi_136) = some (false, .if_icmp .ne 23, 18, 0, 38) := rfl
theorem ix_136_18 : lkp 18 (mI mi_136) = some (false, .aload_n 0, 19, 0, 0) := rfl
theorem ix_136_19 : lkp 19 (mI mi_136) = some (false, .iload_n 2, 20, 2, 0) := rfl
theorem ix_136_20 : lkp 20 (mI mi_136) = some (false, .aload_n 0, 21, 0, 0) := rfl
theorem ix_136_21 : lkp 21 (mI mi_136) = some (false, .getfield 32, 24, 12, 11) := rfl
theorem ix_136_24 : lkp 24 (mI mi_136) = some (false, .iload_n 1, 25, 1, 0) := rfl
theorem ix_136_25 : lkp 25 (mI mi_136) = some (false, .iaload, 26, 0, 0) := rfl
theorem ix_136_26 : lkp 26 (mI mi_136) = some (false, .aload_n 0, 27, 0, 0) := rfl
theorem ix_136_27 : lkp 27 (mI mi_136) = some (false, .getfield 35, 30, 12, 12) := rfl
theorem ix_136_30 : lkp 30 (mI mi_136) = some (false, .iload_n 1, 31, 1, 0) := rfl
theorem ix_136_31 : lkp 31 (mI mi_136) = some (false, .iaload, 32, 0, 0) := rfl
theorem ix_136_32 : lkp 32 (mI mi_136) = some (false, .invokevirtual 142, 35, 137, 195) := rfl
theorem ix_136_35 : lkp 35 (mI mi_136) = some (false, .goto 268, 38, 0, 303) := rfl
theorem ix_136_38 : lkp 38 (mI mi_136) = some (false, .aload_n 0, 39, 0, 0) := rfl
theorem ix_136_39 : lkp 39 (mI mi_136) = some (false, .getfield 26, 42, 12, 9) := rfl
theorem ix_136_42 : lkp 42 (mI mi_136) = some (false, .iload_n 1, 43, 1, 0) := rfl
theorem ix_136_43 : lkp 43 (mI mi_136) = some (false, .iaload, 44, 0, 0) := rfl
theorem ix_136_44 : lkp 44 (mI mi_136) = some (false, .bipush 116, 46, 116, 0) := rfl
theorem ix_136_46 : lkp 46 (mI mi_136) = some (false, .if_icmp .ne 33, 49, 0, 79) := rfl
theorem ix_136_49 : lkp 49 (mI mi_136) = some (false, .aload_n 0, 50, 0, 0) := rfl
theorem ix_136_50 : lkp 50 (mI mi_136) = some (false, .iload_n 2, 51, 2, 0) := rfl
theorem ix_136_51 : lkp 51 (mI mi_136) = some (false, .aload_n 0, 52, 0, 0) := rfl
theorem ix_136_52 : lkp 52 (mI mi_136) = some (false, .getfield 32, 55, 12, 11) := rfl
theorem ix_136_55 : lkp 55 (mI mi_136) = some (false, .iload_n 1, 56, 1, 0) := rfl
theorem ix_136_56 : lkp 56 (mI mi_136) = some (false, .iaload, 57, 0, 0) := rfl
theorem ix_136_57 : lkp 57 (mI mi_136) = some (false, .aload_n 0, 58, 0, 0) := rfl
theorem ix_136_58 : lkp 58 (mI mi_136) = some (false, .getfield 35, 61, 12, 12) := rfl
theorem ix_136_61 : lkp 61 (mI mi_136) = some (false, .iload_n 1, 62, 1, 0) := rfl
theorem ix_136_62 : lkp 62 (mI mi_136) = some (false, .iaload, 63, 0, 0) := rfl
theorem ix_136_63 : lkp 63 (mI mi_136) = some (false, .iconst 1, 64, 1, 0) := rfl
theorem ix_136_64 : lkp 64 (mI mi_136) = some (false, .if_icmp .ne 7, 67, 0, 71) := rfl
theorem ix_136_67 : lkp 67 (mI mi_136) = some (false, .iconst 1, 68, 1, 0) := rfl
theorem ix_136_68 : lkp 68 (mI mi_136) = some (false, .goto 4, 71, 0, 72) := rfl
theorem ix_136_71 : lkp 71 (mI mi_136) = some (false, .iconst 0, 72, 0, 0) := rfl
theorem ix_136_72 : lkp 72 (mI mi_136) = some (false, .iload_n 1, 73, 1, 0) := rfl
theorem ix_136_73 : lkp 73 (mI mi_136) = some (false, .invokevirtual 146, 76, 139, 196) := rfl
theorem ix_136_76 : lkp 76 (mI mi_136) = some (false, .goto 227, 79, 0, 303) := rfl
theorem ix_136_79 : lkp 79 (mI mi_136) = some (false, .aload_n 0, 80, 0, 0) := rfl
theorem ix_136_80 : lkp 80 (mI mi_136) = some (false, .getfield 26, 83, 12, 9) := rfl
theorem ix_136_83 : lkp 83 (mI mi_136) = some (false, .iload_n 1, 84, 1, 0) := rfl
theorem ix_136_84 : lkp 84 (mI mi_136) = some (false, .iaload, 85, 0, 0) := rfl
theorem ix_136_85 : lkp 85 (mI mi_136) = some (false, .bipush 100, 87, 100, 0) := rfl
theorem ix_136_87 : lkp 87 (mI mi_136) = some (false, .if_icmp .ne 52, 90, 0, 139) := rfl
theorem ix_136_90 : lkp 90 (mI mi_136) = some (false, .aload_n 0, 91, 0, 0) := rfl
theorem ix_136_91 : lkp 91 (mI mi_136) = some (false, .getfield 50, 94, 12, 19) := rfl
theorem ix_136_94 : lkp 94 (mI mi_136) = some (false, .iconst 4, 95, 4, 0) := rfl
theorem ix_136_95 : lkp 95 (mI mi_136) = some (false, .iload_n 2, 96, 2, 0) := rfl
theorem ix_136_96 : lkp 96 (mI mi_136) = some (false, .imul, 97, 0, 0) := rfl
theorem ix_136_97 : lkp 97 (mI mi_136) = some (false, .aload_n 0, 98, 0, 0) := rfl
theorem ix_136_98 : lkp 98 (mI mi_136) = some (false, .getfield 56, 101, 12, 21) := rfl
theorem ix_136_101 : lkp 101 (mI mi_136) = some (false, .iload_n 2, 102, 2, 0) := rfl
theorem ix_136_102 : lkp 102 (mI mi_136) = some (false, .iaload, 103, 0, 0) := rfl
theorem ix_136_103 : lkp 103 (mI mi_136) = some (false, .iadd, 104, 0, 0) := rfl
theorem ix_136_104 : lkp 104 (mI mi_136) = some (false, .dup2, 105, 0, 0) := rfl
theorem ix_136_105 : lkp 105 (mI mi_136) = some (false, .iaload, 106, 0, 0) := rfl
theorem ix_136_106 : lkp 106 (mI mi_136) = some (false, .iconst 1, 107, 1, 0) := rfl
theorem ix_136_107 : lkp 107 (mI mi_136) = some (false, .aload_n 0, 108, 0, 0) := rfl
theorem ix_136_108 : lkp 108 (mI mi_136) = some (false, .getfield 47, 111, 12, 18) := rfl
theorem ix_136_111 : lkp 111 (mI mi_136) = some (false, .bipush 28, 113, 28, 0) := rfl
theorem ix_136_113 : lkp 113 (mI mi_136) = some (false, .iload_n 2, 114, 2, 0) := rfl
theorem ix_136_114 : lkp 114 (mI mi_136) = some (false, .imul, 115, 0, 0) := rfl
theorem ix_136_115 : lkp 115 (mI mi_136) = some (false, .aload_n 0, 116, 0, 0) := rfl
theorem ix_136_116 : lkp 116 (mI mi_136) = some (false, .getfield 53, 119, 12, 20) := rfl
theorem ix_136_119 : lkp 119 (mI mi_136) = some (false, .iload_n 2, 120, 2, 0) := rfl
theorem ix_136_120 : lkp 120 (mI mi_136) = some (false, .iaload, 121, 0, 0) := rfl
theorem ix_136_121 : lkp 121 (mI mi_136) = some (false, .iadd, 122, 0, 0) := rfl
theorem ix_136_122 : lkp 122 (mI mi_136) = some (false, .iaload, 123, 0, 0) := rfl
theorem ix_136_123 : lkp 123 (mI mi_136) = some (false, .ishl, 124, 0, 0) := rfl
theorem ix_136_124 : lkp 124 (mI mi_136) = some (false, .ior, 125, 0, 0) := rfl
theorem ix_136_125 : lkp 125 (mI mi_136) = some (false, .iastore, 126, 0, 0) := rfl
theorem ix_136_126 : lkp 126 (mI mi_136) = some (false, .aload_n 0, 127, 0, 0) := rfl
theorem ix_136_127 : lkp 127 (mI mi_136) = some (false, .getfield 53, 130, 12, 20) := rfl
theorem ix_136_130 : lkp 130 (mI mi_136) = some (false, .iload_n 2, 131, 2, 0) := rfl
theorem ix_136_131 : lkp 131 (mI mi_136) = some (false, .dup2, 132, 0, 0) := rfl
theorem ix_136_132 : lkp 132 (mI mi_136) = some (false, .iaload, 133, 0, 0) := rfl
theorem ix_136_133 : lkp 133 (mI mi_136) = some (false, .iconst 1, 134, 1, 0) := rfl
theorem ix_136_134 : lkp 134 (mI mi_136) = some (false, .iadd, 135, 0, 0) := rfl
theorem ix_136_135 : lkp 135 (mI mi_136) = some (false, .iastore, 136, 0, 0) := rfl
theorem ix_136_136 : lkp 136 (mI mi_136) = some (false, .goto 167, 139, 0, 303) := rfl
theorem ix_136_139 : lkp 139 (mI mi_136) = some (false, .aload_n 0, 140, 0, 0) := rfl
theorem ix_136_140 : lkp 140 (mI mi_136) = some (false, .getfield 26, 143, 12, 9) := rfl
theorem ix_136_143 : lkp 143 (mI mi_136) = some (false, .iload_n 1, 144, 1, 0) := rfl
theorem ix_136_144 : lkp 144 (mI mi_136) = some (false, .iaload, 145, 0, 0) := rfl
theorem ix_136_145 : lkp 145 (mI mi_136) = some (false, .bipush 112, 147, 112, 0) := rfl
theorem ix_136_147 : lkp 147 (mI mi_136) = some (false, .if_icmp .ne 12, 150, 0, 159) := rfl
theorem ix_136_150 : lkp 150 (mI mi_136) = some (false, .aload_n 0, 151, 0, 0) := rfl
theorem ix_136_151 : lkp 151 (mI mi_136) = some (false, .iload_n 2, 152, 2, 0) := rfl
theorem ix_136_152 : lkp 152 (mI mi_136) = some (false, .iload_n 1, 153, 1, 0) := rfl
theorem ix_136_153 : lkp 153 (mI mi_136) = some (false, .invokevirtual 150, 156, 140, 194) := rfl
theorem ix_136_156 : lkp 156 (mI mi_136) = some (false, .goto 147, 159, 0, 303) := rfl
theorem ix_136_159 : lkp 159 (mI mi_136) = some (false, .aload_n 0, 160, 0, 0) := by decide +kernel
theorem ix_136_160 : lkp 160 (mI mi_136) = some (false, .getfield 26, 163, 12, 9) := by decide +kernel
theorem ix_136_163 : lkp 163 (mI mi_136) = some (false, .iload_n 1, 164, 1, 0) := by decide +kernel
theorem ix_136_164 : lkp 164 (mI mi_136) = some (false, .iaload, 165, 0, 0) := by decide +kernel
theorem ix_136_165 : lkp 165 (mI mi_136) = some (false, .bipush 98, 167, 98, 0) := by decide +kernel
theorem ix_136_167 : lkp 167 (mI mi_136) = some (false, .if_icmp .ne 91, 170, 0, 258) := by decide +kernel
theorem ix_136_170 : lkp 170 (mI mi_136) = some (false, .bipush 10, 172, 10, 0) := by decide +kernel
theorem ix_136_172 : lkp 172 (mI mi_136) = some (false, .iload_n 2, 173, 2, 0) := by decide +kernel
theorem ix_136_173 : lkp 173 (mI mi_136) = some (false, .imul, 174, 0, 0) := by decide +kernel
theorem ix_136_174 : lkp 174 (mI mi_136) = some (false, .aload_n 0, 175, 0, 0) := by decide +kernel
theorem ix_136_175 : lkp 175 (mI mi_136) = some (false, .getfield 89, 178, 12, 32) := by decide +kernel
theorem ix_136_178 : lkp 178 (mI mi_136) = some (false, .iload_n 2, 179, 2, 0) := by decide +kernel
theorem ix_136_179 : lkp 179 (mI mi_136) = some (false, .iaload, 180, 0, 0) := by decide +kernel
theorem ix_136_180 : lkp 180 (mI mi_136) = some (false, .iadd, 181, 0, 0) := by decide +kernel
theorem ix_136_181 : lkp 181 (mI mi_136) = some (false, .istore_n 3, 182, 3, 0) := by decide +kernel
theorem ix_136_182 : lkp 182 (mI mi_136) = some (false, .aload_n 0, 183, 0, 0) := by decide +kernel
theorem ix_136_183 : lkp 183 (mI mi_136) = some (false, .getfield 92, 186, 12, 33) := by decide +kernel
theorem ix_136_186 : lkp 186 (mI mi_136) = some (false, .iload_n 3, 187, 3, 0) := by decide +kernel
theorem ix_136_187 : lkp 187 (mI mi_136) = some (false, .aload_n 0, 188, 0, 0) := by decide +kernel
theorem ix_136_188 : lkp 188 (mI mi_136) = some (false, .getfield 32, 191, 12, 11) := by decide +kernel
theorem ix_136_191 : lkp 191 (mI mi_136) = some (false, .iload_n 1, 192, 1, 0) := by decide +kernel
theorem ix_136_192 : lkp 192 (mI mi_136) = some (false, .iaload, 193, 0, 0) := by decide +kernel
theorem ix_136_193 : lkp 193 (mI mi_136) = some (false, .iastore, 194, 0, 0) := by decide +kernel
theorem ix_136_194 : lkp 194 (mI mi_136) = some (false, .aload_n 0, 195, 0, 0) := by decide +kernel
theorem ix_136_195 : lkp 195 (mI mi_136) = some (false, .getfield 95, 198, 12, 34) := by decide +kernel
theorem ix_136_198 : lkp 198 (mI mi_136) = some (false, .iload_n 3, 199, 3, 0) := by decide +kernel
theorem ix_136_199 : lkp 199 (mI mi_136) = some (false, .aload_n 0, 200, 0, 0) := by decide +kernel
theorem ix_136_200 : lkp 200 (mI mi_136) = some (false, .getfield 35, 203, 12, 12) := by decide +kernel
theorem ix_136_203 : lkp 203 (mI mi_136) = some (false, .iload_n 1, 204, 1, 0) := by decide +kernel
theorem ix_136_204 : lkp 204 (mI mi_136) = some (false, .iaload, 205, 0, 0) := by decide +kernel
theorem ix_136_205 : lkp 205 (mI mi_136) = some (false, .iastore, 206, 0, 0) := by decide +kernel
theorem ix_136_206 : lkp 206 (mI mi_136) = some (false, .aload_n 0, 207, 0, 0) := by decide +kernel
theorem ix_136_207 : lkp 207 (mI mi_136) = some (false, .getfield 98, 210, 12, 35) := by decide +kernel
theorem ix_136_210 : lkp 210 (mI mi_136) = some (false, .iload_n 3, 211, 3, 0) := by decide +kernel
theorem ix_136_211 : lkp 211 (mI mi_136) = some (false, .aload_n 0, 212, 0, 0) := by decide +kernel
theorem ix_136_212 : lkp 212 (mI mi_136) = some (false, .getfield 38, 215, 12, 13) := by decide +kernel
theorem ix_136_215 : lkp 215 (mI mi_136) = some (false, .iload_n 1, 216, 1, 0) := by decide +kernel
theorem ix_136_216 : lkp 216 (mI mi_136) = some (false, .iaload, 217, 0, 0) := by decide +kernel
theorem ix_136_217 : lkp 217 (mI mi_136) = some (false, .iastore, 218, 0, 0) := by decide +kernel
theorem ix_136_218 : lkp 218 (mI mi_136) = some (false, .aload_n 0, 219, 0, 0) := by decide +kernel
theorem ix_136_219 : lkp 219 (mI mi_136) = some (false, .getfield 101, 222, 12, 36) := by decide +kernel
theorem ix_136_222 : lkp 222 (mI mi_136) = some (false, .iload_n 3, 223, 3, 0) := by decide +kernel
theorem ix_136_223 : lkp 223 (mI mi_136) = some (false, .iconst 0, 224, 0, 0) := by decide +kernel
theorem ix_136_224 : lkp 224 (mI mi_136) = some (false, .iastore, 225, 0, 0) := by decide +kernel
theorem ix_136_225 : lkp 225 (mI mi_136) = some (false, .aload_n 0, 226, 0, 0) := by decide +kernel
theorem ix_136_226 : lkp 226 (mI mi_136) = some (false, .getfield 89, 229, 12, 32) := by decide +kernel
theorem ix_136_229 : lkp 229 (mI mi_136) = some (false, .iload_n 2, 230, 2, 0) := by decide +kernel
theorem ix_136_230 : lkp 230 (mI mi_136) = some (false, .dup2, 231, 0, 0) := by decide +kernel
theorem ix_136_231 : lkp 231 (mI mi_136) = some (false, .iaload, 232, 0, 0) := by decide +kernel
theorem ix_136_232 : lkp 232 (mI mi_136) = some (false, .iconst 1, 233, 1, 0) := by decide +kernel
theorem ix_136_233 : lkp 233 (mI mi_136) = some (false, .iadd, 234, 0, 0) := by decide +kernel
theorem ix_136_234 : lkp 234 (mI mi_136) = some (false, .iastore, 235, 0, 0) := by decide +kernel
theorem ix_136_235 : lkp 235 (mI mi_136) = some (false, .aload_n 0, 236, 0, 0) := by decide +kernel
theorem ix_136_236 : lkp 236 (mI mi_136) = some (false, .getfield 104, 239, 12, 37) := by decide +kernel
theorem ix_136_239 : lkp 239 (mI mi_136) = some (false, .aload_n 0, 240, 0, 0) := by decide +kernel
theorem ix_136_240 : lkp 240 (mI mi_136) = some (false, .getfield 32, 243, 12, 11) := by decide +kernel
theorem ix_136_243 : lkp 243 (mI mi_136) = some (false, .iload_n 1, 244, 1, 0) := by decide +kernel
theorem ix_136_244 : lkp 244 (mI mi_136) = some (false, .iaload, 245, 0, 0) := by decide +kernel
theorem ix_136_245 : lkp 245 (mI mi_136) = some (false, .dup2, 246, 0, 0) := by decide +kernel
theorem ix_136_246 : lkp 246 (mI mi_136) = some (false, .iaload, 247, 0, 0) := by decide +kernel
theorem ix_136_247 : lkp 247 (mI mi_136) = some (false, .aload_n 0, 248, 0, 0) := by decide +kernel
theorem ix_136_248 : lkp 248 (mI mi_136) = some (false, .getfield 38, 251, 12, 13) := by decide +kernel
theorem ix_136_251 : lkp 251 (mI mi_136) = some (false, .iload_n 1, 252, 1, 0) := by decide +kernel
theorem ix_136_252 : lkp 252 (mI mi_136) = some (false, .iaload, 253, 0, 0) := by decide +kernel
theorem ix_136_253 : lkp 253 (mI mi_136) = some (false, .isub, 254, 0, 0) := by decide +kernel
theorem ix_136_254 : lkp 254 (mI mi_136) = some (false, .iastore, 255, 0, 0) := by decide +kernel
theorem ix_136_255 : lkp 255 (mI mi_136) = some (false, .goto 48, 258, 0, 303) := by decide +kernel
theorem ix_136_258 : lkp 258 (mI mi_136) = some (false, .aload_n 0, 259, 0, 0) := by decide +kernel
theorem ix_136_259 : lkp 259 (mI mi_136) = some (false, .iload_n 2, 260, 2, 0) := by decide +kernel
theorem ix_136_260 : lkp 260 (mI mi_136) = some (false, .iconst (-1), 261, 1, 1) := by decide +kernel
theorem ix_136_261 : lkp 261 (mI mi_136) = some (false, .invokevirtual 154, 264, 144, 194) := by decide +kernel
theorem ix_136_264 : lkp 264 (mI mi_136) = some (false, .aload_n 0, 265, 0, 0) := by decide +kernel
theorem ix_136_265 : lkp 265 (mI mi_136) = some (false, .getfield 80, 268, 12, 29) := by decide +kernel
theorem ix_136_268 : lkp 268 (mI mi_136) = some (false, .iload_n 2, 269, 2, 0) := by decide +kernel
theorem ix_136_269 : lkp 269 (mI mi_136) = some (false, .aload_n 0, 270, 0, 0) := by decide +kernel
theorem ix_136_270 : lkp 270 (mI mi_136) = some (false, .getfield 32, 273, 12, 11) := by decide +kernel
theorem ix_136_273 : lkp 273 (mI mi_136) = some (false, .iload_n 1, 274, 1, 0) := by decide +kernel
theorem ix_136_274 : lkp 274 (mI mi_136) = some (false, .iaload, 275, 0, 0) := by decide +kernel
theorem ix_136_275 : lkp 275 (mI mi_136) = some (false, .iastore, 276, 0, 0) := by decide +kernel
theorem ix_136_276 : lkp 276 (mI mi_136) = some (false, .aload_n 0, 277, 0, 0) := by decide +kernel
theorem ix_136_277 : lkp 277 (mI mi_136) = some (false, .getfield 83, 280, 12, 30) := by decide +kernel
theorem ix_136_280 : lkp 280 (mI mi_136) = some (false, .iload_n 2, 281, 2, 0) := by decide +kernel
theorem ix_136_281 : lkp 281 (mI mi_136) = some (false, .dup2, 282, 0, 0) := by decide +kernel
theorem ix_136_282 : lkp 282 (mI mi_136) = some (false, .iaload, 283, 0, 0) := by decide +kernel
theorem ix_136_283 : lkp 283 (mI mi_136) = some (false, .iconst 1, 284, 1, 0) := by decide +kernel
theorem ix_136_284 : lkp 284 (mI mi_136) = some (false, .iadd, 285, 0, 0) := by decide +kernel
theorem ix_136_285 : lkp 285 (mI mi_136) = some (false, .iastore, 286, 0, 0) := by decide +kernel
theorem ix_136_286 : lkp 286 (mI mi_136) = some (false, .aload_n 0, 287, 0, 0) := by decide +kernel
theorem ix_136_287 : lkp 287 (mI mi_136) = some (false, .getfield 77, 290, 12, 28) := by decide +kernel
theorem ix_136_290 : lkp 290 (mI mi_136) = some (false, .iload_n 2, 291, 2, 0) := by decide +kernel
theorem ix_136_291 : lkp 291 (mI mi_136) = some (false, .aload_n 0, 292, 0, 0) := by decide +kernel
theorem ix_136_292 : lkp 292 (mI mi_136) = some (false, .iload_n 2, 293, 2, 0) := by decide +kernel
theorem ix_136_293 : lkp 293 (mI mi_136) = some (false, .invokevirtual 157, 296, 142, 193) := by decide +kernel
theorem ix_136_296 : lkp 296 (mI mi_136) = some (false, .iastore, 297, 0, 0) := by decide +kernel
theorem ix_136_297 : lkp 297 (mI mi_136) = some (false, .aload_n 0, 298, 0, 0) := by decide +kernel
theorem ix_136_298 : lkp 298 (mI mi_136) = some (false, .iload_n 2, 299, 2, 0) := by decide +kernel
theorem ix_136_299 : lkp 299 (mI mi_136) = some (false, .iconst 1, 300, 1, 0) := by decide +kernel
theorem ix_136_300 : lkp 300 (mI mi_136) = some (false, .invokevirtual 154, 303, 144, 194) := by decide +kernel
theorem ix_136_303 : lkp 303 (mI mi_136) = some (false, .return_, 304, 0, 0) := by decide +kernel
theorem ix_137_0 : lkp 0 (mI mi_137) = some (false, .aload_n 0, 1, 0, 0) := rfl
theorem ix_137_1 : lkp 1 (mI mi_137) = some (false, .iload_n 1, 2, 1, 0) := rfl
theorem ix_137_2 : lkp 2 (mI mi_137) = some (false, .iconst 1, 3, 1, 0) := rfl
theorem ix_137_3 : lkp 3 (mI mi_137) = some (false, .iadd, 4, 0, 0) := rfl
theorem ix_137_4 : lkp 4 (mI mi_137) = some (false, .putfield 117, 7, 12, 16) := rfl
theorem ix_137_7 : lkp 7 (mI mi_137) = some (false, .aload_n 0, 8, 0, 0) := rfl
theorem ix_137_8 : lkp 8 (mI mi_137) = some (false, .getfield 44, 11, 12, 17) := rfl
theorem ix_137_11 : lkp 11 (mI mi_137) = some (false, .iload_n 1, 12, 1, 0) := rfl
theorem ix_137_12 : lkp 12 (mI mi_137) = some (false, .iload_n 2, 13, 2, 0) := rfl
theorem ix_137_13 : lkp 13 (mI mi_137) = some (false, .iastore, 14, 0, 0) := rfl
theorem ix_137_14 : lkp 14 (mI mi_137) = some (false, .aload_n 0, 15, 0, 0) := rfl
theorem ix_137_15 : lkp 15 (mI mi_137) = some (false, .iload_n 1, 16, 1, 0) := rfl
theorem ix_137_16 : lkp 16 (mI mi_137) = some (false, .invokevirtual 160, 19, 130, 193) := rfl
theorem ix_137_19 : lkp 19 (mI mi_137) = some (false, .istore 4, 21, 4, 0) := rfl
theorem ix_137_21 : lkp 21 (mI mi_137) = some (false, .iconst 0, 22, 0, 0) := rfl
theorem ix_137_22 : lkp 22 (mI mi_137) = some (false, .istore 5, 24, 5, 0) := rfl
theorem ix_137_24 : lkp 24 (mI mi_137) = some (true, .iload 5, 26, 5, 0) := rfl
theorem ix_137_26 : lkp 26 (mI mi_137) = some (false, .iload 4, 28, 4, 0) := rfl
theorem ix_137_28 : lkp 28 (mI mi_137) = some (false, .if_icmp .ge 23, 31, 0, 51) := rfl
theorem ix_137_31 : lkp 31 (mI mi_137) = some (false, .aload_n 0, 32, 0, 0) := rfl
theorem ix_137_32 : lkp 32 (mI mi_137) = some (false, .getfield 47, 35, 12, 18) := rfl
theorem ix_137_35 : lkp 35 (mI mi_137) = some (false, .bipush 28, 37, 28, 0) := rfl
theorem ix_137_37 : lkp 37 (mI mi_137) = some (false, .iload_n 1, 38, 1, 0) := rfl
theorem ix_137_38 : lkp 38 (mI mi_137) = some (false, .imul, 39, 0, 0) := rfl
theorem ix_137_39 : lkp 39 (mI mi_137) = some (false, .iload 5, 41, 5, 0) := rfl
theorem ix_137_41 : lkp 41 (mI mi_137) = some (false, .iadd, 42, 0, 0) := rfl
theorem ix_137_42 : lkp 42 (mI mi_137) = some (false, .iload 5, 44, 5, 0) := rfl
theorem ix_137_44 : lkp 44 (mI mi_137) = some (false, .iastore, 45, 0, 0) := rfl
theorem ix_137_45 : lkp 45 (mI mi_137) = some (false, .iinc 5 1, 48, 5, 2) := rfl
theorem ix_137_48 : lkp 48 (mI mi_137) = some (false, .goto (-24), 51, 0, 24) := rfl
theorem ix_137_51 : lkp 51 (mI mi_137) = some (false, .iload_n 3, 52, 3, 0) := rfl
theorem ix_137_52 : lkp 52 (mI mi_137) = some (false, .i2l, 53, 0, 0) := rfl
theorem ix_137_53 : lkp 53 (mI mi_137) = some (false, .lstore 5, 55, 5, 0) := rfl
theorem ix_137_55 : lkp 55 (mI mi_137) = some (false, .iload 4, 57, 4, 0) := rfl
theorem ix_137_57 : lkp 57 (mI mi_137) = some (false, .iconst 1, 58, 1, 0) := rfl
theorem ix_137_58 : lkp 58 (mI mi_137) = some (false, .isub, 59, 0, 0) := rfl
theorem ix_137_59 : lkp 59 (mI mi_137) = some (false, .istore 7, 61, 7, 0) := rfl
theorem ix_137_61 : lkp 61 (mI mi_137) = some (true, .iload 7, 63, 7, 0) := rfl
theorem ix_137_63 : lkp 63 (mI mi_137) = some (false, .ifCond .le 92, 66, 0, 155) := rfl
theorem ix_137_66 : lkp 66 (mI mi_137) = some (false, .lload 5, 68, 5, 0) := rfl
theorem ix_137_68 : lkp 68 (mI mi_137) = some (false, .ldc2_w 163, 71, 1103515245, 0) := rfl
theorem ix_137_71 : lkp 71 (mI mi_137) = some (false, .lmul, 72, 0, 0) := rfl
theorem ix_137_72 : lkp 72 (mI mi_137) = some (false, .ldc2_w 165, 75, 12345, 0) := rfl
theorem ix_137_75 : lkp 75 (mI mi_137) = some (false, .ladd, 76, 0, 0) := rfl
theorem ix_137_76 : lkp 76 (mI mi_137) = some (false, .ldc2_w 167, 79, 2147483648, 0) := rfl
theorem ix_137_79 : lkp 79 (mI mi_137) = some (false, .lrem, 80, 0, 0) := rfl
theorem ix_137_80 : lkp 80 (mI mi_137) = some (false, .lstore 5, 82, 5, 0) := rfl
theorem ix_137_82 : lkp 82 (mI mi_137) = some (false, .lload 5, 84, 5, 0) := rfl
theorem ix_137_84 : lkp 84 (mI mi_137) = some (false, .ldc2_w 169, 87, 65536, 0) := rfl
theorem ix_137_87 : lkp 87 (mI mi_137) = some (false, .ldiv, 88, 0, 0) := rfl
theorem ix_137_88 : lkp 88 (mI mi_137) = some (false, .iload 7, 90, 7, 0) := rfl
theorem ix_137_90 : lkp 90 (mI mi_137) = some (false, .iconst 1, 91, 1, 0) := rfl
theorem ix_137_91 : lkp 91 (mI mi_137) = some (false, .iadd, 92, 0, 0) := rfl
theorem ix_137_92 : lkp 92 (mI mi_137) = some (false, .i2l, 93, 0, 0) := rfl
theorem ix_137_93 : lkp 93 (mI mi_137) = some (false, .lrem, 94, 0, 0) := rfl
theorem ix_137_94 : lkp 94 (mI mi_137) = some (false, .l2i, 95, 0, 0) := rfl
theorem ix_137_95 : lkp 95 (mI mi_137) = some (false, .istore 8, 97, 8, 0) := rfl
theorem ix_137_97 : lkp 97 (mI mi_137) = some (false, .aload_n 0, 98, 0, 0) := rfl
theorem ix_137_98 : lkp 98 (mI mi_137) = some (false, .getfield 47, 101, 12, 18) := rfl
theorem ix_137_101 : lkp 101 (mI mi_137) = some (false, .bipush 28, 103, 28, 0) := rfl
theorem ix_137_103 : lkp 103 (mI mi_137) = some (false, .iload_n 1, 104, 1, 0) := rfl
theorem ix_137_104 : lkp 104 (mI mi_137) = some (false, .imul, 105, 0, 0) := rfl
theorem ix_137_105 : lkp 105 (mI mi_137) = some (false, .iload 7, 107, 7, 0) := rfl
theorem ix_137_107 : lkp 107 (mI mi_137) = some (false, .iadd, 108, 0, 0) := rfl
theorem ix_137_108 : lkp 108 (mI mi_137) = some (false, .iaload, 109, 0, 0) := rfl
theorem ix_137_109 : lkp 109 (mI mi_137) = some (false, .istore 9, 111, 9, 0) := rfl
theorem ix_137_111 : lkp 111 (mI mi_137) = some (false, .aload_n 0, 112, 0, 0) := rfl
theorem ix_137_112 : lkp 112 (mI mi_137) = some (false, .getfield 47, 115, 12, 18) := rfl
theorem ix_137_115 : lkp 115 (mI mi_137) = some (false, .bipush 28, 117, 28, 0) := rfl
theorem ix_137_117 : lkp 117 (mI mi_137) = some (false, .iload_n 1, 118, 1, 0) := rfl
theorem ix_137_118 : lkp 118 (mI mi_137) = some (false, .imul, 119, 0, 0) := rfl
theorem ix_137_119 : lkp 119 (mI mi_137) = some (false, .iload 7, 121, 7, 0) := rfl
theorem ix_137_121 : lkp 121 (mI mi_137) = some (false, .iadd, 122, 0, 0) := rfl
theorem ix_137_122 : lkp 122 (mI mi_137) = some (false, .aload_n 0, 123, 0, 0) := rfl
theorem ix_137_123 : lkp 123 (mI mi_137) = some (false, .getfield 47, 126, 12, 18) := rfl
theorem ix_137_126 : lkp 126 (mI mi_137) = some (false, .bipush 28, 128, 28, 0) := rfl
theorem ix_137_128 : lkp 128 (mI mi_137) = some (false, .iload_n 1, 129, 1, 0) := rfl
theorem ix_137_129 : lkp 129 (mI mi_137) = some (false, .imul, 130, 0, 0) := rfl
theorem ix_137_130 : lkp 130 (mI mi_137) = some (false, .iload 8, 132, 8, 0) := rfl
theorem ix_137_132 : lkp 132 (mI mi_137) = some (false, .iadd, 133, 0, 0) := rfl
theorem ix_137_133 : lkp 133 (mI mi_137) = some (false, .iaload, 134, 0, 0) := rfl
theorem ix_137_134 : lkp 134 (mI mi_137) = some (false, .iastore, 135, 0, 0) := rfl
theorem ix_137_135 : lkp 135 (mI mi_137) = some (false, .aload_n 0, 136, 0, 0) := rfl
theorem ix_137_136 : lkp 136 (mI mi_137) = some (false, .getfield 47, 139, 12, 18) := rfl
theorem ix_137_139 : lkp 139 (mI mi_137) = some (false, .bipush 28, 141, 28, 0) := rfl
theorem ix_137_141 : lkp 141 (mI mi_137) = some (false, .iload_n 1, 142, 1, 0) := rfl
theorem ix_137_142 : lkp 142 (mI mi_137) = some (false, .imul, 143, 0, 0) := rfl
theorem ix_137_143 : lkp 143 (mI mi_137) = some (false, .iload 8, 145, 8, 0) := rfl
theorem ix_137_145 : lkp 145 (mI mi_137) = some (false, .iadd, 146, 0, 0) := rfl
theorem ix_137_146 : lkp 146 (mI mi_137) = some (false, .iload 9, 148, 9, 0) := rfl
theorem ix_137_148 : lkp 148 (mI mi_137) = some (false, .iastore, 149, 0, 0) := rfl
theorem ix_137_149 : lkp 149 (mI mi_137) = some (false, .iinc 7 (-1), 152, 7, 3) := rfl
theorem ix_137_152 : lkp 152 (mI mi_137) = some (false, .goto (-91), 155, 0, 61) := rfl
theorem ix_137_155 : lkp 155 (mI mi_137) = some (false, .iconst 0, 156, 0, 0) := rfl
theorem ix_137_156 : lkp 156 (mI mi_137) = some (false, .istore 7, 158, 7, 0) := rfl
theorem ix_137_158 : lkp 158 (mI mi_137) = some (true, .iload 7, 160, 7, 0) := rfl
theorem ix_137_160 : lkp 160 (mI mi_137) = some (false, .iconst 4, 161, 4, 0) := rfl
theorem ix_137_161 : lkp 161 (mI mi_137) = some (false, .if_icmp .ge 21, 164, 0, 182) := rfl
theorem ix_137_164 : lkp 164 (mI mi_137) = some (false, .aload_n 0, 165, 0, 0) := rfl
theorem ix_137_165 : lkp 165 (mI mi_137) = some (false, .getfield 50, 168, 12, 19) := rfl
theorem ix_137_168 : lkp 168 (mI mi_137) = some (false, .iconst 4, 169, 4, 0) := by decide +kernel
theorem ix_137_169 : lkp 169 (mI mi_137) = some (false, .iload_n 1, 170, 1, 0) := by decide +kernel
theorem ix_137_170 : lkp 170 (mI mi_137) = some (false, .imul, 171, 0, 0) := by decide +kernel
theorem ix_137_171 : lkp 171 (mI mi_137) = some (false, .iload 7, 173, 7, 0) := by decide +kernel
theorem ix_137_173 : lkp 173 (mI mi_137) = some (false, .iadd, 174, 0, 0) := by decide +kernel
theorem ix_137_174 : lkp 174 (mI mi_137) = some (false, .iconst 0, 175, 0, 0) := by decide +kernel
theorem ix_137_175 : lkp 175 (mI mi_137) = some (false, .iastore, 176, 0, 0) := by decide +kernel
theorem ix_137_176 : lkp 176 (mI mi_137) = some (false, .iinc 7 1, 179, 7, 2) := by decide +kernel
theorem ix_137_179 : lkp 179 (mI mi_137) = some (false, .goto (-21), 182, 0, 158) := by decide +kernel
theorem ix_137_182 : lkp 182 (mI mi_137) = some (false, .aload_n 0, 183, 0, 0) := by decide +kernel
theorem ix_137_183 : lkp 183 (mI mi_137) = some (false, .getfield 53, 186, 12, 20) := by decide +kernel
theorem ix_137_186 : lkp 186 (mI mi_137) = some (false, .iload_n 1, 187, 1, 0) := by decide +kernel
theorem ix_137_187 : lkp 187 (mI mi_137) = some (false, .iconst 0, 188, 0, 0) := by decide +kernel
theorem ix_137_188 : lkp 188 (mI mi_137) = some (false, .iastore, 189, 0, 0) := by decide +kernel
theorem ix_137_189 : lkp 189 (mI mi_137) = some (false, .iconst 0, 190, 0, 0) := by decide +kernel
theorem ix_137_190 : lkp 190 (mI mi_137) = some (false, .istore 7, 192, 7, 0) := by decide +kernel
theorem ix_137_192 : lkp 192 (mI mi_137) = some (true, .iload 7, 194, 7, 0) := by decide +kernel
theorem ix_137_194 : lkp 194 (mI mi_137) = some (false, .aload_n 0, 195, 0, 0) := by decide +kernel
theorem ix_137_195 : lkp 195 (mI mi_137) = some (false, .getfield 13, 198, 12, 3) := by decide +kernel
theorem ix_137_198 : lkp 198 (mI mi_137) = some (false, .iload_n 2, 199, 2, 0) := by decide +kernel
theorem ix_137_199 : lkp 199 (mI mi_137) = some (false, .iaload, 200, 0, 0) := by decide +kernel
theorem ix_137_200 : lkp 200 (mI mi_137) = some (false, .if_icmp .ge 71, 203, 0, 271) := by decide +kernel
theorem ix_137_203 : lkp 203 (mI mi_137) = some (false, .iconst 0, 204, 0, 0) := by decide +kernel
theorem ix_137_204 : lkp 204 (mI mi_137) = some (false, .istore 8, 206, 8, 0) := by decide +kernel
theorem ix_137_206 : lkp 206 (mI mi_137) = some (true, .iload 8, 208, 8, 0) := by decide +kernel
theorem ix_137_208 : lkp 208 (mI mi_137) = some (false, .aload_n 0, 209, 0, 0) := by decide +kernel
theorem ix_137_209 : lkp 209 (mI mi_137) = some (false, .getfield 16, 212, 12, 4) := by decide +kernel
theorem ix_137_212 : lkp 212 (mI mi_137) = some (false, .iload_n 2, 213, 2, 0) := by decide +kernel
theorem ix_137_213 : lkp 213 (mI mi_137) = some (false, .iaload, 214, 0, 0) := by decide +kernel
theorem ix_137_214 : lkp 214 (mI mi_137) = some (false, .if_icmp .ge 51, 217, 0, 265) := by decide +kernel
theorem ix_137_217 : lkp 217 (mI mi_137) = some (false, .aload_n 0, 218, 0, 0) := by decide +kernel
theorem ix_137_218 : lkp 218 (mI mi_137) = some (false, .getfield 50, 221, 12, 19) := by decide +kernel
theorem ix_137_221 : lkp 221 (mI mi_137) = some (false, .iconst 4, 222, 4, 0) := by decide +kernel
theorem ix_137_222 : lkp 222 (mI mi_137) = some (false, .iload_n 1, 223, 1, 0) := by decide +kernel
theorem ix_137_223 : lkp 223 (mI mi_137) = some (false, .imul, 224, 0, 0) := by decide +kernel
theorem ix_137_224 : lkp 224 (mI mi_137) = some (false, .iload 7, 226, 7, 0) := by decide +kernel
theorem ix_137_226 : lkp 226 (mI mi_137) = some (false, .iadd, 227, 0, 0) := by decide +kernel
theorem ix_137_227 : lkp 227 (mI mi_137) = some (false, .dup2, 228, 0, 0) := by decide +kernel
theorem ix_137_228 : lkp 228 (mI mi_137) = some (false, .iaload, 229, 0, 0) := by decide +kernel
theorem ix_137_229 : lkp 229 (mI mi_137) = some (false, .iconst 1, 230, 1, 0) := by decide +kernel
theorem ix_137_230 : lkp 230 (mI mi_137) = some (false, .aload_n 0, 231, 0, 0) := by decide +kernel
theorem ix_137_231 : lkp 231 (mI mi_137) = some (false, .getfield 47, 234, 12, 18) := by decide +kernel
theorem ix_137_234 : lkp 234 (mI mi_137) = some (false, .bipush 28, 236, 28, 0) := by decide +kernel
theorem ix_137_236 : lkp 236 (mI mi_137) = some (false, .iload_n 1, 237, 1, 0) := by decide +kernel
theorem ix_137_237 : lkp 237 (mI mi_137) = some (false, .imul, 238, 0, 0) := by decide +kernel
theorem ix_137_238 : lkp 238 (mI mi_137) = some (false, .aload_n 0, 239, 0, 0) := by decide +kernel
theorem ix_137_239 : lkp 239 (mI mi_137) = some (false, .getfield 53, 242, 12, 20) := by decide +kernel
theorem ix_137_242 : lkp 242 (mI mi_137) = some (false, .iload_n 1, 243, 1, 0) := by decide +kernel
theorem ix_137_243 : lkp 243 (mI mi_137) = some (false, .iaload, 244, 0, 0) := by decide +kernel
theorem ix_137_244 : lkp 244 (mI mi_137) = some (false, .iadd, 245, 0, 0) := by decide +kernel
theorem ix_137_245 : lkp 245 (mI mi_137) = some (false, .iaload, 246, 0, 0) := by decide +kernel
theorem ix_137_246 : lkp 246 (mI mi_137) = some (false, .ishl, 247, 0, 0) := by decide +kernel
theorem ix_137_247 : lkp 247 (mI mi_137) = some (false, .ior, 248, 0, 0) := by decide +kernel
theorem ix_137_248 : lkp 248 (mI mi_137) = some (false, .iastore, 249, 0, 0) := by decide +kernel
theorem ix_137_249 : lkp 249 (mI mi_137) = some (false, .aload_n 0, 250, 0, 0) := by decide +kernel
theorem ix_137_250 : lkp 250 (mI mi_137) = some (false, .getfield 53, 253, 12, 20) := by decide +kernel
theorem ix_137_253 : lkp 253 (mI mi_137) = some (false, .iload_n 1, 254, 1, 0) := by decide +kernel
theorem ix_137_254 : lkp 254 (mI mi_137) = some (false, .dup2, 255, 0, 0) := by decide +kernel
theorem ix_137_255 : lkp 255 (mI mi_137) = some (false, .iaload, 256, 0, 0) := by decide +kernel
theorem ix_137_256 : lkp 256 (mI mi_137) = some (false, .iconst 1, 257, 1, 0) := by decide +kernel
theorem ix_137_257 : lkp 257 (mI mi_137) = some (false, .iadd, 258, 0, 0) := by decide +kernel
theorem ix_137_258 : lkp 258 (mI mi_137) = some (false, .iastore, 259, 0, 0) := by decide +kernel
theorem ix_137_259 : lkp 259 (mI mi_137) = some (false, .iinc 8 1, 262, 8, 2) := by decide +kernel
theorem ix_137_262 : lkp 262 (mI mi_137) = some (false, .goto (-56), 265, 0, 206) := by decide +kernel
theorem ix_137_265 : lkp 265 (mI mi_137) = some (false, .iinc 7 1, 268, 7, 2) := by decide +kernel
theorem ix_137_268 : lkp 268 (mI mi_137) = some (false, .goto (-76), 271, 0, 192) := by decide +kernel
theorem ix_137_271 : lkp 271 (mI mi_137) = some (false, .aload_n 0, 272, 0, 0) := by decide +kernel
theorem ix_137_272 : lkp 272 (mI mi_137) = some (false, .getfield 56, 275, 12, 21) := by decide +kernel
theorem ix_137_275 : lkp 275 (mI mi_137) = some (false, .iload_n 1, 276, 1, 0) := by decide +kernel
theorem ix_137_276 : lkp 276 (mI mi_137) = some (false, .iconst 0, 277, 0, 0) := by decide +kernel
theorem ix_137_277 : lkp 277 (mI mi_137) = some (false, .iastore, 278, 0, 0) := by decide +kernel
theorem ix_137_278 : lkp 278 (mI mi_137) = some (false, .aload_n 0, 279, 0, 0) := by decide +kernel
theorem ix_137_279 : lkp 279 (mI mi_137) = some (false, .getfield 59, 282, 12, 22) := by decide +kernel
theorem ix_137_282 : lkp 282 (mI mi_137) = some (false, .iload_n 1, 283, 1, 0) := by decide +kernel
theorem ix_137_283 : lkp 283 (mI mi_137) = some (false, .iconst 0, 284, 0, 0) := by decide +kernel
theorem ix_137_284 : lkp 284 (mI mi_137) = some (false, .iastore, 285, 0, 0) := by decide +kernel
theorem ix_137_285 : lkp 285 (mI mi_137) = some (false, .aload_n 0, 286, 0, 0) := by decide +kernel
theorem ix_137_286 : lkp 286 (mI mi_137) = some (false, .getfield 62, 289, 12, 23) := by decide +kernel
theorem ix_137_289 : lkp 289 (mI mi_137) = some (false, .iload_n 1, 290, 1, 0) := by decide +kernel
theorem ix_137_290 : lkp 290 (mI mi_137) = some (false, .iconst (-1), 291, 1, 1) := by decide +kernel
theorem ix_137_291 : lkp 291 (mI mi_137) = some (false, .iastore, 292, 0, 0) := by decide +kernel
theorem ix_137_292 : lkp 292 (mI mi_137) = some (false, .aload_n 0, 293, 0, 0) := by decide +kernel
theorem ix_137_293 : lkp 293 (mI mi_137) = some (false, .getfield 68, 296, 12, 25) := by decide +kernel
theorem ix_137_296 : lkp 296 (mI mi_137) = some (false, .iload_n 1, 297, 1, 0) := by decide +kernel
theorem ix_137_297 : lkp 297 (mI mi_137) = some (false, .bipush 30, 299, 30, 0) := by decide +kernel
theorem ix_137_299 : lkp 299 (mI mi_137) = some (false, .iastore, 300, 0, 0) := by decide +kernel
theorem ix_137_300 : lkp 300 (mI mi_137) = some (false, .aload_n 0, 301, 0, 0) := by decide +kernel
theorem ix_137_301 : lkp 301 (mI mi_137) = some (false, .getfield 71, 304, 12, 26) := by decide +kernel
theorem ix_137_304 : lkp 304 (mI mi_137) = some (false, .iload_n 1, 305, 1, 0) := by decide +kernel
theorem ix_137_305 : lkp 305 (mI mi_137) = some (false, .iconst 0, 306, 0, 0) := by decide +kernel
theorem ix_137_306 : lkp 306 (mI mi_137) = some (false, .iastore, 307, 0, 0) := by decide +kernel
theorem ix_137_307 : lkp 307 (mI mi_137) = some (false, .aload_n 0, 308, 0, 0) := by decide +kernel
theorem ix_137_308 : lkp 308 (mI mi_137) = some (false, .getfield 74, 311, 12, 27) := by decide +kernel
theorem ix_137_311 : lkp 311 (mI mi_137) = some (false, .iload_n 1, 312, 1, 0) := by decide +kernel
theorem ix_137_312 : lkp 312 (mI mi_137) = some (false, .iconst 0, 313, 0, 0) := by decide +kernel
theorem ix_137_313 : lkp 313 (mI mi_137) = some (false, .bastore, 314, 0, 0) := by decide +kernel
theorem ix_137_314 : lkp 314 (mI mi_137) = some (false, .aload_n 0, 315, 0, 0) := by decide +kernel
theorem ix_137_315 : lkp 315 (mI mi_137) = some (false, .getfield 77, 318, 12, 28) := by decide +kernel
theorem ix_137_318 : lkp 318 (mI mi_137) = some (false, .iload_n 1, 319, 1, 0) := by decide +kernel
theorem ix_137_319 : lkp 319 (mI mi_137) = some (false, .bipush (-2), 321, 2, 1) := by decide +kernel
theorem ix_137_321 : lkp 321 (mI mi_137) = some (false, .iastore, 322, 0, 0) := by decide +kernel
theorem ix_137_322 : lkp 322 (mI mi_137) = some (false, .aload_n 0, 323, 0, 0) := by decide +kernel
theorem ix_137_323 : lkp 323 (mI mi_137) = some (false, .getfield 80, 326, 12, 29) := by decide +kernel
theorem ix_137_326 : lkp 326 (mI mi_137) = some (false, .iload_n 1, 327, 1, 0) := by decide +kernel
theorem ix_137_327 : lkp 327 (mI mi_137) = some (false, .aload_n 0, 328, 0, 0) := by decide +kernel
theorem ix_137_328 : lkp 328 (mI mi_137) = some (false, .getfield 23, 331, 12, 6) := by decide +kernel
theorem ix_137_331 : lkp 331 (mI mi_137) = some (false, .iload_n 2, 332, 2, 0) := by decide +kernel
theorem ix_137_332 : lkp 332 (mI mi_137) = some (false, .iaload, 333, 0, 0) := by decide +kernel
theorem ix_137_333 : lkp 333 (mI mi_137) = some (false, .iastore, 334, 0, 0) := by decide +kernel
theorem ix_137_334 : lkp 334 (mI mi_137) = some (false, .aload_n 0, 335, 0, 0) := by decide +kernel
theorem ix_137_335 : lkp 335 (mI mi_137) = some (false, .getfield 83, 338, 12, 30) := by decide +kernel
theorem ix_137_338 : lkp 338 (mI mi_137) = some (false, .iload_n 1, 339, 1, 0) := by decide +kernel
theorem ix_137_339 : lkp 339 (mI mi_137) = some (false, .iconst 0, 340, 0, 0) := by decide +kernel
theorem ix_137_340 : lkp 340 (mI mi_137) = some (false, .iastore, 341, 0, 0) := by decide +kernel
theorem ix_137_341 : lkp 341 (mI mi_137) = some (false, .aload_n 0, 342, 0, 0) := by decide +kernel
theorem ix_137_342 : lkp 342 (mI mi_137) = some (false, .getfield 86, 345, 12, 31) := by decide +kernel
theorem ix_137_345 : lkp 345 (mI mi_137) = some (false, .iload_n 1, 346, 1, 0) := by decide +kernel
theorem ix_137_346 : lkp 346 (mI mi_137) = some (false, .iconst (-1), 347, 1, 1) := by decide +kernel
theorem ix_137_347 : lkp 347 (mI mi_137) = some (false, .iastore, 348, 0, 0) := by decide +kernel
theorem ix_137_348 : lkp 348 (mI mi_137) = some (false, .aload_n 0, 349, 0, 0) := by decide +kernel
theorem ix_137_349 : lkp 349 (mI mi_137) = some (false, .getfield 89, 352, 12, 32) := by decide +kernel
theorem ix_137_352 : lkp 352 (mI mi_137) = some (false, .iload_n 1, 353, 1, 0) := by decide +kernel
theorem ix_137_353 : lkp 353 (mI mi_137) = some (false, .iconst 0, 354, 0, 0) := by decide +kernel
theorem ix_137_354 : lkp 354 (mI mi_137) = some (false, .iastore, 355, 0, 0) := by decide +kernel
theorem ix_137_355 : lkp 355 (mI mi_137) = some (false, .return_, 356, 0, 0) := by decide +kernel
theorem ix_138_0 : lkp 0 (mI mi_138) = some (false, .aload_n 0, 1, 0, 0) := rfl
theorem ix_138_1 : lkp 1 (mI mi_138) = some (false, .getfield 65, 4, 12, 24) := rfl
theorem ix_138_4 : lkp 4 (mI mi_138) = some (false, .bipush 60, 6, 60, 0) := rfl
theorem ix_138_6 : lkp 6 (mI mi_138) = some (false, .iload_n 1, 7, 1, 0) := rfl
theorem ix_138_7 : lkp 7 (mI mi_138) = some (false, .imul, 8, 0, 0) := rfl
theorem ix_138_8 : lkp 8 (mI mi_138) = some (false, .iload_n 2, 9, 2, 0) := rfl
theorem ix_138_9 : lkp 9 (mI mi_138) = some (false, .ifCond .eq 12, 12, 0, 21) := rfl
theorem ix_138_12 : lkp 12 (mI mi_138) = some (false, .aload_n 0, 13, 0, 0) := rfl
theorem ix_138_13 : lkp 13 (mI mi_138) = some (false, .getfield 68, 16, 12, 25) := rfl
theorem ix_138_16 : lkp 16 (mI mi_138) = some (false, .iload_n 1, 17, 1, 0) := rfl
theorem ix_138_17 : lkp 17 (mI mi_138) = some (false, .iaload, 18, 0, 0) := rfl
theorem ix_138_18 : lkp 18 (mI mi_138) = some (false, .goto 18, 21, 0, 36) := rfl
theorem ix_138_21 : lkp 21 (mI mi_138) = some (false, .aload_n 0, 22, 0, 0) := rfl
theorem ix_138_22 : lkp 22 (mI mi_138) = some (false, .getfield 68, 25, 12, 25) := rfl
theorem ix_138_25 : lkp 25 (mI mi_138) = some (false, .iload_n 1, 26, 1, 0) := rfl
theorem ix_138_26 : lkp 26 (mI mi_138) = some (false, .iaload, 27, 0, 0) := rfl
theorem ix_138_27 : lkp 27 (mI mi_138) = some (false, .aload_n 0, 28, 0, 0) := rfl
theorem ix_138_28 : lkp 28 (mI mi_138) = some (false, .getfield 71, 31, 12, 26) := rfl
theorem ix_138_31 : lkp 31 (mI mi_138) = some (false, .iload_n 1, 32, 1, 0) := rfl
theorem ix_138_32 : lkp 32 (mI mi_138) = some (false, .iaload, 33, 0, 0) := rfl
theorem ix_138_33 : lkp 33 (mI mi_138) = some (false, .iadd, 34, 0, 0) := rfl
theorem ix_138_34 : lkp 34 (mI mi_138) = some (false, .iconst 1, 35, 1, 0) := rfl
theorem ix_138_35 : lkp 35 (mI mi_138) = some (false, .isub, 36, 0, 0) := rfl
theorem ix_138_36 : lkp 36 (mI mi_138) = some (false, .iadd, 37, 0, 0) := rfl
theorem ix_138_37 : lkp 37 (mI mi_138) = some (false, .iaload, 38, 0, 0) := rfl
theorem ix_138_38 : lkp 38 (mI mi_138) = some (false, .istore_n 3, 39, 3, 0) := rfl
theorem ix_138_39 : lkp 39 (mI mi_138) = some (false, .iload_n 2, 40, 2, 0) := rfl
theorem ix_138_40 : lkp 40 (mI mi_138) = some (false, .ifCond .eq 10, 43, 0, 50) := rfl
theorem ix_138_43 : lkp 43 (mI mi_138) = some (false, .iload_n 3, 44, 3, 0) := rfl
theorem ix_138_44 : lkp 44 (mI mi_138) = some (false, .bipush 10, 46, 10, 0) := rfl
theorem ix_138_46 : lkp 46 (mI mi_138) = some (false, .idiv, 47, 0, 0) := rfl
theorem ix_138_47 : lkp 47 (mI mi_138) = some (false, .goto 7, 50, 0, 54) := rfl
theorem ix_138_50 : lkp 50 (mI mi_138) = some (false, .iload_n 3, 51, 3, 0) := rfl
theorem ix_138_51 : lkp 51 (mI mi_138) = some (false, .bipush 10, 53, 10, 0) := rfl
theorem ix_138_53 : lkp 53 (mI mi_138) = some (false, .irem, 54, 0, 0) := rfl
theorem ix_138_54 : lkp 54 (mI mi_138) = some (false, .ireturn, 55, 0, 0) := rfl
theorem ix_139_0 : lkp 0 (mI mi_139) = some (false, .iload_n 2, 1, 2, 0) := rfl
theorem ix_139_1 : lkp 1 (mI mi_139) = some (false, .aload_n 0, 2, 0, 0) := rfl
theorem ix_139_2 : lkp 2 (mI mi_139) = some (false, .getfield 7, 5, 12, 2) := rfl
theorem ix_139_5 : lkp 5 (mI mi_139) = some (false, .aload_n 0, 6, 0, 0) := rfl
theorem ix_139_6 : lkp 6 (mI mi_139) = some (false, .getfield 44, 9, 12, 17) := rfl
theorem ix_139_9 : lkp 9 (mI mi_139) = some (false, .iload_n 1, 10, 1, 0) := rfl
theorem ix_139_10 : lkp 10 (mI mi_139) = some (false, .iaload, 11, 0, 0) := rfl
theorem ix_139_11 : lkp 11 (mI mi_139) = some (false, .iaload, 12, 0, 0) := rfl
theorem ix_139_12 : lkp 12 (mI mi_139) = some (false, .invokestatic 171, 15, 132, 2) := rfl
theorem ix_139_15 : lkp 15 (mI mi_139) = some (false, .istore 5, 17, 5, 0) := rfl
theorem ix_139_17 : lkp 17 (mI mi_139) = some (false, .iload_n 2, 18, 2, 0) := rfl
theorem ix_139_18 : lkp 18 (mI mi_139) = some (false, .aload_n 0, 19, 0, 0) := rfl
theorem ix_139_19 : lkp 19 (mI mi_139) = some (false, .getfield 7, 22, 12, 2) := rfl
theorem ix_139_22 : lkp 22 (mI mi_139) = some (false, .aload_n 0, 23, 0, 0) := rfl
theorem ix_139_23 : lkp 23 (mI mi_139) = some (false, .getfield 44, 26, 12, 17) := rfl
theorem ix_139_26 : lkp 26 (mI mi_139) = some (false, .iload_n 1, 27, 1, 0) := rfl
theorem ix_139_27 : lkp 27 (mI mi_139) = some (false, .iaload, 28, 0, 0) := rfl
theorem ix_139_28 : lkp 28 (mI mi_139) = some (false, .iaload, 29, 0, 0) := rfl
theorem ix_139_29 : lkp 29 (mI mi_139) = some (false, .invokestatic 175, 32, 133, 2) := rfl
theorem ix_139_32 : lkp 32 (mI mi_139) = some (false, .istore 6, 34, 6, 0) := rfl
theorem ix_139_34 : lkp 34 (mI mi_139) = some (false, .aload_n 0, 35, 0, 0) := rfl
theorem ix_139_35 : lkp 35 (mI mi_139) = some (false, .getfield 71, 38, 12, 26) := rfl
theorem ix_139_38 : lkp 38 (mI mi_139) = some (false, .iload_n 1, 39, 1, 0) := rfl
theorem ix_139_39 : lkp 39 (mI mi_139) = some (false, .iaload, 40, 0, 0) := rfl
theorem ix_139_40 : lkp 40 (mI mi_139) = some (false, .ifCond .ne 30, 43, 0, 70) := rfl
theorem ix_139_43 : lkp 43 (mI mi_139) = some (false, .aload_n 0, 44, 0, 0) := rfl
theorem ix_139_44 : lkp 44 (mI mi_139) = some (false, .getfield 65, 47, 12, 24) := rfl
theorem ix_139_47 : lkp 47 (mI mi_139) = some (false, .bipush 60, 49, 60, 0) := rfl
theorem ix_139_49 : lkp 49 (mI mi_139) = some (false, .iload_n 1, 50, 1, 0) := rfl
theorem ix_139_50 : lkp 50 (mI mi_139) = some (false, .imul, 51, 0, 0) := rfl
theorem ix_139_51 : lkp 51 (mI mi_139) = some (false, .aload_n 0, 52, 0, 0) := rfl
theorem ix_139_52 : lkp 52 (mI mi_139) = some (false, .getfield 68, 55, 12, 25) := rfl
theorem ix_139_55 : lkp 55 (mI mi_139) = some (false, .iload_n 1, 56, 1, 0) := rfl
theorem ix_139_56 : lkp 56 (mI mi_139) = some (false, .iaload, 57, 0, 0) := rfl
theorem ix_139_57 : lkp 57 (mI mi_139) = some (false, .iadd, 58, 0, 0) := rfl
theorem ix_139_58 : lkp 58 (mI mi_139) = some (false, .bipush 10, 60, 10, 0) := rfl
theorem ix_139_60 : lkp 60 (mI mi_139) = some (false, .iload 5, 62, 5, 0) := rfl
theorem ix_139_62 : lkp 62 (mI mi_139) = some (false, .imul, 63, 0, 0) := rfl
theorem ix_139_63 : lkp 63 (mI mi_139) = some (false, .iload 6, 65, 6, 0) := rfl
theorem ix_139_65 : lkp 65 (mI mi_139) = some (false, .iadd, 66, 0, 0) := rfl
theorem ix_139_66 : lkp 66 (mI mi_139) = some (false, .iastore, 67, 0, 0) := rfl
theorem ix_139_67 : lkp 67 (mI mi_139) = some (false, .goto 127, 70, 0, 194) := rfl
theorem ix_139_70 : lkp 70 (mI mi_139) = some (false, .iload_n 3, 71, 3, 0) := rfl
theorem ix_139_71 : lkp 71 (mI mi_139) = some (false, .ifCond .eq 66, 74, 0, 137) := rfl
theorem ix_139_74 : lkp 74 (mI mi_139) = some (false, .aload_n 0, 75, 0, 0) := rfl
theorem ix_139_75 : lkp 75 (mI mi_139) = some (false, .iload_n 1, 76, 1, 0) := rfl
theorem ix_139_76 : lkp 76 (mI mi_139) = some (false, .iconst 1, 77, 1, 0) := rfl
theorem ix_139_77 : lkp 77 (mI mi_139) = some (false, .invokevirtual 178, 80, 138, 194) := rfl
theorem ix_139_80 : lkp 80 (mI mi_139) = some (false, .istore 7, 82, 7, 0) := rfl
theorem ix_139_82 : lkp 82 (mI mi_139) = some (false, .aload_n 0, 83, 0, 0) := rfl
theorem ix_139_83 : lkp 83 (mI mi_139) = some (false, .getfield 68, 86, 12, 25) := rfl
theorem ix_139_86 : lkp 86 (mI mi_139) = some (false, .iload_n 1, 87, 1, 0) := rfl
theorem ix_139_87 : lkp 87 (mI mi_139) = some (false, .dup2, 88, 0, 0) := rfl
theorem ix_139_88 : lkp 88 (mI mi_139) = some (false, .iaload, 89, 0, 0) := rfl
theorem ix_139_89 : lkp 89 (mI mi_139) = some (false, .iconst 1, 90, 1, 0) := rfl
theorem ix_139_90 : lkp 90 (mI mi_139) = some (false, .isub, 91, 0, 0) := rfl
theorem ix_139_91 : lkp 91 (mI mi_139) = some (false, .iastore, 92, 0, 0) := rfl
theorem ix_139_92 : lkp 92 (mI mi_139) = some (false, .aload_n 0, 93, 0, 0) := rfl
theorem ix_139_93 : lkp 93 (mI mi_139) = some (false, .getfield 65, 96, 12, 24) := rfl
theorem ix_139_96 : lkp 96 (mI mi_139) = some (false, .bipush 60, 98, 60, 0) := rfl
theorem ix_139_98 : lkp 98 (mI mi_139) = some (false, .iload_n 1, 99, 1, 0) := rfl
theorem ix_139_99 : lkp 99 (mI mi_139) = some (false, .imul, 100, 0, 0) := rfl
theorem ix_139_100 : lkp 100 (mI mi_139) = some (false, .aload_n 0, 101, 0, 0) := rfl
theorem ix_139_101 : lkp 101 (mI mi_139) = some (false, .getfield 68, 104, 12, 25) := rfl
theorem ix_139_104 : lkp 104 (mI mi_139) = some (false, .iload_n 1, 105, 1, 0) := rfl
theorem ix_139_105 : lkp 105 (mI mi_139) = some (false, .iaload, 106, 0, 0) := rfl
theorem ix_139_106 : lkp 106 (mI mi_139) = some (false, .iadd, 107, 0, 0) := rfl
theorem ix_139_107 : lkp 107 (mI mi_139) = some (false, .iload 6, 109, 6, 0) := rfl
theorem ix_139_109 : lkp 109 (mI mi_139) = some (false, .iload 7, 111, 7, 0) := rfl
theorem ix_139_111 : lkp 111 (mI mi_139) = some (false, .if_icmp .ne 14, 114, 0, 125) := rfl
theorem ix_139_114 : lkp 114 (mI mi_139) = some (false, .bipush 10, 116, 10, 0) := rfl
theorem ix_139_116 : lkp 116 (mI mi_139) = some (false, .iload 5, 118, 5, 0) := rfl
theorem ix_139_118 : lkp 118 (mI mi_139) = some (false, .imul, 119, 0, 0) := rfl
theorem ix_139_119 : lkp 119 (mI mi_139) = some (false, .iload 6, 121, 6, 0) := rfl
theorem ix_139_121 : lkp 121 (mI mi_139) = some (false, .iadd, 122, 0, 0) := rfl
theorem ix_139_122 : lkp 122 (mI mi_139) = some (false, .goto 11, 125, 0, 133) := rfl
theorem ix_139_125 : lkp 125 (mI mi_139) = some (false, .bipush 10, 127, 10, 0) := rfl
theorem ix_139_127 : lkp 127 (mI mi_139) = some (false, .iload 6, 129, 6, 0) := rfl
theorem ix_139_129 : lkp 129 (mI mi_139) = some (false, .imul, 130, 0, 0) := rfl
theorem ix_139_130 : lkp 130 (mI mi_139) = some (false, .iload 5, 132, 5, 0) := rfl
theorem ix_139_132 : lkp 132 (mI mi_139) = some (false, .iadd, 133, 0, 0) := rfl
theorem ix_139_133 : lkp 133 (mI mi_139) = some (false, .iastore, 134, 0, 0) := rfl
theorem ix_139_134 : lkp 134 (mI mi_139) = some (false, .goto 60, 137, 0, 194) := rfl
theorem ix_139_137 : lkp 137 (mI mi_139) = some (false, .aload_n 0, 138, 0, 0) := rfl
theorem ix_139_138 : lkp 138 (mI mi_139) = some (false, .iload_n 1, 139, 1, 0) := rfl
theorem ix_139_139 : lkp 139 (mI mi_139) = some (false, .iconst 0, 140, 0, 0) := rfl
theorem ix_139_140 : lkp 140 (mI mi_139) = some (false, .invokevirtual 178, 143, 138, 194) := rfl
theorem ix_139_143 : lkp 143 (mI mi_139) = some (false, .istore 7, 145, 7, 0) := rfl
theorem ix_139_145 : lkp 145 (mI mi_139) = some (false, .aload_n 0, 146, 0, 0) := rfl
theorem ix_139_146 : lkp 146 (mI mi_139) = some (false, .getfield 65, 149, 12, 24) := rfl
theorem ix_139_149 : lkp 149 (mI mi_139) = some (false, .bipush 60, 151, 60, 0) := rfl
theorem ix_139_151 : lkp 151 (mI mi_139) = some (false, .iload_n 1, 152, 1, 0) := rfl
theorem ix_139_152 : lkp 152 (mI mi_139) = some (false, .imul, 153, 0, 0) := rfl
theorem ix_139_153 : lkp 153 (mI mi_139) = some (false, .aload_n 0, 154, 0, 0) := rfl
theorem ix_139_154 : lkp 154 (mI mi_139) = some (false, .getfield 68, 157, 12, 25) := rfl
theorem ix_139_157 : lkp 157 (mI mi_139) = some (false, .iload_n 1, 158, 1, 0) := rfl
theorem ix_139_158 : lkp 158 (mI mi_139) = some (false, .iaload, 159, 0, 0) := rfl
theorem ix_139_159 : lkp 159 (mI mi_139) = some (false, .iadd, 160, 0, 0) := rfl
theorem ix_139_160 : lkp 160 (mI mi_139) = some (false, .aload_n 0, 161, 0, 0) := rfl
theorem ix_139_161 : lkp 161 (mI mi_139) = some (false, .getfield 71, 164, 12, 26) := rfl
theorem ix_139_164 : lkp 164 (mI mi_139) = some (false, .iload_n 1, 165, 1, 0) := by decide +kernel
theorem ix_139_165 : lkp 165 (mI mi_139) = some (false, .iaload, 166, 0, 0) := by decide +kernel
theorem ix_139_166 : lkp 166 (mI mi_139) = some (false, .iadd, 167, 0, 0) := by decide +kernel
theorem ix_139_167 : lkp 167 (mI mi_139) = some (false, .iload 5, 169, 5, 0) := by decide +kernel
theorem ix_139_169 : lkp 169 (mI mi_139) = some (false, .iload 7, 171, 7, 0) := by decide +kernel
theorem ix_139_171 : lkp 171 (mI mi_139) = some (false, .if_icmp .ne 14, 174, 0, 185) := by decide +kernel
theorem ix_139_174 : lkp 174 (mI mi_139) = some (false, .bipush 10, 176, 10, 0) := by decide +kernel
theorem ix_139_176 : lkp 176 (mI mi_139) = some (false, .iload 5, 178, 5, 0) := by decide +kernel
theorem ix_139_178 : lkp 178 (mI mi_139) = some (false, .imul, 179, 0, 0) := by decide +kernel
theorem ix_139_179 : lkp 179 (mI mi_139) = some (false, .iload 6, 181, 6, 0) := by decide +kernel
theorem ix_139_181 : lkp 181 (mI mi_139) = some (false, .iadd, 182, 0, 0) := by decide +kernel
theorem ix_139_182 : lkp 182 (mI mi_139) = some (false, .goto 11, 185, 0, 193) := by decide +kernel
theorem ix_139_185 : lkp 185 (mI mi_139) = some (false, .bipush 10, 187, 10, 0) := by decide +kernel
theorem ix_139_187 : lkp 187 (mI mi_139) = some (false, .iload 6, 189, 6, 0) := by decide +kernel
theorem ix_139_189 : lkp 189 (mI mi_139) = some (false, .imul, 190, 0, 0) := by decide +kernel
theorem ix_139_190 : lkp 190 (mI mi_139) = some (false, .iload 5, 192, 5, 0) := by decide +kernel
theorem ix_139_192 : lkp 192 (mI mi_139) = some (false, .iadd, 193, 0, 0) := by decide +kernel
theorem ix_139_193 : lkp 193 (mI mi_139) = some (false, .iastore, 194, 0, 0) := by decide +kernel
theorem ix_139_194 : lkp 194 (mI mi_139) = some (false, .aload_n 0, 195, 0, 0) := by decide +kernel
theorem ix_139_195 : lkp 195 (mI mi_139) = some (false, .getfield 71, 198, 12, 26) := by decide +kernel
theorem ix_139_198 : lkp 198 (mI mi_139) = some (false, .iload_n 1, 199, 1, 0) := by decide +kernel
theorem ix_139_199 : lkp 199 (mI mi_139) = some (false, .dup2, 200, 0, 0) := by decide +kernel
theorem ix_139_200 : lkp 200 (mI mi_139) = some (false, .iaload, 201, 0, 0) := by decide +kernel
theorem ix_139_201 : lkp 201 (mI mi_139) = some (false, .iconst 1, 202, 1, 0) := by decide +kernel
theorem ix_139_202 : lkp 202 (mI mi_139) = some (false, .iadd, 203, 0, 0) := by decide +kernel
theorem ix_139_203 : lkp 203 (mI mi_139) = some (false, .iastore, 204, 0, 0) := by decide +kernel
theorem ix_139_204 : lkp 204 (mI mi_139) = some (false, .aload_n 0, 205, 0, 0) := by decide +kernel
theorem ix_139_205 : lkp 205 (mI mi_139) = some (false, .getfield 56, 208, 12, 21) := by decide +kernel
theorem ix_139_208 : lkp 208 (mI mi_139) = some (false, .iload_n 1, 209, 1, 0) := by decide +kernel
theorem ix_139_209 : lkp 209 (mI mi_139) = some (false, .iaload, 210, 0, 0) := by decide +kernel
theorem ix_139_210 : lkp 210 (mI mi_139) = some (false, .istore 7, 212, 7, 0) := by decide +kernel
theorem ix_139_212 : lkp 212 (mI mi_139) = some (false, .aload_n 0, 213, 0, 0) := by decide +kernel
theorem ix_139_213 : lkp 213 (mI mi_139) = some (false, .getfield 50, 216, 12, 19) := by decide +kernel
theorem ix_139_216 : lkp 216 (mI mi_139) = some (false, .iconst 4, 217, 4, 0) := by decide +kernel
theorem ix_139_217 : lkp 217 (mI mi_139) = some (false, .iload_n 1, 218, 1, 0) := by decide +kernel
theorem ix_139_218 : lkp 218 (mI mi_139) = some (false, .imul, 219, 0, 0) := by decide +kernel
theorem ix_139_219 : lkp 219 (mI mi_139) = some (false, .iload 7, 221, 7, 0) := by decide +kernel
theorem ix_139_221 : lkp 221 (mI mi_139) = some (false, .iadd, 222, 0, 0) := by decide +kernel
theorem ix_139_222 : lkp 222 (mI mi_139) = some (false, .dup2, 223, 0, 0) := by decide +kernel
theorem ix_139_223 : lkp 223 (mI mi_139) = some (false, .iaload, 224, 0, 0) := by decide +kernel
theorem ix_139_224 : lkp 224 (mI mi_139) = some (false, .iconst 1, 225, 1, 0) := by decide +kernel
theorem ix_139_225 : lkp 225 (mI mi_139) = some (false, .iload_n 2, 226, 2, 0) := by decide +kernel
theorem ix_139_226 : lkp 226 (mI mi_139) = some (false, .ishl, 227, 0, 0) := by decide +kernel
theorem ix_139_227 : lkp 227 (mI mi_139) = some (false, .ixor, 228, 0, 0) := by decide +kernel
theorem ix_139_228 : lkp 228 (mI mi_139) = some (false, .iastore, 229, 0, 0) := by decide +kernel
theorem ix_139_229 : lkp 229 (mI mi_139) = some (false, .aload_n 0, 230, 0, 0) := by decide +kernel
theorem ix_139_230 : lkp 230 (mI mi_139) = some (false, .getfield 62, 233, 12, 23) := by decide +kernel
theorem ix_139_233 : lkp 233 (mI mi_139) = some (false, .iload_n 1, 234, 1, 0) := by decide +kernel
theorem ix_139_234 : lkp 234 (mI mi_139) = some (false, .iload 7, 236, 7, 0) := by decide +kernel
theorem ix_139_236 : lkp 236 (mI mi_139) = some (false, .iastore, 237, 0, 0) := by decide +kernel
theorem ix_139_237 : lkp 237 (mI mi_139) = some (false, .aload_n 0, 238, 0, 0) := by decide +kernel
theorem ix_139_238 : lkp 238 (mI mi_139) = some (false, .getfield 59, 241, 12, 22) := by decide +kernel
theorem ix_139_241 : lkp 241 (mI mi_139) = some (false, .iload_n 1, 242, 1, 0) := by decide +kernel
theorem ix_139_242 : lkp 242 (mI mi_139) = some (false, .iconst 0, 243, 0, 0) := by decide +kernel
theorem ix_139_243 : lkp 243 (mI mi_139) = some (false, .iastore, 244, 0, 0) := by decide +kernel
theorem ix_139_244 : lkp 244 (mI mi_139) = some (false, .aload_n 0, 245, 0, 0) := by decide +kernel
theorem ix_139_245 : lkp 245 (mI mi_139) = some (false, .getfield 50, 248, 12, 19) := by decide +kernel
theorem ix_139_248 : lkp 248 (mI mi_139) = some (false, .iconst 4, 249, 4, 0) := by decide +kernel
theorem ix_139_249 : lkp 249 (mI mi_139) = some (false, .iload_n 1, 250, 1, 0) := by decide +kernel
theorem ix_139_250 : lkp 250 (mI mi_139) = some (false, .imul, 251, 0, 0) := by decide +kernel
theorem ix_139_251 : lkp 251 (mI mi_139) = some (false, .iload 7, 253, 7, 0) := by decide +kernel
theorem ix_139_253 : lkp 253 (mI mi_139) = some (false, .iadd, 254, 0, 0) := by decide +kernel
theorem ix_139_254 : lkp 254 (mI mi_139) = some (false, .iaload, 255, 0, 0) := by decide +kernel
theorem ix_139_255 : lkp 255 (mI mi_139) = some (false, .ifCond .ne 28, 258, 0, 283) := by decide +kernel
theorem ix_139_258 : lkp 258 (mI mi_139) = some (false, .aload_n 0, 259, 0, 0) := by decide +kernel
theorem ix_139_259 : lkp 259 (mI mi_139) = some (false, .getfield 77, 262, 12, 28) := by decide +kernel
theorem ix_139_262 : lkp 262 (mI mi_139) = some (false, .iload_n 1, 263, 1, 0) := by decide +kernel
theorem ix_139_263 : lkp 263 (mI mi_139) = some (false, .iload 7, 265, 7, 0) := by decide +kernel
theorem ix_139_265 : lkp 265 (mI mi_139) = some (false, .iastore, 266, 0, 0) := by decide +kernel
theorem ix_139_266 : lkp 266 (mI mi_139) = some (false, .aload_n 0, 267, 0, 0) := by decide +kernel
theorem ix_139_267 : lkp 267 (mI mi_139) = some (false, .getfield 86, 270, 12, 31) := by decide +kernel
theorem ix_139_270 : lkp 270 (mI mi_139) = some (false, .iload_n 1, 271, 1, 0) := by decide +kernel
theorem ix_139_271 : lkp 271 (mI mi_139) = some (false, .iload 4, 273, 4, 0) := by decide +kernel
theorem ix_139_273 : lkp 273 (mI mi_139) = some (false, .iastore, 274, 0, 0) := by decide +kernel
theorem ix_139_274 : lkp 274 (mI mi_139) = some (false, .aload_n 0, 275, 0, 0) := by decide +kernel
theorem ix_139_275 : lkp 275 (mI mi_139) = some (false, .iload_n 1, 276, 1, 0) := by decide +kernel
theorem ix_139_276 : lkp 276 (mI mi_139) = some (false, .iconst 1, 277, 1, 0) := by decide +kernel
theorem ix_139_277 : lkp 277 (mI mi_139) = some (false, .invokevirtual 154, 280, 144, 194) := by decide +kernel
theorem ix_139_280 : lkp 280 (mI mi_139) = some (false, .goto 19, 283, 0, 299) := by decide +kernel
theorem ix_139_283 : lkp 283 (mI mi_139) = some (false, .aload_n 0, 284, 0, 0) := by decide +kernel
theorem ix_139_284 : lkp 284 (mI mi_139) = some (false, .getfield 56, 287, 12, 21) := by decide +kernel
theorem ix_139_287 : lkp 287 (mI mi_139) = some (false, .iload_n 1, 288, 1, 0) := by decide +kernel
theorem ix_139_288 : lkp 288 (mI mi_139) = some (false, .iload 7, 290, 7, 0) := by decide +kernel
theorem ix_139_290 : lkp 290 (mI mi_139) = some (false, .iconst 1, 291, 1, 0) := by decide +kernel
theorem ix_139_291 : lkp 291 (mI mi_139) = some (false, .iadd, 292, 0, 0) := by decide +kernel
theorem ix_139_292 : lkp 292 (mI mi_139) = some (false, .aload_n 0, 293, 0, 0) := by decide +kernel
theorem ix_139_293 : lkp 293 (mI mi_139) = some (false, .iload_n 1, 294, 1, 0) := by decide +kernel
theorem ix_139_294 : lkp 294 (mI mi_139) = some (false, .invokevirtual 182, 297, 131, 193) := by decide +kernel
theorem ix_139_297 : lkp 297 (mI mi_139) = some (false, .irem, 298, 0, 0) := by decide +kernel
theorem ix_139_298 : lkp 298 (mI mi_139) = some (false, .iastore, 299, 0, 0) := by decide +kernel
theorem ix_139_299 : lkp 299 (mI mi_139) = some (false, .return_, 300, 0, 0) := by decide +kernel
theorem ix_140_0 : lkp 0 (mI mi_140) = some (false, .aload_n 0, 1, 0, 0) := rfl
theorem ix_140_1 : lkp 1 (mI mi_140) = some (false, .getfield 59, 4, 12, 22) := rfl
theorem ix_140_4 : lkp 4 (mI mi_140) = some (false, .iload_n 1, 5, 1, 0) := rfl
theorem ix_140_5 : lkp 5 (mI mi_140) = some (false, .dup2, 6, 0, 0) := rfl
theorem ix_140_6 : lkp 6 (mI mi_140) = some (false, .iaload, 7, 0, 0) := rfl
theorem ix_140_7 : lkp 7 (mI mi_140) = some (false, .iconst 1, 8, 1, 0) := rfl
theorem ix_140_8 : lkp 8 (mI mi_140) = some (false, .iadd, 9, 0, 0) := rfl
theorem ix_140_9 : lkp 9 (mI mi_140) = some (false, .iastore, 10, 0, 0) := rfl
theorem ix_140_10 : lkp 10 (mI mi_140) = some (false, .aload_n 0, 11, 0, 0) := rfl
theorem ix_140_11 : lkp 11 (mI mi_140) = some (false, .getfield 59, 14, 12, 22) := rfl
theorem ix_140_14 : lkp 14 (mI mi_140) = some (false, .iload_n 1, 15, 1, 0) := rfl
theorem ix_140_15 : lkp 15 (mI mi_140) = some (false, .iaload, 16, 0, 0) := rfl
theorem ix_140_16 : lkp 16 (mI mi_140) = some (false, .aload_n 0, 17, 0, 0) := rfl
theorem ix_140_17 : lkp 17 (mI mi_140) = some (false, .iload_n 1, 18, 1, 0) := rfl
theorem ix_140_18 : lkp 18 (mI mi_140) = some (false, .invokevirtual 182, 21, 131, 193) := rfl
theorem ix_140_21 : lkp 21 (mI mi_140) = some (false, .if_icmp .ne 37, 24, 0, 58) := rfl
theorem ix_140_24 : lkp 24 (mI mi_140) = some (false, .aload_n 0, 25, 0, 0) := rfl
theorem ix_140_25 : lkp 25 (mI mi_140) = some (false, .getfield 74, 28, 12, 27) := rfl
theorem ix_140_28 : lkp 28 (mI mi_140) = some (false, .iload_n 1, 29, 1, 0) := rfl
theorem ix_140_29 : lkp 29 (mI mi_140) = some (false, .iconst 1, 30, 1, 0) := rfl
theorem ix_140_30 : lkp 30 (mI mi_140) = some (false, .bastore, 31, 0, 0) := rfl
theorem ix_140_31 : lkp 31 (mI mi_140) = some (false, .aload_n 0, 32, 0, 0) := rfl
theorem ix_140_32 : lkp 32 (mI mi_140) = some (false, .getfield 77, 35, 12, 28) := rfl
theorem ix_140_35 : lkp 35 (mI mi_140) = some (false, .iload_n 1, 36, 1, 0) := rfl
theorem ix_140_36 : lkp 36 (mI mi_140) = some (false, .aload_n 0, 37, 0, 0) := rfl
theorem ix_140_37 : lkp 37 (mI mi_140) = some (false, .iload_n 1, 38, 1, 0) := rfl
theorem ix_140_38 : lkp 38 (mI mi_140) = some (false, .invokevirtual 157, 41, 142, 193) := rfl
theorem ix_140_41 : lkp 41 (mI mi_140) = some (false, .iastore, 42, 0, 0) := rfl
theorem ix_140_42 : lkp 42 (mI mi_140) = some (false, .aload_n 0, 43, 0, 0) := rfl
theorem ix_140_43 : lkp 43 (mI mi_140) = some (false, .getfield 86, 46, 12, 31) := rfl
theorem ix_140_46 : lkp 46 (mI mi_140) = some (false, .iload_n 1, 47, 1, 0) := rfl
theorem ix_140_47 : lkp 47 (mI mi_140) = some (false, .iload_n 2, 48, 2, 0) := rfl
theorem ix_140_48 : lkp 48 (mI mi_140) = some (false, .iastore, 49, 0, 0) := rfl
theorem ix_140_49 : lkp 49 (mI mi_140) = some (false, .aload_n 0, 50, 0, 0) := rfl
theorem ix_140_50 : lkp 50 (mI mi_140) = some (false, .iload_n 1, 51, 1, 0) := rfl
theorem ix_140_51 : lkp 51 (mI mi_140) = some (false, .iconst 1, 52, 1, 0) := rfl
theorem ix_140_52 : lkp 52 (mI mi_140) = some (false, .invokevirtual 154, 55, 144, 194) := rfl
theorem ix_140_55 : lkp 55 (mI mi_140) = some (false, .goto 23, 58, 0, 78) := rfl
theorem ix_140_58 : lkp 58 (mI mi_140) = some (false, .aload_n 0, 59, 0, 0) := rfl
theorem ix_140_59 : lkp 59 (mI mi_140) = some (false, .getfield 56, 62, 12, 21) := rfl
theorem ix_140_62 : lkp 62 (mI mi_140) = some (false, .iload_n 1, 63, 1, 0) := rfl
theorem ix_140_63 : lkp 63 (mI mi_140) = some (false, .aload_n 0, 64, 0, 0) := rfl
theorem ix_140_64 : lkp 64 (mI mi_140) = some (false, .getfield 56, 67, 12, 21) := rfl
theorem ix_140_67 : lkp 67 (mI mi_140) = some (false, .iload_n 1, 68, 1, 0) := rfl
theorem ix_140_68 : lkp 68 (mI mi_140) = some (false, .iaload, 69, 0, 0) := rfl
theorem ix_140_69 : lkp 69 (mI mi_140) = some (false, .iconst 1, 70, 1, 0) := rfl
theorem ix_140_70 : lkp 70 (mI mi_140) = some (false, .iadd, 71, 0, 0) := rfl
theorem ix_140_71 : lkp 71 (mI mi_140) = some (false, .aload_n 0, 72, 0, 0) := rfl
theorem ix_140_72 : lkp 72 (mI mi_140) = some (false, .iload_n 1, 73, 1, 0) := rfl
theorem ix_140_73 : lkp 73 (mI mi_140) = some (false, .invokevirtual 182, 76, 131, 193) := rfl
theorem ix_140_76 : lkp 76 (mI mi_140) = some (false, .irem, 77, 0, 0) := rfl
theorem ix_140_77 : lkp 77 (mI mi_140) = some (false, .iastore, 78, 0, 0) := rfl
theorem ix_140_78 : lkp 78 (mI mi_140) = some (false, .return_, 79, 0, 0) := rfl
theorem ix_141_0 : lkp 0 (mI mi_141) = some (false, .iconst 0, 1, 0, 0) := rfl
theorem ix_141_1 : lkp 1 (mI mi_141) = some (false, .istore_n 3, 2, 3, 0) := rfl
theorem ix_141_2 : lkp 2 (mI mi_141) = some (false, .iconst 0, 3, 0, 0) := rfl
theorem ix_141_3 : lkp 3 (mI mi_141) = some (false, .istore 4, 5, 4, 0) := rfl
theorem ix_141_5 : lkp 5 (mI mi_141) = some (true, .iload 4, 7, 4, 0) := rfl
theorem ix_141_7 : lkp 7 (mI mi_141) = some (false, .aload_n 0, 8, 0, 0) := rfl
theorem ix_141_8 : lkp 8 (mI mi_141) = some (false, .iload_n 1, 9, 1, 0) := rfl
theorem ix_141_9 : lkp 9 (mI mi_141) = some (false, .invokevirtual 160, 12, 130, 193) := rfl
theorem ix_141_12 : lkp 12 (mI mi_141) = some (false, .if_icmp .ge 80, 15, 0, 92) := rfl
theorem ix_141_15 : lkp 15 (mI mi_141) = some (false, .aload_n 0, 16, 0, 0) := rfl
theorem ix_141_16 : lkp 16 (mI mi_141) = some (false, .getfield 50, 19, 12, 19) := rfl
theorem ix_141_19 : lkp 19 (mI mi_141) = some (false, .iconst 4, 20, 4, 0) := rfl
theorem ix_141_20 : lkp 20 (mI mi_141) = some (false, .iload_n 1, 21, 1, 0) := rfl
theorem ix_141_21 : lkp 21 (mI mi_141) = some (false, .imul, 22, 0, 0) := rfl
theorem ix_141_22 : lkp 22 (mI mi_141) = some (false, .iload_n 2, 23, 2, 0) := rfl
theorem ix_141_23 : lkp 23 (mI mi_141) = some (false, .iadd, 24, 0, 0) := rfl
theorem ix_141_24 : lkp 24 (mI mi_141) = some (false, .iaload, 25, 0, 0) := rfl
theorem ix_141_25 : lkp 25 (mI mi_141) = some (false, .iload 4, 27, 4, 0) := rfl
theorem ix_141_27 : lkp 27 (mI mi_141) = some (false, .ishr, 28, 0, 0) := rfl
theorem ix_141_28 : lkp 28 (mI mi_141) = some (false, .iconst 1, 29, 1, 0) := rfl
theorem ix_141_29 : lkp 29 (mI mi_141) = some (false, .iand, 30, 0, 0) := rfl
theorem ix_141_30 : lkp 30 (mI mi_141) = some (false, .iconst 1, 31, 1, 0) := rfl
theorem ix_141_31 : lkp 31 (mI mi_141) = some (false, .if_icmp .ne 7, 34, 0, 38) := rfl
theorem ix_141_34 : lkp 34 (mI mi_141) = some (false, .iconst 1, 35, 1, 0) := rfl
theorem ix_141_35 : lkp 35 (mI mi_141) = some (false, .goto 4, 38, 0, 39) := rfl
theorem ix_141_38 : lkp 38 (mI mi_141) = some (false, .iconst 0, 39, 0, 0) := rfl
theorem ix_141_39 : lkp 39 (mI mi_141) = some (false, .istore 5, 41, 5, 0) := rfl
theorem ix_141_41 : lkp 41 (mI mi_141) = some (false, .iload_n 3, 42, 3, 0) := rfl
theorem ix_141_42 : lkp 42 (mI mi_141) = some (false, .iload 5, 44, 5, 0) := rfl
theorem ix_141_44 : lkp 44 (mI mi_141) = some (false, .ifCond .eq 39, 47, 0, 83) := rfl
theorem ix_141_47 : lkp 47 (mI mi_141) = some (false, .iload 4, 49, 4, 0) := rfl
theorem ix_141_49 : lkp 49 (mI mi_141) = some (false, .aload_n 0, 50, 0, 0) := rfl
theorem ix_141_50 : lkp 50 (mI mi_141) = some (false, .getfield 7, 53, 12, 2) := rfl
theorem ix_141_53 : lkp 53 (mI mi_141) = some (false, .aload_n 0, 54, 0, 0) := rfl
theorem ix_141_54 : lkp 54 (mI mi_141) = some (false, .getfield 44, 57, 12, 17) := rfl
theorem ix_141_57 : lkp 57 (mI mi_141) = some (false, .iload_n 1, 58, 1, 0) := rfl
theorem ix_141_58 : lkp 58 (mI mi_141) = some (false, .iaload, 59, 0, 0) := rfl
theorem ix_141_59 : lkp 59 (mI mi_141) = some (false, .iaload, 60, 0, 0) := rfl
theorem ix_141_60 : lkp 60 (mI mi_141) = some (false, .invokestatic 171, 63, 132, 2) := rfl
theorem ix_141_63 : lkp 63 (mI mi_141) = some (false, .iload 4, 65, 4, 0) := rfl
theorem ix_141_65 : lkp 65 (mI mi_141) = some (false, .aload_n 0, 66, 0, 0) := rfl
theorem ix_141_66 : lkp 66 (mI mi_141) = some (false, .getfield 7, 69, 12, 2) := rfl
theorem ix_141_69 : lkp 69 (mI mi_141) = some (false, .aload_n 0, 70, 0, 0) := rfl
theorem ix_141_70 : lkp 70 (mI mi_141) = some (false, .getfield 44, 73, 12, 17) := rfl
theorem ix_141_73 : lkp 73 (mI mi_141) = some (false, .iload_n 1, 74, 1, 0) := rfl
theorem ix_141_74 : lkp 74 (mI mi_141) = some (false, .iaload, 75, 0, 0) := rfl
theorem ix_141_75 : lkp 75 (mI mi_141) = some (false, .iaload, 76, 0, 0) := rfl
theorem ix_141_76 : lkp 76 (mI mi_141) = some (false, .invokestatic 175, 79, 133, 2) := rfl
theorem ix_141_79 : lkp 79 (mI mi_141) = some (false, .iadd, 80, 0, 0) := rfl
theorem ix_141_80 : lkp 80 (mI mi_141) = some (false, .goto 4, 83, 0, 84) := rfl
theorem ix_141_83 : lkp 83 (mI mi_141) = some (false, .iconst 0, 84, 0, 0) := rfl
theorem ix_141_84 : lkp 84 (mI mi_141) = some (false, .iadd, 85, 0, 0) := rfl
theorem ix_141_85 : lkp 85 (mI mi_141) = some (false, .istore_n 3, 86, 3, 0) := rfl
theorem ix_141_86 : lkp 86 (mI mi_141) = some (false, .iinc 4 1, 89, 4, 2) := rfl
theorem ix_141_89 : lkp 89 (mI mi_141) = some (false, .goto (-84), 92, 0, 5) := rfl
theorem ix_141_92 : lkp 92 (mI mi_141) = some (false, .iload_n 3, 93, 3, 0) := rfl
theorem ix_141_93 : lkp 93 (mI mi_141) = some (false, .ireturn, 94, 0, 0) := rfl
theorem ix_142_0 : lkp 0 (mI mi_142) = some (false, .aload_n 0, 1, 0, 0) := rfl
theorem ix_142_1 : lkp 1 (mI mi_142) = some (false, .getfield 80, 4, 12, 29) := rfl
theorem ix_142_4 : lkp 4 (mI mi_142) = some (false, .iload_n 1, 5, 1, 0) := rfl
theorem ix_142_5 : lkp 5 (mI mi_142) = some (false, .iaload, 6, 0, 0) := rfl
theorem ix_142_6 : lkp 6 (mI mi_142) = some (false, .bipush 110, 8, 110, 0) := rfl
theorem ix_142_8 : lkp 8 (mI mi_142) = some (false, .if_icmp .ne 5, 11, 0, 13) := rfl
theorem ix_142_11 : lkp 11 (mI mi_142) = some (false, .iconst (-1), 12, 1, 1) := rfl
theorem ix_142_12 : lkp 12 (mI mi_142) = some (false, .ireturn, 13, 0, 0) := rfl
theorem ix_142_13 : lkp 13 (mI mi_142) = some (false, .aload_n 0, 14, 0, 0) := rfl
theorem ix_142_14 : lkp 14 (mI mi_142) = some (false, .getfield 80, 17, 12, 29) := rfl
theorem ix_142_17 : lkp 17 (mI mi_142) = some (false, .iload_n 1, 18, 1, 0) := rfl
theorem ix_142_18 : lkp 18 (mI mi_142) = some (false, .iaload, 19, 0, 0) := rfl
theorem ix_142_19 : lkp 19 (mI mi_142) = some (false, .bipush 115, 21, 115, 0) := rfl
theorem ix_142_21 : lkp 21 (mI mi_142) = some (false, .if_icmp .ne 10, 24, 0, 31) := rfl
theorem ix_142_24 : lkp 24 (mI mi_142) = some (false, .aload_n 0, 25, 0, 0) := rfl
theorem ix_142_25 : lkp 25 (mI mi_142) = some (false, .getfield 62, 28, 12, 23) := rfl
theorem ix_142_28 : lkp 28 (mI mi_142) = some (false, .iload_n 1, 29, 1, 0) := rfl
theorem ix_142_29 : lkp 29 (mI mi_142) = some (false, .iaload, 30, 0, 0) := rfl
theorem ix_142_30 : lkp 30 (mI mi_142) = some (false, .ireturn, 31, 0, 0) := rfl
theorem ix_142_31 : lkp 31 (mI mi_142) = some (false, .iconst (-1), 32, 1, 1) := rfl
theorem ix_142_32 : lkp 32 (mI mi_142) = some (false, .istore_n 2, 33, 2, 0) := rfl
theorem ix_142_33 : lkp 33 (mI mi_142) = some (false, .sipush 1000, 36, 1000, 0) := rfl
theorem ix_142_36 : lkp 36 (mI mi_142) = some (false, .istore_n 3, 37, 3, 0) := rfl
theorem ix_142_37 : lkp 37 (mI mi_142) = some (false, .iconst 0, 38, 0, 0) := rfl
theorem ix_142_38 : lkp 38 (mI mi_142) = some (false, .istore 4, 40, 4, 0) := rfl
theorem ix_142_40 : lkp 40 (mI mi_142) = some (true, .iload 4, 42, 4, 0) := rfl
theorem ix_142_42 : lkp 42 (mI mi_142) = some (false, .aload_n 0, 43, 0, 0) := rfl
theorem ix_142_43 : lkp 43 (mI mi_142) = some (false, .iload_n 1, 44, 1, 0) := rfl
theorem ix_142_44 : lkp 44 (mI mi_142) = some (false, .invokevirtual 182, 47, 131, 193) := rfl
theorem ix_142_47 : lkp 47 (mI mi_142) = some (false, .if_icmp .ge 54, 50, 0, 101) := rfl
theorem ix_142_50 : lkp 50 (mI mi_142) = some (false, .aload_n 0, 51, 0, 0) := rfl
theorem ix_142_51 : lkp 51 (mI mi_142) = some (false, .iload_n 1, 52, 1, 0) := rfl
theorem ix_142_52 : lkp 52 (mI mi_142) = some (false, .iload 4, 54, 4, 0) := rfl
theorem ix_142_54 : lkp 54 (mI mi_142) = some (false, .invokevirtual 185, 57, 141, 194) := rfl
theorem ix_142_57 : lkp 57 (mI mi_142) = some (false, .istore 5, 59, 5, 0) := rfl
theorem ix_142_59 : lkp 59 (mI mi_142) = some (false, .iload 5, 61, 5, 0) := rfl
theorem ix_142_61 : lkp 61 (mI mi_142) = some (false, .iload_n 3, 62, 3, 0) := rfl
theorem ix_142_62 : lkp 62 (mI mi_142) = some (false, .if_icmp .ge 8, 65, 0, 70) := rfl
theorem ix_142_65 : lkp 65 (mI mi_142) = some (false, .iload 4, 67, 4, 0) := rfl
theorem ix_142_67 : lkp 67 (mI mi_142) = some (false, .goto 14, 70, 0, 81) := rfl
theorem ix_142_70 : lkp 70 (mI mi_142) = some (false, .iload 5, 72, 5, 0) := rfl
theorem ix_142_72 : lkp 72 (mI mi_142) = some (false, .iload_n 3, 73, 3, 0) := rfl
theorem ix_142_73 : lkp 73 (mI mi_142) = some (false, .if_icmp .ne 7, 76, 0, 80) := rfl
theorem ix_142_76 : lkp 76 (mI mi_142) = some (false, .iconst (-1), 77, 1, 1) := rfl
theorem ix_142_77 : lkp 77 (mI mi_142) = some (false, .goto 4, 80, 0, 81) := rfl
theorem ix_142_80 : lkp 80 (mI mi_142) = some (false, .iload_n 2, 81, 2, 0) := rfl
theorem ix_142_81 : lkp 81 (mI mi_142) = some (false, .istore_n 2, 82, 2, 0) := rfl
theorem ix_142_82 : lkp 82 (mI mi_142) = some (false, .iload 5, 84, 5, 0) := rfl
theorem ix_142_84 : lkp 84 (mI mi_142) = some (false, .iload_n 3, 85, 3, 0) := rfl
theorem ix_142_85 : lkp 85 (mI mi_142) = some (false, .if_icmp .ge 8, 88, 0, 93) := rfl
theorem ix_142_88 : lkp 88 (mI mi_142) = some (false, .iload 5, 90, 5, 0) := rfl
theorem ix_142_90 : lkp 90 (mI mi_142) = some (false, .goto 4, 93, 0, 94) := rfl
theorem ix_142_93 : lkp 93 (mI mi_142) = some (false, .iload_n 3, 94, 3, 0) := rfl
theorem ix_142_94 : lkp 94 (mI mi_142) = some (false, .istore_n 3, 95, 3, 0) := rfl
theorem ix_142_95 : lkp 95 (mI mi_142) = some (false, .iinc 4 1, 98, 4, 2) := rfl
theorem ix_142_98 : lkp 98 (mI mi_142) = some (false, .goto (-58), 101, 0, 40) := rfl
theorem ix_142_101 : lkp 101 (mI mi_142) = some (false, .iload_n 2, 102, 2, 0) := rfl
theorem ix_142_102 : lkp 102 (mI mi_142) = some (false, .ireturn, 103, 0, 0) := rfl
theorem ix_143_0 : lkp 0 (mI mi_143) = some (false, .iconst 0, 1, 0, 0) := rfl
theorem ix_143_1 : lkp 1 (mI mi_143) = some (false, .istore_n 2, 2, 2, 0) := rfl
theorem ix_143_2 : lkp 2 (mI mi_143) = some (false, .iconst 0, 3, 0, 0) := rfl
theorem ix_143_3 : lkp 3 (mI mi_143) = some (false, .istore_n 3, 4, 3, 0) := rfl
theorem ix_143_4 : lkp 4 (mI mi_143) = some (true, .iload_n 3, 5, 3, 0) := rfl
theorem ix_143_5 : lkp 5 (mI mi_143) = some (false, .aload_n 0, 6, 0, 0) := rfl
theorem ix_143_6 : lkp 6 (mI mi_143) = some (false, .getfield 89, 9, 12, 32) := rfl
theorem ix_143_9 : lkp 9 (mI mi_143) = some (false, .iload_n 1, 10, 1, 0) := rfl
theorem ix_143_10 : lkp 10 (mI mi_143) = some (false, .iaload, 11, 0, 0) := rfl
theorem ix_143_11 : lkp 11 (mI mi_143) = some (false, .if_icmp .ge 23, 14, 0, 34) := rfl
theorem ix_143_14 : lkp 14 (mI mi_143) = some (false, .iload_n 2, 15, 2, 0) := rfl
theorem ix_143_15 : lkp 15 (mI mi_143) = some (false, .aload_n 0, 16, 0, 0) := rfl
theorem ix_143_16 : lkp 16 (mI mi_143) = some (false, .getfield 98, 19, 12, 35) := rfl
theorem ix_143_19 : lkp 19 (mI mi_143) = some (false, .bipush 10, 21, 10, 0) := rfl
theorem ix_143_21 : lkp 21 (mI mi_143) = some (false, .iload_n 1, 22, 1, 0) := rfl
theorem ix_143_22 : lkp 22 (mI mi_143) = some (false, .imul, 23, 0, 0) := rfl
theorem ix_143_23 : lkp 23 (mI mi_143) = some (false, .iload_n 3, 24, 3, 0) := rfl
theorem ix_143_24 : lkp 24 (mI mi_143) = some (false, .iadd, 25, 0, 0) := rfl
theorem ix_143_25 : lkp 25 (mI mi_143) = some (false, .iaload, 26, 0, 0) := rfl
theorem ix_143_26 : lkp 26 (mI mi_143) = some (false, .iadd, 27, 0, 0) := rfl
theorem ix_143_27 : lkp 27 (mI mi_143) = some (false, .istore_n 2, 28, 2, 0) := rfl
theorem ix_143_28 : lkp 28 (mI mi_143) = some (false, .iinc 3 1, 31, 3, 2) := rfl
theorem ix_143_31 : lkp 31 (mI mi_143) = some (false, .goto (-27), 34, 0, 4) := rfl
theorem ix_143_34 : lkp 34 (mI mi_143) = some (false, .iload_n 2, 35, 2, 0) := rfl
theorem ix_143_35 : lkp 35 (mI mi_143) = some (false, .ireturn, 36, 0, 0) := rfl
theorem ix_144_0 : lkp 0 (mI mi_144) = some (false, .aload_n 0, 1, 0, 0) := rfl
theorem ix_144_1 : lkp 1 (mI mi_144) = some (false, .iload_n 1, 2, 1, 0) := rfl
theorem ix_144_2 : lkp 2 (mI mi_144) = some (false, .invokevirtual 188, 5, 143, 193) := rfl
theorem ix_144_5 : lkp 5 (mI mi_144) = some (false, .istore_n 3, 6, 3, 0) := rfl
theorem ix_144_6 : lkp 6 (mI mi_144) = some (false, .iconst 0, 7, 0, 0) := rfl
theorem ix_144_7 : lkp 7 (mI mi_144) = some (false, .istore 4, 9, 4, 0) := rfl
theorem ix_144_9 : lkp 9 (mI mi_144) = some (false, .bipush 10, 11, 10, 0) := rfl
theorem ix_144_11 : lkp 11 (mI mi_144) = some (false, .iload_n 1, 12, 1, 0) := rfl
theorem ix_144_12 : lkp 12 (mI mi_144) = some (false, .imul, 13, 0, 0) := rfl
theorem ix_144_13 : lkp 13 (mI mi_144) = some (false, .istore 5, 15, 5, 0) := rfl
theorem ix_144_15 : lkp 15 (mI mi_144) = some (true, .iload 5, 17, 5, 0) := rfl
theorem ix_144_17 : lkp 17 (mI mi_144) = some (false, .bipush 10, 19, 10, 0) := rfl
theorem ix_144_19 : lkp 19 (mI mi_144) = some (false, .iload_n 1, 20, 1, 0) := rfl
theorem ix_144_20 : lkp 20 (mI mi_144) = some (false, .imul, 21, 0, 0) := rfl
theorem ix_144_21 : lkp 21 (mI mi_144) = some (false, .aload_n 0, 22, 0, 0) := rfl
theorem ix_144_22 : lkp 22 (mI mi_144) = some (false, .getfield 89, 25, 12, 32) := rfl
theorem ix_144_25 : lkp 25 (mI mi_144) = some (false, .iload_n 1, 26, 1, 0) := rfl
theorem ix_144_26 : lkp 26 (mI mi_144) = some (false, .iaload, 27, 0, 0) := rfl
theorem ix_144_27 : lkp 27 (mI mi_144) = some (false, .iadd, 28, 0, 0) := rfl
theorem ix_144_28 : lkp 28 (mI mi_144) = some (false, .if_icmp .ge 41, 31, 0, 69) := rfl
theorem ix_144_31 : lkp 31 (mI mi_144) = some (false, .iload 4, 33, 4, 0) := rfl
theorem ix_144_33 : lkp 33 (mI mi_144) = some (false, .aload_n 0, 34, 0, 0) := rfl
theorem ix_144_34 : lkp 34 (mI mi_144) = some (false, .getfield 95, 37, 12, 34) := rfl
theorem ix_144_37 : lkp 37 (mI mi_144) = some (false, .iload 5, 39, 5, 0) := rfl
theorem ix_144_39 : lkp 39 (mI mi_144) = some (false, .iaload, 40, 0, 0) := rfl
theorem ix_144_40 : lkp 40 (mI mi_144) = some (false, .aload_n 0, 41, 0, 0) := rfl
theorem ix_144_41 : lkp 41 (mI mi_144) = some (false, .getfield 77, 44, 12, 28) := rfl
theorem ix_144_44 : lkp 44 (mI mi_144) = some (false, .iload_n 1, 45, 1, 0) := rfl
theorem ix_144_45 : lkp 45 (mI mi_144) = some (false, .iaload, 46, 0, 0) := rfl
theorem ix_144_46 : lkp 46 (mI mi_144) = some (false, .if_icmp .ne 13, 49, 0, 59) := rfl
theorem ix_144_49 : lkp 49 (mI mi_144) = some (false, .aload_n 0, 50, 0, 0) := rfl
theorem ix_144_50 : lkp 50 (mI mi_144) = some (false, .getfield 98, 53, 12, 35) := rfl
theorem ix_144_53 : lkp 53 (mI mi_144) = some (false, .iload 5, 55, 5, 0) := rfl
theorem ix_144_55 : lkp 55 (mI mi_144) = some (false, .iaload, 56, 0, 0) := rfl
theorem ix_144_56 : lkp 56 (mI mi_144) = some (false, .goto 4, 59, 0, 60) := rfl
theorem ix_144_59 : lkp 59 (mI mi_144) = some (false, .iconst 0, 60, 0, 0) := rfl
theorem ix_144_60 : lkp 60 (mI mi_144) = some (false, .iadd, 61, 0, 0) := rfl
theorem ix_144_61 : lkp 61 (mI mi_144) = some (false, .istore 4, 63, 4, 0) := rfl
theorem ix_144_63 : lkp 63 (mI mi_144) = some (false, .iinc 5 1, 66, 5, 2) := rfl
theorem ix_144_66 : lkp 66 (mI mi_144) = some (false, .goto (-51), 69, 0, 15) := rfl
theorem ix_144_69 : lkp 69 (mI mi_144) = some (false, .iload_n 3, 70, 3, 0) := rfl
theorem ix_144_70 : lkp 70 (mI mi_144) = some (false, .istore 5, 72, 5, 0) := rfl
theorem ix_144_72 : lkp 72 (mI mi_144) = some (false, .bipush 10, 74, 10, 0) := rfl
theorem ix_144_74 : lkp 74 (mI mi_144) = some (false, .iload_n 1, 75, 1, 0) := rfl
theorem ix_144_75 : lkp 75 (mI mi_144) = some (false, .imul, 76, 0, 0) := rfl
theorem ix_144_76 : lkp 76 (mI mi_144) = some (false, .istore 6, 78, 6, 0) := rfl
theorem ix_144_78 : lkp 78 (mI mi_144) = some (true, .iload 6, 80, 6, 0) := rfl
theorem ix_144_80 : lkp 80 (mI mi_144) = some (false, .bipush 10, 82, 10, 0) := rfl
theorem ix_144_82 : lkp 82 (mI mi_144) = some (false, .iload_n 1, 83, 1, 0) := rfl
theorem ix_144_83 : lkp 83 (mI mi_144) = some (false, .imul, 84, 0, 0) := rfl
theorem ix_144_84 : lkp 84 (mI mi_144) = some (false, .aload_n 0, 85, 0, 0) := rfl
theorem ix_144_85 : lkp 85 (mI mi_144) = some (false, .getfield 89, 88, 12, 32) := rfl
theorem ix_144_88 : lkp 88 (mI mi_144) = some (false, .iload_n 1, 89, 1, 0) := rfl
theorem ix_144_89 : lkp 89 (mI mi_144) = some (false, .iaload, 90, 0, 0) := rfl
theorem ix_144_90 : lkp 90 (mI mi_144) = some (false, .iadd, 91, 0, 0) := rfl
theorem ix_144_91 : lkp 91 (mI mi_144) = some (false, .if_icmp .ge 86, 94, 0, 177) := rfl
theorem ix_144_94 : lkp 94 (mI mi_144) = some (false, .aload_n 0, 95, 0, 0) := rfl
theorem ix_144_95 : lkp 95 (mI mi_144) = some (false, .getfield 95, 98, 12, 34) := rfl
theorem ix_144_98 : lkp 98 (mI mi_144) = some (false, .iload 6, 100, 6, 0) := rfl
theorem ix_144_100 : lkp 100 (mI mi_144) = some (false, .iaload, 101, 0, 0) := rfl
theorem ix_144_101 : lkp 101 (mI mi_144) = some (false, .aload_n 0, 102, 0, 0) := rfl
theorem ix_144_102 : lkp 102 (mI mi_144) = some (false, .getfield 77, 105, 12, 28) := rfl
theorem ix_144_105 : lkp 105 (mI mi_144) = some (false, .iload_n 1, 106, 1, 0) := rfl
theorem ix_144_106 : lkp 106 (mI mi_144) = some (false, .iaload, 107, 0, 0) := rfl
theorem ix_144_107 : lkp 107 (mI mi_144) = some (false, .if_icmp .ne 18, 110, 0, 125) := rfl
theorem ix_144_110 : lkp 110 (mI mi_144) = some (false, .iload_n 3, 111, 3, 0) := rfl
theorem ix_144_111 : lkp 111 (mI mi_144) = some (false, .aload_n 0, 112, 0, 0) := rfl
theorem ix_144_112 : lkp 112 (mI mi_144) = some (false, .getfield 98, 115, 12, 35) := rfl
theorem ix_144_115 : lkp 115 (mI mi_144) = some (false, .iload 6, 117, 6, 0) := rfl
theorem ix_144_117 : lkp 117 (mI mi_144) = some (false, .iaload, 118, 0, 0) := rfl
theorem ix_144_118 : lkp 118 (mI mi_144) = some (false, .imul, 119, 0, 0) := rfl
theorem ix_144_119 : lkp 119 (mI mi_144) = some (false, .iload 4, 121, 4, 0) := rfl
theorem ix_144_121 : lkp 121 (mI mi_144) = some (false, .idiv, 122, 0, 0) := rfl
theorem ix_144_122 : lkp 122 (mI mi_144) = some (false, .goto 4, 125, 0, 126) := rfl
theorem ix_144_125 : lkp 125 (mI mi_144) = some (false, .iconst 0, 126, 0, 0) := rfl
theorem ix_144_126 : lkp 126 (mI mi_144) = some (false, .istore 7, 128, 7, 0) := rfl
theorem ix_144_128 : lkp 128 (mI mi_144) = some (false, .aload_n 0, 129, 0, 0) := rfl
theorem ix_144_129 : lkp 129 (mI mi_144) = some (false, .getfield 101, 132, 12, 36) := rfl
theorem ix_144_132 : lkp 132 (mI mi_144) = some (false, .iload 6, 134, 6, 0) := rfl
theorem ix_144_134 : lkp 134 (mI mi_144) = some (false, .iload_n 2, 135, 2, 0) := rfl
theorem ix_144_135 : lkp 135 (mI mi_144) = some (false, .ifCond .le 8, 138, 0, 143) := rfl
theorem ix_144_138 : lkp 138 (mI mi_144) = some (false, .iload 7, 140, 7, 0) := rfl
theorem ix_144_140 : lkp 140 (mI mi_144) = some (false, .goto 4, 143, 0, 144) := rfl
theorem ix_144_143 : lkp 143 (mI mi_144) = some (false, .iconst 0, 144, 0, 0) := rfl
theorem ix_144_144 : lkp 144 (mI mi_144) = some (false, .iastore, 145, 0, 0) := rfl
theorem ix_144_145 : lkp 145 (mI mi_144) = some (false, .aload_n 0, 146, 0, 0) := rfl
theorem ix_144_146 : lkp 146 (mI mi_144) = some (false, .getfield 104, 149, 12, 37) := rfl
theorem ix_144_149 : lkp 149 (mI mi_144) = some (false, .aload_n 0, 150, 0, 0) := rfl
theorem ix_144_150 : lkp 150 (mI mi_144) = some (false, .getfield 92, 153, 12, 33) := rfl
theorem ix_144_153 : lkp 153 (mI mi_144) = some (false, .iload 6, 155, 6, 0) := rfl
theorem ix_144_155 : lkp 155 (mI mi_144) = some (false, .iaload, 156, 0, 0) := rfl
theorem ix_144_156 : lkp 156 (mI mi_144) = some (false, .dup2, 157, 0, 0) := rfl
theorem ix_144_157 : lkp 157 (mI mi_144) = some (false, .iaload, 158, 0, 0) := rfl
theorem ix_144_158 : lkp 158 (mI mi_144) = some (false, .iload_n 2, 159, 2, 0) := rfl
theorem ix_144_159 : lkp 159 (mI mi_144) = some (false, .iload 7, 161, 7, 0) := rfl
theorem ix_144_161 : lkp 161 (mI mi_144) = some (false, .imul, 162, 0, 0) := rfl
theorem ix_144_162 : lkp 162 (mI mi_144) = some (false, .iadd, 163, 0, 0) := rfl
theorem ix_144_163 : lkp 163 (mI mi_144) = some (false, .iastore, 164, 0, 0) := rfl
theorem ix_144_164 : lkp 164 (mI mi_144) = some (false, .iload 5, 166, 5, 0) := rfl
theorem ix_144_166 : lkp 166 (mI mi_144) = some (false, .iload 7, 168, 7, 0) := rfl
theorem ix_144_168 : lkp 168 (mI mi_144) = some (false, .isub, 169, 0, 0) := by decide +kernel
theorem ix_144_169 : lkp 169 (mI mi_144) = some (false, .istore 5, 171, 5, 0) := by decide +kernel
theorem ix_144_171 : lkp 171 (mI mi_144) = some (false, .iinc 6 1, 174, 6, 2) := by decide +kernel
theorem ix_144_174 : lkp 174 (mI mi_144) = some (false, .goto (-96), 177, 0, 78) := by decide +kernel
theorem ix_144_177 : lkp 177 (mI mi_144) = some (false, .aload_n 0, 178, 0, 0) := by decide +kernel
theorem ix_144_178 : lkp 178 (mI mi_144) = some (false, .dup, 179, 0, 0) := by decide +kernel
theorem ix_144_179 : lkp 179 (mI mi_144) = some (false, .getfield 191, 182, 12, 38) := by decide +kernel
theorem ix_144_182 : lkp 182 (mI mi_144) = some (false, .iload_n 2, 183, 2, 0) := by decide +kernel
theorem ix_144_183 : lkp 183 (mI mi_144) = some (false, .iload 5, 185, 5, 0) := by decide +kernel
theorem ix_144_185 : lkp 185 (mI mi_144) = some (false, .imul, 186, 0, 0) := by decide +kernel
theorem ix_144_186 : lkp 186 (mI mi_144) = some (false, .iadd, 187, 0, 0) := by decide +kernel
theorem ix_144_187 : lkp 187 (mI mi_144) = some (false, .putfield 191, 190, 12, 38) := by decide +kernel
theorem ix_144_190 : lkp 190 (mI mi_144) = some (false, .return_, 191, 0, 0) := by decide +kernel
theorem ix_145_0 : lkp 0 (mI mi_145) = some (false, .aload_n 0, 1, 0, 0) := rfl
theorem ix_145_1 : lkp 1 (mI mi_145) = some (false, .getfield 135, 4, 12, 7) := rfl
theorem ix_145_4 : lkp 4 (mI mi_145) = some (false, .sipush 400, 7, 400, 0) := rfl
theorem ix_145_7 : lkp 7 (mI mi_145) = some (false, .if_icmp .ne 7, 10, 0, 14) := rfl
theorem ix_145_10 : lkp 10 (mI mi_145) = some (false, .iconst 1, 11, 1, 0) := rfl
theorem ix_145_11 : lkp 11 (mI mi_145) = some (false, .goto 4, 14, 0, 15) := rfl
theorem ix_145_14 : lkp 14 (mI mi_145) = some (false, .iconst 0, 15, 0, 0) := rfl
theorem ix_145_15 : lkp 15 (mI mi_145) = some (false, .ireturn, 16, 0, 1) := rfl
theorem ix_146_0 : lkp 0 (mI mi_146) = some (false, .aload_n 0, 1, 0, 0) := rfl
theorem ix_146_1 : lkp 1 (mI mi_146) = some (false, .getfield 77, 4, 12, 28) := rfl
theorem ix_146_4 : lkp 4 (mI mi_146) = some (false, .iload_n 1, 5, 1, 0) := rfl
theorem ix_146_5 : lkp 5 (mI mi_146) = some (false, .iaload, 6, 0, 0) := rfl
theorem ix_146_6 : lkp 6 (mI mi_146) = some (false, .bipush (-2), 8, 2, 1) := rfl
theorem ix_146_8 : lkp 8 (mI mi_146) = some (false, .if_icmp .eq 7, 11, 0, 15) := rfl
theorem ix_146_11 : lkp 11 (mI mi_146) = some (false, .iconst 1, 12, 1, 0) := rfl
theorem ix_146_12 : lkp 12 (mI mi_146) = some (false, .goto 4, 15, 0, 16) := rfl
theorem ix_146_15 : lkp 15 (mI mi_146) = some (false, .iconst 0, 16, 0, 0) := rfl
theorem ix_146_16 : lkp 16 (mI mi_146) = some (false, .ireturn, 17, 0, 1) := rfl
theorem ix_147_0 : lkp 0 (mI mi_147) = some (false, .aload_n 0, 1, 0, 0) := rfl
theorem ix_147_1 : lkp 1 (mI mi_147) = some (false, .iload_n 1, 2, 1, 0) := rfl
theorem ix_147_2 : lkp 2 (mI mi_147) = some (false, .iconst 0, 3, 0, 0) := rfl
theorem ix_147_3 : lkp 3 (mI mi_147) = some (false, .aload_n 0, 4, 0, 0) := rfl
theorem ix_147_4 : lkp 4 (mI mi_147) = some (false, .getfield 132, 7, 12, 1) := rfl
theorem ix_147_7 : lkp 7 (mI mi_147) = some (false, .iconst 1, 8, 1, 0) := rfl
theorem ix_147_8 : lkp 8 (mI mi_147) = some (false, .isub, 9, 0, 0) := rfl
theorem ix_147_9 : lkp 9 (mI mi_147) = some (false, .invokestatic 120, 12, 126, 3) := rfl
theorem ix_147_12 : lkp 12 (mI mi_147) = some (false, .ifCond .ne 7, 15, 0, 19) := rfl
theorem ix_147_15 : lkp 15 (mI mi_147) = some (false, .iconst 1, 16, 1, 0) := rfl
theorem ix_147_16 : lkp 16 (mI mi_147) = some (false, .goto 38, 19, 0, 54) := rfl
theorem ix_147_19 : lkp 19 (mI mi_147) = some (false, .iload_n 2, 20, 2, 0) := rfl
theorem ix_147_20 : lkp 20 (mI mi_147) = some (false, .iconst 0, 21, 0, 0) := rfl
theorem ix_147_21 : lkp 21 (mI mi_147) = some (false, .ldc 194, 23, 999999, 0) := rfl
theorem ix_147_23 : lkp 23 (mI mi_147) = some (false, .invokestatic 120, 26, 126, 3) := rfl
theorem ix_147_26 : lkp 26 (mI mi_147) = some (false, .ifCond .ne 7, 29, 0, 33) := rfl
theorem ix_147_29 : lkp 29 (mI mi_147) = some (false, .iconst 2, 30, 2, 0) := rfl
theorem ix_147_30 : lkp 30 (mI mi_147) = some (false, .goto 24, 33, 0, 54) := rfl
theorem ix_147_33 : lkp 33 (mI mi_147) = some (false, .aload_n 0, 34, 0, 0) := rfl
theorem ix_147_34 : lkp 34 (mI mi_147) = some (false, .getfield 117, 37, 12, 16) := rfl
theorem ix_147_37 : lkp 37 (mI mi_147) = some (false, .bipush 6, 39, 6, 0) := rfl
theorem ix_147_39 : lkp 39 (mI mi_147) = some (false, .if_icmp .eq 10, 42, 0, 49) := rfl
theorem ix_147_42 : lkp 42 (mI mi_147) = some (false, .aload_n 0, 43, 0, 0) := rfl
theorem ix_147_43 : lkp 43 (mI mi_147) = some (false, .invokevirtual 195, 46, 145, 192) := rfl
theorem ix_147_46 : lkp 46 (mI mi_147) = some (false, .ifCond .eq 7, 49, 0, 53) := rfl
theorem ix_147_49 : lkp 49 (mI mi_147) = some (false, .iconst 3, 50, 3, 0) := rfl
theorem ix_147_50 : lkp 50 (mI mi_147) = some (false, .goto 4, 53, 0, 54) := rfl
theorem ix_147_53 : lkp 53 (mI mi_147) = some (false, .iconst 0, 54, 0, 0) := rfl
theorem ix_147_54 : lkp 54 (mI mi_147) = some (false, .putfield 114, 57, 12, 0) := rfl
theorem ix_147_57 : lkp 57 (mI mi_147) = some (false, .aload_n 0, 58, 0, 0) := rfl
theorem ix_147_58 : lkp 58 (mI mi_147) = some (false, .getfield 114, 61, 12, 0) := rfl
theorem ix_147_61 : lkp 61 (mI mi_147) = some (false, .ifCond .le 5, 64, 0, 66) := rfl
theorem ix_147_64 : lkp 64 (mI mi_147) = some (false, .iconst 0, 65, 0, 0) := rfl
theorem ix_147_65 : lkp 65 (mI mi_147) = some (false, .ireturn, 66, 0, 0) := rfl
theorem ix_147_66 : lkp 66 (mI mi_147) = some (false, .aload_n 0, 67, 0, 0) := rfl
theorem ix_147_67 : lkp 67 (mI mi_147) = some (false, .bipush 103, 69, 103, 0) := rfl
theorem ix_147_69 : lkp 69 (mI mi_147) = some (false, .aload_n 0, 70, 0, 0) := rfl
theorem ix_147_70 : lkp 70 (mI mi_147) = some (false, .getfield 117, 73, 12, 16) := rfl
theorem ix_147_73 : lkp 73 (mI mi_147) = some (false, .iload_n 1, 74, 1, 0) := rfl
theorem ix_147_74 : lkp 74 (mI mi_147) = some (false, .iload_n 2, 75, 2, 0) := rfl
theorem ix_147_75 : lkp 75 (mI mi_147) = some (false, .iconst 0, 76, 0, 0) := rfl
theorem ix_147_76 : lkp 76 (mI mi_147) = some (false, .invokevirtual 199, 79, 135, 197) := rfl
theorem ix_147_79 : lkp 79 (mI mi_147) = some (false, .aload_n 0, 80, 0, 0) := rfl
theorem ix_147_80 : lkp 80 (mI mi_147) = some (false, .getfield 117, 83, 12, 16) := rfl
theorem ix_147_83 : lkp 83 (mI mi_147) = some (false, .iconst 1, 84, 1, 0) := rfl
theorem ix_147_84 : lkp 84 (mI mi_147) = some (false, .isub, 85, 0, 0) := rfl
theorem ix_147_85 : lkp 85 (mI mi_147) = some (false, .ireturn, 86, 0, 0) := rfl
theorem ix_148_0 : lkp 0 (mI mi_148) = some (false, .aload_n 0, 1, 0, 0) := rfl
theorem ix_148_1 : lkp 1 (mI mi_148) = some (false, .getfield 7, 4, 12, 2) := rfl
theorem ix_148_4 : lkp 4 (mI mi_148) = some (false, .aload_n 0, 5, 0, 0) := rfl
theorem ix_148_5 : lkp 5 (mI mi_148) = some (false, .getfield 44, 8, 12, 17) := rfl
theorem ix_148_8 : lkp 8 (mI mi_148) = some (false, .iload_n 1, 9, 1, 0) := rfl
theorem ix_148_9 : lkp 9 (mI mi_148) = some (false, .iaload, 10, 0, 0) := rfl
theorem ix_148_10 : lkp 10 (mI mi_148) = some (false, .iaload, 11, 0, 0) := rfl
theorem ix_148_11 : lkp 11 (mI mi_148) = some (false, .istore 4, 13, 4, 0) := rfl
theorem ix_148_13 : lkp 13 (mI mi_148) = some (false, .aload_n 0, 14, 0, 0) := rfl
theorem ix_148_14 : lkp 14 (mI mi_148) = some (false, .getfield 71, 17, 12, 26) := rfl
theorem ix_148_17 : lkp 17 (mI mi_148) = some (false, .iload_n 1, 18, 1, 0) := rfl
theorem ix_148_18 : lkp 18 (mI mi_148) = some (false, .iaload, 19, 0, 0) := rfl
theorem ix_148_19 : lkp 19 (mI mi_148) = some (false, .ifCond .eq 33, 22, 0, 52) := rfl
theorem ix_148_22 : lkp 22 (mI mi_148) = some (false, .iload_n 2, 23, 2, 0) := rfl
theorem ix_148_23 : lkp 23 (mI mi_148) = some (false, .iload 4, 25, 4, 0) := rfl
theorem ix_148_25 : lkp 25 (mI mi_148) = some (false, .invokestatic 171, 28, 132, 2) := rfl
theorem ix_148_28 : lkp 28 (mI mi_148) = some (false, .aload_n 0, 29, 0, 0) := rfl
theorem ix_148_29 : lkp 29 (mI mi_148) = some (false, .iload_n 1, 30, 1, 0) := rfl
theorem ix_148_30 : lkp 30 (mI mi_148) = some (false, .iload_n 3, 31, 3, 0) := rfl
theorem ix_148_31 : lkp 31 (mI mi_148) = some (false, .invokevirtual 178, 34, 138, 194) := rfl
theorem ix_148_34 : lkp 34 (mI mi_148) = some (false, .if_icmp .eq 18, 37, 0, 52) := rfl
theorem ix_148_37 : lkp 37 (mI mi_148) = some (false, .iload_n 2, 38, 2, 0) := rfl
theorem ix_148_38 : lkp 38 (mI mi_148) = some (false, .iload 4, 40, 4, 0) := rfl
theorem ix_148_40 : lkp 40 (mI mi_148) = some (false, .invokestatic 175, 43, 133, 2) := rfl
theorem ix_148_43 : lkp 43 (mI mi_148) = some (false, .aload_n 0, 44, 0, 0) := rfl
theorem ix_148_44 : lkp 44 (mI mi_148) = some (false, .iload_n 1, 45, 1, 0) := rfl
theorem ix_148_45 : lkp 45 (mI mi_148) = some (false, .iload_n 3, 46, 3, 0) := rfl
theorem ix_148_46 : lkp 46 (mI mi_148) = some (false, .invokevirtual 178, 49, 138, 194) := rfl
theorem ix_148_49 : lkp 49 (mI mi_148) = some (false, .if_icmp .ne 7, 52, 0, 56) := rfl
theorem ix_148_52 : lkp 52 (mI mi_148) = some (false, .iconst 1, 53, 1, 0) := rfl
theorem ix_148_53 : lkp 53 (mI mi_148) = some (false, .goto 4, 56, 0, 57) := rfl
theorem ix_148_56 : lkp 56 (mI mi_148) = some (false, .iconst 0, 57, 0, 0) := rfl
theorem ix_148_57 : lkp 57 (mI mi_148) = some (false, .ireturn, 58, 0, 1) := rfl
theorem ix_149_0 : lkp 0 (mI mi_149) = some (false, .aload_n 0, 1, 0, 0) := rfl
theorem ix_149_1 : lkp 1 (mI mi_149) = some (false, .getfield 50, 4, 12, 19) := rfl
theorem ix_149_4 : lkp 4 (mI mi_149) = some (false, .iconst 4, 5, 4, 0) := rfl
theorem ix_149_5 : lkp 5 (mI mi_149) = some (false, .iload_n 1, 6, 1, 0) := rfl
theorem ix_149_6 : lkp 6 (mI mi_149) = some (false, .imul, 7, 0, 0) := rfl
theorem ix_149_7 : lkp 7 (mI mi_149) = some (false, .aload_n 0, 8, 0, 0) := rfl
theorem ix_149_8 : lkp 8 (mI mi_149) = some (false, .getfield 56, 11, 12, 21) := rfl
theorem ix_149_11 : lkp 11 (mI mi_149) = some (false, .iload_n 1, 12, 1, 0) := rfl
theorem ix_149_12 : lkp 12 (mI mi_149) = some (false, .iaload, 13, 0, 0) := rfl
theorem ix_149_13 : lkp 13 (mI mi_149) = some (false, .iadd, 14, 0, 0) := rfl
theorem ix_149_14 : lkp 14 (mI mi_149) = some (false, .iaload, 15, 0, 0) := rfl
theorem ix_149_15 : lkp 15 (mI mi_149) = some (false, .iload_n 2, 16, 2, 0) := rfl
theorem ix_149_16 : lkp 16 (mI mi_149) = some (false, .ishr, 17, 0, 0) := rfl
theorem ix_149_17 : lkp 17 (mI mi_149) = some (false, .iconst 1, 18, 1, 0) := rfl
theorem ix_149_18 : lkp 18 (mI mi_149) = some (false, .iand, 19, 0, 0) := rfl
theorem ix_149_19 : lkp 19 (mI mi_149) = some (false, .iconst 1, 20, 1, 0) := rfl
theorem ix_149_20 : lkp 20 (mI mi_149) = some (false, .if_icmp .ne 7, 23, 0, 27) := rfl
theorem ix_149_23 : lkp 23 (mI mi_149) = some (false, .iconst 1, 24, 1, 0) := rfl
theorem ix_149_24 : lkp 24 (mI mi_149) = some (false, .goto 4, 27, 0, 28) := rfl
theorem ix_149_27 : lkp 27 (mI mi_149) = some (false, .iconst 0, 28, 0, 0) := rfl
theorem ix_149_28 : lkp 28 (mI mi_149) = some (false, .ireturn, 29, 0, 1) := rfl
theorem ix_150_0 : lkp 0 (mI mi_150) = some (false, .iconst 0, 1, 0, 0) := rfl
theorem ix_150_1 : lkp 1 (mI mi_150) = some (false, .istore_n 2, 2, 2, 0) := rfl
theorem ix_150_2 : lkp 2 (mI mi_150) = some (false, .iconst 0, 3, 0, 0) := rfl
theorem ix_150_3 : lkp 3 (mI mi_150) = some (false, .istore_n 3, 4, 3, 0) := rfl
theorem ix_150_4 : lkp 4 (mI mi_150) = some (true, .iload_n 3, 5, 3, 0) := rfl
theorem ix_150_5 : lkp 5 (mI mi_150) = some (false, .aload_n 0, 6, 0, 0) := rfl
theorem ix_150_6 : lkp 6 (mI mi_150) = some (false, .iload_n 1, 7, 1, 0) := rfl
theorem ix_150_7 : lkp 7 (mI mi_150) = some (false, .invokevirtual 160, 10, 130, 193) := rfl
theorem ix_150_10 : lkp 10 (mI mi_150) = some (false, .if_icmp .ge 48, 13, 0, 58) := rfl
theorem ix_150_13 : lkp 13 (mI mi_150) = some (false, .iload_n 2, 14, 2, 0) := rfl
theorem ix_150_14 : lkp 14 (mI mi_150) = some (false, .ifCond .ne 32, 17, 0, 46) := rfl
theorem ix_150_17 : lkp 17 (mI mi_150) = some (false, .aload_n 0, 18, 0, 0) := rfl
theorem ix_150_18 : lkp 18 (mI mi_150) = some (false, .iload_n 1, 19, 1, 0) := rfl
theorem ix_150_19 : lkp 19 (mI mi_150) = some (false, .iload_n 3, 20, 3, 0) := rfl
theorem ix_150_20 : lkp 20 (mI mi_150) = some (false, .invokevirtual 203, 23, 149, 194) := rfl
theorem ix_150_23 : lkp 23 (mI mi_150) = some (false, .ifCond .eq 27, 26, 0, 50) := rfl
theorem ix_150_26 : lkp 26 (mI mi_150) = some (false, .aload_n 0, 27, 0, 0) := rfl
theorem ix_150_27 : lkp 27 (mI mi_150) = some (false, .iload_n 1, 28, 1, 0) := rfl
theorem ix_150_28 : lkp 28 (mI mi_150) = some (false, .iload_n 3, 29, 3, 0) := rfl
theorem ix_150_29 : lkp 29 (mI mi_150) = some (false, .iconst 1, 30, 1, 0) := rfl
theorem ix_150_30 : lkp 30 (mI mi_150) = some (false, .invokevirtual 207, 33, 148, 195) := rfl
theorem ix_150_33 : lkp 33 (mI mi_150) = some (false, .ifCond .ne 13, 36, 0, 46) := rfl
theorem ix_150_36 : lkp 36 (mI mi_150) = some (false, .aload_n 0, 37, 0, 0) := rfl
theorem ix_150_37 : lkp 37 (mI mi_150) = some (false, .iload_n 1, 38, 1, 0) := rfl
theorem ix_150_38 : lkp 38 (mI mi_150) = some (false, .iload_n 3, 39, 3, 0) := rfl
theorem ix_150_39 : lkp 39 (mI mi_150) = some (false, .iconst 0, 40, 0, 0) := rfl
theorem ix_150_40 : lkp 40 (mI mi_150) = some (false, .invokevirtual 207, 43, 148, 195) := rfl
theorem ix_150_43 : lkp 43 (mI mi_150) = some (false, .ifCond .eq 7, 46, 0, 50) := rfl
theorem ix_150_46 : lkp 46 (mI mi_150) = some (false, .iconst 1, 47, 1, 0) := rfl
theorem ix_150_47 : lkp 47 (mI mi_150) = some (false, .goto 4, 50, 0, 51) := rfl
theorem ix_150_50 : lkp 50 (mI mi_150) = some (false, .iconst 0, 51, 0, 0) := rfl
theorem ix_150_51 : lkp 51 (mI mi_150) = some (false, .istore_n 2, 52, 2, 0) := rfl
theorem ix_150_52 : lkp 52 (mI mi_150) = some (false, .iinc 3 1, 55, 3, 2) := rfl
theorem ix_150_55 : lkp 55 (mI mi_150) = some (false, .goto (-51), 58, 0, 4) := rfl
theorem ix_150_58 : lkp 58 (mI mi_150) = some (false, .iload_n 2, 59, 2, 0) := rfl
theorem ix_150_59 : lkp 59 (mI mi_150) = some (false, .ireturn, 60, 0, 1) := rfl
theorem ix_151_0 : lkp 0 (mI mi_151) = some (false, .aload_n 0, 1, 0, 0) := rfl
theorem ix_151_1 : lkp 1 (mI mi_151) = some (false, .aload_n 0, 2, 0, 0) := rfl
theorem ix_151_2 : lkp 2 (mI mi_151) = some (false, .iload_n 1, 3, 1, 0) := rfl
theorem ix_151_3 : lkp 3 (mI mi_151) = some (false, .invokevirtual 211, 6, 129, 193) := rfl
theorem ix_151_6 : lkp 6 (mI mi_151) = some (false, .ifCond .ne 7, 9, 0, 13) := rfl
theorem ix_151_9 : lkp 9 (mI mi_151) = some (false, .iconst 1, 10, 1, 0) := rfl
theorem ix_151_10 : lkp 10 (mI mi_151) = some (false, .goto 42, 13, 0, 52) := rfl
theorem ix_151_13 : lkp 13 (mI mi_151) = some (false, .iload_n 2, 14, 2, 0) := rfl
theorem ix_151_14 : lkp 14 (mI mi_151) = some (false, .iconst 0, 15, 0, 0) := rfl
theorem ix_151_15 : lkp 15 (mI mi_151) = some (false, .aload_n 0, 16, 0, 0) := rfl
theorem ix_151_16 : lkp 16 (mI mi_151) = some (false, .iload_n 1, 17, 1, 0) := rfl
theorem ix_151_17 : lkp 17 (mI mi_151) = some (false, .invokevirtual 160, 20, 130, 193) := rfl
theorem ix_151_20 : lkp 20 (mI mi_151) = some (false, .iconst 1, 21, 1, 0) := rfl
theorem ix_151_21 : lkp 21 (mI mi_151) = some (false, .isub, 22, 0, 0) := rfl
theorem ix_151_22 : lkp 22 (mI mi_151) = some (false, .invokestatic 120, 25, 126, 3) := rfl
theorem ix_151_25 : lkp 25 (mI mi_151) = some (false, .ifCond .ne 7, 28, 0, 32) := rfl
theorem ix_151_28 : lkp 28 (mI mi_151) = some (false, .iconst 2, 29, 2, 0) := rfl
theorem ix_151_29 : lkp 29 (mI mi_151) = some (false, .goto 23, 32, 0, 52) := rfl
theorem ix_151_32 : lkp 32 (mI mi_151) = some (false, .aload_n 0, 33, 0, 0) := rfl
theorem ix_151_33 : lkp 33 (mI mi_151) = some (false, .iload_n 1, 34, 1, 0) := rfl
theorem ix_151_34 : lkp 34 (mI mi_151) = some (false, .invokevirtual 214, 37, 146, 193) := rfl
theorem ix_151_37 : lkp 37 (mI mi_151) = some (false, .ifCond .ne 10, 40, 0, 47) := rfl
theorem ix_151_40 : lkp 40 (mI mi_151) = some (false, .aload_n 0, 41, 0, 0) := rfl
theorem ix_151_41 : lkp 41 (mI mi_151) = some (false, .invokevirtual 195, 44, 145, 192) := rfl
theorem ix_151_44 : lkp 44 (mI mi_151) = some (false, .ifCond .eq 7, 47, 0, 51) := rfl
theorem ix_151_47 : lkp 47 (mI mi_151) = some (false, .iconst 3, 48, 3, 0) := rfl
theorem ix_151_48 : lkp 48 (mI mi_151) = some (false, .goto 4, 51, 0, 52) := rfl
theorem ix_151_51 : lkp 51 (mI mi_151) = some (false, .iconst 0, 52, 0, 0) := rfl
theorem ix_151_52 : lkp 52 (mI mi_151) = some (false, .putfield 114, 55, 12, 0) := rfl
theorem ix_151_55 : lkp 55 (mI mi_151) = some (false, .aload_n 0, 56, 0, 0) := rfl
theorem ix_151_56 : lkp 56 (mI mi_151) = some (false, .getfield 114, 59, 12, 0) := rfl
theorem ix_151_59 : lkp 59 (mI mi_151) = some (false, .ifCond .le 5, 62, 0, 64) := rfl
theorem ix_151_62 : lkp 62 (mI mi_151) = some (false, .iconst 0, 63, 0, 0) := rfl
theorem ix_151_63 : lkp 63 (mI mi_151) = some (false, .ireturn, 64, 0, 1) := rfl
theorem ix_151_64 : lkp 64 (mI mi_151) = some (false, .aload_n 0, 65, 0, 0) := rfl
theorem ix_151_65 : lkp 65 (mI mi_151) = some (false, .iload_n 1, 66, 1, 0) := rfl
theorem ix_151_66 : lkp 66 (mI mi_151) = some (false, .iload_n 2, 67, 2, 0) := rfl
theorem ix_151_67 : lkp 67 (mI mi_151) = some (false, .invokevirtual 203, 70, 149, 194) := rfl
theorem ix_151_70 : lkp 70 (mI mi_151) = some (false, .ifCond .eq 13, 73, 0, 83) := rfl
theorem ix_151_73 : lkp 73 (mI mi_151) = some (false, .aload_n 0, 74, 0, 0) := rfl
theorem ix_151_74 : lkp 74 (mI mi_151) = some (false, .iload_n 1, 75, 1, 0) := rfl
theorem ix_151_75 : lkp 75 (mI mi_151) = some (false, .iload_n 2, 76, 2, 0) := rfl
theorem ix_151_76 : lkp 76 (mI mi_151) = some (false, .iload_n 3, 77, 3, 0) := rfl
theorem ix_151_77 : lkp 77 (mI mi_151) = some (false, .invokevirtual 207, 80, 148, 195) := rfl
theorem ix_151_80 : lkp 80 (mI mi_151) = some (false, .ifCond .ne 53, 83, 0, 133) := rfl
theorem ix_151_83 : lkp 83 (mI mi_151) = some (false, .aload_n 0, 84, 0, 0) := rfl
theorem ix_151_84 : lkp 84 (mI mi_151) = some (false, .aload_n 0, 85, 0, 0) := rfl
theorem ix_151_85 : lkp 85 (mI mi_151) = some (false, .iload_n 1, 86, 1, 0) := rfl
theorem ix_151_86 : lkp 86 (mI mi_151) = some (false, .iload_n 2, 87, 2, 0) := rfl
theorem ix_151_87 : lkp 87 (mI mi_151) = some (false, .invokevirtual 203, 90, 149, 194) := rfl
theorem ix_151_90 : lkp 90 (mI mi_151) = some (false, .ifCond .ne 8, 93, 0, 98) := rfl
theorem ix_151_93 : lkp 93 (mI mi_151) = some (false, .bipush 104, 95, 104, 0) := rfl
theorem ix_151_95 : lkp 95 (mI mi_151) = some (false, .goto 5, 98, 0, 100) := rfl
theorem ix_151_98 : lkp 98 (mI mi_151) = some (false, .bipush 102, 100, 102, 0) := rfl
theorem ix_151_100 : lkp 100 (mI mi_151) = some (false, .putfield 107, 103, 12, 39) := rfl
theorem ix_151_103 : lkp 103 (mI mi_151) = some (false, .aload_n 0, 104, 0, 0) := rfl
theorem ix_151_104 : lkp 104 (mI mi_151) = some (false, .aload_n 0, 105, 0, 0) := rfl
theorem ix_151_105 : lkp 105 (mI mi_151) = some (false, .iload_n 1, 106, 1, 0) := rfl
theorem ix_151_106 : lkp 106 (mI mi_151) = some (false, .iload_n 2, 107, 2, 0) := rfl
theorem ix_151_107 : lkp 107 (mI mi_151) = some (false, .invokevirtual 203, 110, 149, 194) := rfl
theorem ix_151_110 : lkp 110 (mI mi_151) = some (false, .ifCond .ne 7, 113, 0, 117) := rfl
theorem ix_151_113 : lkp 113 (mI mi_151) = some (false, .iconst (-1), 114, 1, 1) := rfl
theorem ix_151_114 : lkp 114 (mI mi_151) = some (false, .goto 9, 117, 0, 123) := rfl
theorem ix_151_117 : lkp 117 (mI mi_151) = some (false, .aload_n 0, 118, 0, 0) := rfl
theorem ix_151_118 : lkp 118 (mI mi_151) = some (false, .iload_n 1, 119, 1, 0) := rfl
theorem ix_151_119 : lkp 119 (mI mi_151) = some (false, .iload_n 3, 120, 3, 0) := rfl
theorem ix_151_120 : lkp 120 (mI mi_151) = some (false, .invokevirtual 178, 123, 138, 194) := rfl
theorem ix_151_123 : lkp 123 (mI mi_151) = some (false, .putfield 111, 126, 12, 40) := rfl
theorem ix_151_126 : lkp 126 (mI mi_151) = some (false, .aload_n 0, 127, 0, 0) := rfl
theorem ix_151_127 : lkp 127 (mI mi_151) = some (false, .iconst 4, 128, 4, 0) := rfl
theorem ix_151_128 : lkp 128 (mI mi_151) = some (false, .putfield 114, 131, 12, 0) := rfl
theorem ix_151_131 : lkp 131 (mI mi_151) = some (false, .iconst 0, 132, 0, 0) := rfl
theorem ix_151_132 : lkp 132 (mI mi_151) = some (false, .ireturn, 133, 0, 1) := rfl
theorem ix_151_133 : lkp 133 (mI mi_151) = some (false, .aload_n 0, 134, 0, 0) := rfl
theorem ix_151_134 : lkp 134 (mI mi_151) = some (false, .bipush 116, 136, 116, 0) := rfl
theorem ix_151_136 : lkp 136 (mI mi_151) = some (false, .iload_n 1, 137, 1, 0) := rfl
theorem ix_151_137 : lkp 137 (mI mi_151) = some (false, .iload_n 2, 138, 2, 0) := rfl
theorem ix_151_138 : lkp 138 (mI mi_151) = some (false, .iload_n 3, 139, 3, 0) := rfl
theorem ix_151_139 : lkp 139 (mI mi_151) = some (false, .ifCond .eq 7, 142, 0, 146) := rfl
theorem ix_151_142 : lkp 142 (mI mi_151) = some (false, .iconst 1, 143, 1, 0) := rfl
theorem ix_151_143 : lkp 143 (mI mi_151) = some (false, .goto 4, 146, 0, 147) := rfl
theorem ix_151_146 : lkp 146 (mI mi_151) = some (false, .iconst 0, 147, 0, 0) := rfl
theorem ix_151_147 : lkp 147 (mI mi_151) = some (false, .iconst 0, 148, 0, 0) := rfl
theorem ix_151_148 : lkp 148 (mI mi_151) = some (false, .invokevirtual 199, 151, 135, 197) := rfl
theorem ix_151_151 : lkp 151 (mI mi_151) = some (false, .aload_n 0, 152, 0, 0) := rfl
theorem ix_151_152 : lkp 152 (mI mi_151) = some (false, .iload_n 1, 153, 1, 0) := rfl
theorem ix_151_153 : lkp 153 (mI mi_151) = some (false, .invokevirtual 214, 156, 146, 193) := rfl
theorem ix_151_156 : lkp 156 (mI mi_151) = some (false, .ireturn, 157, 0, 1) := rfl
theorem ix_152_0 : lkp 0 (mI mi_152) = some (false, .aload_n 0, 1, 0, 0) := rfl
theorem ix_152_1 : lkp 1 (mI mi_152) = some (false, .getfield 19, 4, 12, 5) := rfl
theorem ix_152_4 : lkp 4 (mI mi_152) = some (false, .aload_n 0, 5, 0, 0) := rfl
theorem ix_152_5 : lkp 5 (mI mi_152) = some (false, .getfield 44, 8, 12, 17) := rfl
theorem ix_152_8 : lkp 8 (mI mi_152) = some (false, .iload_n 1, 9, 1, 0) := rfl
theorem ix_152_9 : lkp 9 (mI mi_152) = some (false, .iaload, 10, 0, 0) := rfl
theorem ix_152_10 : lkp 10 (mI mi_152) = some (false, .baload, 11, 0, 0) := rfl
theorem ix_152_11 : lkp 11 (mI mi_152) = some (false, .ifCond .eq 21, 14, 0, 32) := rfl
theorem ix_152_14 : lkp 14 (mI mi_152) = some (false, .aload_n 0, 15, 0, 0) := rfl
theorem ix_152_15 : lkp 15 (mI mi_152) = some (false, .getfield 53, 18, 12, 20) := rfl
theorem ix_152_18 : lkp 18 (mI mi_152) = some (false, .iload_n 1, 19, 1, 0) := rfl
theorem ix_152_19 : lkp 19 (mI mi_152) = some (false, .iaload, 20, 0, 0) := rfl
theorem ix_152_20 : lkp 20 (mI mi_152) = some (false, .aload_n 0, 21, 0, 0) := rfl
theorem ix_152_21 : lkp 21 (mI mi_152) = some (false, .iload_n 1, 22, 1, 0) := rfl
theorem ix_152_22 : lkp 22 (mI mi_152) = some (false, .invokevirtual 160, 25, 130, 193) := rfl
theorem ix_152_25 : lkp 25 (mI mi_152) = some (false, .if_icmp .ge 7, 28, 0, 32) := rfl
theorem ix_152_28 : lkp 28 (mI mi_152) = some (false, .iconst 1, 29, 1, 0) := rfl
theorem ix_152_29 : lkp 29 (mI mi_152) = some (false, .goto 4, 32, 0, 33) := rfl
theorem ix_152_32 : lkp 32 (mI mi_152) = some (false, .iconst 0, 33, 0, 0) := rfl
theorem ix_152_33 : lkp 33 (mI mi_152) = some (false, .ireturn, 34, 0, 1) := rfl
theorem ix_153_0 : lkp 0 (mI mi_153) = some (false, .aload_n 0, 1, 0, 0) := rfl
theorem ix_153_1 : lkp 1 (mI mi_153) = some (false, .aload_n 0, 2, 0, 0) := rfl
theorem ix_153_2 : lkp 2 (mI mi_153) = some (false, .iload_n 1, 3, 1, 0) := rfl
theorem ix_153_3 : lkp 3 (mI mi_153) = some (false, .invokevirtual 211, 6, 129, 193) := rfl
theorem ix_153_6 : lkp 6 (mI mi_153) = some (false, .ifCond .ne 7, 9, 0, 13) := rfl
theorem ix_153_9 : lkp 9 (mI mi_153) = some (false, .iconst 1, 10, 1, 0) := rfl
theorem ix_153_10 : lkp 10 (mI mi_153) = some (false, .goto 23, 13, 0, 33) := rfl
theorem ix_153_13 : lkp 13 (mI mi_153) = some (false, .aload_n 0, 14, 0, 0) := rfl
theorem ix_153_14 : lkp 14 (mI mi_153) = some (false, .iload_n 1, 15, 1, 0) := rfl
theorem ix_153_15 : lkp 15 (mI mi_153) = some (false, .invokevirtual 214, 18, 146, 193) := rfl
theorem ix_153_18 : lkp 18 (mI mi_153) = some (false, .ifCond .ne 10, 21, 0, 28) := rfl
theorem ix_153_21 : lkp 21 (mI mi_153) = some (false, .aload_n 0, 22, 0, 0) := rfl
theorem ix_153_22 : lkp 22 (mI mi_153) = some (false, .invokevirtual 195, 25, 145, 192) := rfl
theorem ix_153_25 : lkp 25 (mI mi_153) = some (false, .ifCond .eq 7, 28, 0, 32) := rfl
theorem ix_153_28 : lkp 28 (mI mi_153) = some (false, .iconst 2, 29, 2, 0) := rfl
theorem ix_153_29 : lkp 29 (mI mi_153) = some (false, .goto 4, 32, 0, 33) := rfl
theorem ix_153_32 : lkp 32 (mI mi_153) = some (false, .iconst 0, 33, 0, 0) := rfl
theorem ix_153_33 : lkp 33 (mI mi_153) = some (false, .putfield 114, 36, 12, 0) := rfl
theorem ix_153_36 : lkp 36 (mI mi_153) = some (false, .aload_n 0, 37, 0, 0) := rfl
theorem ix_153_37 : lkp 37 (mI mi_153) = some (false, .getfield 114, 40, 12, 0) := rfl
theorem ix_153_40 : lkp 40 (mI mi_153) = some (false, .ifCond .ne 28, 43, 0, 68) := rfl
theorem ix_153_43 : lkp 43 (mI mi_153) = some (false, .aload_n 0, 44, 0, 0) := rfl
theorem ix_153_44 : lkp 44 (mI mi_153) = some (false, .aload_n 0, 45, 0, 0) := rfl
theorem ix_153_45 : lkp 45 (mI mi_153) = some (false, .iload_n 1, 46, 1, 0) := rfl
theorem ix_153_46 : lkp 46 (mI mi_153) = some (false, .invokevirtual 217, 49, 150, 193) := rfl
theorem ix_153_49 : lkp 49 (mI mi_153) = some (false, .ifCond .ne 11, 52, 0, 60) := rfl
theorem ix_153_52 : lkp 52 (mI mi_153) = some (false, .aload_n 0, 53, 0, 0) := rfl
theorem ix_153_53 : lkp 53 (mI mi_153) = some (false, .iload_n 1, 54, 1, 0) := rfl
theorem ix_153_54 : lkp 54 (mI mi_153) = some (false, .invokevirtual 220, 57, 152, 193) := rfl
theorem ix_153_57 : lkp 57 (mI mi_153) = some (false, .ifCond .ne 7, 60, 0, 64) := rfl
theorem ix_153_60 : lkp 60 (mI mi_153) = some (false, .iconst 3, 61, 3, 0) := rfl
theorem ix_153_61 : lkp 61 (mI mi_153) = some (false, .goto 4, 64, 0, 65) := rfl
theorem ix_153_64 : lkp 64 (mI mi_153) = some (false, .iconst 0, 65, 0, 0) := rfl
theorem ix_153_65 : lkp 65 (mI mi_153) = some (false, .putfield 114, 68, 12, 0) := rfl
theorem ix_153_68 : lkp 68 (mI mi_153) = some (false, .aload_n 0, 69, 0, 0) := rfl
theorem ix_153_69 : lkp 69 (mI mi_153) = some (false, .getfield 114, 72, 12, 0) := rfl
theorem ix_153_72 : lkp 72 (mI mi_153) = some (false, .ifCond .le 5, 75, 0, 77) := rfl
theorem ix_153_75 : lkp 75 (mI mi_153) = some (false, .iconst 0, 76, 0, 0) := rfl
theorem ix_153_76 : lkp 76 (mI mi_153) = some (false, .ireturn, 77, 0, 0) := rfl
theorem ix_153_77 : lkp 77 (mI mi_153) = some (false, .aload_n 0, 78, 0, 0) := rfl
theorem ix_153_78 : lkp 78 (mI mi_153) = some (false, .getfield 47, 81, 12, 18) := rfl
theorem ix_153_81 : lkp 81 (mI mi_153) = some (false, .bipush 28, 83, 28, 0) := rfl
theorem ix_153_83 : lkp 83 (mI mi_153) = some (false, .iload_n 1, 84, 1, 0) := rfl
theorem ix_153_84 : lkp 84 (mI mi_153) = some (false, .imul, 85, 0, 0) := rfl
theorem ix_153_85 : lkp 85 (mI mi_153) = some (false, .aload_n 0, 86, 0, 0) := rfl
theorem ix_153_86 : lkp 86 (mI mi_153) = some (false, .getfield 53, 89, 12, 20) := rfl
theorem ix_153_89 : lkp 89 (mI mi_153) = some (false, .iload_n 1, 90, 1, 0) := rfl
theorem ix_153_90 : lkp 90 (mI mi_153) = some (false, .iaload, 91, 0, 0) := rfl
theorem ix_153_91 : lkp 91 (mI mi_153) = some (false, .iadd, 92, 0, 0) := rfl
theorem ix_153_92 : lkp 92 (mI mi_153) = some (false, .iaload, 93, 0, 0) := rfl
theorem ix_153_93 : lkp 93 (mI mi_153) = some (false, .istore_n 2, 94, 2, 0) := rfl
theorem ix_153_94 : lkp 94 (mI mi_153) = some (false, .aload_n 0, 95, 0, 0) := rfl
theorem ix_153_95 : lkp 95 (mI mi_153) = some (false, .bipush 100, 97, 100, 0) := rfl
theorem ix_153_97 : lkp 97 (mI mi_153) = some (false, .iload_n 1, 98, 1, 0) := rfl
theorem ix_153_98 : lkp 98 (mI mi_153) = some (false, .iconst 0, 99, 0, 0) := rfl
theorem ix_153_99 : lkp 99 (mI mi_153) = some (false, .iconst 0, 100, 0, 0) := rfl
theorem ix_153_100 : lkp 100 (mI mi_153) = some (false, .iconst 0, 101, 0, 0) := rfl
theorem ix_153_101 : lkp 101 (mI mi_153) = some (false, .invokevirtual 199, 104, 135, 197) := rfl
theorem ix_153_104 : lkp 104 (mI mi_153) = some (false, .iload_n 2, 105, 2, 0) := rfl
theorem ix_153_105 : lkp 105 (mI mi_153) = some (false, .ireturn, 106, 0, 0) := rfl
theorem ix_154_0 : lkp 0 (mI mi_154) = some (false, .aload_n 0, 1, 0, 0) := rfl
theorem ix_154_1 : lkp 1 (mI mi_154) = some (false, .aload_n 0, 2, 0, 0) := rfl
theorem ix_154_2 : lkp 2 (mI mi_154) = some (false, .iload_n 1, 3, 1, 0) := rfl
theorem ix_154_3 : lkp 3 (mI mi_154) = some (false, .invokevirtual 211, 6, 129, 193) := rfl
theorem ix_154_6 : lkp 6 (mI mi_154) = some (false, .ifCond .ne 7, 9, 0, 13) := rfl
theorem ix_154_9 : lkp 9 (mI mi_154) = some (false, .iconst 1, 10, 1, 0) := rfl
theorem ix_154_10 : lkp 10 (mI mi_154) = some (false, .goto 23, 13, 0, 33) := rfl
theorem ix_154_13 : lkp 13 (mI mi_154) = some (false, .aload_n 0, 14, 0, 0) := rfl
theorem ix_154_14 : lkp 14 (mI mi_154) = some (false, .iload_n 1, 15, 1, 0) := rfl
theorem ix_154_15 : lkp 15 (mI mi_154) = some (false, .invokevirtual 214, 18, 146, 193) := rfl
theorem ix_154_18 : lkp 18 (mI mi_154) = some (false, .ifCond .ne 10, 21, 0, 28) := rfl
theorem ix_154_21 : lkp 21 (mI mi_154) = some (false, .aload_n 0, 22, 0, 0) := rfl
theorem ix_154_22 : lkp 22 (mI mi_154) = some (false, .invokevirtual 195, 25, 145, 192) := rfl
theorem ix_154_25 : lkp 25 (mI mi_154) = some (false, .ifCond .eq 7, 28, 0, 32) := rfl
theorem ix_154_28 : lkp 28 (mI mi_154) = some (false, .iconst 2, 29, 2, 0) := rfl
theorem ix_154_29 : lkp 29 (mI mi_154) = some (false, .goto 4, 32, 0, 33) := rfl
theorem ix_154_32 : lkp 32 (mI mi_154) = some (false, .iconst 0, 33, 0, 0) := rfl
theorem ix_154_33 : lkp 33 (mI mi_154) = some (false, .putfield 114, 36, 12, 0) := rfl
theorem ix_154_36 : lkp 36 (mI mi_154) = some (false, .aload_n 0, 37, 0, 0) := rfl
theorem ix_154_37 : lkp 37 (mI mi_154) = some (false, .getfield 114, 40, 12, 0) := rfl
theorem ix_154_40 : lkp 40 (mI mi_154) = some (false, .ifCond .ne 28, 43, 0, 68) := rfl
theorem ix_154_43 : lkp 43 (mI mi_154) = some (false, .aload_n 0, 44, 0, 0) := rfl
theorem ix_154_44 : lkp 44 (mI mi_154) = some (false, .aload_n 0, 45, 0, 0) := rfl
theorem ix_154_45 : lkp 45 (mI mi_154) = some (false, .iload_n 1, 46, 1, 0) := rfl
theorem ix_154_46 : lkp 46 (mI mi_154) = some (false, .invokevirtual 217, 49, 150, 193) := rfl
theorem ix_154_49 : lkp 49 (mI mi_154) = some (false, .ifCond .ne 11, 52, 0, 60) := rfl
theorem ix_154_52 : lkp 52 (mI mi_154) = some (false, .aload_n 0, 53, 0, 0) := rfl
theorem ix_154_53 : lkp 53 (mI mi_154) = some (false, .iload_n 1, 54, 1, 0) := rfl
theorem ix_154_54 : lkp 54 (mI mi_154) = some (false, .invokevirtual 220, 57, 152, 193) := rfl
theorem ix_154_57 : lkp 57 (mI mi_154) = some (false, .ifCond .eq 7, 60, 0, 64) := rfl
theorem ix_154_60 : lkp 60 (mI mi_154) = some (false, .iconst 3, 61, 3, 0) := rfl
theorem ix_154_61 : lkp 61 (mI mi_154) = some (false, .goto 4, 64, 0, 65) := rfl
theorem ix_154_64 : lkp 64 (mI mi_154) = some (false, .iconst 0, 65, 0, 0) := rfl
theorem ix_154_65 : lkp 65 (mI mi_154) = some (false, .putfield 114, 68, 12, 0) := rfl
theorem ix_154_68 : lkp 68 (mI mi_154) = some (false, .aload_n 0, 69, 0, 0) := rfl
theorem ix_154_69 : lkp 69 (mI mi_154) = some (false, .getfield 114, 72, 12, 0) := rfl
theorem ix_154_72 : lkp 72 (mI mi_154) = some (false, .ifCond .le 5, 75, 0, 77) := rfl
theorem ix_154_75 : lkp 75 (mI mi_154) = some (false, .iconst 0, 76, 0, 0) := rfl
theorem ix_154_76 : lkp 76 (mI mi_154) = some (false, .ireturn, 77, 0, 1) := rfl
theorem ix_154_77 : lkp 77 (mI mi_154) = some (false, .aload_n 0, 78, 0, 0) := rfl
theorem ix_154_78 : lkp 78 (mI mi_154) = some (false, .bipush 112, 80, 112, 0) := rfl
theorem ix_154_80 : lkp 80 (mI mi_154) = some (false, .iload_n 1, 81, 1, 0) := rfl
theorem ix_154_81 : lkp 81 (mI mi_154) = some (false, .iconst 0, 82, 0, 0) := rfl
theorem ix_154_82 : lkp 82 (mI mi_154) = some (false, .iconst 0, 83, 0, 0) := rfl
theorem ix_154_83 : lkp 83 (mI mi_154) = some (false, .iconst 0, 84, 0, 0) := rfl
theorem ix_154_84 : lkp 84 (mI mi_154) = some (false, .invokevirtual 199, 87, 135, 197) := rfl
theorem ix_154_87 : lkp 87 (mI mi_154) = some (false, .aload_n 0, 88, 0, 0) := rfl
theorem ix_154_88 : lkp 88 (mI mi_154) = some (false, .iload_n 1, 89, 1, 0) := rfl
theorem ix_154_89 : lkp 89 (mI mi_154) = some (false, .invokevirtual 214, 92, 146, 193) := rfl
theorem ix_154_92 : lkp 92 (mI mi_154) = some (false, .ireturn, 93, 0, 1) := rfl
theorem ix_155_0 : lkp 0 (mI mi_155) = some (false, .aload_n 0, 1, 0, 0) := rfl
theorem ix_155_1 : lkp 1 (mI mi_155) = some (false, .aload_n 0, 2, 0, 0) := rfl
theorem ix_155_2 : lkp 2 (mI mi_155) = some (false, .iload_n 1, 3, 1, 0) := rfl
theorem ix_155_3 : lkp 3 (mI mi_155) = some (false, .invokevirtual 211, 6, 129, 193) := rfl
theorem ix_155_6 : lkp 6 (mI mi_155) = some (false, .ifCond .eq 7, 9, 0, 13) := rfl
theorem ix_155_9 : lkp 9 (mI mi_155) = some (false, .iconst 0, 10, 0, 0) := rfl
theorem ix_155_10 : lkp 10 (mI mi_155) = some (false, .goto 4, 13, 0, 14) := rfl
theorem ix_155_13 : lkp 13 (mI mi_155) = some (false, .iconst 1, 14, 1, 0) := rfl
theorem ix_155_14 : lkp 14 (mI mi_155) = some (false, .putfield 114, 17, 12, 0) := rfl
theorem ix_155_17 : lkp 17 (mI mi_155) = some (false, .aload_n 0, 18, 0, 0) := rfl
theorem ix_155_18 : lkp 18 (mI mi_155) = some (false, .getfield 114, 21, 12, 0) := rfl
theorem ix_155_21 : lkp 21 (mI mi_155) = some (false, .ifCond .le 7, 24, 0, 28) := rfl
theorem ix_155_24 : lkp 24 (mI mi_155) = some (false, .iconst 1, 25, 1, 0) := rfl
theorem ix_155_25 : lkp 25 (mI mi_155) = some (false, .goto 4, 28, 0, 29) := rfl
theorem ix_155_28 : lkp 28 (mI mi_155) = some (false, .iconst 0, 29, 0, 0) := rfl
theorem ix_155_29 : lkp 29 (mI mi_155) = some (false, .ireturn, 30, 0, 1) := rfl
theorem ix_156_0 : lkp 0 (mI mi_156) = some (false, .aload_n 0, 1, 0, 0) := rfl
theorem ix_156_1 : lkp 1 (mI mi_156) = some (false, .iload_n 1, 2, 1, 0) := rfl
theorem ix_156_2 : lkp 2 (mI mi_156) = some (false, .invokevirtual 223, 5, 155, 193) := rfl
theorem ix_156_5 : lkp 5 (mI mi_156) = some (false, .ifCond .eq 5, 8, 0, 10) := rfl
theorem ix_156_8 : lkp 8 (mI mi_156) = some (false, .iconst 0, 9, 0, 0) := rfl
theorem ix_156_9 : lkp 9 (mI mi_156) = some (false, .ireturn, 10, 0, 0) := rfl
theorem ix_156_10 : lkp 10 (mI mi_156) = some (false, .aload_n 0, 11, 0, 0) := rfl
theorem ix_156_11 : lkp 11 (mI mi_156) = some (false, .aload_n 0, 12, 0, 0) := rfl
theorem ix_156_12 : lkp 12 (mI mi_156) = some (false, .iload_n 1, 13, 1, 0) := rfl
theorem ix_156_13 : lkp 13 (mI mi_156) = some (false, .invokevirtual 214, 16, 146, 193) := rfl
theorem ix_156_16 : lkp 16 (mI mi_156) = some (false, .ifCond .eq 7, 19, 0, 23) := rfl
theorem ix_156_19 : lkp 19 (mI mi_156) = some (false, .iconst 2, 20, 2, 0) := rfl
theorem ix_156_20 : lkp 20 (mI mi_156) = some (false, .goto 4, 23, 0, 24) := rfl
theorem ix_156_23 : lkp 23 (mI mi_156) = some (false, .iconst 0, 24, 0, 0) := rfl
theorem ix_156_24 : lkp 24 (mI mi_156) = some (false, .putfield 114, 27, 12, 0) := rfl
theorem ix_156_27 : lkp 27 (mI mi_156) = some (false, .aload_n 0, 28, 0, 0) := rfl
theorem ix_156_28 : lkp 28 (mI mi_156) = some (false, .getfield 114, 31, 12, 0) := rfl
theorem ix_156_31 : lkp 31 (mI mi_156) = some (false, .ifCond .le 7, 34, 0, 38) := rfl
theorem ix_156_34 : lkp 34 (mI mi_156) = some (false, .iconst 0, 35, 0, 0) := rfl
theorem ix_156_35 : lkp 35 (mI mi_156) = some (false, .goto 9, 38, 0, 44) := rfl
theorem ix_156_38 : lkp 38 (mI mi_156) = some (false, .aload_n 0, 39, 0, 0) := rfl
theorem ix_156_39 : lkp 39 (mI mi_156) = some (false, .getfield 56, 42, 12, 21) := rfl
theorem ix_156_42 : lkp 42 (mI mi_156) = some (false, .iload_n 1, 43, 1, 0) := rfl
theorem ix_156_43 : lkp 43 (mI mi_156) = some (false, .iaload, 44, 0, 0) := rfl
theorem ix_156_44 : lkp 44 (mI mi_156) = some (false, .ireturn, 45, 0, 0) := rfl
theorem ix_157_0 : lkp 0 (mI mi_157) = some (false, .aload_n 0, 1, 0, 0) := rfl
theorem ix_157_1 : lkp 1 (mI mi_157) = some (false, .iload_n 1, 2, 1, 0) := rfl
theorem ix_157_2 : lkp 2 (mI mi_157) = some (false, .invokevirtual 223, 5, 155, 193) := rfl
theorem ix_157_5 : lkp 5 (mI mi_157) = some (false, .ifCond .eq 5, 8, 0, 10) := rfl
theorem ix_157_8 : lkp 8 (mI mi_157) = some (false, .lconst 0, 9, 0, 0) := rfl
theorem ix_157_9 : lkp 9 (mI mi_157) = some (false, .lreturn, 10, 0, 0) := rfl
theorem ix_157_10 : lkp 10 (mI mi_157) = some (false, .aload_n 0, 11, 0, 0) := rfl
theorem ix_157_11 : lkp 11 (mI mi_157) = some (false, .iload_n 2, 12, 2, 0) := rfl
theorem ix_157_12 : lkp 12 (mI mi_157) = some (false, .iconst 0, 13, 0, 0) := rfl
theorem ix_157_13 : lkp 13 (mI mi_157) = some (false, .aload_n 0, 14, 0, 0) := rfl
theorem ix_157_14 : lkp 14 (mI mi_157) = some (false, .iload_n 1, 15, 1, 0) := rfl
theorem ix_157_15 : lkp 15 (mI mi_157) = some (false, .invokevirtual 182, 18, 131, 193) := rfl
theorem ix_157_18 : lkp 18 (mI mi_157) = some (false, .iconst 1, 19, 1, 0) := rfl
theorem ix_157_19 : lkp 19 (mI mi_157) = some (false, .isub, 20, 0, 0) := rfl
theorem ix_157_20 : lkp 20 (mI mi_157) = some (false, .invokestatic 120, 23, 126, 3) := rfl
theorem ix_157_23 : lkp 23 (mI mi_157) = some (false, .ifCond .eq 7, 26, 0, 30) := rfl
theorem ix_157_26 : lkp 26 (mI mi_157) = some (false, .iconst 0, 27, 0, 0) := rfl
theorem ix_157_27 : lkp 27 (mI mi_157) = some (false, .goto 4, 30, 0, 31) := rfl
theorem ix_157_30 : lkp 30 (mI mi_157) = some (false, .iconst 1, 31, 1, 0) := rfl
theorem ix_157_31 : lkp 31 (mI mi_157) = some (false, .putfield 114, 34, 12, 0) := rfl
theorem ix_157_34 : lkp 34 (mI mi_157) = some (false, .aload_n 0, 35, 0, 0) := rfl
theorem ix_157_35 : lkp 35 (mI mi_157) = some (false, .getfield 114, 38, 12, 0) := rfl
theorem ix_157_38 : lkp 38 (mI mi_157) = some (false, .ifCond .le 7, 41, 0, 45) := rfl
theorem ix_157_41 : lkp 41 (mI mi_157) = some (false, .lconst 0, 42, 0, 0) := rfl
theorem ix_157_42 : lkp 42 (mI mi_157) = some (false, .goto 14, 45, 0, 56) := rfl
theorem ix_157_45 : lkp 45 (mI mi_157) = some (false, .aload_n 0, 46, 0, 0) := rfl
theorem ix_157_46 : lkp 46 (mI mi_157) = some (false, .getfield 50, 49, 12, 19) := rfl
theorem ix_157_49 : lkp 49 (mI mi_157) = some (false, .iconst 4, 50, 4, 0) := rfl
theorem ix_157_50 : lkp 50 (mI mi_157) = some (false, .iload_n 1, 51, 1, 0) := rfl
theorem ix_157_51 : lkp 51 (mI mi_157) = some (false, .imul, 52, 0, 0) := rfl
theorem ix_157_52 : lkp 52 (mI mi_157) = some (false, .iload_n 2, 53, 2, 0) := rfl
theorem ix_157_53 : lkp 53 (mI mi_157) = some (false, .iadd, 54, 0, 0) := rfl
theorem ix_157_54 : lkp 54 (mI mi_157) = some (false, .iaload, 55, 0, 0) := rfl
theorem ix_157_55 : lkp 55 (mI mi_157) = some (false, .i2l, 56, 0, 0) := rfl
theorem ix_157_56 : lkp 56 (mI mi_157) = some (false, .lreturn, 57, 0, 0) := rfl
theorem ix_158_0 : lkp 0 (mI mi_158) = some (false, .aload_n 0, 1, 0, 0) := rfl
theorem ix_158_1 : lkp 1 (mI mi_158) = some (false, .iload_n 1, 2, 1, 0) := rfl
theorem ix_158_2 : lkp 2 (mI mi_158) = some (false, .invokevirtual 223, 5, 155, 193) := rfl
theorem ix_158_5 : lkp 5 (mI mi_158) = some (false, .ifCond .eq 7, 8, 0, 12) := rfl
theorem ix_158_8 : lkp 8 (mI mi_158) = some (false, .iconst 0, 9, 0, 0) := rfl
theorem ix_158_9 : lkp 9 (mI mi_158) = some (false, .goto 15, 12, 0, 24) := rfl
theorem ix_158_12 : lkp 12 (mI mi_158) = some (false, .aload_n 0, 13, 0, 0) := rfl
theorem ix_158_13 : lkp 13 (mI mi_158) = some (false, .iload_n 1, 14, 1, 0) := rfl
theorem ix_158_14 : lkp 14 (mI mi_158) = some (false, .invokevirtual 160, 17, 130, 193) := rfl
theorem ix_158_17 : lkp 17 (mI mi_158) = some (false, .aload_n 0, 18, 0, 0) := rfl
theorem ix_158_18 : lkp 18 (mI mi_158) = some (false, .getfield 53, 21, 12, 20) := rfl
theorem ix_158_21 : lkp 21 (mI mi_158) = some (false, .iload_n 1, 22, 1, 0) := rfl
theorem ix_158_22 : lkp 22 (mI mi_158) = some (false, .iaload, 23, 0, 0) := rfl
theorem ix_158_23 : lkp 23 (mI mi_158) = some (false, .isub, 24, 0, 0) := rfl
theorem ix_158_24 : lkp 24 (mI mi_158) = some (false, .ireturn, 25, 0, 0) := rfl
theorem ix_159_0 : lkp 0 (mI mi_159) = some (false, .aload_n 0, 1, 0, 0) := rfl
theorem ix_159_1 : lkp 1 (mI mi_159) = some (false, .iload_n 1, 2, 1, 0) := rfl
theorem ix_159_2 : lkp 2 (mI mi_159) = some (false, .invokevirtual 223, 5, 155, 193) := rfl
theorem ix_159_5 : lkp 5 (mI mi_159) = some (false, .ifCond .eq 5, 8, 0, 10) := rfl
theorem ix_159_8 : lkp 8 (mI mi_159) = some (false, .iconst 0, 9, 0, 0) := rfl
theorem ix_159_9 : lkp 9 (mI mi_159) = some (false, .ireturn, 10, 0, 0) := rfl
theorem ix_159_10 : lkp 10 (mI mi_159) = some (false, .aload_n 0, 11, 0, 0) := rfl
theorem ix_159_11 : lkp 11 (mI mi_159) = some (false, .aload_n 0, 12, 0, 0) := rfl
theorem ix_159_12 : lkp 12 (mI mi_159) = some (false, .getfield 71, 15, 12, 26) := rfl
theorem ix_159_15 : lkp 15 (mI mi_159) = some (false, .iload_n 1, 16, 1, 0) := rfl
theorem ix_159_16 : lkp 16 (mI mi_159) = some (false, .iaload, 17, 0, 0) := rfl
theorem ix_159_17 : lkp 17 (mI mi_159) = some (false, .ifCond .ne 7, 20, 0, 24) := rfl
theorem ix_159_20 : lkp 20 (mI mi_159) = some (false, .iconst 2, 21, 2, 0) := rfl
theorem ix_159_21 : lkp 21 (mI mi_159) = some (false, .goto 4, 24, 0, 25) := rfl
theorem ix_159_24 : lkp 24 (mI mi_159) = some (false, .iconst 0, 25, 0, 0) := rfl
theorem ix_159_25 : lkp 25 (mI mi_159) = some (false, .putfield 114, 28, 12, 0) := rfl
theorem ix_159_28 : lkp 28 (mI mi_159) = some (false, .aload_n 0, 29, 0, 0) := rfl
theorem ix_159_29 : lkp 29 (mI mi_159) = some (false, .getfield 114, 32, 12, 0) := rfl
theorem ix_159_32 : lkp 32 (mI mi_159) = some (false, .ifCond .le 7, 35, 0, 39) := rfl
theorem ix_159_35 : lkp 35 (mI mi_159) = some (false, .iconst 0, 36, 0, 0) := rfl
theorem ix_159_36 : lkp 36 (mI mi_159) = some (false, .goto 9, 39, 0, 45) := rfl
theorem ix_159_39 : lkp 39 (mI mi_159) = some (false, .aload_n 0, 40, 0, 0) := rfl
theorem ix_159_40 : lkp 40 (mI mi_159) = some (false, .iload_n 1, 41, 1, 0) := rfl
theorem ix_159_41 : lkp 41 (mI mi_159) = some (false, .iload_n 2, 42, 2, 0) := rfl
theorem ix_159_42 : lkp 42 (mI mi_159) = some (false, .invokevirtual 178, 45, 138, 194) := rfl
theorem ix_159_45 : lkp 45 (mI mi_159) = some (false, .ireturn, 46, 0, 0) := rfl
theorem ix_160_0 : lkp 0 (mI mi_160) = some (false, .aload_n 0, 1, 0, 0) := rfl
theorem ix_160_1 : lkp 1 (mI mi_160) = some (false, .iload_n 1, 2, 1, 0) := rfl
theorem ix_160_2 : lkp 2 (mI mi_160) = some (false, .invokevirtual 223, 5, 155, 193) := rfl
theorem ix_160_5 : lkp 5 (mI mi_160) = some (false, .ifCond .eq 7, 8, 0, 12) := rfl
theorem ix_160_8 : lkp 8 (mI mi_160) = some (false, .iconst 0, 9, 0, 0) := rfl
theorem ix_160_9 : lkp 9 (mI mi_160) = some (false, .goto 11, 12, 0, 20) := rfl
theorem ix_160_12 : lkp 12 (mI mi_160) = some (false, .iconst 5, 13, 5, 0) := rfl
theorem ix_160_13 : lkp 13 (mI mi_160) = some (false, .aload_n 0, 14, 0, 0) := rfl
theorem ix_160_14 : lkp 14 (mI mi_160) = some (false, .getfield 71, 17, 12, 26) := rfl
theorem ix_160_17 : lkp 17 (mI mi_160) = some (false, .iload_n 1, 18, 1, 0) := rfl
theorem ix_160_18 : lkp 18 (mI mi_160) = some (false, .iaload, 19, 0, 0) := rfl
theorem ix_160_19 : lkp 19 (mI mi_160) = some (false, .imul, 20, 0, 0) := rfl
theorem ix_160_20 : lkp 20 (mI mi_160) = some (false, .ireturn, 21, 0, 0) := rfl
theorem ix_161_0 : lkp 0 (mI mi_161) = some (false, .aload_n 0, 1, 0, 0) := rfl
theorem ix_161_1 : lkp 1 (mI mi_161) = some (false, .iload_n 1, 2, 1, 0) := rfl
theorem ix_161_2 : lkp 2 (mI mi_161) = some (false, .invokevirtual 223, 5, 155, 193) := rfl
theorem ix_161_5 : lkp 5 (mI mi_161) = some (false, .ifCond .eq 6, 8, 0, 11) := rfl
theorem ix_161_8 : lkp 8 (mI mi_161) = some (false, .bipush 32, 10, 32, 0) := rfl
theorem ix_161_10 : lkp 10 (mI mi_161) = some (false, .ireturn, 11, 0, 2) := rfl
theorem ix_161_11 : lkp 11 (mI mi_161) = some (false, .aload_n 0, 12, 0, 0) := rfl
theorem ix_161_12 : lkp 12 (mI mi_161) = some (false, .iload_n 2, 13, 2, 0) := rfl
theorem ix_161_13 : lkp 13 (mI mi_161) = some (false, .iconst 0, 14, 0, 0) := rfl
theorem ix_161_14 : lkp 14 (mI mi_161) = some (false, .iconst 5, 15, 5, 0) := rfl
theorem ix_161_15 : lkp 15 (mI mi_161) = some (false, .aload_n 0, 16, 0, 0) := rfl
theorem ix_161_16 : lkp 16 (mI mi_161) = some (false, .getfield 71, 19, 12, 26) := rfl
theorem ix_161_19 : lkp 19 (mI mi_161) = some (false, .iload_n 1, 20, 1, 0) := rfl
theorem ix_161_20 : lkp 20 (mI mi_161) = some (false, .iaload, 21, 0, 0) := rfl
theorem ix_161_21 : lkp 21 (mI mi_161) = some (false, .imul, 22, 0, 0) := rfl
theorem ix_161_22 : lkp 22 (mI mi_161) = some (false, .iconst 1, 23, 1, 0) := rfl
theorem ix_161_23 : lkp 23 (mI mi_161) = some (false, .isub, 24, 0, 0) := rfl
theorem ix_161_24 : lkp 24 (mI mi_161) = some (false, .invokestatic 120, 27, 126, 3) := rfl
theorem ix_161_27 : lkp 27 (mI mi_161) = some (false, .ifCond .eq 7, 30, 0, 34) := rfl
theorem ix_161_30 : lkp 30 (mI mi_161) = some (false, .iconst 0, 31, 0, 0) := rfl
theorem ix_161_31 : lkp 31 (mI mi_161) = some (false, .goto 4, 34, 0, 35) := rfl
theorem ix_161_34 : lkp 34 (mI mi_161) = some (false, .iconst 2, 35, 2, 0) := rfl
theorem ix_161_35 : lkp 35 (mI mi_161) = some (false, .putfield 114, 38, 12, 0) := rfl
theorem ix_161_38 : lkp 38 (mI mi_161) = some (false, .aload_n 0, 39, 0, 0) := rfl
theorem ix_161_39 : lkp 39 (mI mi_161) = some (false, .getfield 114, 42, 12, 0) := rfl
theorem ix_161_42 : lkp 42 (mI mi_161) = some (false, .ifCond .le 6, 45, 0, 48) := rfl
theorem ix_161_45 : lkp 45 (mI mi_161) = some (false, .bipush 32, 47, 32, 0) := rfl
theorem ix_161_47 : lkp 47 (mI mi_161) = some (false, .ireturn, 48, 0, 2) := rfl
theorem ix_161_48 : lkp 48 (mI mi_161) = some (false, .iload_n 3, 49, 3, 0) := rfl
theorem ix_161_49 : lkp 49 (mI mi_161) = some (false, .ifCond .eq 18, 52, 0, 67) := rfl
theorem ix_161_52 : lkp 52 (mI mi_161) = some (false, .aload_n 0, 53, 0, 0) := rfl
theorem ix_161_53 : lkp 53 (mI mi_161) = some (false, .getfield 71, 56, 12, 26) := rfl
theorem ix_161_56 : lkp 56 (mI mi_161) = some (false, .iload_n 1, 57, 1, 0) := rfl
theorem ix_161_57 : lkp 57 (mI mi_161) = some (false, .iaload, 58, 0, 0) := rfl
theorem ix_161_58 : lkp 58 (mI mi_161) = some (false, .iconst 1, 59, 1, 0) := rfl
theorem ix_161_59 : lkp 59 (mI mi_161) = some (false, .isub, 60, 0, 0) := rfl
theorem ix_161_60 : lkp 60 (mI mi_161) = some (false, .iload_n 2, 61, 2, 0) := rfl
theorem ix_161_61 : lkp 61 (mI mi_161) = some (false, .iconst 5, 62, 5, 0) := rfl
theorem ix_161_62 : lkp 62 (mI mi_161) = some (false, .idiv, 63, 0, 0) := rfl
theorem ix_161_63 : lkp 63 (mI mi_161) = some (false, .isub, 64, 0, 0) := rfl
theorem ix_161_64 : lkp 64 (mI mi_161) = some (false, .goto 6, 67, 0, 70) := rfl
theorem ix_161_67 : lkp 67 (mI mi_161) = some (false, .iload_n 2, 68, 2, 0) := rfl
theorem ix_161_68 : lkp 68 (mI mi_161) = some (false, .iconst 5, 69, 5, 0) := rfl
theorem ix_161_69 : lkp 69 (mI mi_161) = some (false, .idiv, 70, 0, 0) := rfl
theorem ix_161_70 : lkp 70 (mI mi_161) = some (false, .istore 4, 72, 4, 0) := rfl
theorem ix_161_72 : lkp 72 (mI mi_161) = some (false, .aload_n 0, 73, 0, 0) := rfl
theorem ix_161_73 : lkp 73 (mI mi_161) = some (false, .getfield 65, 76, 12, 24) := rfl
theorem ix_161_76 : lkp 76 (mI mi_161) = some (false, .bipush 60, 78, 60, 0) := rfl
theorem ix_161_78 : lkp 78 (mI mi_161) = some (false, .iload_n 1, 79, 1, 0) := rfl
theorem ix_161_79 : lkp 79 (mI mi_161) = some (false, .imul, 80, 0, 0) := rfl
theorem ix_161_80 : lkp 80 (mI mi_161) = some (false, .aload_n 0, 81, 0, 0) := rfl
theorem ix_161_81 : lkp 81 (mI mi_161) = some (false, .getfield 68, 84, 12, 25) := rfl
theorem ix_161_84 : lkp 84 (mI mi_161) = some (false, .iload_n 1, 85, 1, 0) := rfl
theorem ix_161_85 : lkp 85 (mI mi_161) = some (false, .iaload, 86, 0, 0) := rfl
theorem ix_161_86 : lkp 86 (mI mi_161) = some (false, .iadd, 87, 0, 0) := rfl
theorem ix_161_87 : lkp 87 (mI mi_161) = some (false, .iload 4, 89, 4, 0) := rfl
theorem ix_161_89 : lkp 89 (mI mi_161) = some (false, .iadd, 90, 0, 0) := rfl
theorem ix_161_90 : lkp 90 (mI mi_161) = some (false, .iaload, 91, 0, 0) := rfl
theorem ix_161_91 : lkp 91 (mI mi_161) = some (false, .istore 5, 93, 5, 0) := rfl
theorem ix_161_93 : lkp 93 (mI mi_161) = some (false, .iload_n 3, 94, 3, 0) := rfl
theorem ix_161_94 : lkp 94 (mI mi_161) = some (false, .ifCond .eq 11, 97, 0, 105) := rfl
theorem ix_161_97 : lkp 97 (mI mi_161) = some (false, .iload 5, 99, 5, 0) := rfl
theorem ix_161_99 : lkp 99 (mI mi_161) = some (false, .bipush 10, 101, 10, 0) := rfl
theorem ix_161_101 : lkp 101 (mI mi_161) = some (false, .irem, 102, 0, 0) := rfl
theorem ix_161_102 : lkp 102 (mI mi_161) = some (false, .goto 8, 105, 0, 110) := rfl
theorem ix_161_105 : lkp 105 (mI mi_161) = some (false, .iload 5, 107, 5, 0) := rfl
theorem ix_161_107 : lkp 107 (mI mi_161) = some (false, .bipush 10, 109, 10, 0) := rfl
theorem ix_161_109 : lkp 109 (mI mi_161) = some (false, .idiv, 110, 0, 0) := rfl
theorem ix_161_110 : lkp 110 (mI mi_161) = some (false, .istore 6, 112, 6, 0) := rfl
theorem ix_161_112 : lkp 112 (mI mi_161) = some (false, .iload_n 3, 113, 3, 0) := rfl
theorem ix_161_113 : lkp 113 (mI mi_161) = some (false, .ifCond .eq 11, 116, 0, 124) := rfl
theorem ix_161_116 : lkp 116 (mI mi_161) = some (false, .iload 5, 118, 5, 0) := rfl
theorem ix_161_118 : lkp 118 (mI mi_161) = some (false, .bipush 10, 120, 10, 0) := rfl
theorem ix_161_120 : lkp 120 (mI mi_161) = some (false, .idiv, 121, 0, 0) := rfl
theorem ix_161_121 : lkp 121 (mI mi_161) = some (false, .goto 8, 124, 0, 129) := rfl
theorem ix_161_124 : lkp 124 (mI mi_161) = some (false, .iload 5, 126, 5, 0) := rfl
theorem ix_161_126 : lkp 126 (mI mi_161) = some (false, .bipush 10, 128, 10, 0) := rfl
theorem ix_161_128 : lkp 128 (mI mi_161) = some (false, .irem, 129, 0, 0) := rfl
theorem ix_161_129 : lkp 129 (mI mi_161) = some (false, .istore 7, 131, 7, 0) := rfl
theorem ix_161_131 : lkp 131 (mI mi_161) = some (false, .iload_n 2, 132, 2, 0) := rfl
theorem ix_161_132 : lkp 132 (mI mi_161) = some (false, .iconst 5, 133, 5, 0) := rfl
theorem ix_161_133 : lkp 133 (mI mi_161) = some (false, .irem, 134, 0, 0) := rfl
theorem ix_161_134 : lkp 134 (mI mi_161) = some (false, .istore 8, 136, 8, 0) := rfl
theorem ix_161_136 : lkp 136 (mI mi_161) = some (false, .iload 8, 138, 8, 0) := rfl
theorem ix_161_138 : lkp 138 (mI mi_161) = some (false, .ifCond .ne 8, 141, 0, 146) := rfl
theorem ix_161_141 : lkp 141 (mI mi_161) = some (false, .bipush 91, 143, 91, 0) := rfl
theorem ix_161_143 : lkp 143 (mI mi_161) = some (false, .goto 46, 146, 0, 189) := rfl
theorem ix_161_146 : lkp 146 (mI mi_161) = some (false, .iload 8, 148, 8, 0) := rfl
theorem ix_161_148 : lkp 148 (mI mi_161) = some (false, .iconst 1, 149, 1, 0) := rfl
theorem ix_161_149 : lkp 149 (mI mi_161) = some (false, .if_icmp .ne 12, 152, 0, 161) := rfl
theorem ix_161_152 : lkp 152 (mI mi_161) = some (false, .bipush 48, 154, 48, 0) := rfl
theorem ix_161_154 : lkp 154 (mI mi_161) = some (false, .iload 6, 156, 6, 0) := rfl
theorem ix_161_156 : lkp 156 (mI mi_161) = some (false, .iadd, 157, 0, 0) := rfl
theorem ix_161_157 : lkp 157 (mI mi_161) = some (false, .i2c, 158, 0, 0) := rfl
theorem ix_161_158 : lkp 158 (mI mi_161) = some (false, .goto 31, 161, 0, 189) := rfl
theorem ix_161_161 : lkp 161 (mI mi_161) = some (false, .iload 8, 163, 8, 0) := rfl
theorem ix_161_163 : lkp 163 (mI mi_161) = some (false, .iconst 2, 164, 2, 0) := rfl
theorem ix_161_164 : lkp 164 (mI mi_161) = some (false, .if_icmp .ne 8, 167, 0, 172) := rfl
theorem ix_161_167 : lkp 167 (mI mi_161) = some (false, .bipush 124, 169, 124, 0) := rfl
theorem ix_161_169 : lkp 169 (mI mi_161) = some (false, .goto 20, 172, 0, 189) := rfl
theorem ix_161_172 : lkp 172 (mI mi_161) = some (false, .iload 8, 174, 8, 0) := by decide +kernel
theorem ix_161_174 : lkp 174 (mI mi_161) = some (false, .iconst 3, 175, 3, 0) := by decide +kernel
theorem ix_161_175 : lkp 175 (mI mi_161) = some (false, .if_icmp .ne 12, 178, 0, 187) := by decide +kernel
theorem ix_161_178 : lkp 178 (mI mi_161) = some (false, .bipush 48, 180, 48, 0) := by decide +kernel
theorem ix_161_180 : lkp 180 (mI mi_161) = some (false, .iload 7, 182, 7, 0) := by decide +kernel
theorem ix_161_182 : lkp 182 (mI mi_161) = some (false, .iadd, 183, 0, 0) := by decide +kernel
theorem ix_161_183 : lkp 183 (mI mi_161) = some (false, .i2c, 184, 0, 0) := by decide +kernel
theorem ix_161_184 : lkp 184 (mI mi_161) = some (false, .goto 5, 187, 0, 189) := by decide +kernel
theorem ix_161_187 : lkp 187 (mI mi_161) = some (false, .bipush 93, 189, 93, 0) := by decide +kernel
theorem ix_161_189 : lkp 189 (mI mi_161) = some (false, .ireturn, 190, 0, 2) := by decide +kernel
theorem ix_162_0 : lkp 0 (mI mi_162) = some (false, .aload_n 0, 1, 0, 0) := rfl
theorem ix_162_1 : lkp 1 (mI mi_162) = some (false, .iload_n 1, 2, 1, 0) := rfl
theorem ix_162_2 : lkp 2 (mI mi_162) = some (false, .invokevirtual 223, 5, 155, 193) := rfl
theorem ix_162_5 : lkp 5 (mI mi_162) = some (false, .ifCond .ne 15, 8, 0, 20) := rfl
theorem ix_162_8 : lkp 8 (mI mi_162) = some (false, .aload_n 0, 9, 0, 0) := rfl
theorem ix_162_9 : lkp 9 (mI mi_162) = some (false, .iload_n 1, 10, 1, 0) := rfl
theorem ix_162_10 : lkp 10 (mI mi_162) = some (false, .invokevirtual 214, 13, 146, 193) := rfl
theorem ix_162_13 : lkp 13 (mI mi_162) = some (false, .ifCond .eq 7, 16, 0, 20) := rfl
theorem ix_162_16 : lkp 16 (mI mi_162) = some (false, .iconst 1, 17, 1, 0) := rfl
theorem ix_162_17 : lkp 17 (mI mi_162) = some (false, .goto 4, 20, 0, 21) := rfl
theorem ix_162_20 : lkp 20 (mI mi_162) = some (false, .iconst 0, 21, 0, 0) := rfl
theorem ix_162_21 : lkp 21 (mI mi_162) = some (false, .ireturn, 22, 0, 1) := rfl
theorem ix_163_0 : lkp 0 (mI mi_163) = some (false, .aload_n 0, 1, 0, 0) := rfl
theorem ix_163_1 : lkp 1 (mI mi_163) = some (false, .iload_n 1, 2, 1, 0) := rfl
theorem ix_163_2 : lkp 2 (mI mi_163) = some (false, .invokevirtual 223, 5, 155, 193) := rfl
theorem ix_163_5 : lkp 5 (mI mi_163) = some (false, .ifCond .ne 16, 8, 0, 21) := rfl
theorem ix_163_8 : lkp 8 (mI mi_163) = some (false, .aload_n 0, 9, 0, 0) := rfl
theorem ix_163_9 : lkp 9 (mI mi_163) = some (false, .getfield 74, 12, 12, 27) := rfl
theorem ix_163_12 : lkp 12 (mI mi_163) = some (false, .iload_n 1, 13, 1, 0) := rfl
theorem ix_163_13 : lkp 13 (mI mi_163) = some (false, .baload, 14, 0, 0) := rfl
theorem ix_163_14 : lkp 14 (mI mi_163) = some (false, .ifCond .eq 7, 17, 0, 21) := rfl
theorem ix_163_17 : lkp 17 (mI mi_163) = some (false, .iconst 1, 18, 1, 0) := rfl
theorem ix_163_18 : lkp 18 (mI mi_163) = some (false, .goto 4, 21, 0, 22) := rfl
theorem ix_163_21 : lkp 21 (mI mi_163) = some (false, .iconst 0, 22, 0, 0) := rfl
theorem ix_163_22 : lkp 22 (mI mi_163) = some (false, .ireturn, 23, 0, 1) := rfl
theorem ix_164_0 : lkp 0 (mI mi_164) = some (false, .aload_n 0, 1, 0, 0) := rfl
theorem ix_164_1 : lkp 1 (mI mi_164) = some (false, .iload_n 1, 2, 1, 0) := rfl
theorem ix_164_2 : lkp 2 (mI mi_164) = some (false, .invokevirtual 223, 5, 155, 193) := rfl
theorem ix_164_5 : lkp 5 (mI mi_164) = some (false, .ifCond .eq 5, 8, 0, 10) := rfl
theorem ix_164_8 : lkp 8 (mI mi_164) = some (false, .iconst 0, 9, 0, 0) := rfl
theorem ix_164_9 : lkp 9 (mI mi_164) = some (false, .ireturn, 10, 0, 0) := rfl
theorem ix_164_10 : lkp 10 (mI mi_164) = some (false, .aload_n 0, 11, 0, 0) := rfl
theorem ix_164_11 : lkp 11 (mI mi_164) = some (false, .aload_n 0, 12, 0, 0) := rfl
theorem ix_164_12 : lkp 12 (mI mi_164) = some (false, .iload_n 1, 13, 1, 0) := rfl
theorem ix_164_13 : lkp 13 (mI mi_164) = some (false, .invokevirtual 214, 16, 146, 193) := rfl
theorem ix_164_16 : lkp 16 (mI mi_164) = some (false, .ifCond .eq 7, 19, 0, 23) := rfl
theorem ix_164_19 : lkp 19 (mI mi_164) = some (false, .iconst 0, 20, 0, 0) := rfl
theorem ix_164_20 : lkp 20 (mI mi_164) = some (false, .goto 4, 23, 0, 24) := rfl
theorem ix_164_23 : lkp 23 (mI mi_164) = some (false, .iconst 2, 24, 2, 0) := rfl
theorem ix_164_24 : lkp 24 (mI mi_164) = some (false, .putfield 114, 27, 12, 0) := rfl
theorem ix_164_27 : lkp 27 (mI mi_164) = some (false, .aload_n 0, 28, 0, 0) := rfl
theorem ix_164_28 : lkp 28 (mI mi_164) = some (false, .getfield 114, 31, 12, 0) := rfl
theorem ix_164_31 : lkp 31 (mI mi_164) = some (false, .ifCond .le 7, 34, 0, 38) := rfl
theorem ix_164_34 : lkp 34 (mI mi_164) = some (false, .iconst 0, 35, 0, 0) := rfl
theorem ix_164_35 : lkp 35 (mI mi_164) = some (false, .goto 9, 38, 0, 44) := rfl
theorem ix_164_38 : lkp 38 (mI mi_164) = some (false, .aload_n 0, 39, 0, 0) := rfl
theorem ix_164_39 : lkp 39 (mI mi_164) = some (false, .getfield 77, 42, 12, 28) := rfl
theorem ix_164_42 : lkp 42 (mI mi_164) = some (false, .iload_n 1, 43, 1, 0) := rfl
theorem ix_164_43 : lkp 43 (mI mi_164) = some (false, .iaload, 44, 0, 0) := rfl
theorem ix_164_44 : lkp 44 (mI mi_164) = some (false, .ireturn, 45, 0, 0) := rfl
theorem ix_165_0 : lkp 0 (mI mi_165) = some (false, .iload_n 1, 1, 1, 0) := rfl
theorem ix_165_1 : lkp 1 (mI mi_165) = some (false, .ifCond .ne 11, 4, 0, 12) := rfl
theorem ix_165_4 : lkp 4 (mI mi_165) = some (false, .aload_n 0, 5, 0, 0) := rfl
theorem ix_165_5 : lkp 5 (mI mi_165) = some (false, .getfield 107, 8, 12, 39) := rfl
theorem ix_165_8 : lkp 8 (mI mi_165) = some (false, .iconst (-1), 9, 1, 1) := rfl
theorem ix_165_9 : lkp 9 (mI mi_165) = some (false, .if_icmp .ne 16, 12, 0, 25) := rfl
theorem ix_165_12 : lkp 12 (mI mi_165) = some (false, .iload_n 1, 13, 1, 0) := rfl
theorem ix_165_13 : lkp 13 (mI mi_165) = some (false, .iconst 1, 14, 1, 0) := rfl
theorem ix_165_14 : lkp 14 (mI mi_165) = some (false, .if_icmp .ne 15, 17, 0, 29) := rfl
theorem ix_165_17 : lkp 17 (mI mi_165) = some (false, .aload_n 0, 18, 0, 0) := rfl
theorem ix_165_18 : lkp 18 (mI mi_165) = some (false, .getfield 111, 21, 12, 40) := rfl
theorem ix_165_21 : lkp 21 (mI mi_165) = some (false, .iconst (-1), 22, 1, 1) := rfl
theorem ix_165_22 : lkp 22 (mI mi_165) = some (false, .if_icmp .eq 7, 25, 0, 29) := rfl
theorem ix_165_25 : lkp 25 (mI mi_165) = some (false, .iconst 1, 26, 1, 0) := rfl
theorem ix_165_26 : lkp 26 (mI mi_165) = some (false, .goto 4, 29, 0, 30) := rfl
theorem ix_165_29 : lkp 29 (mI mi_165) = some (false, .iconst 0, 30, 0, 0) := rfl
theorem ix_165_30 : lkp 30 (mI mi_165) = some (false, .istore_n 2, 31, 2, 0) := rfl
theorem ix_165_31 : lkp 31 (mI mi_165) = some (false, .aload_n 0, 32, 0, 0) := rfl
theorem ix_165_32 : lkp 32 (mI mi_165) = some (false, .iload_n 2, 33, 2, 0) := rfl
theorem ix_165_33 : lkp 33 (mI mi_165) = some (false, .ifCond .eq 7, 36, 0, 40) := rfl
theorem ix_165_36 : lkp 36 (mI mi_165) = some (false, .iconst 0, 37, 0, 0) := rfl
theorem ix_165_37 : lkp 37 (mI mi_165) = some (false, .goto 4, 40, 0, 41) := rfl
theorem ix_165_40 : lkp 40 (mI mi_165) = some (false, .iconst 1, 41, 1, 0) := rfl
theorem ix_165_41 : lkp 41 (mI mi_165) = some (false, .putfield 114, 44, 12, 0) := rfl
theorem ix_165_44 : lkp 44 (mI mi_165) = some (false, .aload_n 0, 45, 0, 0) := rfl
theorem ix_165_45 : lkp 45 (mI mi_165) = some (false, .getfield 114, 48, 12, 0) := rfl
theorem ix_165_48 : lkp 48 (mI mi_165) = some (false, .ifCond .le 8, 51, 0, 56) := rfl
theorem ix_165_51 : lkp 51 (mI mi_165) = some (false, .bipush 32, 53, 32, 0) := rfl
theorem ix_165_53 : lkp 53 (mI mi_165) = some (false, .goto 23, 56, 0, 76) := rfl
theorem ix_165_56 : lkp 56 (mI mi_165) = some (false, .iload_n 1, 57, 1, 0) := rfl
theorem ix_165_57 : lkp 57 (mI mi_165) = some (false, .ifCond .ne 11, 60, 0, 68) := rfl
theorem ix_165_60 : lkp 60 (mI mi_165) = some (false, .aload_n 0, 61, 0, 0) := rfl
theorem ix_165_61 : lkp 61 (mI mi_165) = some (false, .getfield 107, 64, 12, 39) := rfl
theorem ix_165_64 : lkp 64 (mI mi_165) = some (false, .i2c, 65, 0, 0) := rfl
theorem ix_165_65 : lkp 65 (mI mi_165) = some (false, .goto 11, 68, 0, 76) := rfl
theorem ix_165_68 : lkp 68 (mI mi_165) = some (false, .bipush 48, 70, 48, 0) := rfl
theorem ix_165_70 : lkp 70 (mI mi_165) = some (false, .aload_n 0, 71, 0, 0) := rfl
theorem ix_165_71 : lkp 71 (mI mi_165) = some (false, .getfield 111, 74, 12, 40) := rfl
theorem ix_165_74 : lkp 74 (mI mi_165) = some (false, .iadd, 75, 0, 0) := rfl
theorem ix_165_75 : lkp 75 (mI mi_165) = some (false, .i2c, 76, 0, 0) := rfl
theorem ix_165_76 : lkp 76 (mI mi_165) = some (false, .ireturn, 77, 0, 2) := rfl
theorem ix_166_0 : lkp 0 (mI mi_166) = some (false, .iload_n 0, 1, 0, 0) := rfl
theorem ix_166_1 : lkp 1 (mI mi_166) = some (false, .iconst 0, 2, 0, 0) := rfl
theorem ix_166_2 : lkp 2 (mI mi_166) = some (false, .iconst 3, 3, 3, 0) := rfl
theorem ix_166_3 : lkp 3 (mI mi_166) = some (false, .invokestatic 120, 6, 126, 3) := rfl
theorem ix_166_6 : lkp 6 (mI mi_166) = some (false, .ireturn, 7, 0, 1) := rfl
theorem ix_167_0 : lkp 0 (mI mi_167) = some (false, .aload_n 0, 1, 0, 0) := rfl
theorem ix_167_1 : lkp 1 (mI mi_167) = some (false, .iload_n 1, 2, 1, 0) := rfl
theorem ix_167_2 : lkp 2 (mI mi_167) = some (false, .invokestatic 226, 5, 166, 1) := rfl
theorem ix_167_5 : lkp 5 (mI mi_167) = some (false, .ifCond .eq 11, 8, 0, 16) := rfl
theorem ix_167_8 : lkp 8 (mI mi_167) = some (false, .aload_n 0, 9, 0, 0) := rfl
theorem ix_167_9 : lkp 9 (mI mi_167) = some (false, .iload_n 2, 10, 2, 0) := rfl
theorem ix_167_10 : lkp 10 (mI mi_167) = some (false, .invokevirtual 211, 13, 129, 193) := rfl
theorem ix_167_13 : lkp 13 (mI mi_167) = some (false, .ifCond .ne 7, 16, 0, 20) := rfl
theorem ix_167_16 : lkp 16 (mI mi_167) = some (false, .iconst 1, 17, 1, 0) := rfl
theorem ix_167_17 : lkp 17 (mI mi_167) = some (false, .goto 4, 20, 0, 21) := rfl
theorem ix_167_20 : lkp 20 (mI mi_167) = some (false, .iconst 0, 21, 0, 0) := rfl
theorem ix_167_21 : lkp 21 (mI mi_167) = some (false, .putfield 114, 24, 12, 0) := rfl
theorem ix_167_24 : lkp 24 (mI mi_167) = some (false, .aload_n 0, 25, 0, 0) := rfl
theorem ix_167_25 : lkp 25 (mI mi_167) = some (false, .getfield 114, 28, 12, 0) := rfl
theorem ix_167_28 : lkp 28 (mI mi_167) = some (false, .ifCond .ne 76, 31, 0, 104) := rfl
theorem ix_167_31 : lkp 31 (mI mi_167) = some (false, .aload_n 0, 32, 0, 0) := rfl
theorem ix_167_32 : lkp 32 (mI mi_167) = some (false, .iload_n 3, 33, 3, 0) := rfl
theorem ix_167_33 : lkp 33 (mI mi_167) = some (false, .iconst 0, 34, 0, 0) := rfl
theorem ix_167_34 : lkp 34 (mI mi_167) = some (false, .aload_n 0, 35, 0, 0) := rfl
theorem ix_167_35 : lkp 35 (mI mi_167) = some (false, .iload_n 2, 36, 2, 0) := rfl
theorem ix_167_36 : lkp 36 (mI mi_167) = some (false, .invokevirtual 182, 39, 131, 193) := rfl
theorem ix_167_39 : lkp 39 (mI mi_167) = some (false, .iconst 1, 40, 1, 0) := rfl
theorem ix_167_40 : lkp 40 (mI mi_167) = some (false, .isub, 41, 0, 0) := rfl
theorem ix_167_41 : lkp 41 (mI mi_167) = some (false, .invokestatic 120, 44, 126, 3) := rfl
theorem ix_167_44 : lkp 44 (mI mi_167) = some (false, .ifCond .ne 7, 47, 0, 51) := rfl
theorem ix_167_47 : lkp 47 (mI mi_167) = some (false, .iconst 1, 48, 1, 0) := rfl
theorem ix_167_48 : lkp 48 (mI mi_167) = some (false, .goto 53, 51, 0, 101) := rfl
theorem ix_167_51 : lkp 51 (mI mi_167) = some (false, .iload 4, 53, 4, 0) := rfl
theorem ix_167_53 : lkp 53 (mI mi_167) = some (false, .iconst 1, 54, 1, 0) := rfl
theorem ix_167_54 : lkp 54 (mI mi_167) = some (false, .aload_n 0, 55, 0, 0) := rfl
theorem ix_167_55 : lkp 55 (mI mi_167) = some (false, .getfield 104, 58, 12, 37) := rfl
theorem ix_167_58 : lkp 58 (mI mi_167) = some (false, .iload_n 1, 59, 1, 0) := rfl
theorem ix_167_59 : lkp 59 (mI mi_167) = some (false, .iaload, 60, 0, 0) := rfl
theorem ix_167_60 : lkp 60 (mI mi_167) = some (false, .invokestatic 120, 63, 126, 3) := rfl
theorem ix_167_63 : lkp 63 (mI mi_167) = some (false, .ifCond .ne 7, 66, 0, 70) := rfl
theorem ix_167_66 : lkp 66 (mI mi_167) = some (false, .iconst 2, 67, 2, 0) := rfl
theorem ix_167_67 : lkp 67 (mI mi_167) = some (false, .goto 34, 70, 0, 101) := rfl
theorem ix_167_70 : lkp 70 (mI mi_167) = some (false, .aload_n 0, 71, 0, 0) := rfl
theorem ix_167_71 : lkp 71 (mI mi_167) = some (false, .iload_n 2, 72, 2, 0) := rfl
theorem ix_167_72 : lkp 72 (mI mi_167) = some (false, .invokevirtual 214, 75, 146, 193) := rfl
theorem ix_167_75 : lkp 75 (mI mi_167) = some (false, .ifCond .ne 21, 78, 0, 96) := rfl
theorem ix_167_78 : lkp 78 (mI mi_167) = some (false, .aload_n 0, 79, 0, 0) := rfl
theorem ix_167_79 : lkp 79 (mI mi_167) = some (false, .getfield 89, 82, 12, 32) := rfl
theorem ix_167_82 : lkp 82 (mI mi_167) = some (false, .iload_n 2, 83, 2, 0) := rfl
theorem ix_167_83 : lkp 83 (mI mi_167) = some (false, .iaload, 84, 0, 0) := rfl
theorem ix_167_84 : lkp 84 (mI mi_167) = some (false, .bipush 10, 86, 10, 0) := rfl
theorem ix_167_86 : lkp 86 (mI mi_167) = some (false, .if_icmp .eq 10, 89, 0, 96) := rfl
theorem ix_167_89 : lkp 89 (mI mi_167) = some (false, .aload_n 0, 90, 0, 0) := rfl
theorem ix_167_90 : lkp 90 (mI mi_167) = some (false, .invokevirtual 195, 93, 145, 192) := rfl
theorem ix_167_93 : lkp 93 (mI mi_167) = some (false, .ifCond .eq 7, 96, 0, 100) := rfl
theorem ix_167_96 : lkp 96 (mI mi_167) = some (false, .iconst 3, 97, 3, 0) := rfl
theorem ix_167_97 : lkp 97 (mI mi_167) = some (false, .goto 4, 100, 0, 101) := rfl
theorem ix_167_100 : lkp 100 (mI mi_167) = some (false, .iconst 0, 101, 0, 0) := rfl
theorem ix_167_101 : lkp 101 (mI mi_167) = some (false, .putfield 114, 104, 12, 0) := rfl
theorem ix_167_104 : lkp 104 (mI mi_167) = some (false, .aload_n 0, 105, 0, 0) := rfl
theorem ix_167_105 : lkp 105 (mI mi_167) = some (false, .getfield 114, 108, 12, 0) := rfl
theorem ix_167_108 : lkp 108 (mI mi_167) = some (false, .ifCond .le 5, 111, 0, 113) := rfl
theorem ix_167_111 : lkp 111 (mI mi_167) = some (false, .iconst 0, 112, 0, 0) := rfl
theorem ix_167_112 : lkp 112 (mI mi_167) = some (false, .ireturn, 113, 0, 0) := rfl
theorem ix_167_113 : lkp 113 (mI mi_167) = some (false, .aload_n 0, 114, 0, 0) := rfl
theorem ix_167_114 : lkp 114 (mI mi_167) = some (false, .bipush 98, 116, 98, 0) := rfl
theorem ix_167_116 : lkp 116 (mI mi_167) = some (false, .iload_n 2, 117, 2, 0) := rfl
theorem ix_167_117 : lkp 117 (mI mi_167) = some (false, .iload_n 1, 118, 1, 0) := rfl
theorem ix_167_118 : lkp 118 (mI mi_167) = some (false, .iload_n 3, 119, 3, 0) := rfl
theorem ix_167_119 : lkp 119 (mI mi_167) = some (false, .iload 4, 121, 4, 0) := rfl
theorem ix_167_121 : lkp 121 (mI mi_167) = some (false, .invokevirtual 199, 124, 135, 197) := rfl
theorem ix_167_124 : lkp 124 (mI mi_167) = some (false, .aload_n 0, 125, 0, 0) := rfl
theorem ix_167_125 : lkp 125 (mI mi_167) = some (false, .iload_n 2, 126, 2, 0) := rfl
theorem ix_167_126 : lkp 126 (mI mi_167) = some (false, .invokevirtual 188, 129, 143, 193) := rfl
theorem ix_167_129 : lkp 129 (mI mi_167) = some (false, .ireturn, 130, 0, 0) := rfl
theorem ix_168_0 : lkp 0 (mI mi_168) = some (false, .aload_n 0, 1, 0, 0) := rfl
theorem ix_168_1 : lkp 1 (mI mi_168) = some (false, .iload_n 1, 2, 1, 0) := rfl
theorem ix_168_2 : lkp 2 (mI mi_168) = some (false, .invokestatic 226, 5, 166, 1) := rfl
theorem ix_168_5 : lkp 5 (mI mi_168) = some (false, .ifCond .eq 7, 8, 0, 12) := rfl
theorem ix_168_8 : lkp 8 (mI mi_168) = some (false, .iconst 0, 9, 0, 0) := rfl
theorem ix_168_9 : lkp 9 (mI mi_168) = some (false, .goto 4, 12, 0, 13) := rfl
theorem ix_168_12 : lkp 12 (mI mi_168) = some (false, .iconst 1, 13, 1, 0) := rfl
theorem ix_168_13 : lkp 13 (mI mi_168) = some (false, .putfield 114, 16, 12, 0) := rfl
theorem ix_168_16 : lkp 16 (mI mi_168) = some (false, .aload_n 0, 17, 0, 0) := rfl
theorem ix_168_17 : lkp 17 (mI mi_168) = some (false, .getfield 114, 20, 12, 0) := rfl
theorem ix_168_20 : lkp 20 (mI mi_168) = some (false, .ifCond .le 7, 23, 0, 27) := rfl
theorem ix_168_23 : lkp 23 (mI mi_168) = some (false, .iconst 0, 24, 0, 0) := rfl
theorem ix_168_24 : lkp 24 (mI mi_168) = some (false, .goto 9, 27, 0, 33) := rfl
theorem ix_168_27 : lkp 27 (mI mi_168) = some (false, .aload_n 0, 28, 0, 0) := rfl
theorem ix_168_28 : lkp 28 (mI mi_168) = some (false, .getfield 104, 31, 12, 37) := rfl
theorem ix_168_31 : lkp 31 (mI mi_168) = some (false, .iload_n 1, 32, 1, 0) := rfl
theorem ix_168_32 : lkp 32 (mI mi_168) = some (false, .iaload, 33, 0, 0) := rfl
theorem ix_168_33 : lkp 33 (mI mi_168) = some (false, .ireturn, 34, 0, 0) := rfl
theorem ix_169_0 : lkp 0 (mI mi_169) = some (false, .aload_n 0, 1, 0, 0) := rfl
theorem ix_169_1 : lkp 1 (mI mi_169) = some (false, .iload_n 1, 2, 1, 0) := rfl
theorem ix_169_2 : lkp 2 (mI mi_169) = some (false, .invokevirtual 223, 5, 155, 193) := rfl
theorem ix_169_5 : lkp 5 (mI mi_169) = some (false, .ifCond .eq 7, 8, 0, 12) := rfl
theorem ix_169_8 : lkp 8 (mI mi_169) = some (false, .iconst 0, 9, 0, 0) := rfl
theorem ix_169_9 : lkp 9 (mI mi_169) = some (false, .goto 8, 12, 0, 17) := rfl
theorem ix_169_12 : lkp 12 (mI mi_169) = some (false, .aload_n 0, 13, 0, 0) := rfl
theorem ix_169_13 : lkp 13 (mI mi_169) = some (false, .iload_n 1, 14, 1, 0) := rfl
theorem ix_169_14 : lkp 14 (mI mi_169) = some (false, .invokevirtual 188, 17, 143, 193) := rfl
theorem ix_169_17 : lkp 17 (mI mi_169) = some (false, .ireturn, 18, 0, 0) := rfl
theorem ix_170_0 : lkp 0 (mI mi_170) = some (false, .aload_n 0, 1, 0, 0) := rfl
theorem ix_170_1 : lkp 1 (mI mi_170) = some (false, .iload_n 1, 2, 1, 0) := rfl
theorem ix_170_2 : lkp 2 (mI mi_170) = some (false, .invokevirtual 223, 5, 155, 193) := rfl
theorem ix_170_5 : lkp 5 (mI mi_170) = some (false, .ifCond .eq 5, 8, 0, 10) := rfl
theorem ix_170_8 : lkp 8 (mI mi_170) = some (false, .iconst 0, 9, 0, 0) := rfl
theorem ix_170_9 : lkp 9 (mI mi_170) = some (false, .ireturn, 10, 0, 0) := rfl
theorem ix_170_10 : lkp 10 (mI mi_170) = some (false, .aload_n 0, 11, 0, 0) := rfl
theorem ix_170_11 : lkp 11 (mI mi_170) = some (false, .iload_n 2, 12, 2, 0) := rfl
theorem ix_170_12 : lkp 12 (mI mi_170) = some (false, .iconst 0, 13, 0, 0) := rfl
theorem ix_170_13 : lkp 13 (mI mi_170) = some (false, .aload_n 0, 14, 0, 0) := rfl
theorem ix_170_14 : lkp 14 (mI mi_170) = some (false, .getfield 89, 17, 12, 32) := rfl
theorem ix_170_17 : lkp 17 (mI mi_170) = some (false, .iload_n 1, 18, 1, 0) := rfl
theorem ix_170_18 : lkp 18 (mI mi_170) = some (false, .iaload, 19, 0, 0) := rfl
theorem ix_170_19 : lkp 19 (mI mi_170) = some (false, .iconst 1, 20, 1, 0) := rfl
theorem ix_170_20 : lkp 20 (mI mi_170) = some (false, .isub, 21, 0, 0) := rfl
theorem ix_170_21 : lkp 21 (mI mi_170) = some (false, .invokestatic 120, 24, 126, 3) := rfl
theorem ix_170_24 : lkp 24 (mI mi_170) = some (false, .ifCond .eq 7, 27, 0, 31) := rfl
theorem ix_170_27 : lkp 27 (mI mi_170) = some (false, .iconst 0, 28, 0, 0) := rfl
theorem ix_170_28 : lkp 28 (mI mi_170) = some (false, .goto 4, 31, 0, 32) := rfl
theorem ix_170_31 : lkp 31 (mI mi_170) = some (false, .iconst 1, 32, 1, 0) := rfl
theorem ix_170_32 : lkp 32 (mI mi_170) = some (false, .putfield 114, 35, 12, 0) := rfl
theorem ix_170_35 : lkp 35 (mI mi_170) = some (false, .aload_n 0, 36, 0, 0) := rfl
theorem ix_170_36 : lkp 36 (mI mi_170) = some (false, .getfield 114, 39, 12, 0) := rfl
theorem ix_170_39 : lkp 39 (mI mi_170) = some (false, .ifCond .le 7, 42, 0, 46) := rfl
theorem ix_170_42 : lkp 42 (mI mi_170) = some (false, .iconst 0, 43, 0, 0) := rfl
theorem ix_170_43 : lkp 43 (mI mi_170) = some (false, .goto 14, 46, 0, 57) := rfl
theorem ix_170_46 : lkp 46 (mI mi_170) = some (false, .aload_n 0, 47, 0, 0) := rfl
theorem ix_170_47 : lkp 47 (mI mi_170) = some (false, .getfield 101, 50, 12, 36) := rfl
theorem ix_170_50 : lkp 50 (mI mi_170) = some (false, .bipush 10, 52, 10, 0) := rfl
theorem ix_170_52 : lkp 52 (mI mi_170) = some (false, .iload_n 1, 53, 1, 0) := rfl
theorem ix_170_53 : lkp 53 (mI mi_170) = some (false, .imul, 54, 0, 0) := rfl
theorem ix_170_54 : lkp 54 (mI mi_170) = some (false, .iload_n 2, 55, 2, 0) := rfl
theorem ix_170_55 : lkp 55 (mI mi_170) = some (false, .iadd, 56, 0, 0) := rfl
theorem ix_170_56 : lkp 56 (mI mi_170) = some (false, .iaload, 57, 0, 0) := rfl
theorem ix_170_57 : lkp 57 (mI mi_170) = some (false, .ireturn, 58, 0, 0) := rfl
theorem ix_171_0 : lkp 0 (mI mi_171) = some (false, .aload_n 0, 1, 0, 0) := rfl
theorem ix_171_1 : lkp 1 (mI mi_171) = some (false, .iconst 0, 2, 0, 0) := rfl
theorem ix_171_2 : lkp 2 (mI mi_171) = some (false, .putfield 114, 5, 12, 0) := rfl
theorem ix_171_5 : lkp 5 (mI mi_171) = some (false, .aload_n 0, 6, 0, 0) := rfl
theorem ix_171_6 : lkp 6 (mI mi_171) = some (false, .getfield 191, 9, 12, 38) := rfl
theorem ix_171_9 : lkp 9 (mI mi_171) = some (false, .ireturn, 10, 0, 0) := rfl
theorem ix_172_0 : lkp 0 (mI mi_172) = some (false, .iconst 0, 1, 0, 0) := rfl
theorem ix_172_1 : lkp 1 (mI mi_172) = some (false, .istore_n 2, 2, 2, 0) := rfl
theorem ix_172_2 : lkp 2 (mI mi_172) = some (false, .iconst 0, 3, 0, 0) := rfl
theorem ix_172_3 : lkp 3 (mI mi_172) = some (false, .istore_n 3, 4, 3, 0) := rfl
theorem ix_172_4 : lkp 4 (mI mi_172) = some (true, .iload_n 3, 5, 3, 0) := rfl
theorem ix_172_5 : lkp 5 (mI mi_172) = some (false, .aload_n 0, 6, 0, 0) := rfl
theorem ix_172_6 : lkp 6 (mI mi_172) = some (false, .getfield 229, 9, 12, 14) := rfl
theorem ix_172_9 : lkp 9 (mI mi_172) = some (false, .if_icmp .ge 34, 12, 0, 43) := rfl
theorem ix_172_12 : lkp 12 (mI mi_172) = some (false, .iload_n 2, 13, 2, 0) := rfl
theorem ix_172_13 : lkp 13 (mI mi_172) = some (false, .ifCond .ne 18, 16, 0, 31) := rfl
theorem ix_172_16 : lkp 16 (mI mi_172) = some (false, .aload_n 0, 17, 0, 0) := rfl
theorem ix_172_17 : lkp 17 (mI mi_172) = some (false, .getfield 41, 20, 12, 15) := rfl
theorem ix_172_20 : lkp 20 (mI mi_172) = some (false, .iload_n 3, 21, 3, 0) := rfl
theorem ix_172_21 : lkp 21 (mI mi_172) = some (false, .iaload, 22, 0, 0) := rfl
theorem ix_172_22 : lkp 22 (mI mi_172) = some (false, .aload_n 0, 23, 0, 0) := rfl
theorem ix_172_23 : lkp 23 (mI mi_172) = some (false, .getfield 86, 26, 12, 31) := rfl
theorem ix_172_26 : lkp 26 (mI mi_172) = some (false, .iload_n 1, 27, 1, 0) := rfl
theorem ix_172_27 : lkp 27 (mI mi_172) = some (false, .iaload, 28, 0, 0) := rfl
theorem ix_172_28 : lkp 28 (mI mi_172) = some (false, .if_icmp .le 7, 31, 0, 35) := rfl
theorem ix_172_31 : lkp 31 (mI mi_172) = some (false, .iconst 1, 32, 1, 0) := rfl
theorem ix_172_32 : lkp 32 (mI mi_172) = some (false, .goto 4, 35, 0, 36) := rfl
theorem ix_172_35 : lkp 35 (mI mi_172) = some (false, .iconst 0, 36, 0, 0) := rfl
theorem ix_172_36 : lkp 36 (mI mi_172) = some (false, .istore_n 2, 37, 2, 0) := rfl
theorem ix_172_37 : lkp 37 (mI mi_172) = some (false, .iinc 3 1, 40, 3, 2) := rfl
theorem ix_172_40 : lkp 40 (mI mi_172) = some (false, .goto (-36), 43, 0, 4) := rfl
theorem ix_172_43 : lkp 43 (mI mi_172) = some (false, .iload_n 2, 44, 2, 0) := rfl
theorem ix_172_44 : lkp 44 (mI mi_172) = some (false, .ireturn, 45, 0, 1) := rfl
theorem ix_173_0 : lkp 0 (mI mi_173) = some (false, .aload_n 0, 1, 0, 0) := rfl
theorem ix_173_1 : lkp 1 (mI mi_173) = some (false, .aload_n 0, 2, 0, 0) := rfl
theorem ix_173_2 : lkp 2 (mI mi_173) = some (false, .iload_n 1, 3, 1, 0) := rfl
theorem ix_173_3 : lkp 3 (mI mi_173) = some (false, .invokevirtual 211, 6, 129, 193) := rfl
theorem ix_173_6 : lkp 6 (mI mi_173) = some (false, .ifCond .ne 7, 9, 0, 13) := rfl
theorem ix_173_9 : lkp 9 (mI mi_173) = some (false, .iconst 1, 10, 1, 0) := rfl
theorem ix_173_10 : lkp 10 (mI mi_173) = some (false, .goto 67, 13, 0, 77) := rfl
theorem ix_173_13 : lkp 13 (mI mi_173) = some (false, .iload_n 2, 14, 2, 0) := rfl
theorem ix_173_14 : lkp 14 (mI mi_173) = some (false, .invokestatic 128, 17, 128, 1) := rfl
theorem ix_173_17 : lkp 17 (mI mi_173) = some (false, .ifCond .ne 7, 20, 0, 24) := rfl
theorem ix_173_20 : lkp 20 (mI mi_173) = some (false, .iconst 2, 21, 2, 0) := rfl
theorem ix_173_21 : lkp 21 (mI mi_173) = some (false, .goto 56, 24, 0, 77) := rfl
theorem ix_173_24 : lkp 24 (mI mi_173) = some (false, .aload_n 0, 25, 0, 0) := rfl
theorem ix_173_25 : lkp 25 (mI mi_173) = some (false, .getfield 74, 28, 12, 27) := rfl
theorem ix_173_28 : lkp 28 (mI mi_173) = some (false, .iload_n 1, 29, 1, 0) := rfl
theorem ix_173_29 : lkp 29 (mI mi_173) = some (false, .baload, 30, 0, 0) := rfl
theorem ix_173_30 : lkp 30 (mI mi_173) = some (false, .ifCond .eq 23, 33, 0, 53) := rfl
theorem ix_173_33 : lkp 33 (mI mi_173) = some (false, .aload_n 0, 34, 0, 0) := rfl
theorem ix_173_34 : lkp 34 (mI mi_173) = some (false, .getfield 80, 37, 12, 29) := rfl
theorem ix_173_37 : lkp 37 (mI mi_173) = some (false, .iload_n 1, 38, 1, 0) := rfl
theorem ix_173_38 : lkp 38 (mI mi_173) = some (false, .iaload, 39, 0, 0) := rfl
theorem ix_173_39 : lkp 39 (mI mi_173) = some (false, .iload_n 2, 40, 2, 0) := rfl
theorem ix_173_40 : lkp 40 (mI mi_173) = some (false, .if_icmp .eq 13, 43, 0, 53) := rfl
theorem ix_173_43 : lkp 43 (mI mi_173) = some (false, .aload_n 0, 44, 0, 0) := rfl
theorem ix_173_44 : lkp 44 (mI mi_173) = some (false, .getfield 83, 47, 12, 30) := rfl
theorem ix_173_47 : lkp 47 (mI mi_173) = some (false, .iload_n 1, 48, 1, 0) := rfl
theorem ix_173_48 : lkp 48 (mI mi_173) = some (false, .iaload, 49, 0, 0) := rfl
theorem ix_173_49 : lkp 49 (mI mi_173) = some (false, .iconst 2, 50, 2, 0) := rfl
theorem ix_173_50 : lkp 50 (mI mi_173) = some (false, .if_icmp .ne 7, 53, 0, 57) := rfl
theorem ix_173_53 : lkp 53 (mI mi_173) = some (false, .iconst 3, 54, 3, 0) := rfl
theorem ix_173_54 : lkp 54 (mI mi_173) = some (false, .goto 23, 57, 0, 77) := rfl
theorem ix_173_57 : lkp 57 (mI mi_173) = some (false, .aload_n 0, 58, 0, 0) := rfl
theorem ix_173_58 : lkp 58 (mI mi_173) = some (false, .iload_n 1, 59, 1, 0) := rfl
theorem ix_173_59 : lkp 59 (mI mi_173) = some (false, .invokevirtual 232, 62, 172, 193) := rfl
theorem ix_173_62 : lkp 62 (mI mi_173) = some (false, .ifCond .ne 10, 65, 0, 72) := rfl
theorem ix_173_65 : lkp 65 (mI mi_173) = some (false, .aload_n 0, 66, 0, 0) := rfl
theorem ix_173_66 : lkp 66 (mI mi_173) = some (false, .invokevirtual 195, 69, 145, 192) := rfl
theorem ix_173_69 : lkp 69 (mI mi_173) = some (false, .ifCond .eq 7, 72, 0, 76) := rfl
theorem ix_173_72 : lkp 72 (mI mi_173) = some (false, .iconst 4, 73, 4, 0) := rfl
theorem ix_173_73 : lkp 73 (mI mi_173) = some (false, .goto 4, 76, 0, 77) := rfl
theorem ix_173_76 : lkp 76 (mI mi_173) = some (false, .iconst 0, 77, 0, 0) := rfl
theorem ix_173_77 : lkp 77 (mI mi_173) = some (false, .putfield 114, 80, 12, 0) := rfl
theorem ix_173_80 : lkp 80 (mI mi_173) = some (false, .aload_n 0, 81, 0, 0) := rfl
theorem ix_173_81 : lkp 81 (mI mi_173) = some (false, .getfield 114, 84, 12, 0) := rfl
theorem ix_173_84 : lkp 84 (mI mi_173) = some (false, .ifCond .le 5, 87, 0, 89) := rfl
theorem ix_173_87 : lkp 87 (mI mi_173) = some (false, .iconst 0, 88, 0, 0) := rfl
theorem ix_173_88 : lkp 88 (mI mi_173) = some (false, .ireturn, 89, 0, 0) := rfl
theorem ix_173_89 : lkp 89 (mI mi_173) = some (false, .aload_n 0, 90, 0, 0) := rfl
theorem ix_173_90 : lkp 90 (mI mi_173) = some (false, .bipush 97, 92, 97, 0) := rfl
theorem ix_173_92 : lkp 92 (mI mi_173) = some (false, .iload_n 1, 93, 1, 0) := rfl
theorem ix_173_93 : lkp 93 (mI mi_173) = some (false, .iload_n 2, 94, 2, 0) := rfl
theorem ix_173_94 : lkp 94 (mI mi_173) = some (false, .iconst 0, 95, 0, 0) := rfl
theorem ix_173_95 : lkp 95 (mI mi_173) = some (false, .iconst 0, 96, 0, 0) := rfl
theorem ix_173_96 : lkp 96 (mI mi_173) = some (false, .invokevirtual 199, 99, 135, 197) := rfl
theorem ix_173_99 : lkp 99 (mI mi_173) = some (false, .aload_n 0, 100, 0, 0) := rfl
theorem ix_173_100 : lkp 100 (mI mi_173) = some (false, .getfield 77, 103, 12, 28) := rfl
theorem ix_173_103 : lkp 103 (mI mi_173) = some (false, .iload_n 1, 104, 1, 0) := rfl
theorem ix_173_104 : lkp 104 (mI mi_173) = some (false, .iaload, 105, 0, 0) := rfl
theorem ix_173_105 : lkp 105 (mI mi_173) = some (false, .ireturn, 106, 0, 0) := rfl
theorem ix_174_0 : lkp 0 (mI mi_174) = some (false, .aload_n 0, 1, 0, 0) := rfl
theorem ix_174_1 : lkp 1 (mI mi_174) = some (false, .iload_n 1, 2, 1, 0) := rfl
theorem ix_174_2 : lkp 2 (mI mi_174) = some (false, .invokevirtual 223, 5, 155, 193) := rfl
theorem ix_174_5 : lkp 5 (mI mi_174) = some (false, .ifCond .eq 8, 8, 0, 13) := rfl
theorem ix_174_8 : lkp 8 (mI mi_174) = some (false, .bipush 32, 10, 32, 0) := rfl
theorem ix_174_10 : lkp 10 (mI mi_174) = some (false, .goto 10, 13, 0, 20) := rfl
theorem ix_174_13 : lkp 13 (mI mi_174) = some (false, .aload_n 0, 14, 0, 0) := rfl
theorem ix_174_14 : lkp 14 (mI mi_174) = some (false, .getfield 80, 17, 12, 29) := rfl
theorem ix_174_17 : lkp 17 (mI mi_174) = some (false, .iload_n 1, 18, 1, 0) := rfl
theorem ix_174_18 : lkp 18 (mI mi_174) = some (false, .iaload, 19, 0, 0) := rfl
theorem ix_174_19 : lkp 19 (mI mi_174) = some (false, .i2c, 20, 0, 0) := rfl
theorem ix_174_20 : lkp 20 (mI mi_174) = some (false, .ireturn, 21, 0, 2) := rfl
theorem ix_175_0 : lkp 0 (mI mi_175) = some (false, .aload_n 0, 1, 0, 0) := rfl
theorem ix_175_1 : lkp 1 (mI mi_175) = some (false, .iconst 0, 2, 0, 0) := rfl
theorem ix_175_2 : lkp 2 (mI mi_175) = some (false, .putfield 114, 5, 12, 0) := rfl
theorem ix_175_5 : lkp 5 (mI mi_175) = some (false, .aload_n 0, 6, 0, 0) := rfl
theorem ix_175_6 : lkp 6 (mI mi_175) = some (false, .getfield 135, 9, 12, 7) := rfl
theorem ix_175_9 : lkp 9 (mI mi_175) = some (false, .ireturn, 10, 0, 0) := rfl
theorem ix_176_0 : lkp 0 (mI mi_176) = some (false, .aload_n 0, 1, 0, 0) := rfl
theorem ix_176_1 : lkp 1 (mI mi_176) = some (false, .iconst 0, 2, 0, 0) := rfl
theorem ix_176_2 : lkp 2 (mI mi_176) = some (false, .putfield 114, 5, 12, 0) := rfl
theorem ix_176_5 : lkp 5 (mI mi_176) = some (false, .aload_n 0, 6, 0, 0) := rfl
theorem ix_176_6 : lkp 6 (mI mi_176) = some (false, .getfield 135, 9, 12, 7) := rfl
theorem ix_176_9 : lkp 9 (mI mi_176) = some (false, .aload_n 0, 10, 0, 0) := rfl
theorem ix_176_10 : lkp 10 (mI mi_176) = some (false, .getfield 235, 13, 12, 8) := rfl
theorem ix_176_13 : lkp 13 (mI mi_176) = some (false, .isub, 14, 0, 0) := rfl
theorem ix_176_14 : lkp 14 (mI mi_176) = some (false, .ireturn, 15, 0, 0) := rfl
theorem ix_177_0 : lkp 0 (mI mi_177) = some (false, .aload_n 0, 1, 0, 0) := rfl
theorem ix_177_1 : lkp 1 (mI mi_177) = some (false, .iload_n 1, 2, 1, 0) := rfl
theorem ix_177_2 : lkp 2 (mI mi_177) = some (false, .iconst 0, 3, 0, 0) := rfl
theorem ix_177_3 : lkp 3 (mI mi_177) = some (false, .aload_n 0, 4, 0, 0) := rfl
theorem ix_177_4 : lkp 4 (mI mi_177) = some (false, .getfield 135, 7, 12, 7) := rfl
theorem ix_177_7 : lkp 7 (mI mi_177) = some (false, .iconst 1, 8, 1, 0) := rfl
theorem ix_177_8 : lkp 8 (mI mi_177) = some (false, .isub, 9, 0, 0) := rfl
theorem ix_177_9 : lkp 9 (mI mi_177) = some (false, .invokestatic 120, 12, 126, 3) := rfl
theorem ix_177_12 : lkp 12 (mI mi_177) = some (false, .ifCond .eq 7, 15, 0, 19) := rfl
theorem ix_177_15 : lkp 15 (mI mi_177) = some (false, .iconst 0, 16, 0, 0) := rfl
theorem ix_177_16 : lkp 16 (mI mi_177) = some (false, .goto 4, 19, 0, 20) := rfl
theorem ix_177_19 : lkp 19 (mI mi_177) = some (false, .iconst 1, 20, 1, 0) := rfl
theorem ix_177_20 : lkp 20 (mI mi_177) = some (false, .putfield 114, 23, 12, 0) := rfl
theorem ix_177_23 : lkp 23 (mI mi_177) = some (false, .aload_n 0, 24, 0, 0) := rfl
theorem ix_177_24 : lkp 24 (mI mi_177) = some (false, .getfield 114, 27, 12, 0) := rfl
theorem ix_177_27 : lkp 27 (mI mi_177) = some (false, .ifCond .le 7, 30, 0, 34) := rfl
theorem ix_177_30 : lkp 30 (mI mi_177) = some (false, .iconst 1, 31, 1, 0) := rfl
theorem ix_177_31 : lkp 31 (mI mi_177) = some (false, .goto 4, 34, 0, 35) := rfl
theorem ix_177_34 : lkp 34 (mI mi_177) = some (false, .iconst 0, 35, 0, 0) := rfl
theorem ix_177_35 : lkp 35 (mI mi_177) = some (false, .ireturn, 36, 0, 1) := rfl
theorem ix_178_0 : lkp 0 (mI mi_178) = some (false, .aload_n 0, 1, 0, 0) := rfl
theorem ix_178_1 : lkp 1 (mI mi_178) = some (false, .iload_n 1, 2, 1, 0) := rfl
theorem ix_178_2 : lkp 2 (mI mi_178) = some (false, .invokevirtual 238, 5, 177, 193) := rfl
theorem ix_178_5 : lkp 5 (mI mi_178) = some (false, .ifCond .eq 8, 8, 0, 13) := rfl
theorem ix_178_8 : lkp 8 (mI mi_178) = some (false, .bipush 32, 10, 32, 0) := rfl
theorem ix_178_10 : lkp 10 (mI mi_178) = some (false, .goto 10, 13, 0, 20) := rfl
theorem ix_178_13 : lkp 13 (mI mi_178) = some (false, .aload_n 0, 14, 0, 0) := rfl
theorem ix_178_14 : lkp 14 (mI mi_178) = some (false, .getfield 26, 17, 12, 9) := rfl
theorem ix_178_17 : lkp 17 (mI mi_178) = some (false, .iload_n 1, 18, 1, 0) := rfl
theorem ix_178_18 : lkp 18 (mI mi_178) = some (false, .iaload, 19, 0, 0) := rfl
theorem ix_178_19 : lkp 19 (mI mi_178) = some (false, .i2c, 20, 0, 0) := rfl
theorem ix_178_20 : lkp 20 (mI mi_178) = some (false, .ireturn, 21, 0, 2) := rfl
theorem ix_179_0 : lkp 0 (mI mi_179) = some (false, .aload_n 0, 1, 0, 0) := rfl
theorem ix_179_1 : lkp 1 (mI mi_179) = some (false, .iload_n 1, 2, 1, 0) := rfl
theorem ix_179_2 : lkp 2 (mI mi_179) = some (false, .invokevirtual 238, 5, 177, 193) := rfl
theorem ix_179_5 : lkp 5 (mI mi_179) = some (false, .ifCond .eq 7, 8, 0, 12) := rfl
theorem ix_179_8 : lkp 8 (mI mi_179) = some (false, .iconst 0, 9, 0, 0) := rfl
theorem ix_179_9 : lkp 9 (mI mi_179) = some (false, .goto 9, 12, 0, 18) := rfl
theorem ix_179_12 : lkp 12 (mI mi_179) = some (false, .aload_n 0, 13, 0, 0) := rfl
theorem ix_179_13 : lkp 13 (mI mi_179) = some (false, .getfield 29, 16, 12, 10) := rfl
theorem ix_179_16 : lkp 16 (mI mi_179) = some (false, .iload_n 1, 17, 1, 0) := rfl
theorem ix_179_17 : lkp 17 (mI mi_179) = some (false, .iaload, 18, 0, 0) := rfl
theorem ix_179_18 : lkp 18 (mI mi_179) = some (false, .ireturn, 19, 0, 0) := rfl
theorem ix_180_0 : lkp 0 (mI mi_180) = some (false, .aload_n 0, 1, 0, 0) := rfl
theorem ix_180_1 : lkp 1 (mI mi_180) = some (false, .iconst 0, 2, 0, 0) := rfl
theorem ix_180_2 : lkp 2 (mI mi_180) = some (false, .putfield 114, 5, 12, 0) := rfl
theorem ix_180_5 : lkp 5 (mI mi_180) = some (false, .aload_n 0, 6, 0, 0) := rfl
theorem ix_180_6 : lkp 6 (mI mi_180) = some (false, .getfield 135, 9, 12, 7) := rfl
theorem ix_180_9 : lkp 9 (mI mi_180) = some (false, .aload_n 0, 10, 0, 0) := rfl
theorem ix_180_10 : lkp 10 (mI mi_180) = some (false, .getfield 235, 13, 12, 8) := rfl
theorem ix_180_13 : lkp 13 (mI mi_180) = some (false, .isub, 14, 0, 0) := rfl
theorem ix_180_14 : lkp 14 (mI mi_180) = some (false, .istore_n 1, 15, 1, 0) := rfl
theorem ix_180_15 : lkp 15 (mI mi_180) = some (false, .aload_n 0, 16, 0, 0) := rfl
theorem ix_180_16 : lkp 16 (mI mi_180) = some (false, .aload_n 0, 17, 0, 0) := rfl
theorem ix_180_17 : lkp 17 (mI mi_180) = some (false, .getfield 135, 20, 12, 7) := rfl
theorem ix_180_20 : lkp 20 (mI mi_180) = some (false, .putfield 235, 23, 12, 8) := rfl
theorem ix_180_23 : lkp 23 (mI mi_180) = some (false, .iload_n 1, 24, 1, 0) := rfl
theorem ix_180_24 : lkp 24 (mI mi_180) = some (false, .ireturn, 25, 0, 0) := rfl
theorem ix_181_0 : lkp 0 (mI mi_181) = some (false, .aload_n 0, 1, 0, 0) := rfl
theorem ix_181_1 : lkp 1 (mI mi_181) = some (false, .iconst 0, 2, 0, 0) := rfl
theorem ix_181_2 : lkp 2 (mI mi_181) = some (false, .putfield 114, 5, 12, 0) := rfl
theorem ix_181_5 : lkp 5 (mI mi_181) = some (false, .aload_n 0, 6, 0, 0) := rfl
theorem ix_181_6 : lkp 6 (mI mi_181) = some (false, .getfield 135, 9, 12, 7) := rfl
theorem ix_181_9 : lkp 9 (mI mi_181) = some (false, .aload_n 0, 10, 0, 0) := rfl
theorem ix_181_10 : lkp 10 (mI mi_181) = some (false, .getfield 235, 13, 12, 8) := rfl
theorem ix_181_13 : lkp 13 (mI mi_181) = some (false, .isub, 14, 0, 0) := rfl
theorem ix_181_14 : lkp 14 (mI mi_181) = some (false, .istore_n 1, 15, 1, 0) := rfl
theorem ix_181_15 : lkp 15 (mI mi_181) = some (false, .aload_n 0, 16, 0, 0) := rfl
theorem ix_181_16 : lkp 16 (mI mi_181) = some (false, .aload_n 0, 17, 0, 0) := rfl
theorem ix_181_17 : lkp 17 (mI mi_181) = some (false, .getfield 235, 20, 12, 8) := rfl
theorem ix_181_20 : lkp 20 (mI mi_181) = some (false, .putfield 135, 23, 12, 7) := rfl
theorem ix_181_23 : lkp 23 (mI mi_181) = some (false, .aload_n 0, 24, 0, 0) := rfl
theorem ix_181_24 : lkp 24 (mI mi_181) = some (false, .iconst 0, 25, 0, 0) := rfl
theorem ix_181_25 : lkp 25 (mI mi_181) = some (false, .putfield 117, 28, 12, 16) := rfl
theorem ix_181_28 : lkp 28 (mI mi_181) = some (false, .aload_n 0, 29, 0, 0) := rfl
theorem ix_181_29 : lkp 29 (mI mi_181) = some (false, .iconst 0, 30, 0, 0) := rfl
theorem ix_181_30 : lkp 30 (mI mi_181) = some (false, .putfield 191, 33, 12, 38) := rfl
theorem ix_181_33 : lkp 33 (mI mi_181) = some (false, .iconst 0, 34, 0, 0) := rfl
theorem ix_181_34 : lkp 34 (mI mi_181) = some (false, .istore_n 2, 35, 2, 0) := rfl
theorem ix_181_35 : lkp 35 (mI mi_181) = some (true, .iload_n 2, 36, 2, 0) := rfl
theorem ix_181_36 : lkp 36 (mI mi_181) = some (false, .iconst 4, 37, 4, 0) := rfl
theorem ix_181_37 : lkp 37 (mI mi_181) = some (false, .if_icmp .ge 17, 40, 0, 54) := rfl
theorem ix_181_40 : lkp 40 (mI mi_181) = some (false, .aload_n 0, 41, 0, 0) := rfl
theorem ix_181_41 : lkp 41 (mI mi_181) = some (false, .getfield 104, 44, 12, 37) := rfl
theorem ix_181_44 : lkp 44 (mI mi_181) = some (false, .iload_n 2, 45, 2, 0) := rfl
theorem ix_181_45 : lkp 45 (mI mi_181) = some (false, .bipush 100, 47, 100, 0) := rfl
theorem ix_181_47 : lkp 47 (mI mi_181) = some (false, .iastore, 48, 0, 0) := rfl
theorem ix_181_48 : lkp 48 (mI mi_181) = some (false, .iinc 2 1, 51, 2, 2) := rfl
theorem ix_181_51 : lkp 51 (mI mi_181) = some (false, .goto (-16), 54, 0, 35) := rfl
theorem ix_181_54 : lkp 54 (mI mi_181) = some (false, .iconst 0, 55, 0, 0) := rfl
theorem ix_181_55 : lkp 55 (mI mi_181) = some (false, .istore_n 2, 56, 2, 0) := rfl
theorem ix_181_56 : lkp 56 (mI mi_181) = some (true, .iload_n 2, 57, 2, 0) := rfl
theorem ix_181_57 : lkp 57 (mI mi_181) = some (false, .aload_n 0, 58, 0, 0) := rfl
theorem ix_181_58 : lkp 58 (mI mi_181) = some (false, .getfield 135, 61, 12, 7) := rfl
theorem ix_181_61 : lkp 61 (mI mi_181) = some (false, .if_icmp .ge 14, 64, 0, 75) := rfl
theorem ix_181_64 : lkp 64 (mI mi_181) = some (false, .aload_n 0, 65, 0, 0) := rfl
theorem ix_181_65 : lkp 65 (mI mi_181) = some (false, .iload_n 2, 66, 2, 0) := rfl
theorem ix_181_66 : lkp 66 (mI mi_181) = some (false, .invokevirtual 138, 69, 136, 193) := rfl
theorem ix_181_69 : lkp 69 (mI mi_181) = some (false, .iinc 2 1, 72, 2, 2) := rfl
theorem ix_181_72 : lkp 72 (mI mi_181) = some (false, .goto (-16), 75, 0, 56) := rfl
theorem ix_181_75 : lkp 75 (mI mi_181) = some (false, .iload_n 1, 76, 1, 0) := rfl
theorem ix_181_76 : lkp 76 (mI mi_181) = some (false, .ireturn, 77, 0, 0) := rfl
theorem ix_182_0 : lkp 0 (mI mi_182) = some (false, .iconst 0, 1, 0, 0) := rfl
theorem ix_182_1 : lkp 1 (mI mi_182) = some (false, .istore_n 1, 2, 1, 0) := rfl
theorem ix_182_2 : lkp 2 (mI mi_182) = some (false, .iconst 0, 3, 0, 0) := rfl
theorem ix_182_3 : lkp 3 (mI mi_182) = some (false, .istore_n 2, 4, 2, 0) := rfl
theorem ix_182_4 : lkp 4 (mI mi_182) = some (true, .iload_n 2, 5, 2, 0) := rfl
theorem ix_182_5 : lkp 5 (mI mi_182) = some (false, .aload_n 0, 6, 0, 0) := rfl
theorem ix_182_6 : lkp 6 (mI mi_182) = some (false, .getfield 117, 9, 12, 16) := rfl
theorem ix_182_9 : lkp 9 (mI mi_182) = some (false, .if_icmp .ge 36, 12, 0, 45) := rfl
theorem ix_182_12 : lkp 12 (mI mi_182) = some (false, .iload_n 1, 13, 1, 0) := rfl
theorem ix_182_13 : lkp 13 (mI mi_182) = some (false, .ifCond .ne 20, 16, 0, 33) := rfl
theorem ix_182_16 : lkp 16 (mI mi_182) = some (false, .aload_n 0, 17, 0, 0) := rfl
theorem ix_182_17 : lkp 17 (mI mi_182) = some (false, .getfield 89, 20, 12, 32) := rfl
theorem ix_182_20 : lkp 20 (mI mi_182) = some (false, .iload_n 2, 21, 2, 0) := rfl
theorem ix_182_21 : lkp 21 (mI mi_182) = some (false, .iaload, 22, 0, 0) := rfl
theorem ix_182_22 : lkp 22 (mI mi_182) = some (false, .ifCond .le 15, 25, 0, 37) := rfl
theorem ix_182_25 : lkp 25 (mI mi_182) = some (false, .aload_n 0, 26, 0, 0) := rfl
theorem ix_182_26 : lkp 26 (mI mi_182) = some (false, .iload_n 2, 27, 2, 0) := rfl
theorem ix_182_27 : lkp 27 (mI mi_182) = some (false, .invokevirtual 214, 30, 146, 193) := rfl
theorem ix_182_30 : lkp 30 (mI mi_182) = some (false, .ifCond .ne 7, 33, 0, 37) := rfl
theorem ix_182_33 : lkp 33 (mI mi_182) = some (false, .iconst 1, 34, 1, 0) := rfl
theorem ix_182_34 : lkp 34 (mI mi_182) = some (false, .goto 4, 37, 0, 38) := rfl
theorem ix_182_37 : lkp 37 (mI mi_182) = some (false, .iconst 0, 38, 0, 0) := rfl
theorem ix_182_38 : lkp 38 (mI mi_182) = some (false, .istore_n 1, 39, 1, 0) := rfl
theorem ix_182_39 : lkp 39 (mI mi_182) = some (false, .iinc 2 1, 42, 2, 2) := rfl
theorem ix_182_42 : lkp 42 (mI mi_182) = some (false, .goto (-38), 45, 0, 4) := rfl
theorem ix_182_45 : lkp 45 (mI mi_182) = some (false, .aload_n 0, 46, 0, 0) := rfl
theorem ix_182_46 : lkp 46 (mI mi_182) = some (false, .iload_n 1, 47, 1, 0) := rfl
theorem ix_182_47 : lkp 47 (mI mi_182) = some (false, .ifCond .eq 7, 50, 0, 54) := rfl
theorem ix_182_50 : lkp 50 (mI mi_182) = some (false, .iconst 1, 51, 1, 0) := rfl
theorem ix_182_51 : lkp 51 (mI mi_182) = some (false, .goto 16, 54, 0, 67) := rfl
theorem ix_182_54 : lkp 54 (mI mi_182) = some (false, .aload_n 0, 55, 0, 0) := rfl
theorem ix_182_55 : lkp 55 (mI mi_182) = some (false, .getfield 229, 58, 12, 14) := rfl
theorem ix_182_58 : lkp 58 (mI mi_182) = some (false, .iconst 5, 59, 5, 0) := rfl
theorem ix_182_59 : lkp 59 (mI mi_182) = some (false, .if_icmp .ne 7, 62, 0, 66) := rfl
theorem ix_182_62 : lkp 62 (mI mi_182) = some (false, .iconst 2, 63, 2, 0) := rfl
theorem ix_182_63 : lkp 63 (mI mi_182) = some (false, .goto 4, 66, 0, 67) := rfl
theorem ix_182_66 : lkp 66 (mI mi_182) = some (false, .iconst 0, 67, 0, 0) := rfl
theorem ix_182_67 : lkp 67 (mI mi_182) = some (false, .putfield 114, 70, 12, 0) := rfl
theorem ix_182_70 : lkp 70 (mI mi_182) = some (false, .aload_n 0, 71, 0, 0) := rfl
theorem ix_182_71 : lkp 71 (mI mi_182) = some (false, .getfield 114, 74, 12, 0) := rfl
theorem ix_182_74 : lkp 74 (mI mi_182) = some (false, .ifCond .le 5, 77, 0, 79) := rfl
theorem ix_182_77 : lkp 77 (mI mi_182) = some (false, .iconst 0, 78, 0, 0) := rfl
theorem ix_182_78 : lkp 78 (mI mi_182) = some (false, .ireturn, 79, 0, 0) := rfl
theorem ix_182_79 : lkp 79 (mI mi_182) = some (false, .aload_n 0, 80, 0, 0) := rfl
theorem ix_182_80 : lkp 80 (mI mi_182) = some (false, .aload_n 0, 81, 0, 0) := rfl
theorem ix_182_81 : lkp 81 (mI mi_182) = some (false, .getfield 135, 84, 12, 7) := rfl
theorem ix_182_84 : lkp 84 (mI mi_182) = some (false, .putfield 235, 87, 12, 8) := rfl
theorem ix_182_87 : lkp 87 (mI mi_182) = some (false, .aload_n 0, 88, 0, 0) := rfl
theorem ix_182_88 : lkp 88 (mI mi_182) = some (false, .getfield 41, 91, 12, 15) := rfl
theorem ix_182_91 : lkp 91 (mI mi_182) = some (false, .aload_n 0, 92, 0, 0) := rfl
theorem ix_182_92 : lkp 92 (mI mi_182) = some (false, .getfield 229, 95, 12, 14) := rfl
theorem ix_182_95 : lkp 95 (mI mi_182) = some (false, .aload_n 0, 96, 0, 0) := rfl
theorem ix_182_96 : lkp 96 (mI mi_182) = some (false, .getfield 135, 99, 12, 7) := rfl
theorem ix_182_99 : lkp 99 (mI mi_182) = some (false, .iastore, 100, 0, 0) := rfl
theorem ix_182_100 : lkp 100 (mI mi_182) = some (false, .aload_n 0, 101, 0, 0) := rfl
theorem ix_182_101 : lkp 101 (mI mi_182) = some (false, .dup, 102, 0, 0) := rfl
theorem ix_182_102 : lkp 102 (mI mi_182) = some (false, .getfield 229, 105, 12, 14) := rfl
theorem ix_182_105 : lkp 105 (mI mi_182) = some (false, .iconst 1, 106, 1, 0) := rfl
theorem ix_182_106 : lkp 106 (mI mi_182) = some (false, .iadd, 107, 0, 0) := rfl
theorem ix_182_107 : lkp 107 (mI mi_182) = some (false, .putfield 229, 110, 12, 14) := rfl
theorem ix_182_110 : lkp 110 (mI mi_182) = some (false, .aload_n 0, 111, 0, 0) := rfl
theorem ix_182_111 : lkp 111 (mI mi_182) = some (false, .getfield 229, 114, 12, 14) := rfl
theorem ix_182_114 : lkp 114 (mI mi_182) = some (false, .iconst 1, 115, 1, 0) := rfl
theorem ix_182_115 : lkp 115 (mI mi_182) = some (false, .isub, 116, 0, 0) := rfl
theorem ix_182_116 : lkp 116 (mI mi_182) = some (false, .ireturn, 117, 0, 0) := rfl
theorem ix_183_0 : lkp 0 (mI mi_183) = some (false, .iload_n 1, 1, 1, 0) := rfl
theorem ix_183_1 : lkp 1 (mI mi_183) = some (false, .iconst 0, 2, 0, 0) := rfl
theorem ix_183_2 : lkp 2 (mI mi_183) = some (false, .aload_n 0, 3, 0, 0) := rfl
theorem ix_183_3 : lkp 3 (mI mi_183) = some (false, .getfield 229, 6, 12, 14) := rfl
theorem ix_183_6 : lkp 6 (mI mi_183) = some (false, .iconst 1, 7, 1, 0) := rfl
theorem ix_183_7 : lkp 7 (mI mi_183) = some (false, .isub, 8, 0, 0) := rfl
theorem ix_183_8 : lkp 8 (mI mi_183) = some (false, .invokestatic 120, 11, 126, 3) := rfl
theorem ix_183_11 : lkp 11 (mI mi_183) = some (false, .ireturn, 12, 0, 1) := rfl
theorem ix_184_0 : lkp 0 (mI mi_184) = some (false, .aload_n 0, 1, 0, 0) := rfl
theorem ix_184_1 : lkp 1 (mI mi_184) = some (false, .aload_n 0, 2, 0, 0) := rfl
theorem ix_184_2 : lkp 2 (mI mi_184) = some (false, .iload_n 1, 3, 1, 0) := rfl
theorem ix_184_3 : lkp 3 (mI mi_184) = some (false, .invokevirtual 241, 6, 183, 193) := rfl
theorem ix_184_6 : lkp 6 (mI mi_184) = some (false, .ifCond .eq 7, 9, 0, 13) := rfl
theorem ix_184_9 : lkp 9 (mI mi_184) = some (false, .iconst 0, 10, 0, 0) := rfl
theorem ix_184_10 : lkp 10 (mI mi_184) = some (false, .goto 4, 13, 0, 14) := rfl
theorem ix_184_13 : lkp 13 (mI mi_184) = some (false, .iconst 1, 14, 1, 0) := rfl
theorem ix_184_14 : lkp 14 (mI mi_184) = some (false, .putfield 114, 17, 12, 0) := rfl
theorem ix_184_17 : lkp 17 (mI mi_184) = some (false, .aload_n 0, 18, 0, 0) := rfl
theorem ix_184_18 : lkp 18 (mI mi_184) = some (false, .getfield 114, 21, 12, 0) := rfl
theorem ix_184_21 : lkp 21 (mI mi_184) = some (false, .ifCond .le 7, 24, 0, 28) := rfl
theorem ix_184_24 : lkp 24 (mI mi_184) = some (false, .iconst 0, 25, 0, 0) := rfl
theorem ix_184_25 : lkp 25 (mI mi_184) = some (false, .goto 14, 28, 0, 39) := rfl
theorem ix_184_28 : lkp 28 (mI mi_184) = some (false, .aload_n 0, 29, 0, 0) := rfl
theorem ix_184_29 : lkp 29 (mI mi_184) = some (false, .getfield 135, 32, 12, 7) := rfl
theorem ix_184_32 : lkp 32 (mI mi_184) = some (false, .aload_n 0, 33, 0, 0) := rfl
theorem ix_184_33 : lkp 33 (mI mi_184) = some (false, .getfield 41, 36, 12, 15) := rfl
theorem ix_184_36 : lkp 36 (mI mi_184) = some (false, .iload_n 1, 37, 1, 0) := rfl
theorem ix_184_37 : lkp 37 (mI mi_184) = some (false, .iaload, 38, 0, 0) := rfl
theorem ix_184_38 : lkp 38 (mI mi_184) = some (false, .isub, 39, 0, 0) := rfl
theorem ix_184_39 : lkp 39 (mI mi_184) = some (false, .ireturn, 40, 0, 0) := rfl
theorem ix_185_0 : lkp 0 (mI mi_185) = some (false, .aload_n 0, 1, 0, 0) := rfl
theorem ix_185_1 : lkp 1 (mI mi_185) = some (false, .iload_n 1, 2, 1, 0) := rfl
theorem ix_185_2 : lkp 2 (mI mi_185) = some (false, .iconst (-1), 3, 1, 1) := rfl
theorem ix_185_3 : lkp 3 (mI mi_185) = some (false, .if_icmp .eq 11, 6, 0, 14) := rfl
theorem ix_185_6 : lkp 6 (mI mi_185) = some (false, .aload_n 0, 7, 0, 0) := rfl
theorem ix_185_7 : lkp 7 (mI mi_185) = some (false, .iload_n 1, 8, 1, 0) := rfl
theorem ix_185_8 : lkp 8 (mI mi_185) = some (false, .invokevirtual 241, 11, 183, 193) := rfl
theorem ix_185_11 : lkp 11 (mI mi_185) = some (false, .ifCond .eq 7, 14, 0, 18) := rfl
theorem ix_185_14 : lkp 14 (mI mi_185) = some (false, .iconst 0, 15, 0, 0) := rfl
theorem ix_185_15 : lkp 15 (mI mi_185) = some (false, .goto 4, 18, 0, 19) := rfl
theorem ix_185_18 : lkp 18 (mI mi_185) = some (false, .iconst 1, 19, 1, 0) := rfl
theorem ix_185_19 : lkp 19 (mI mi_185) = some (false, .putfield 114, 22, 12, 0) := rfl
theorem ix_185_22 : lkp 22 (mI mi_185) = some (false, .aload_n 0, 23, 0, 0) := rfl
theorem ix_185_23 : lkp 23 (mI mi_185) = some (false, .getfield 114, 26, 12, 0) := rfl
theorem ix_185_26 : lkp 26 (mI mi_185) = some (false, .ifCond .le 7, 29, 0, 33) := rfl
theorem ix_185_29 : lkp 29 (mI mi_185) = some (false, .lconst 0, 30, 0, 0) := rfl
theorem ix_185_30 : lkp 30 (mI mi_185) = some (false, .goto 7, 33, 0, 37) := rfl
theorem ix_185_33 : lkp 33 (mI mi_185) = some (false, .aload_n 0, 34, 0, 0) := rfl
theorem ix_185_34 : lkp 34 (mI mi_185) = some (false, .invokevirtual 244, 37, 186, 192) := rfl
theorem ix_185_37 : lkp 37 (mI mi_185) = some (false, .lreturn, 38, 0, 0) := rfl
theorem ix_186_0 : lkp 0 (mI mi_186) = some (false, .ldc2_w 248, 3, 7, 0) := rfl
theorem ix_186_3 : lkp 3 (mI mi_186) = some (false, .lstore_n 1, 4, 1, 0) := rfl
theorem ix_186_4 : lkp 4 (mI mi_186) = some (false, .iconst 0, 5, 0, 0) := rfl
theorem ix_186_5 : lkp 5 (mI mi_186) = some (false, .istore_n 3, 6, 3, 0) := rfl
theorem ix_186_6 : lkp 6 (mI mi_186) = some (true, .iload_n 3, 7, 3, 0) := rfl
theorem ix_186_7 : lkp 7 (mI mi_186) = some (false, .aload_n 0, 8, 0, 0) := rfl
theorem ix_186_8 : lkp 8 (mI mi_186) = some (false, .getfield 117, 11, 12, 16) := rfl
theorem ix_186_11 : lkp 11 (mI mi_186) = some (false, .if_icmp .ge 78, 14, 0, 89) := rfl
theorem ix_186_14 : lkp 14 (mI mi_186) = some (false, .ldc2_w 250, 17, 31, 0) := rfl
theorem ix_186_17 : lkp 17 (mI mi_186) = some (false, .lload_n 1, 18, 1, 0) := rfl
theorem ix_186_18 : lkp 18 (mI mi_186) = some (false, .lmul, 19, 0, 0) := rfl
theorem ix_186_19 : lkp 19 (mI mi_186) = some (false, .aload_n 0, 20, 0, 0) := rfl
theorem ix_186_20 : lkp 20 (mI mi_186) = some (false, .getfield 71, 23, 12, 26) := rfl
theorem ix_186_23 : lkp 23 (mI mi_186) = some (false, .iload_n 3, 24, 3, 0) := rfl
theorem ix_186_24 : lkp 24 (mI mi_186) = some (false, .iaload, 25, 0, 0) := rfl
theorem ix_186_25 : lkp 25 (mI mi_186) = some (false, .i2l, 26, 0, 0) := rfl
theorem ix_186_26 : lkp 26 (mI mi_186) = some (false, .ladd, 27, 0, 0) := rfl
theorem ix_186_27 : lkp 27 (mI mi_186) = some (false, .lstore_n 1, 28, 1, 0) := rfl
theorem ix_186_28 : lkp 28 (mI mi_186) = some (false, .iconst 0, 29, 0, 0) := rfl
theorem ix_186_29 : lkp 29 (mI mi_186) = some (false, .istore 4, 31, 4, 0) := rfl
theorem ix_186_31 : lkp 31 (mI mi_186) = some (true, .iload 4, 33, 4, 0) := rfl
theorem ix_186_33 : lkp 33 (mI mi_186) = some (false, .aload_n 0, 34, 0, 0) := rfl
theorem ix_186_34 : lkp 34 (mI mi_186) = some (false, .iload_n 3, 35, 3, 0) := rfl
theorem ix_186_35 : lkp 35 (mI mi_186) = some (false, .invokevirtual 182, 38, 131, 193) := rfl
theorem ix_186_38 : lkp 38 (mI mi_186) = some (false, .if_icmp .ge 31, 41, 0, 69) := rfl
theorem ix_186_41 : lkp 41 (mI mi_186) = some (false, .ldc2_w 250, 44, 31, 0) := rfl
theorem ix_186_44 : lkp 44 (mI mi_186) = some (false, .lload_n 1, 45, 1, 0) := rfl
theorem ix_186_45 : lkp 45 (mI mi_186) = some (false, .lmul, 46, 0, 0) := rfl
theorem ix_186_46 : lkp 46 (mI mi_186) = some (false, .aload_n 0, 47, 0, 0) := rfl
theorem ix_186_47 : lkp 47 (mI mi_186) = some (false, .getfield 50, 50, 12, 19) := rfl
theorem ix_186_50 : lkp 50 (mI mi_186) = some (false, .iconst 4, 51, 4, 0) := rfl
theorem ix_186_51 : lkp 51 (mI mi_186) = some (false, .iload_n 3, 52, 3, 0) := rfl
theorem ix_186_52 : lkp 52 (mI mi_186) = some (false, .imul, 53, 0, 0) := rfl
theorem ix_186_53 : lkp 53 (mI mi_186) = some (false, .iload 4, 55, 4, 0) := rfl
theorem ix_186_55 : lkp 55 (mI mi_186) = some (false, .iadd, 56, 0, 0) := rfl
theorem ix_186_56 : lkp 56 (mI mi_186) = some (false, .iaload, 57, 0, 0) := rfl
theorem ix_186_57 : lkp 57 (mI mi_186) = some (false, .ldc 252, 59, 1000003, 0) := rfl
theorem ix_186_59 : lkp 59 (mI mi_186) = some (false, .irem, 60, 0, 0) := rfl
theorem ix_186_60 : lkp 60 (mI mi_186) = some (false, .i2l, 61, 0, 0) := rfl
theorem ix_186_61 : lkp 61 (mI mi_186) = some (false, .ladd, 62, 0, 0) := rfl
theorem ix_186_62 : lkp 62 (mI mi_186) = some (false, .lstore_n 1, 63, 1, 0) := rfl
theorem ix_186_63 : lkp 63 (mI mi_186) = some (false, .iinc 4 1, 66, 4, 2) := rfl
theorem ix_186_66 : lkp 66 (mI mi_186) = some (false, .goto (-35), 69, 0, 31) := rfl
theorem ix_186_69 : lkp 69 (mI mi_186) = some (false, .ldc2_w 250, 72, 31, 0) := rfl
theorem ix_186_72 : lkp 72 (mI mi_186) = some (false, .lload_n 1, 73, 1, 0) := rfl
theorem ix_186_73 : lkp 73 (mI mi_186) = some (false, .lmul, 74, 0, 0) := rfl
theorem ix_186_74 : lkp 74 (mI mi_186) = some (false, .aload_n 0, 75, 0, 0) := rfl
theorem ix_186_75 : lkp 75 (mI mi_186) = some (false, .getfield 77, 78, 12, 28) := rfl
theorem ix_186_78 : lkp 78 (mI mi_186) = some (false, .iload_n 3, 79, 3, 0) := rfl
theorem ix_186_79 : lkp 79 (mI mi_186) = some (false, .iaload, 80, 0, 0) := rfl
theorem ix_186_80 : lkp 80 (mI mi_186) = some (false, .i2l, 81, 0, 0) := rfl
theorem ix_186_81 : lkp 81 (mI mi_186) = some (false, .ladd, 82, 0, 0) := rfl
theorem ix_186_82 : lkp 82 (mI mi_186) = some (false, .lstore_n 1, 83, 1, 0) := rfl
theorem ix_186_83 : lkp 83 (mI mi_186) = some (false, .iinc 3 1, 86, 3, 2) := rfl
theorem ix_186_86 : lkp 86 (mI mi_186) = some (false, .goto (-80), 89, 0, 6) := rfl
theorem ix_186_89 : lkp 89 (mI mi_186) = some (false, .iconst 0, 90, 0, 0) := rfl
theorem ix_186_90 : lkp 90 (mI mi_186) = some (false, .istore_n 3, 91, 3, 0) := rfl
theorem ix_186_91 : lkp 91 (mI mi_186) = some (true, .iload_n 3, 92, 3, 0) := rfl
theorem ix_186_92 : lkp 92 (mI mi_186) = some (false, .iconst 4, 93, 4, 0) := rfl
theorem ix_186_93 : lkp 93 (mI mi_186) = some (false, .if_icmp .ge 23, 96, 0, 116) := rfl
theorem ix_186_96 : lkp 96 (mI mi_186) = some (false, .ldc2_w 250, 99, 31, 0) := rfl
theorem ix_186_99 : lkp 99 (mI mi_186) = some (false, .lload_n 1, 100, 1, 0) := rfl
theorem ix_186_100 : lkp 100 (mI mi_186) = some (false, .lmul, 101, 0, 0) := rfl
theorem ix_186_101 : lkp 101 (mI mi_186) = some (false, .aload_n 0, 102, 0, 0) := rfl
theorem ix_186_102 : lkp 102 (mI mi_186) = some (false, .getfield 104, 105, 12, 37) := rfl
theorem ix_186_105 : lkp 105 (mI mi_186) = some (false, .iload_n 3, 106, 3, 0) := rfl
theorem ix_186_106 : lkp 106 (mI mi_186) = some (false, .iaload, 107, 0, 0) := rfl
theorem ix_186_107 : lkp 107 (mI mi_186) = some (false, .i2l, 108, 0, 0) := rfl
theorem ix_186_108 : lkp 108 (mI mi_186) = some (false, .ladd, 109, 0, 0) := rfl
theorem ix_186_109 : lkp 109 (mI mi_186) = some (false, .lstore_n 1, 110, 1, 0) := rfl
theorem ix_186_110 : lkp 110 (mI mi_186) = some (false, .iinc 3 1, 113, 3, 2) := rfl
theorem ix_186_113 : lkp 113 (mI mi_186) = some (false, .goto (-22), 116, 0, 91) := rfl
theorem ix_186_116 : lkp 116 (mI mi_186) = some (false, .ldc2_w 250, 119, 31, 0) := rfl
theorem ix_186_119 : lkp 119 (mI mi_186) = some (false, .lload_n 1, 120, 1, 0) := rfl
theorem ix_186_120 : lkp 120 (mI mi_186) = some (false, .lmul, 121, 0, 0) := rfl
theorem ix_186_121 : lkp 121 (mI mi_186) = some (false, .aload_n 0, 122, 0, 0) := rfl
theorem ix_186_122 : lkp 122 (mI mi_186) = some (false, .getfield 191, 125, 12, 38) := rfl
theorem ix_186_125 : lkp 125 (mI mi_186) = some (false, .i2l, 126, 0, 0) := rfl
theorem ix_186_126 : lkp 126 (mI mi_186) = some (false, .ladd, 127, 0, 0) := rfl
theorem ix_186_127 : lkp 127 (mI mi_186) = some (false, .lreturn, 128, 0, 0) := rfl
theorem ix_187_0 : lkp 0 (mI mi_187) = some (false, .aload_n 0, 1, 0, 0) := rfl
theorem ix_187_1 : lkp 1 (mI mi_187) = some (false, .iconst 0, 2, 0, 0) := rfl
theorem ix_187_2 : lkp 2 (mI mi_187) = some (false, .putfield 114, 5, 12, 0) := rfl
theorem ix_187_5 : lkp 5 (mI mi_187) = some (false, .aload_n 0, 6, 0, 0) := rfl
theorem ix_187_6 : lkp 6 (mI mi_187) = some (false, .invokevirtual 244, 9, 186, 192) := rfl
theorem ix_187_9 : lkp 9 (mI mi_187) = some (false, .lreturn, 10, 0, 0) := rfl
theorem ix_188_0 : lkp 0 (mI mi_188) = some (false, .aload_n 0, 1, 0, 0) := rfl
theorem ix_188_1 : lkp 1 (mI mi_188) = some (false, .aload_n 0, 2, 0, 0) := rfl
theorem ix_188_2 : lkp 2 (mI mi_188) = some (false, .getfield 117, 5, 12, 16) := rfl
theorem ix_188_5 : lkp 5 (mI mi_188) = some (false, .ifCond .ne 7, 8, 0, 12) := rfl
theorem ix_188_8 : lkp 8 (mI mi_188) = some (false, .iconst 1, 9, 1, 0) := rfl
theorem ix_188_9 : lkp 9 (mI mi_188) = some (false, .goto 4, 12, 0, 13) := rfl
theorem ix_188_12 : lkp 12 (mI mi_188) = some (false, .iconst 0, 13, 0, 0) := rfl
theorem ix_188_13 : lkp 13 (mI mi_188) = some (false, .putfield 114, 16, 12, 0) := rfl
theorem ix_188_16 : lkp 16 (mI mi_188) = some (false, .iconst 0, 17, 0, 0) := rfl
theorem ix_188_17 : lkp 17 (mI mi_188) = some (false, .istore_n 1, 18, 1, 0) := rfl
theorem ix_188_18 : lkp 18 (mI mi_188) = some (false, .iconst 0, 19, 0, 0) := rfl
theorem ix_188_19 : lkp 19 (mI mi_188) = some (false, .istore_n 2, 20, 2, 0) := rfl
theorem ix_188_20 : lkp 20 (mI mi_188) = some (true, .iload_n 2, 21, 2, 0) := rfl
theorem ix_188_21 : lkp 21 (mI mi_188) = some (false, .aload_n 0, 22, 0, 0) := rfl
theorem ix_188_22 : lkp 22 (mI mi_188) = some (false, .getfield 117, 25, 12, 16) := rfl
theorem ix_188_25 : lkp 25 (mI mi_188) = some (false, .if_icmp .ge 25, 28, 0, 50) := rfl
theorem ix_188_28 : lkp 28 (mI mi_188) = some (false, .iload_n 1, 29, 1, 0) := rfl
theorem ix_188_29 : lkp 29 (mI mi_188) = some (false, .aload_n 0, 30, 0, 0) := rfl
theorem ix_188_30 : lkp 30 (mI mi_188) = some (false, .iload_n 2, 31, 2, 0) := rfl
theorem ix_188_31 : lkp 31 (mI mi_188) = some (false, .invokevirtual 214, 34, 146, 193) := rfl
theorem ix_188_34 : lkp 34 (mI mi_188) = some (false, .ifCond .eq 7, 37, 0, 41) := rfl
theorem ix_188_37 : lkp 37 (mI mi_188) = some (false, .iconst 1, 38, 1, 0) := rfl
theorem ix_188_38 : lkp 38 (mI mi_188) = some (false, .goto 4, 41, 0, 42) := rfl
theorem ix_188_41 : lkp 41 (mI mi_188) = some (false, .iconst 0, 42, 0, 0) := rfl
theorem ix_188_42 : lkp 42 (mI mi_188) = some (false, .iadd, 43, 0, 0) := rfl
theorem ix_188_43 : lkp 43 (mI mi_188) = some (false, .istore_n 1, 44, 1, 0) := rfl
theorem ix_188_44 : lkp 44 (mI mi_188) = some (false, .iinc 2 1, 47, 2, 2) := rfl
theorem ix_188_47 : lkp 47 (mI mi_188) = some (false, .goto (-27), 50, 0, 20) := rfl
theorem ix_188_50 : lkp 50 (mI mi_188) = some (false, .aload_n 0, 51, 0, 0) := rfl
theorem ix_188_51 : lkp 51 (mI mi_188) = some (false, .getfield 114, 54, 12, 0) := rfl
theorem ix_188_54 : lkp 54 (mI mi_188) = some (false, .ifCond .le 7, 57, 0, 61) := rfl
theorem ix_188_57 : lkp 57 (mI mi_188) = some (false, .fconst 0, 58, 0, 0) := rfl
theorem ix_188_58 : lkp 58 (mI mi_188) = some (false, .goto 11, 61, 0, 69) := rfl
theorem ix_188_61 : lkp 61 (mI mi_188) = some (false, .iload_n 1, 62, 1, 0) := rfl
theorem ix_188_62 : lkp 62 (mI mi_188) = some (false, .i2f, 63, 0, 0) := rfl
theorem ix_188_63 : lkp 63 (mI mi_188) = some (false, .aload_n 0, 64, 0, 0) := rfl
theorem ix_188_64 : lkp 64 (mI mi_188) = some (false, .getfield 117, 67, 12, 16) := rfl
theorem ix_188_67 : lkp 67 (mI mi_188) = some (false, .i2f, 68, 0, 0) := rfl
theorem ix_188_68 : lkp 68 (mI mi_188) = some (false, .fdiv, 69, 0, 0) := rfl
theorem ix_188_69 : lkp 69 (mI mi_188) = some (false, .freturn, 70, 0, 0) := rfl
theorem ix_189_0 : lkp 0 (mI mi_189) = some (false, .aload_n 0, 1, 0, 0) := rfl
theorem ix_189_1 : lkp 1 (mI mi_189) = some (false, .iconst 0, 2, 0, 0) := rfl
theorem ix_189_2 : lkp 2 (mI mi_189) = some (false, .putfield 114, 5, 12, 0) := rfl
theorem ix_189_5 : lkp 5 (mI mi_189) = some (false, .iconst 0, 6, 0, 0) := rfl
theorem ix_189_6 : lkp 6 (mI mi_189) = some (false, .istore_n 1, 7, 1, 0) := rfl
theorem ix_189_7 : lkp 7 (mI mi_189) = some (false, .iconst 0, 8, 0, 0) := rfl
theorem ix_189_8 : lkp 8 (mI mi_189) = some (false, .istore_n 2, 9, 2, 0) := rfl
theorem ix_189_9 : lkp 9 (mI mi_189) = some (true, .iload_n 2, 10, 2, 0) := rfl
theorem ix_189_10 : lkp 10 (mI mi_189) = some (false, .iconst 4, 11, 4, 0) := rfl
theorem ix_189_11 : lkp 11 (mI mi_189) = some (false, .if_icmp .ge 18, 14, 0, 29) := rfl
theorem ix_189_14 : lkp 14 (mI mi_189) = some (false, .iload_n 1, 15, 1, 0) := rfl
theorem ix_189_15 : lkp 15 (mI mi_189) = some (false, .aload_n 0, 16, 0, 0) := rfl
theorem ix_189_16 : lkp 16 (mI mi_189) = some (false, .getfield 104, 19, 12, 37) := rfl
theorem ix_189_19 : lkp 19 (mI mi_189) = some (false, .iload_n 2, 20, 2, 0) := rfl
theorem ix_189_20 : lkp 20 (mI mi_189) = some (false, .iaload, 21, 0, 0) := rfl
theorem ix_189_21 : lkp 21 (mI mi_189) = some (false, .iadd, 22, 0, 0) := rfl
theorem ix_189_22 : lkp 22 (mI mi_189) = some (false, .istore_n 1, 23, 1, 0) := rfl
theorem ix_189_23 : lkp 23 (mI mi_189) = some (false, .iinc 2 1, 26, 2, 2) := rfl
theorem ix_189_26 : lkp 26 (mI mi_189) = some (false, .goto (-17), 29, 0, 9) := rfl
theorem ix_189_29 : lkp 29 (mI mi_189) = some (false, .iload_n 1, 30, 1, 0) := rfl
theorem ix_189_30 : lkp 30 (mI mi_189) = some (false, .i2d, 31, 0, 0) := rfl
theorem ix_189_31 : lkp 31 (mI mi_189) = some (false, .ldc2_w 253, 34, 4616189618054758400, 1) := rfl
theorem ix_189_34 : lkp 34 (mI mi_189) = some (false, .ddiv, 35, 0, 0) := rfl
theorem ix_189_35 : lkp 35 (mI mi_189) = some (false, .dreturn, 36, 0, 0) := rfl
theorem ix_190_0 : lkp 0 (mI mi_190) = some (false, .aload_n 0, 1, 0, 0) := rfl
theorem ix_190_1 : lkp 1 (mI mi_190) = some (false, .iconst 0, 2, 0, 0) := rfl
theorem ix_190_2 : lkp 2 (mI mi_190) = some (false, .putfield 114, 5, 12, 0) := rfl
theorem ix_190_5 : lkp 5 (mI mi_190) = some (false, .iconst 1, 6, 1, 0) := rfl
theorem ix_190_6 : lkp 6 (mI mi_190) = some (false, .ireturn, 7, 0, 1) := rfl
theorem ix_191_0 : lkp 0 (mI mi_191) = some (false, .iload_n 0, 1, 0, 0) := rfl
theorem ix_191_1 : lkp 1 (mI mi_191) = some (false, .iload_n 0, 2, 0, 0) := rfl
theorem ix_191_2 : lkp 2 (mI mi_191) = some (false, .iconst 1, 3, 1, 0) := rfl
theorem ix_191_3 : lkp 3 (mI mi_191) = some (false, .iushr, 4, 0, 0) := rfl
theorem ix_191_4 : lkp 4 (mI mi_191) = some (false, .ldc_w 265, 7, 1431655765, 0) := rfl
theorem ix_191_7 : lkp 7 (mI mi_191) = some (false, .iand, 8, 0, 0) := rfl
theorem ix_191_8 : lkp 8 (mI mi_191) = some (false, .isub, 9, 0, 0) := rfl
theorem ix_191_9 : lkp 9 (mI mi_191) = some (false, .istore_n 0, 10, 0, 0) := rfl
theorem ix_191_10 : lkp 10 (mI mi_191) = some (false, .iload_n 0, 11, 0, 0) := rfl
theorem ix_191_11 : lkp 11 (mI mi_191) = some (false, .ldc_w 266, 14, 858993459, 0) := rfl
theorem ix_191_14 : lkp 14 (mI mi_191) = some (false, .iand, 15, 0, 0) := rfl
theorem ix_191_15 : lkp 15 (mI mi_191) = some (false, .iload_n 0, 16, 0, 0) := rfl
theorem ix_191_16 : lkp 16 (mI mi_191) = some (false, .iconst 2, 17, 2, 0) := rfl
theorem ix_191_17 : lkp 17 (mI mi_191) = some (false, .iushr, 18, 0, 0) := rfl
theorem ix_191_18 : lkp 18 (mI mi_191) = some (false, .ldc_w 266, 21, 858993459, 0) := rfl
theorem ix_191_21 : lkp 21 (mI mi_191) = some (false, .iand, 22, 0, 0) := rfl
theorem ix_191_22 : lkp 22 (mI mi_191) = some (false, .iadd, 23, 0, 0) := rfl
theorem ix_191_23 : lkp 23 (mI mi_191) = some (false, .istore_n 0, 24, 0, 0) := rfl
theorem ix_191_24 : lkp 24 (mI mi_191) = some (false, .iload_n 0, 25, 0, 0) := rfl
theorem ix_191_25 : lkp 25 (mI mi_191) = some (false, .iload_n 0, 26, 0, 0) := rfl
theorem ix_191_26 : lkp 26 (mI mi_191) = some (false, .iconst 4, 27, 4, 0) := rfl
theorem ix_191_27 : lkp 27 (mI mi_191) = some (false, .iushr, 28, 0, 0) := rfl
theorem ix_191_28 : lkp 28 (mI mi_191) = some (false, .iadd, 29, 0, 0) := rfl
theorem ix_191_29 : lkp 29 (mI mi_191) = some (false, .ldc_w 267, 32, 252645135, 0) := rfl
theorem ix_191_32 : lkp 32 (mI mi_191) = some (false, .iand, 33, 0, 0) := rfl
theorem ix_191_33 : lkp 33 (mI mi_191) = some (false, .istore_n 0, 34, 0, 0) := rfl
theorem ix_191_34 : lkp 34 (mI mi_191) = some (false, .iload_n 0, 35, 0, 0) := rfl
theorem ix_191_35 : lkp 35 (mI mi_191) = some (false, .iload_n 0, 36, 0, 0) := rfl
theorem ix_191_36 : lkp 36 (mI mi_191) = some (false, .bipush 8, 38, 8, 0) := rfl
theorem ix_191_38 : lkp 38 (mI mi_191) = some (false, .iushr, 39, 0, 0) := rfl
theorem ix_191_39 : lkp 39 (mI mi_191) = some (false, .iadd, 40, 0, 0) := rfl
theorem ix_191_40 : lkp 40 (mI mi_191) = some (false, .istore_n 0, 41, 0, 0) := rfl
theorem ix_191_41 : lkp 41 (mI mi_191) = some (false, .iload_n 0, 42, 0, 0) := rfl
theorem ix_191_42 : lkp 42 (mI mi_191) = some (false, .iload_n 0, 43, 0, 0) := rfl
theorem ix_191_43 : lkp 43 (mI mi_191) = some (false, .bipush 16, 45, 16, 0) := rfl
theorem ix_191_45 : lkp 45 (mI mi_191) = some (false, .iushr, 46, 0, 0) := rfl
theorem ix_191_46 : lkp 46 (mI mi_191) = some (false, .iadd, 47, 0, 0) := rfl
theorem ix_191_47 : lkp 47 (mI mi_191) = some (false, .istore_n 0, 48, 0, 0) := rfl
theorem ix_191_48 : lkp 48 (mI mi_191) = some (false, .iload_n 0, 49, 0, 0) := rfl
theorem ix_191_49 : lkp 49 (mI mi_191) = some (false, .bipush 63, 51, 63, 0) := rfl
theorem ix_191_51 : lkp 51 (mI mi_191) = some (false, .iand, 52, 0, 0) := rfl
theorem ix_191_52 : lkp 52 (mI mi_191) = some (false, .ireturn, 53, 0, 0) := rfl
theorem ix_192_0 : lkp 0 (mI mi_192) = some (false, .iload_n 0, 1, 0, 0) := rfl
theorem ix_192_1 : lkp 1 (mI mi_192) = some (false, .iload_n 1, 2, 1, 0) := rfl
theorem ix_192_2 : lkp 2 (mI mi_192) = some (false, .if_icmp .lt 7, 5, 0, 9) := rfl
theorem ix_192_5 : lkp 5 (mI mi_192) = some (false, .iload_n 0, 6, 0, 0) := rfl
theorem ix_192_6 : lkp 6 (mI mi_192) = some (false, .goto 4, 9, 0, 10) := rfl
theorem ix_192_9 : lkp 9 (mI mi_192) = some (false, .iload_n 1, 10, 1, 0) := rfl
theorem ix_192_10 : lkp 10 (mI mi_192) = some (false, .ireturn, 11, 0, 0) := rfl
theorem ix_193_0 : lkp 0 (mI mi_193) = some (false, .iload_n 0, 1, 0, 0) := rfl
theorem ix_193_1 : lkp 1 (mI mi_193) = some (false, .iload_n 1, 2, 1, 0) := rfl
theorem ix_193_2 : lkp 2 (mI mi_193) = some (false, .if_icmp .gt 7, 5, 0, 9) := rfl
theorem ix_193_5 : lkp 5 (mI mi_193) = some (false, .iload_n 0, 6, 0, 0) := rfl
theorem ix_193_6 : lkp 6 (mI mi_193) = some (false, .goto 4, 9, 0, 10) := rfl
theorem ix_193_9 : lkp 9 (mI mi_193) = some (false, .iload_n 1, 10, 1, 0) := rfl
theorem ix_193_10 : lkp 10 (mI mi_193) = some (false, .ireturn, 11, 0, 0) := rfl
theorem ix_194_0 : lkp 0 (mI mi_194) = some (false, .aload_n 0, 1, 0, 0) := rfl
theorem ix_194_1 : lkp 1 (mI mi_194) = some (false, .invokespecial 1, 4, 0, 0) := rfl
theorem ix_194_4 : lkp 4 (mI mi_194) = some (false, .return_, 5, 0, 0) := rfl
theorem ix_195_0 : lkp 0 (mI mi_195) = some (false, .aload_n 0, 1, 0, 0) := rfl
theorem ix_195_1 : lkp 1 (mI mi_195) = some (false, .invokespecial 1, 4, 194, 0) := rfl
theorem ix_195_4 : lkp 4 (mI mi_195) = some (false, .aload_n 0, 5, 0, 0) := rfl
theorem ix_195_5 : lkp 5 (mI mi_195) = some (false, .iconst 0, 6, 0, 0) := rfl
theorem ix_195_6 : lkp 6 (mI mi_195) = some (false, .putfield 7, 9, 0, 0) := rfl
theorem ix_195_9 : lkp 9 (mI mi_195) = some (false, .return_, 10, 0, 0) := rfl
theorem ix_196_0 : lkp 0 (mI mi_196) = some (false, .aload_n 0, 1, 0, 0) := rfl
theorem ix_196_1 : lkp 1 (mI mi_196) = some (false, .invokespecial 1, 4, 195, 0) := rfl
theorem ix_196_4 : lkp 4 (mI mi_196) = some (false, .aload_n 0, 5, 0, 0) := rfl
theorem ix_196_5 : lkp 5 (mI mi_196) = some (false, .getstatic 39, 8, 0, 0) := rfl
theorem ix_196_8 : lkp 8 (mI mi_196) = some (false, .putfield 9, 11, 0, 193) := rfl
theorem ix_196_11 : lkp 11 (mI mi_196) = some (false, .return_, 12, 0, 0) := rfl
theorem ix_197_0 : lkp 0 (mI mi_197) = some (false, .aload_n 0, 1, 0, 0) := rfl
theorem ix_197_1 : lkp 1 (mI mi_197) = some (false, .getfield 9, 4, 0, 1) := rfl
theorem ix_197_4 : lkp 4 (mI mi_197) = some (false, .arraylength, 5, 0, 0) := rfl
theorem ix_197_5 : lkp 5 (mI mi_197) = some (false, .istore_n 2, 6, 2, 0) := rfl
theorem ix_197_6 : lkp 6 (mI mi_197) = some (false, .iload_n 2, 7, 2, 0) := rfl
theorem ix_197_7 : lkp 7 (mI mi_197) = some (false, .ifCond .gt 13, 10, 0, 20) := rfl
theorem ix_197_10 : lkp 10 (mI mi_197) = some (false, .aload_n 0, 11, 0, 0) := rfl
theorem ix_197_11 : lkp 11 (mI mi_197) = some (false, .getfield 9, 14, 0, 1) := rfl
theorem ix_197_14 : lkp 14 (mI mi_197) = some (false, .getstatic 39, 17, 0, 0) := rfl
theorem ix_197_17 : lkp 17 (mI mi_197) = some (false, .if_acmp .eq 28, 20, 0, 45) := rfl
theorem ix_197_20 : lkp 20 (mI mi_197) = some (false, .iload_n 2, 21, 2, 0) := rfl
theorem ix_197_21 : lkp 21 (mI mi_197) = some (false, .iload_n 1, 22, 1, 0) := rfl
theorem ix_197_22 : lkp 22 (mI mi_197) = some (false, .iload_n 2, 23, 2, 0) := rfl
theorem ix_197_23 : lkp 23 (mI mi_197) = some (false, .isub, 24, 0, 0) := rfl
theorem ix_197_24 : lkp 24 (mI mi_197) = some (false, .iload_n 2, 25, 2, 0) := rfl
theorem ix_197_25 : lkp 25 (mI mi_197) = some (false, .iconst 1, 26, 1, 0) := rfl
theorem ix_197_26 : lkp 26 (mI mi_197) = some (false, .ishr, 27, 0, 0) := rfl
theorem ix_197_27 : lkp 27 (mI mi_197) = some (false, .invokestatic 73, 30, 209, 3) := rfl
theorem ix_197_30 : lkp 30 (mI mi_197) = some (false, .istore_n 3, 31, 3, 0) := rfl
theorem ix_197_31 : lkp 31 (mI mi_197) = some (false, .aload_n 0, 32, 0, 0) := rfl
theorem ix_197_32 : lkp 32 (mI mi_197) = some (false, .aload_n 0, 33, 0, 0) := rfl
theorem ix_197_33 : lkp 33 (mI mi_197) = some (false, .getfield 9, 36, 0, 1) := rfl
theorem ix_197_36 : lkp 36 (mI mi_197) = some (false, .iload_n 3, 37, 3, 0) := rfl
theorem ix_197_37 : lkp 37 (mI mi_197) = some (false, .invokestatic 66, 40, 206, 2) := rfl
theorem ix_197_40 : lkp 40 (mI mi_197) = some (false, .dup_x1, 41, 0, 0) := rfl
theorem ix_197_41 : lkp 41 (mI mi_197) = some (false, .putfield 9, 44, 0, 193) := rfl
theorem ix_197_44 : lkp 44 (mI mi_197) = some (false, .areturn, 45, 0, 0) := rfl
theorem ix_197_45 : lkp 45 (mI mi_197) = some (false, .aload_n 0, 46, 0, 0) := rfl
theorem ix_197_46 : lkp 46 (mI mi_197) = some (false, .bipush 10, 48, 10, 0) := rfl
theorem ix_197_48 : lkp 48 (mI mi_197) = some (false, .iload_n 1, 49, 1, 0) := rfl
theorem ix_197_49 : lkp 49 (mI mi_197) = some (false, .invokestatic 79, 52, 1005, 2) := rfl
theorem ix_197_52 : lkp 52 (mI mi_197) = some (false, .anewarray 7, 55, 3, 0) := rfl
theorem ix_197_55 : lkp 55 (mI mi_197) = some (false, .dup_x1, 56, 0, 0) := rfl
theorem ix_197_56 : lkp 56 (mI mi_197) = some (false, .putfield 9, 59, 0, 193) := rfl
theorem ix_197_59 : lkp 59 (mI mi_197) = some (false, .areturn, 60, 0, 0) := rfl
theorem ix_198_0 : lkp 0 (mI mi_198) = some (false, .aload_n 0, 1, 0, 0) := rfl
theorem ix_198_1 : lkp 1 (mI mi_198) = some (false, .aload_n 0, 2, 0, 0) := rfl
theorem ix_198_2 : lkp 2 (mI mi_198) = some (false, .getfield 48, 5, 0, 2) := rfl
theorem ix_198_5 : lkp 5 (mI mi_198) = some (false, .iconst 1, 6, 1, 0) := rfl
theorem ix_198_6 : lkp 6 (mI mi_198) = some (false, .iadd, 7, 0, 0) := rfl
theorem ix_198_7 : lkp 7 (mI mi_198) = some (false, .invokevirtual 69, 10, 197, 1) := rfl
theorem ix_198_10 : lkp 10 (mI mi_198) = some (false, .areturn, 11, 0, 0) := rfl
theorem ix_199_0 : lkp 0 (mI mi_199) = some (false, .aload_n 0, 1, 0, 0) := rfl
theorem ix_199_1 : lkp 1 (mI mi_199) = some (false, .getfield 48, 4, 0, 2) := rfl
theorem ix_199_4 : lkp 4 (mI mi_199) = some (false, .ireturn, 5, 0, 0) := rfl
theorem ix_200_0 : lkp 0 (mI mi_200) = some (false, .aload_n 0, 1, 0, 0) := rfl
theorem ix_200_1 : lkp 1 (mI mi_200) = some (false, .getfield 9, 4, 0, 1) := rfl
theorem ix_200_4 : lkp 4 (mI mi_200) = some (false, .iload_n 1, 5, 1, 0) := rfl
theorem ix_200_5 : lkp 5 (mI mi_200) = some (false, .aaload, 6, 0, 0) := rfl
theorem ix_200_6 : lkp 6 (mI mi_200) = some (false, .areturn, 7, 0, 0) := rfl
theorem ix_201_0 : lkp 0 (mI mi_201) = some (false, .iload_n 1, 1, 1, 0) := rfl
theorem ix_201_1 : lkp 1 (mI mi_201) = some (false, .aload_n 0, 2, 0, 0) := rfl
theorem ix_201_2 : lkp 2 (mI mi_201) = some (false, .getfield 48, 5, 0, 2) := rfl
theorem ix_201_5 : lkp 5 (mI mi_201) = some (false, .invokestatic 118, 8, 208, 2) := rfl
theorem ix_201_8 : lkp 8 (mI mi_201) = some (false, .pop, 9, 0, 0) := rfl
theorem ix_201_9 : lkp 9 (mI mi_201) = some (false, .aload_n 0, 10, 0, 0) := rfl
theorem ix_201_10 : lkp 10 (mI mi_201) = some (false, .iload_n 1, 11, 1, 0) := rfl
theorem ix_201_11 : lkp 11 (mI mi_201) = some (false, .invokevirtual 123, 14, 200, 1) := rfl
theorem ix_201_14 : lkp 14 (mI mi_201) = some (false, .areturn, 15, 0, 0) := rfl
theorem ix_202_0 : lkp 0 (mI mi_202) = some (false, .iload_n 3, 1, 3, 0) := rfl
theorem ix_202_1 : lkp 1 (mI mi_202) = some (false, .aload_n 2, 2, 2, 0) := rfl
theorem ix_202_2 : lkp 2 (mI mi_202) = some (false, .arraylength, 3, 0, 0) := rfl
theorem ix_202_3 : lkp 3 (mI mi_202) = some (false, .if_icmp .ne 8, 6, 0, 11) := rfl
theorem ix_202_6 : lkp 6 (mI mi_202) = some (false, .aload_n 0, 7, 0, 0) := rfl
theorem ix_202_7 : lkp 7 (mI mi_202) = some (false, .invokevirtual 129, 10, 198, 0) := rfl
theorem ix_202_10 : lkp 10 (mI mi_202) = some (false, .astore_n 2, 11, 2, 0) := rfl
theorem ix_202_11 : lkp 11 (mI mi_202) = some (false, .aload_n 2, 12, 2, 0) := rfl
theorem ix_202_12 : lkp 12 (mI mi_202) = some (false, .iload_n 3, 13, 3, 0) := rfl
theorem ix_202_13 : lkp 13 (mI mi_202) = some (false, .aload_n 1, 14, 1, 0) := rfl
theorem ix_202_14 : lkp 14 (mI mi_202) = some (false, .aastore, 15, 0, 0) := rfl
theorem ix_202_15 : lkp 15 (mI mi_202) = some (false, .aload_n 0, 16, 0, 0) := rfl
theorem ix_202_16 : lkp 16 (mI mi_202) = some (false, .iload_n 3, 17, 3, 0) := rfl
theorem ix_202_17 : lkp 17 (mI mi_202) = some (false, .iconst 1, 18, 1, 0) := rfl
theorem ix_202_18 : lkp 18 (mI mi_202) = some (false, .iadd, 19, 0, 0) := rfl
theorem ix_202_19 : lkp 19 (mI mi_202) = some (false, .putfield 48, 22, 0, 2) := rfl
theorem ix_202_22 : lkp 22 (mI mi_202) = some (false, .return_, 23, 0, 0) := rfl
theorem ix_203_0 : lkp 0 (mI mi_203) = some (false, .aload_n 0, 1, 0, 0) := rfl
theorem ix_203_1 : lkp 1 (mI mi_203) = some (false, .dup, 2, 0, 0) := rfl
theorem ix_203_2 : lkp 2 (mI mi_203) = some (false, .getfield 63, 5, 0, 0) := rfl
theorem ix_203_5 : lkp 5 (mI mi_203) = some (false, .iconst 1, 6, 1, 0) := rfl
theorem ix_203_6 : lkp 6 (mI mi_203) = some (false, .iadd, 7, 0, 0) := rfl
theorem ix_203_7 : lkp 7 (mI mi_203) = some (false, .putfield 63, 10, 0, 0) := rfl
theorem ix_203_10 : lkp 10 (mI mi_203) = some (false, .aload_n 0, 11, 0, 0) := rfl
theorem ix_203_11 : lkp 11 (mI mi_203) = some (false, .aload_n 1, 12, 1, 0) := rfl
theorem ix_203_12 : lkp 12 (mI mi_203) = some (false, .aload_n 0, 13, 0, 0) := rfl
theorem ix_203_13 : lkp 13 (mI mi_203) = some (false, .getfield 9, 16, 0, 1) := rfl
theorem ix_203_16 : lkp 16 (mI mi_203) = some (false, .aload_n 0, 17, 0, 0) := rfl
theorem ix_203_17 : lkp 17 (mI mi_203) = some (false, .getfield 48, 20, 0, 2) := rfl
theorem ix_203_20 : lkp 20 (mI mi_203) = some (false, .invokevirtual 131, 23, 202, 3) := rfl
theorem ix_203_23 : lkp 23 (mI mi_203) = some (false, .iconst 1, 24, 1, 0) := rfl
theorem ix_203_24 : lkp 24 (mI mi_203) = some (false, .ireturn, 25, 0, 1) := rfl
theorem ix_204_0 : lkp 0 (mI mi_204) = some (false, .iload_n 1, 1, 1, 0) := rfl
theorem ix_204_1 : lkp 1 (mI mi_204) = some (false, .aload_n 0, 2, 0, 0) := rfl
theorem ix_204_2 : lkp 2 (mI mi_204) = some (false, .getfield 48, 5, 0, 2) := rfl
theorem ix_204_5 : lkp 5 (mI mi_204) = some (false, .invokestatic 118, 8, 208, 2) := rfl
theorem ix_204_8 : lkp 8 (mI mi_204) = some (false, .pop, 9, 0, 0) := rfl
theorem ix_204_9 : lkp 9 (mI mi_204) = some (false, .aload_n 0, 10, 0, 0) := rfl
theorem ix_204_10 : lkp 10 (mI mi_204) = some (false, .getfield 9, 13, 0, 1) := rfl
theorem ix_204_13 : lkp 13 (mI mi_204) = some (false, .astore_n 2, 14, 2, 0) := rfl
theorem ix_204_14 : lkp 14 (mI mi_204) = some (false, .aload_n 2, 15, 2, 0) := rfl
theorem ix_204_15 : lkp 15 (mI mi_204) = some (false, .iload_n 1, 16, 1, 0) := rfl
theorem ix_204_16 : lkp 16 (mI mi_204) = some (false, .aaload, 17, 0, 0) := rfl
theorem ix_204_17 : lkp 17 (mI mi_204) = some (false, .astore_n 3, 18, 3, 0) := rfl
theorem ix_204_18 : lkp 18 (mI mi_204) = some (false, .aload_n 0, 19, 0, 0) := rfl
theorem ix_204_19 : lkp 19 (mI mi_204) = some (false, .aload_n 2, 20, 2, 0) := rfl
theorem ix_204_20 : lkp 20 (mI mi_204) = some (false, .iload_n 1, 21, 1, 0) := rfl
theorem ix_204_21 : lkp 21 (mI mi_204) = some (false, .invokevirtual 144, 24, 205, 2) := rfl
theorem ix_204_24 : lkp 24 (mI mi_204) = some (false, .aload_n 3, 25, 3, 0) := rfl
theorem ix_204_25 : lkp 25 (mI mi_204) = some (false, .areturn, 26, 0, 0) := rfl
theorem ix_205_0 : lkp 0 (mI mi_205) = some (false, .aload_n 0, 1, 0, 0) := rfl
theorem ix_205_1 : lkp 1 (mI mi_205) = some (false, .dup, 2, 0, 0) := rfl
theorem ix_205_2 : lkp 2 (mI mi_205) = some (false, .getfield 63, 5, 0, 0) := rfl
theorem ix_205_5 : lkp 5 (mI mi_205) = some (false, .iconst 1, 6, 1, 0) := rfl
theorem ix_205_6 : lkp 6 (mI mi_205) = some (false, .iadd, 7, 0, 0) := rfl
theorem ix_205_7 : lkp 7 (mI mi_205) = some (false, .putfield 63, 10, 0, 0) := rfl
theorem ix_205_10 : lkp 10 (mI mi_205) = some (false, .aload_n 0, 11, 0, 0) := rfl
theorem ix_205_11 : lkp 11 (mI mi_205) = some (false, .getfield 48, 14, 0, 2) := rfl
theorem ix_205_14 : lkp 14 (mI mi_205) = some (false, .iconst 1, 15, 1, 0) := rfl
theorem ix_205_15 : lkp 15 (mI mi_205) = some (false, .isub, 16, 0, 0) := rfl
theorem ix_205_16 : lkp 16 (mI mi_205) = some (false, .dup, 17, 0, 0) := rfl
theorem ix_205_17 : lkp 17 (mI mi_205) = some (false, .istore_n 3, 18, 3, 0) := rfl
theorem ix_205_18 : lkp 18 (mI mi_205) = some (false, .iload_n 2, 19, 2, 0) := rfl
theorem ix_205_19 : lkp 19 (mI mi_205) = some (false, .if_icmp .le 15, 22, 0, 34) := rfl
theorem ix_205_22 : lkp 22 (mI mi_205) = some (false, .aload_n 1, 23, 1, 0) := rfl
theorem ix_205_23 : lkp 23 (mI mi_205) = some (false, .iload_n 2, 24, 2, 0) := rfl
theorem ix_205_24 : lkp 24 (mI mi_205) = some (false, .iconst 1, 25, 1, 0) := rfl
theorem ix_205_25 : lkp 25 (mI mi_205) = some (false, .iadd, 26, 0, 0) := rfl
theorem ix_205_26 : lkp 26 (mI mi_205) = some (false, .aload_n 1, 27, 1, 0) := rfl
theorem ix_205_27 : lkp 27 (mI mi_205) = some (false, .iload_n 2, 28, 2, 0) := rfl
theorem ix_205_28 : lkp 28 (mI mi_205) = some (false, .iload_n 3, 29, 3, 0) := rfl
theorem ix_205_29 : lkp 29 (mI mi_205) = some (false, .iload_n 2, 30, 2, 0) := rfl
theorem ix_205_30 : lkp 30 (mI mi_205) = some (false, .isub, 31, 0, 0) := rfl
theorem ix_205_31 : lkp 31 (mI mi_205) = some (false, .invokestatic 112, 34, 1000, 5) := rfl
theorem ix_205_34 : lkp 34 (mI mi_205) = some (false, .aload_n 1, 35, 1, 0) := rfl
theorem ix_205_35 : lkp 35 (mI mi_205) = some (false, .aload_n 0, 36, 0, 0) := rfl
theorem ix_205_36 : lkp 36 (mI mi_205) = some (false, .iload_n 3, 37, 3, 0) := rfl
theorem ix_205_37 : lkp 37 (mI mi_205) = some (false, .dup_x1, 38, 0, 0) := rfl
theorem ix_205_38 : lkp 38 (mI mi_205) = some (false, .putfield 48, 41, 0, 2) := rfl
theorem ix_205_41 : lkp 41 (mI mi_205) = some (false, .aconst_null, 42, 0, 0) := rfl
theorem ix_205_42 : lkp 42 (mI mi_205) = some (false, .aastore, 43, 0, 0) := rfl
theorem ix_205_43 : lkp 43 (mI mi_205) = some (false, .return_, 44, 0, 0) := rfl
theorem ix_206_0 : lkp 0 (mI mi_206) = some (false, .aload_n 0, 1, 0, 0) := rfl
theorem ix_206_1 : lkp 1 (mI mi_206) = some (false, .iload_n 1, 2, 1, 0) := rfl
theorem ix_206_2 : lkp 2 (mI mi_206) = some (false, .aload_n 0, 3, 0, 0) := rfl
theorem ix_206_3 : lkp 3 (mI mi_206) = some (false, .invokevirtual 86, 6, 1003, 0) := rfl
theorem ix_206_6 : lkp 6 (mI mi_206) = some (false, .invokestatic 300, 9, 207, 3) := rfl
theorem ix_206_9 : lkp 9 (mI mi_206) = some (false, .areturn, 10, 0, 0) := rfl
theorem ix_207_0 : lkp 0 (mI mi_207) = some (false, .aload_n 2, 1, 2, 0) := rfl
theorem ix_207_1 : lkp 1 (mI mi_207) = some (false, .ldc 110, 3, 0, 1) := rfl
theorem ix_207_3 : lkp 3 (mI mi_207) = some (false, .if_acmp .ne 10, 6, 0, 13) := rfl
theorem ix_207_6 : lkp 6 (mI mi_207) = some (false, .iload_n 1, 7, 1, 0) := rfl
theorem ix_207_7 : lkp 7 (mI mi_207) = some (false, .anewarray 2, 10, 3, 0) := rfl
theorem ix_207_10 : lkp 10 (mI mi_207) = some (false, .goto 14, 13, 0, 24) := rfl
theorem ix_207_13 : lkp 13 (mI mi_207) = some (false, .aload_n 2, 14, 2, 0) := rfl
theorem ix_207_17 : lkp 17 (mI mi_207) = some (false, .iload_n 1, 18, 1, 0) := rfl
theorem ix_207_24 : lkp 24 (mI mi_207) = some (false, .astore_n 3, 25, 3, 0) := rfl
theorem ix_207_25 : lkp 25 (mI mi_207) = some (false, .aload_n 0, 26, 0, 0) := rfl
theorem ix_207_26 : lkp 26 (mI mi_207) = some (false, .iconst 0, 27, 0, 0) := rfl
theorem ix_207_27 : lkp 27 (mI mi_207) = some (false, .aload_n 3, 28, 3, 0) := rfl
theorem ix_207_28 : lkp 28 (mI mi_207) = some (false, .iconst 0, 29, 0, 0) := rfl
theorem ix_207_29 : lkp 29 (mI mi_207) = some (false, .aload_n 0, 30, 0, 0) := rfl
theorem ix_207_30 : lkp 30 (mI mi_207) = some (false, .arraylength, 31, 0, 0) := rfl
theorem ix_207_31 : lkp 31 (mI mi_207) = some (false, .iload_n 1, 32, 1, 0) := rfl
theorem ix_207_32 : lkp 32 (mI mi_207) = some (false, .invokestatic 304, 35, 1004, 2) := rfl
theorem ix_207_35 : lkp 35 (mI mi_207) = some (false, .invokestatic 150, 38, 1001, 5) := rfl
theorem ix_207_38 : lkp 38 (mI mi_207) = some (false, .aload_n 3, 39, 3, 0) := rfl
theorem ix_207_39 : lkp 39 (mI mi_207) = some (false, .areturn, 40, 0, 0) := rfl
theorem ix_208_0 : lkp 0 (mI mi_208) = some (false, .iload_n 0, 1, 0, 0) := rfl
theorem ix_208_1 : lkp 1 (mI mi_208) = some (false, .iload_n 1, 2, 1, 0) := rfl
theorem ix_208_2 : lkp 2 (mI mi_208) = some (false, .aconst_null, 3, 0, 0) := rfl
theorem ix_208_3 : lkp 3 (mI mi_208) = some (false, .invokestatic 105, 6, 210, 3) := rfl
theorem ix_208_6 : lkp 6 (mI mi_208) = some (false, .ireturn, 7, 0, 0) := rfl
theorem ix_209_0 : lkp 0 (mI mi_209) = some (false, .iload_n 0, 1, 0, 0) := rfl
theorem ix_209_1 : lkp 1 (mI mi_209) = some (false, .iload_n 1, 2, 1, 0) := rfl
theorem ix_209_2 : lkp 2 (mI mi_209) = some (false, .iload_n 2, 3, 2, 0) := rfl
theorem ix_209_3 : lkp 3 (mI mi_209) = some (false, .invokestatic 194, 6, 1005, 2) := rfl
theorem ix_209_6 : lkp 6 (mI mi_209) = some (false, .iadd, 7, 0, 0) := rfl
theorem ix_209_7 : lkp 7 (mI mi_209) = some (false, .istore_n 3, 8, 3, 0) := rfl
theorem ix_209_8 : lkp 8 (mI mi_209) = some (false, .iconst 0, 9, 0, 0) := rfl
theorem ix_209_9 : lkp 9 (mI mi_209) = some (false, .iload_n 3, 10, 3, 0) := rfl
theorem ix_209_10 : lkp 10 (mI mi_209) = some (false, .if_icmp .ge 11, 13, 0, 21) := rfl
theorem ix_209_13 : lkp 13 (mI mi_209) = some (false, .iload_n 3, 14, 3, 0) := rfl
theorem ix_209_14 : lkp 14 (mI mi_209) = some (false, .ldc 200, 16, 2147483639, 0) := rfl
theorem ix_209_16 : lkp 16 (mI mi_209) = some (false, .if_icmp .gt 5, 19, 0, 21) := rfl
theorem ix_209_19 : lkp 19 (mI mi_209) = some (false, .iload_n 3, 20, 3, 0) := rfl
theorem ix_209_20 : lkp 20 (mI mi_209) = some (false, .ireturn, 21, 0, 0) := rfl
theorem ix_209_21 : lkp 21 (mI mi_209) = some (false, .iload_n 0, 22, 0, 0) := rfl
theorem ix_209_22 : lkp 22 (mI mi_209) = some (false, .iload_n 1, 23, 1, 0) := rfl
theorem ix_209_26 : lkp 26 (mI mi_209) = some (false, .ireturn, 27, 0, 0) := rfl
theorem ix_210_0 : lkp 0 (mI mi_210) = some (false, .iload_n 0, 1, 0, 0) := rfl
theorem ix_210_1 : lkp 1 (mI mi_210) = some (false, .ifCond .lt 8, 4, 0, 9) := rfl
theorem ix_210_4 : lkp 4 (mI mi_210) = some (false, .iload_n 0, 5, 0, 0) := rfl
theorem ix_210_5 : lkp 5 (mI mi_210) = some (false, .iload_n 1, 6, 1, 0) := rfl
theorem ix_210_6 : lkp 6 (mI mi_210) = some (false, .if_icmp .lt 10, 9, 0, 16) := rfl
theorem ix_210_9 : lkp 9 (mI mi_210) = some (false, .aload_n 2, 10, 2, 0) := rfl
theorem ix_210_10 : lkp 10 (mI mi_210) = some (false, .iload_n 0, 11, 0, 0) := rfl
theorem ix_210_11 : lkp 11 (mI mi_210) = some (false, .iload_n 1, 12, 1, 0) := rfl
theorem ix_210_16 : lkp 16 (mI mi_210) = some (false, .iload_n 0, 17, 0, 0) := rfl
theorem ix_210_17 : lkp 17 (mI mi_210) = some (false, .ireturn, 18, 0, 0) := rfl
theorem ix_211_0 : lkp 0 (mI mi_211) = some (false, .aload 6, 2, 6, 0) := rfl
theorem ix_211_2 : lkp 2 (mI mi_211) = some (false, .iconst 0, 3, 0, 0) := rfl
theorem ix_211_3 : lkp 3 (mI mi_211) = some (false, .aload_n 0, 4, 0, 0) := rfl
theorem ix_211_4 : lkp 4 (mI mi_211) = some (false, .iload_n 1, 5, 1, 0) := rfl
theorem ix_211_5 : lkp 5 (mI mi_211) = some (false, .iload_n 2, 6, 2, 0) := rfl
theorem ix_211_6 : lkp 6 (mI mi_211) = some (false, .iload_n 3, 7, 3, 0) := rfl
theorem ix_211_7 : lkp 7 (mI mi_211) = some (false, .iload 4, 9, 4, 0) := rfl
theorem ix_211_9 : lkp 9 (mI mi_211) = some (false, .iload 5, 11, 5, 0) := rfl
theorem ix_211_11 : lkp 11 (mI mi_211) = some (false, .invokevirtual 7, 14, 80, 181) := rfl
theorem ix_211_14 : lkp 14 (mI mi_211) = some (false, .i2l, 15, 0, 0) := rfl
theorem ix_211_15 : lkp 15 (mI mi_211) = some (false, .lastore, 16, 0, 0) := rfl
theorem ix_211_16 : lkp 16 (mI mi_211) = some (false, .goto 11, 19, 0, 27) := rfl
theorem ix_211_19 : lkp 19 (mI mi_211) = some (false, .astore 7, 21, 7, 0) := rfl
theorem ix_211_21 : lkp 21 (mI mi_211) = some (false, .iconst 1, 22, 1, 0) := rfl
theorem ix_211_22 : lkp 22 (mI mi_211) = some (false, .ireturn, 23, 0, 0) := rfl
theorem ix_211_23 : lkp 23 (mI mi_211) = some (false, .astore 7, 25, 7, 0) := rfl
theorem ix_211_25 : lkp 25 (mI mi_211) = some (false, .iconst 2, 26, 2, 0) := rfl
theorem ix_211_26 : lkp 26 (mI mi_211) = some (false, .ireturn, 27, 0, 0) := rfl
theorem ix_211_27 : lkp 27 (mI mi_211) = some (false, .iconst 0, 28, 0, 0) := rfl
theorem ix_211_28 : lkp 28 (mI mi_211) = some (false, .ireturn, 29, 0, 0) := rfl
theorem ix_212_0 : lkp 0 (mI mi_212) = some (false, .aload_n 3, 1, 3, 0) := rfl
theorem ix_212_1 : lkp 1 (mI mi_212) = some (false, .iconst 0, 2, 0, 0) := rfl
theorem ix_212_2 : lkp 2 (mI mi_212) = some (false, .aload_n 0, 3, 0, 0) := rfl
theorem ix_212_3 : lkp 3 (mI mi_212) = some (false, .iload_n 1, 4, 1, 0) := rfl
theorem ix_212_4 : lkp 4 (mI mi_212) = some (false, .iload_n 2, 5, 2, 0) := rfl
theorem ix_212_5 : lkp 5 (mI mi_212) = some (false, .invokevirtual 17, 8, 81, 178) := rfl
theorem ix_212_8 : lkp 8 (mI mi_212) = some (false, .i2l, 9, 0, 0) := rfl
theorem ix_212_9 : lkp 9 (mI mi_212) = some (false, .lastore, 10, 0, 0) := rfl
theorem ix_212_10 : lkp 10 (mI mi_212) = some (false, .goto 15, 13, 0, 25) := rfl
theorem ix_212_13 : lkp 13 (mI mi_212) = some (false, .astore 4, 15, 4, 0) := rfl
theorem ix_212_15 : lkp 15 (mI mi_212) = some (false, .iconst 1, 16, 1, 0) := rfl
theorem ix_212_16 : lkp 16 (mI mi_212) = some (false, .ireturn, 17, 0, 0) := rfl
theorem ix_212_17 : lkp 17 (mI mi_212) = some (false, .astore 4, 19, 4, 0) := rfl
theorem ix_212_19 : lkp 19 (mI mi_212) = some (false, .iconst 2, 20, 2, 0) := rfl
theorem ix_212_20 : lkp 20 (mI mi_212) = some (false, .ireturn, 21, 0, 0) := rfl
theorem ix_212_21 : lkp 21 (mI mi_212) = some (false, .astore 4, 23, 4, 0) := rfl
theorem ix_212_23 : lkp 23 (mI mi_212) = some (false, .iconst 3, 24, 3, 0) := rfl
theorem ix_212_24 : lkp 24 (mI mi_212) = some (false, .ireturn, 25, 0, 0) := rfl
theorem ix_212_25 : lkp 25 (mI mi_212) = some (false, .iconst 0, 26, 0, 0) := rfl
theorem ix_212_26 : lkp 26 (mI mi_212) = some (false, .ireturn, 27, 0, 0) := rfl
theorem ix_213_0 : lkp 0 (mI mi_213) = some (false, .aload 4, 2, 4, 0) := rfl
theorem ix_213_2 : lkp 2 (mI mi_213) = some (false, .iconst 0, 3, 0, 0) := rfl
theorem ix_213_3 : lkp 3 (mI mi_213) = some (false, .aload_n 0, 4, 0, 0) := rfl
theorem ix_213_4 : lkp 4 (mI mi_213) = some (false, .iload_n 1, 5, 1, 0) := rfl
theorem ix_213_5 : lkp 5 (mI mi_213) = some (false, .iload_n 2, 6, 2, 0) := rfl
theorem ix_213_6 : lkp 6 (mI mi_213) = some (false, .iload_n 3, 7, 3, 0) := rfl
theorem ix_213_7 : lkp 7 (mI mi_213) = some (false, .invokevirtual 23, 10, 82, 179) := rfl
theorem ix_213_10 : lkp 10 (mI mi_213) = some (false, .ifCond .eq 7, 13, 0, 17) := rfl
theorem ix_213_13 : lkp 13 (mI mi_213) = some (false, .lconst 1, 14, 1, 0) := rfl
theorem ix_213_14 : lkp 14 (mI mi_213) = some (false, .goto 4, 17, 0, 18) := rfl
theorem ix_213_17 : lkp 17 (mI mi_213) = some (false, .lconst 0, 18, 0, 0) := rfl
theorem ix_213_18 : lkp 18 (mI mi_213) = some (false, .lastore, 19, 0, 0) := rfl
theorem ix_213_19 : lkp 19 (mI mi_213) = some (false, .goto 19, 22, 0, 38) := rfl
theorem ix_213_22 : lkp 22 (mI mi_213) = some (false, .astore 5, 24, 5, 0) := rfl
theorem ix_213_24 : lkp 24 (mI mi_213) = some (false, .iconst 1, 25, 1, 0) := rfl
theorem ix_213_25 : lkp 25 (mI mi_213) = some (false, .ireturn, 26, 0, 0) := rfl
theorem ix_213_26 : lkp 26 (mI mi_213) = some (false, .astore 5, 28, 5, 0) := rfl
theorem ix_213_28 : lkp 28 (mI mi_213) = some (false, .iconst 2, 29, 2, 0) := rfl
theorem ix_213_29 : lkp 29 (mI mi_213) = some (false, .ireturn, 30, 0, 0) := rfl
theorem ix_213_30 : lkp 30 (mI mi_213) = some (false, .astore 5, 32, 5, 0) := rfl
theorem ix_213_32 : lkp 32 (mI mi_213) = some (false, .iconst 3, 33, 3, 0) := rfl
theorem ix_213_33 : lkp 33 (mI mi_213) = some (false, .ireturn, 34, 0, 0) := rfl
theorem ix_213_34 : lkp 34 (mI mi_213) = some (false, .astore 5, 36, 5, 0) := rfl
theorem ix_213_36 : lkp 36 (mI mi_213) = some (false, .iconst 4, 37, 4, 0) := rfl
theorem ix_213_37 : lkp 37 (mI mi_213) = some (false, .ireturn, 38, 0, 0) := rfl
theorem ix_213_38 : lkp 38 (mI mi_213) = some (false, .iconst 0, 39, 0, 0) := rfl
theorem ix_213_39 : lkp 39 (mI mi_213) = some (false, .ireturn, 40, 0, 0) := rfl
theorem ix_214_0 : lkp 0 (mI mi_214) = some (false, .aload_n 2, 1, 2, 0) := rfl
theorem ix_214_1 : lkp 1 (mI mi_214) = some (false, .iconst 0, 2, 0, 0) := rfl
theorem ix_214_2 : lkp 2 (mI mi_214) = some (false, .aload_n 0, 3, 0, 0) := rfl
theorem ix_214_3 : lkp 3 (mI mi_214) = some (false, .iload_n 1, 4, 1, 0) := rfl
theorem ix_214_4 : lkp 4 (mI mi_214) = some (false, .invokevirtual 29, 7, 83, 177) := rfl
theorem ix_214_7 : lkp 7 (mI mi_214) = some (false, .i2l, 8, 0, 0) := rfl
theorem ix_214_8 : lkp 8 (mI mi_214) = some (false, .lastore, 9, 0, 0) := rfl
theorem ix_214_9 : lkp 9 (mI mi_214) = some (false, .goto 12, 12, 0, 21) := rfl
theorem ix_214_12 : lkp 12 (mI mi_214) = some (false, .astore_n 3, 13, 3, 0) := rfl
theorem ix_214_13 : lkp 13 (mI mi_214) = some (false, .iconst 1, 14, 1, 0) := rfl
theorem ix_214_14 : lkp 14 (mI mi_214) = some (false, .ireturn, 15, 0, 0) := rfl
theorem ix_214_15 : lkp 15 (mI mi_214) = some (false, .astore_n 3, 16, 3, 0) := rfl
theorem ix_214_16 : lkp 16 (mI mi_214) = some (false, .iconst 2, 17, 2, 0) := rfl
theorem ix_214_17 : lkp 17 (mI mi_214) = some (false, .ireturn, 18, 0, 0) := rfl
theorem ix_214_18 : lkp 18 (mI mi_214) = some (false, .astore_n 3, 19, 3, 0) := rfl
theorem ix_214_19 : lkp 19 (mI mi_214) = some (false, .iconst 3, 20, 3, 0) := rfl
theorem ix_214_20 : lkp 20 (mI mi_214) = some (false, .ireturn, 21, 0, 0) := rfl
theorem ix_214_21 : lkp 21 (mI mi_214) = some (false, .iconst 0, 22, 0, 0) := rfl
theorem ix_214_22 : lkp 22 (mI mi_214) = some (false, .ireturn, 23, 0, 0) := rfl
theorem ix_215_0 : lkp 0 (mI mi_215) = some (false, .aload_n 2, 1, 2, 0) := rfl
theorem ix_215_1 : lkp 1 (mI mi_215) = some (false, .iconst 0, 2, 0, 0) := rfl
theorem ix_215_2 : lkp 2 (mI mi_215) = some (false, .aload_n 0, 3, 0, 0) := rfl
theorem ix_215_3 : lkp 3 (mI mi_215) = some (false, .iload_n 1, 4, 1, 0) := rfl
theorem ix_215_4 : lkp 4 (mI mi_215) = some (false, .invokevirtual 33, 7, 84, 177) := rfl
theorem ix_215_7 : lkp 7 (mI mi_215) = some (false, .ifCond .eq 7, 10, 0, 14) := rfl
theorem ix_215_10 : lkp 10 (mI mi_215) = some (false, .lconst 1, 11, 1, 0) := rfl
theorem ix_215_11 : lkp 11 (mI mi_215) = some (false, .goto 4, 14, 0, 15) := rfl
theorem ix_215_14 : lkp 14 (mI mi_215) = some (false, .lconst 0, 15, 0, 0) := rfl
theorem ix_215_15 : lkp 15 (mI mi_215) = some (false, .lastore, 16, 0, 0) := rfl
theorem ix_215_16 : lkp 16 (mI mi_215) = some (false, .goto 12, 19, 0, 28) := rfl
theorem ix_215_19 : lkp 19 (mI mi_215) = some (false, .astore_n 3, 20, 3, 0) := rfl
theorem ix_215_20 : lkp 20 (mI mi_215) = some (false, .iconst 1, 21, 1, 0) := rfl
theorem ix_215_21 : lkp 21 (mI mi_215) = some (false, .ireturn, 22, 0, 0) := rfl
theorem ix_215_22 : lkp 22 (mI mi_215) = some (false, .astore_n 3, 23, 3, 0) := rfl
theorem ix_215_23 : lkp 23 (mI mi_215) = some (false, .iconst 2, 24, 2, 0) := rfl
theorem ix_215_24 : lkp 24 (mI mi_215) = some (false, .ireturn, 25, 0, 0) := rfl
theorem ix_215_25 : lkp 25 (mI mi_215) = some (false, .astore_n 3, 26, 3, 0) := rfl
theorem ix_215_26 : lkp 26 (mI mi_215) = some (false, .iconst 3, 27, 3, 0) := rfl
theorem ix_215_27 : lkp 27 (mI mi_215) = some (false, .ireturn, 28, 0, 0) := rfl
theorem ix_215_28 : lkp 28 (mI mi_215) = some (false, .iconst 0, 29, 0, 0) := rfl
theorem ix_215_29 : lkp 29 (mI mi_215) = some (false, .ireturn, 30, 0, 0) := rfl
theorem ix_216_0 : lkp 0 (mI mi_216) = some (false, .aload_n 2, 1, 2, 0) := rfl
theorem ix_216_1 : lkp 1 (mI mi_216) = some (false, .iconst 0, 2, 0, 0) := rfl
theorem ix_216_2 : lkp 2 (mI mi_216) = some (false, .aload_n 0, 3, 0, 0) := rfl
theorem ix_216_3 : lkp 3 (mI mi_216) = some (false, .iload_n 1, 4, 1, 0) := rfl
theorem ix_216_4 : lkp 4 (mI mi_216) = some (false, .invokevirtual 37, 7, 85, 177) := rfl
theorem ix_216_7 : lkp 7 (mI mi_216) = some (false, .i2l, 8, 0, 0) := rfl
theorem ix_216_8 : lkp 8 (mI mi_216) = some (false, .lastore, 9, 0, 0) := rfl
theorem ix_216_9 : lkp 9 (mI mi_216) = some (false, .goto 9, 12, 0, 18) := rfl
theorem ix_216_12 : lkp 12 (mI mi_216) = some (false, .astore_n 3, 13, 3, 0) := rfl
theorem ix_216_13 : lkp 13 (mI mi_216) = some (false, .iconst 1, 14, 1, 0) := rfl
theorem ix_216_14 : lkp 14 (mI mi_216) = some (false, .ireturn, 15, 0, 0) := rfl
theorem ix_216_15 : lkp 15 (mI mi_216) = some (false, .astore_n 3, 16, 3, 0) := rfl
theorem ix_216_16 : lkp 16 (mI mi_216) = some (false, .iconst 2, 17, 2, 0) := rfl
theorem ix_216_17 : lkp 17 (mI mi_216) = some (false, .ireturn, 18, 0, 0) := rfl
theorem ix_216_18 : lkp 18 (mI mi_216) = some (false, .iconst 0, 19, 0, 0) := rfl
theorem ix_216_19 : lkp 19 (mI mi_216) = some (false, .ireturn, 20, 0, 0) := rfl
theorem ix_217_0 : lkp 0 (mI mi_217) = some (false, .aload_n 3, 1, 3, 0) := rfl
theorem ix_217_1 : lkp 1 (mI mi_217) = some (false, .iconst 0, 2, 0, 0) := rfl
theorem ix_217_2 : lkp 2 (mI mi_217) = some (false, .aload_n 0, 3, 0, 0) := rfl
theorem ix_217_3 : lkp 3 (mI mi_217) = some (false, .iload_n 1, 4, 1, 0) := rfl
theorem ix_217_4 : lkp 4 (mI mi_217) = some (false, .iload_n 2, 5, 2, 0) := rfl
theorem ix_217_5 : lkp 5 (mI mi_217) = some (false, .invokevirtual 40, 8, 86, 178) := rfl
theorem ix_217_8 : lkp 8 (mI mi_217) = some (false, .lastore, 9, 0, 0) := rfl
theorem ix_217_9 : lkp 9 (mI mi_217) = some (false, .goto 7, 12, 0, 16) := rfl
theorem ix_217_12 : lkp 12 (mI mi_217) = some (false, .astore 4, 14, 4, 0) := rfl
theorem ix_217_14 : lkp 14 (mI mi_217) = some (false, .iconst 1, 15, 1, 0) := rfl
theorem ix_217_15 : lkp 15 (mI mi_217) = some (false, .ireturn, 16, 0, 0) := rfl
theorem ix_217_16 : lkp 16 (mI mi_217) = some (false, .iconst 0, 17, 0, 0) := rfl
theorem ix_217_17 : lkp 17 (mI mi_217) = some (false, .ireturn, 18, 0, 0) := rfl
theorem ix_218_0 : lkp 0 (mI mi_218) = some (false, .aload_n 2, 1, 2, 0) := rfl
theorem ix_218_1 : lkp 1 (mI mi_218) = some (false, .iconst 0, 2, 0, 0) := rfl
theorem ix_218_2 : lkp 2 (mI mi_218) = some (false, .aload_n 0, 3, 0, 0) := rfl
theorem ix_218_3 : lkp 3 (mI mi_218) = some (false, .iload_n 1, 4, 1, 0) := rfl
theorem ix_218_4 : lkp 4 (mI mi_218) = some (false, .invokevirtual 44, 7, 87, 177) := rfl
theorem ix_218_7 : lkp 7 (mI mi_218) = some (false, .i2l, 8, 0, 0) := rfl
theorem ix_218_8 : lkp 8 (mI mi_218) = some (false, .lastore, 9, 0, 0) := rfl
theorem ix_218_9 : lkp 9 (mI mi_218) = some (false, .goto 6, 12, 0, 15) := rfl
theorem ix_218_12 : lkp 12 (mI mi_218) = some (false, .astore_n 3, 13, 3, 0) := rfl
theorem ix_218_13 : lkp 13 (mI mi_218) = some (false, .iconst 1, 14, 1, 0) := rfl
theorem ix_218_14 : lkp 14 (mI mi_218) = some (false, .ireturn, 15, 0, 0) := rfl
theorem ix_218_15 : lkp 15 (mI mi_218) = some (false, .iconst 0, 16, 0, 0) := rfl
theorem ix_218_16 : lkp 16 (mI mi_218) = some (false, .ireturn, 17, 0, 0) := rfl
theorem ix_219_0 : lkp 0 (mI mi_219) = some (false, .aload_n 3, 1, 3, 0) := rfl
theorem ix_219_1 : lkp 1 (mI mi_219) = some (false, .iconst 0, 2, 0, 0) := rfl
theorem ix_219_2 : lkp 2 (mI mi_219) = some (false, .aload_n 0, 3, 0, 0) := rfl
theorem ix_219_3 : lkp 3 (mI mi_219) = some (false, .iload_n 1, 4, 1, 0) := rfl
theorem ix_219_4 : lkp 4 (mI mi_219) = some (false, .iload_n 2, 5, 2, 0) := rfl
theorem ix_219_5 : lkp 5 (mI mi_219) = some (false, .invokevirtual 47, 8, 88, 178) := rfl
theorem ix_219_8 : lkp 8 (mI mi_219) = some (false, .i2l, 9, 0, 0) := rfl
theorem ix_219_9 : lkp 9 (mI mi_219) = some (false, .lastore, 10, 0, 0) := rfl
theorem ix_219_10 : lkp 10 (mI mi_219) = some (false, .goto 11, 13, 0, 21) := rfl
theorem ix_219_13 : lkp 13 (mI mi_219) = some (false, .astore 4, 15, 4, 0) := rfl
theorem ix_219_15 : lkp 15 (mI mi_219) = some (false, .iconst 1, 16, 1, 0) := rfl
theorem ix_219_16 : lkp 16 (mI mi_219) = some (false, .ireturn, 17, 0, 0) := rfl
theorem ix_219_17 : lkp 17 (mI mi_219) = some (false, .astore 4, 19, 4, 0) := rfl
theorem ix_219_19 : lkp 19 (mI mi_219) = some (false, .iconst 2, 20, 2, 0) := rfl
theorem ix_219_20 : lkp 20 (mI mi_219) = some (false, .ireturn, 21, 0, 0) := rfl
theorem ix_219_21 : lkp 21 (mI mi_219) = some (false, .iconst 0, 22, 0, 0) := rfl
theorem ix_219_22 : lkp 22 (mI mi_219) = some (false, .ireturn, 23, 0, 0) := rfl
theorem ix_220_0 : lkp 0 (mI mi_220) = some (false, .aload_n 2, 1, 2, 0) := rfl
theorem ix_220_1 : lkp 1 (mI mi_220) = some (false, .iconst 0, 2, 0, 0) := rfl
theorem ix_220_2 : lkp 2 (mI mi_220) = some (false, .aload_n 0, 3, 0, 0) := rfl
theorem ix_220_3 : lkp 3 (mI mi_220) = some (false, .iload_n 1, 4, 1, 0) := rfl
theorem ix_220_4 : lkp 4 (mI mi_220) = some (false, .invokevirtual 53, 7, 89, 177) := rfl
theorem ix_220_7 : lkp 7 (mI mi_220) = some (false, .i2l, 8, 0, 0) := rfl
theorem ix_220_8 : lkp 8 (mI mi_220) = some (false, .lastore, 9, 0, 0) := rfl
theorem ix_220_9 : lkp 9 (mI mi_220) = some (false, .goto 6, 12, 0, 15) := rfl
theorem ix_220_12 : lkp 12 (mI mi_220) = some (false, .astore_n 3, 13, 3, 0) := rfl
theorem ix_220_13 : lkp 13 (mI mi_220) = some (false, .iconst 1, 14, 1, 0) := rfl
theorem ix_220_14 : lkp 14 (mI mi_220) = some (false, .ireturn, 15, 0, 0) := rfl
theorem ix_220_15 : lkp 15 (mI mi_220) = some (false, .iconst 0, 16, 0, 0) := rfl
theorem ix_220_16 : lkp 16 (mI mi_220) = some (false, .ireturn, 17, 0, 0) := rfl
theorem ix_221_0 : lkp 0 (mI mi_221) = some (false, .aload 4, 2, 4, 0) := rfl
theorem ix_221_2 : lkp 2 (mI mi_221) = some (false, .iconst 0, 3, 0, 0) := rfl
theorem ix_221_3 : lkp 3 (mI mi_221) = some (false, .aload_n 0, 4, 0, 0) := rfl
theorem ix_221_4 : lkp 4 (mI mi_221) = some (false, .iload_n 1, 5, 1, 0) := rfl
theorem ix_221_5 : lkp 5 (mI mi_221) = some (false, .iload_n 2, 6, 2, 0) := rfl
theorem ix_221_6 : lkp 6 (mI mi_221) = some (false, .iload_n 3, 7, 3, 0) := rfl
theorem ix_221_7 : lkp 7 (mI mi_221) = some (false, .invokevirtual 56, 10, 90, 179) := rfl
theorem ix_221_10 : lkp 10 (mI mi_221) = some (false, .i2l, 11, 0, 0) := rfl
theorem ix_221_11 : lkp 11 (mI mi_221) = some (false, .lastore, 12, 0, 0) := rfl
theorem ix_221_12 : lkp 12 (mI mi_221) = some (false, .goto 11, 15, 0, 23) := rfl
theorem ix_221_15 : lkp 15 (mI mi_221) = some (false, .astore 5, 17, 5, 0) := rfl
theorem ix_221_17 : lkp 17 (mI mi_221) = some (false, .iconst 1, 18, 1, 0) := rfl
theorem ix_221_18 : lkp 18 (mI mi_221) = some (false, .ireturn, 19, 0, 0) := rfl
theorem ix_221_19 : lkp 19 (mI mi_221) = some (false, .astore 5, 21, 5, 0) := rfl
theorem ix_221_21 : lkp 21 (mI mi_221) = some (false, .iconst 2, 22, 2, 0) := rfl
theorem ix_221_22 : lkp 22 (mI mi_221) = some (false, .ireturn, 23, 0, 0) := rfl
theorem ix_221_23 : lkp 23 (mI mi_221) = some (false, .iconst 0, 24, 0, 0) := rfl
theorem ix_221_24 : lkp 24 (mI mi_221) = some (false, .ireturn, 25, 0, 0) := rfl
theorem ix_222_0 : lkp 0 (mI mi_222) = some (false, .aload_n 2, 1, 2, 0) := rfl
theorem ix_222_1 : lkp 1 (mI mi_222) = some (false, .iconst 0, 2, 0, 0) := rfl
theorem ix_222_2 : lkp 2 (mI mi_222) = some (false, .aload_n 0, 3, 0, 0) := rfl
theorem ix_222_3 : lkp 3 (mI mi_222) = some (false, .iload_n 1, 4, 1, 0) := rfl
theorem ix_222_4 : lkp 4 (mI mi_222) = some (false, .invokevirtual 60, 7, 91, 177) := rfl
theorem ix_222_7 : lkp 7 (mI mi_222) = some (false, .ifCond .eq 7, 10, 0, 14) := rfl
theorem ix_222_10 : lkp 10 (mI mi_222) = some (false, .lconst 1, 11, 1, 0) := rfl
theorem ix_222_11 : lkp 11 (mI mi_222) = some (false, .goto 4, 14, 0, 15) := rfl
theorem ix_222_14 : lkp 14 (mI mi_222) = some (false, .lconst 0, 15, 0, 0) := rfl
theorem ix_222_15 : lkp 15 (mI mi_222) = some (false, .lastore, 16, 0, 0) := rfl
theorem ix_222_16 : lkp 16 (mI mi_222) = some (false, .goto 6, 19, 0, 22) := rfl
theorem ix_222_19 : lkp 19 (mI mi_222) = some (false, .astore_n 3, 20, 3, 0) := rfl
theorem ix_222_20 : lkp 20 (mI mi_222) = some (false, .iconst 1, 21, 1, 0) := rfl
theorem ix_222_21 : lkp 21 (mI mi_222) = some (false, .ireturn, 22, 0, 0) := rfl
theorem ix_222_22 : lkp 22 (mI mi_222) = some (false, .iconst 0, 23, 0, 0) := rfl
theorem ix_222_23 : lkp 23 (mI mi_222) = some (false, .ireturn, 24, 0, 0) := rfl
theorem ix_223_0 : lkp 0 (mI mi_223) = some (false, .aload_n 2, 1, 2, 0) := rfl
theorem ix_223_1 : lkp 1 (mI mi_223) = some (false, .iconst 0, 2, 0, 0) := rfl
theorem ix_223_2 : lkp 2 (mI mi_223) = some (false, .aload_n 0, 3, 0, 0) := rfl
theorem ix_223_3 : lkp 3 (mI mi_223) = some (false, .iload_n 1, 4, 1, 0) := rfl
theorem ix_223_4 : lkp 4 (mI mi_223) = some (false, .invokevirtual 63, 7, 92, 177) := rfl
theorem ix_223_7 : lkp 7 (mI mi_223) = some (false, .ifCond .eq 7, 10, 0, 14) := rfl
theorem ix_223_10 : lkp 10 (mI mi_223) = some (false, .lconst 1, 11, 1, 0) := rfl
theorem ix_223_11 : lkp 11 (mI mi_223) = some (false, .goto 4, 14, 0, 15) := rfl
theorem ix_223_14 : lkp 14 (mI mi_223) = some (false, .lconst 0, 15, 0, 0) := rfl
theorem ix_223_15 : lkp 15 (mI mi_223) = some (false, .lastore, 16, 0, 0) := rfl
theorem ix_223_16 : lkp 16 (mI mi_223) = some (false, .goto 6, 19, 0, 22) := rfl
theorem ix_223_19 : lkp 19 (mI mi_223) = some (false, .astore_n 3, 20, 3, 0) := rfl
theorem ix_223_20 : lkp 20 (mI mi_223) = some (false, .iconst 1, 21, 1, 0) := rfl
theorem ix_223_21 : lkp 21 (mI mi_223) = some (false, .ireturn, 22, 0, 0) := rfl
theorem ix_223_22 : lkp 22 (mI mi_223) = some (false, .iconst 0, 23, 0, 0) := rfl
theorem ix_223_23 : lkp 23 (mI mi_223) = some (false, .ireturn, 24, 0, 0) := rfl
theorem ix_224_0 : lkp 0 (mI mi_224) = some (false, .aload_n 2, 1, 2, 0) := rfl
theorem ix_224_1 : lkp 1 (mI mi_224) = some (false, .iconst 0, 2, 0, 0) := rfl
theorem ix_224_2 : lkp 2 (mI mi_224) = some (false, .aload_n 0, 3, 0, 0) := rfl
theorem ix_224_3 : lkp 3 (mI mi_224) = some (false, .iload_n 1, 4, 1, 0) := rfl
theorem ix_224_4 : lkp 4 (mI mi_224) = some (false, .invokevirtual 66, 7, 93, 177) := rfl
theorem ix_224_7 : lkp 7 (mI mi_224) = some (false, .i2l, 8, 0, 0) := rfl
theorem ix_224_8 : lkp 8 (mI mi_224) = some (false, .lastore, 9, 0, 0) := rfl
theorem ix_224_9 : lkp 9 (mI mi_224) = some (false, .goto 9, 12, 0, 18) := rfl
theorem ix_224_12 : lkp 12 (mI mi_224) = some (false, .astore_n 3, 13, 3, 0) := rfl
theorem ix_224_13 : lkp 13 (mI mi_224) = some (false, .iconst 1, 14, 1, 0) := rfl
theorem ix_224_14 : lkp 14 (mI mi_224) = some (false, .ireturn, 15, 0, 0) := rfl
theorem ix_224_15 : lkp 15 (mI mi_224) = some (false, .astore_n 3, 16, 3, 0) := rfl
theorem ix_224_16 : lkp 16 (mI mi_224) = some (false, .iconst 2, 17, 2, 0) := rfl
theorem ix_224_17 : lkp 17 (mI mi_224) = some (false, .ireturn, 18, 0, 0) := rfl
theorem ix_224_18 : lkp 18 (mI mi_224) = some (false, .iconst 0, 19, 0, 0) := rfl
theorem ix_224_19 : lkp 19 (mI mi_224) = some (false, .ireturn, 20, 0, 0) := rfl
theorem ix_225_0 : lkp 0 (mI mi_225) = some (false, .aload_n 2, 1, 2, 0) := rfl
theorem ix_225_1 : lkp 1 (mI mi_225) = some (false, .iconst 0, 2, 0, 0) := rfl
theorem ix_225_2 : lkp 2 (mI mi_225) = some (false, .aload_n 0, 3, 0, 0) := rfl
theorem ix_225_3 : lkp 3 (mI mi_225) = some (false, .iload_n 1, 4, 1, 0) := rfl
theorem ix_225_4 : lkp 4 (mI mi_225) = some (false, .invokevirtual 69, 7, 94, 177) := rfl
theorem ix_225_7 : lkp 7 (mI mi_225) = some (false, .i2l, 8, 0, 0) := rfl
theorem ix_225_8 : lkp 8 (mI mi_225) = some (false, .lastore, 9, 0, 0) := rfl
theorem ix_225_9 : lkp 9 (mI mi_225) = some (false, .goto 6, 12, 0, 15) := rfl
theorem ix_225_12 : lkp 12 (mI mi_225) = some (false, .astore_n 3, 13, 3, 0) := rfl
theorem ix_225_13 : lkp 13 (mI mi_225) = some (false, .iconst 1, 14, 1, 0) := rfl
theorem ix_225_14 : lkp 14 (mI mi_225) = some (false, .ireturn, 15, 0, 0) := rfl
theorem ix_225_15 : lkp 15 (mI mi_225) = some (false, .iconst 0, 16, 0, 0) := rfl
theorem ix_225_16 : lkp 16 (mI mi_225) = some (false, .ireturn, 17, 0, 0) := rfl
theorem ix_226_0 : lkp 0 (mI mi_226) = some (false, .aload 5, 2, 5, 0) := rfl
theorem ix_226_2 : lkp 2 (mI mi_226) = some (false, .iconst 0, 3, 0, 0) := rfl
theorem ix_226_3 : lkp 3 (mI mi_226) = some (false, .aload_n 0, 4, 0, 0) := rfl
theorem ix_226_4 : lkp 4 (mI mi_226) = some (false, .iload_n 1, 5, 1, 0) := rfl
theorem ix_226_5 : lkp 5 (mI mi_226) = some (false, .iload_n 2, 6, 2, 0) := rfl
theorem ix_226_6 : lkp 6 (mI mi_226) = some (false, .iload_n 3, 7, 3, 0) := rfl
theorem ix_226_7 : lkp 7 (mI mi_226) = some (false, .iload 4, 9, 4, 0) := rfl
theorem ix_226_9 : lkp 9 (mI mi_226) = some (false, .invokevirtual 73, 12, 95, 180) := rfl
theorem ix_226_12 : lkp 12 (mI mi_226) = some (false, .i2l, 13, 0, 0) := rfl
theorem ix_226_13 : lkp 13 (mI mi_226) = some (false, .lastore, 14, 0, 0) := rfl
theorem ix_226_14 : lkp 14 (mI mi_226) = some (false, .goto 15, 17, 0, 29) := rfl
theorem ix_226_17 : lkp 17 (mI mi_226) = some (false, .astore 6, 19, 6, 0) := rfl
theorem ix_226_19 : lkp 19 (mI mi_226) = some (false, .iconst 1, 20, 1, 0) := rfl
theorem ix_226_20 : lkp 20 (mI mi_226) = some (false, .ireturn, 21, 0, 0) := rfl
theorem ix_226_21 : lkp 21 (mI mi_226) = some (false, .astore 6, 23, 6, 0) := rfl
theorem ix_226_23 : lkp 23 (mI mi_226) = some (false, .iconst 2, 24, 2, 0) := rfl
theorem ix_226_24 : lkp 24 (mI mi_226) = some (false, .ireturn, 25, 0, 0) := rfl
theorem ix_226_25 : lkp 25 (mI mi_226) = some (false, .astore 6, 27, 6, 0) := rfl
theorem ix_226_27 : lkp 27 (mI mi_226) = some (false, .iconst 3, 28, 3, 0) := rfl
theorem ix_226_28 : lkp 28 (mI mi_226) = some (false, .ireturn, 29, 0, 0) := rfl
theorem ix_226_29 : lkp 29 (mI mi_226) = some (false, .iconst 0, 30, 0, 0) := rfl
theorem ix_226_30 : lkp 30 (mI mi_226) = some (false, .ireturn, 31, 0, 0) := rfl
theorem ix_227_0 : lkp 0 (mI mi_227) = some (false, .aload_n 2, 1, 2, 0) := rfl
theorem ix_227_1 : lkp 1 (mI mi_227) = some (false, .iconst 0, 2, 0, 0) := rfl
theorem ix_227_2 : lkp 2 (mI mi_227) = some (false, .aload_n 0, 3, 0, 0) := rfl
theorem ix_227_3 : lkp 3 (mI mi_227) = some (false, .iload_n 1, 4, 1, 0) := rfl
theorem ix_227_4 : lkp 4 (mI mi_227) = some (false, .invokevirtual 77, 7, 96, 177) := rfl
theorem ix_227_7 : lkp 7 (mI mi_227) = some (false, .i2l, 8, 0, 0) := rfl
theorem ix_227_8 : lkp 8 (mI mi_227) = some (false, .lastore, 9, 0, 0) := rfl
theorem ix_227_9 : lkp 9 (mI mi_227) = some (false, .goto 6, 12, 0, 15) := rfl
theorem ix_227_12 : lkp 12 (mI mi_227) = some (false, .astore_n 3, 13, 3, 0) := rfl
theorem ix_227_13 : lkp 13 (mI mi_227) = some (false, .iconst 1, 14, 1, 0) := rfl
theorem ix_227_14 : lkp 14 (mI mi_227) = some (false, .ireturn, 15, 0, 0) := rfl
theorem ix_227_15 : lkp 15 (mI mi_227) = some (false, .iconst 0, 16, 0, 0) := rfl
theorem ix_227_16 : lkp 16 (mI mi_227) = some (false, .ireturn, 17, 0, 0) := rfl
theorem ix_228_0 : lkp 0 (mI mi_228) = some (false, .aload_n 2, 1, 2, 0) := rfl
theorem ix_228_1 : lkp 1 (mI mi_228) = some (false, .iconst 0, 2, 0, 0) := rfl
theorem ix_228_2 : lkp 2 (mI mi_228) = some (false, .aload_n 0, 3, 0, 0) := rfl
theorem ix_228_3 : lkp 3 (mI mi_228) = some (false, .iload_n 1, 4, 1, 0) := rfl
theorem ix_228_4 : lkp 4 (mI mi_228) = some (false, .invokevirtual 80, 7, 97, 177) := rfl
theorem ix_228_7 : lkp 7 (mI mi_228) = some (false, .i2l, 8, 0, 0) := rfl
theorem ix_228_8 : lkp 8 (mI mi_228) = some (false, .lastore, 9, 0, 0) := rfl
theorem ix_228_9 : lkp 9 (mI mi_228) = some (false, .goto 6, 12, 0, 15) := rfl
theorem ix_228_12 : lkp 12 (mI mi_228) = some (false, .astore_n 3, 13, 3, 0) := rfl
theorem ix_228_13 : lkp 13 (mI mi_228) = some (false, .iconst 1, 14, 1, 0) := rfl
theorem ix_228_14 : lkp 14 (mI mi_228) = some (false, .ireturn, 15, 0, 0) := rfl
theorem ix_228_15 : lkp 15 (mI mi_228) = some (false, .iconst 0, 16, 0, 0) := rfl
theorem ix_228_16 : lkp 16 (mI mi_228) = some (false, .ireturn, 17, 0, 0) := rfl
theorem ix_229_0 : lkp 0 (mI mi_229) = some (false, .aload_n 3, 1, 3, 0) := rfl
theorem ix_229_1 : lkp 1 (mI mi_229) = some (false, .iconst 0, 2, 0, 0) := rfl
theorem ix_229_2 : lkp 2 (mI mi_229) = some (false, .aload_n 0, 3, 0, 0) := rfl
theorem ix_229_3 : lkp 3 (mI mi_229) = some (false, .iload_n 1, 4, 1, 0) := rfl
theorem ix_229_4 : lkp 4 (mI mi_229) = some (false, .iload_n 2, 5, 2, 0) := rfl
theorem ix_229_5 : lkp 5 (mI mi_229) = some (false, .invokevirtual 83, 8, 98, 178) := rfl
theorem ix_229_8 : lkp 8 (mI mi_229) = some (false, .i2l, 9, 0, 0) := rfl
theorem ix_229_9 : lkp 9 (mI mi_229) = some (false, .lastore, 10, 0, 0) := rfl
theorem ix_229_10 : lkp 10 (mI mi_229) = some (false, .goto 7, 13, 0, 17) := rfl
theorem ix_229_13 : lkp 13 (mI mi_229) = some (false, .astore 4, 15, 4, 0) := rfl
theorem ix_229_15 : lkp 15 (mI mi_229) = some (false, .iconst 1, 16, 1, 0) := rfl
theorem ix_229_16 : lkp 16 (mI mi_229) = some (false, .ireturn, 17, 0, 0) := rfl
theorem ix_229_17 : lkp 17 (mI mi_229) = some (false, .iconst 0, 18, 0, 0) := rfl
theorem ix_229_18 : lkp 18 (mI mi_229) = some (false, .ireturn, 19, 0, 0) := rfl
theorem ix_230_0 : lkp 0 (mI mi_230) = some (false, .aload_n 3, 1, 3, 0) := rfl
theorem ix_230_1 : lkp 1 (mI mi_230) = some (false, .iconst 0, 2, 0, 0) := rfl
theorem ix_230_2 : lkp 2 (mI mi_230) = some (false, .aload_n 0, 3, 0, 0) := rfl
theorem ix_230_3 : lkp 3 (mI mi_230) = some (false, .iload_n 1, 4, 1, 0) := rfl
theorem ix_230_4 : lkp 4 (mI mi_230) = some (false, .iload_n 2, 5, 2, 0) := rfl
theorem ix_230_5 : lkp 5 (mI mi_230) = some (false, .invokevirtual 86, 8, 100, 178) := rfl
theorem ix_230_8 : lkp 8 (mI mi_230) = some (false, .i2l, 9, 0, 0) := rfl
theorem ix_230_9 : lkp 9 (mI mi_230) = some (false, .lastore, 10, 0, 0) := rfl
theorem ix_230_10 : lkp 10 (mI mi_230) = some (false, .goto 19, 13, 0, 29) := rfl
theorem ix_230_13 : lkp 13 (mI mi_230) = some (false, .astore 4, 15, 4, 0) := rfl
theorem ix_230_15 : lkp 15 (mI mi_230) = some (false, .iconst 1, 16, 1, 0) := rfl
theorem ix_230_16 : lkp 16 (mI mi_230) = some (false, .ireturn, 17, 0, 0) := rfl
theorem ix_230_17 : lkp 17 (mI mi_230) = some (false, .astore 4, 19, 4, 0) := rfl
theorem ix_230_19 : lkp 19 (mI mi_230) = some (false, .iconst 2, 20, 2, 0) := rfl
theorem ix_230_20 : lkp 20 (mI mi_230) = some (false, .ireturn, 21, 0, 0) := rfl
theorem ix_230_21 : lkp 21 (mI mi_230) = some (false, .astore 4, 23, 4, 0) := rfl
theorem ix_230_23 : lkp 23 (mI mi_230) = some (false, .iconst 3, 24, 3, 0) := rfl
theorem ix_230_24 : lkp 24 (mI mi_230) = some (false, .ireturn, 25, 0, 0) := rfl
theorem ix_230_25 : lkp 25 (mI mi_230) = some (false, .astore 4, 27, 4, 0) := rfl
theorem ix_230_27 : lkp 27 (mI mi_230) = some (false, .iconst 4, 28, 4, 0) := rfl
theorem ix_230_28 : lkp 28 (mI mi_230) = some (false, .ireturn, 29, 0, 0) := rfl
theorem ix_230_29 : lkp 29 (mI mi_230) = some (false, .iconst 0, 30, 0, 0) := rfl
theorem ix_230_30 : lkp 30 (mI mi_230) = some (false, .ireturn, 31, 0, 0) := rfl
theorem ix_231_0 : lkp 0 (mI mi_231) = some (false, .aload_n 2, 1, 2, 0) := rfl
theorem ix_231_1 : lkp 1 (mI mi_231) = some (false, .iconst 0, 2, 0, 0) := rfl
theorem ix_231_2 : lkp 2 (mI mi_231) = some (false, .aload_n 0, 3, 0, 0) := rfl
theorem ix_231_3 : lkp 3 (mI mi_231) = some (false, .iload_n 1, 4, 1, 0) := rfl
theorem ix_231_4 : lkp 4 (mI mi_231) = some (false, .invokevirtual 90, 7, 101, 177) := rfl
theorem ix_231_7 : lkp 7 (mI mi_231) = some (false, .i2l, 8, 0, 0) := rfl
theorem ix_231_8 : lkp 8 (mI mi_231) = some (false, .lastore, 9, 0, 0) := rfl
theorem ix_231_9 : lkp 9 (mI mi_231) = some (false, .goto 6, 12, 0, 15) := rfl
theorem ix_231_12 : lkp 12 (mI mi_231) = some (false, .astore_n 3, 13, 3, 0) := rfl
theorem ix_231_13 : lkp 13 (mI mi_231) = some (false, .iconst 1, 14, 1, 0) := rfl
theorem ix_231_14 : lkp 14 (mI mi_231) = some (false, .ireturn, 15, 0, 0) := rfl
theorem ix_231_15 : lkp 15 (mI mi_231) = some (false, .iconst 0, 16, 0, 0) := rfl
theorem ix_231_16 : lkp 16 (mI mi_231) = some (false, .ireturn, 17, 0, 0) := rfl
theorem ix_232_0 : lkp 0 (mI mi_232) = some (false, .aload_n 2, 1, 2, 0) := rfl
theorem ix_232_1 : lkp 1 (mI mi_232) = some (false, .iconst 0, 2, 0, 0) := rfl
theorem ix_232_2 : lkp 2 (mI mi_232) = some (false, .aload_n 0, 3, 0, 0) := rfl
theorem ix_232_3 : lkp 3 (mI mi_232) = some (false, .iload_n 1, 4, 1, 0) := rfl
theorem ix_232_4 : lkp 4 (mI mi_232) = some (false, .invokevirtual 93, 7, 104, 177) := rfl
theorem ix_232_7 : lkp 7 (mI mi_232) = some (false, .i2l, 8, 0, 0) := rfl
theorem ix_232_8 : lkp 8 (mI mi_232) = some (false, .lastore, 9, 0, 0) := rfl
theorem ix_232_9 : lkp 9 (mI mi_232) = some (false, .goto 6, 12, 0, 15) := rfl
theorem ix_232_12 : lkp 12 (mI mi_232) = some (false, .astore_n 3, 13, 3, 0) := rfl
theorem ix_232_13 : lkp 13 (mI mi_232) = some (false, .iconst 1, 14, 1, 0) := rfl
theorem ix_232_14 : lkp 14 (mI mi_232) = some (false, .ireturn, 15, 0, 0) := rfl
theorem ix_232_15 : lkp 15 (mI mi_232) = some (false, .iconst 0, 16, 0, 0) := rfl
theorem ix_232_16 : lkp 16 (mI mi_232) = some (false, .ireturn, 17, 0, 0) := rfl
theorem ix_233_0 : lkp 0 (mI mi_233) = some (false, .aload_n 2, 1, 2, 0) := rfl
theorem ix_233_1 : lkp 1 (mI mi_233) = some (false, .iconst 0, 2, 0, 0) := rfl
theorem ix_233_2 : lkp 2 (mI mi_233) = some (false, .aload_n 0, 3, 0, 0) := rfl
theorem ix_233_3 : lkp 3 (mI mi_233) = some (false, .iload_n 1, 4, 1, 0) := rfl
theorem ix_233_4 : lkp 4 (mI mi_233) = some (false, .invokevirtual 96, 7, 105, 177) := rfl
theorem ix_233_7 : lkp 7 (mI mi_233) = some (false, .i2l, 8, 0, 0) := rfl
theorem ix_233_8 : lkp 8 (mI mi_233) = some (false, .lastore, 9, 0, 0) := rfl
theorem ix_233_9 : lkp 9 (mI mi_233) = some (false, .goto 6, 12, 0, 15) := rfl
theorem ix_233_12 : lkp 12 (mI mi_233) = some (false, .astore_n 3, 13, 3, 0) := rfl
theorem ix_233_13 : lkp 13 (mI mi_233) = some (false, .iconst 1, 14, 1, 0) := rfl
theorem ix_233_14 : lkp 14 (mI mi_233) = some (false, .ireturn, 15, 0, 0) := rfl
theorem ix_233_15 : lkp 15 (mI mi_233) = some (false, .iconst 0, 16, 0, 0) := rfl
theorem ix_233_16 : lkp 16 (mI mi_233) = some (false, .ireturn, 17, 0, 0) := rfl
theorem ix_234_0 : lkp 0 (mI mi_234) = some (false, .aload_n 1, 1, 1, 0) := rfl
theorem ix_234_1 : lkp 1 (mI mi_234) = some (false, .iconst 0, 2, 0, 0) := rfl
theorem ix_234_2 : lkp 2 (mI mi_234) = some (false, .aload_n 0, 3, 0, 0) := rfl
theorem ix_234_3 : lkp 3 (mI mi_234) = some (false, .invokevirtual 99, 6, 108, 176) := rfl
theorem ix_234_6 : lkp 6 (mI mi_234) = some (false, .i2l, 7, 0, 0) := rfl
theorem ix_234_7 : lkp 7 (mI mi_234) = some (false, .lastore, 8, 0, 0) := rfl
theorem ix_234_8 : lkp 8 (mI mi_234) = some (false, .goto 9, 11, 0, 17) := rfl
theorem ix_234_11 : lkp 11 (mI mi_234) = some (false, .astore_n 2, 12, 2, 0) := rfl
theorem ix_234_12 : lkp 12 (mI mi_234) = some (false, .iconst 1, 13, 1, 0) := rfl
theorem ix_234_13 : lkp 13 (mI mi_234) = some (false, .ireturn, 14, 0, 0) := rfl
theorem ix_234_14 : lkp 14 (mI mi_234) = some (false, .astore_n 2, 15, 2, 0) := rfl
theorem ix_234_15 : lkp 15 (mI mi_234) = some (false, .iconst 2, 16, 2, 0) := rfl
theorem ix_234_16 : lkp 16 (mI mi_234) = some (false, .ireturn, 17, 0, 0) := rfl
theorem ix_234_17 : lkp 17 (mI mi_234) = some (false, .iconst 0, 18, 0, 0) := rfl
theorem ix_234_18 : lkp 18 (mI mi_234) = some (false, .ireturn, 19, 0, 0) := rfl
theorem ix_235_0 : lkp 0 (mI mi_235) = some (false, .aload_n 2, 1, 2, 0) := rfl
theorem ix_235_1 : lkp 1 (mI mi_235) = some (false, .iconst 0, 2, 0, 0) := rfl
theorem ix_235_2 : lkp 2 (mI mi_235) = some (false, .aload_n 0, 3, 0, 0) := rfl
theorem ix_235_3 : lkp 3 (mI mi_235) = some (false, .iload_n 1, 4, 1, 0) := rfl
theorem ix_235_4 : lkp 4 (mI mi_235) = some (false, .invokevirtual 103, 7, 109, 177) := rfl
theorem ix_235_7 : lkp 7 (mI mi_235) = some (false, .i2l, 8, 0, 0) := rfl
theorem ix_235_8 : lkp 8 (mI mi_235) = some (false, .lastore, 9, 0, 0) := rfl
theorem ix_235_9 : lkp 9 (mI mi_235) = some (false, .goto 6, 12, 0, 15) := rfl
theorem ix_235_12 : lkp 12 (mI mi_235) = some (false, .astore_n 3, 13, 3, 0) := rfl
theorem ix_235_13 : lkp 13 (mI mi_235) = some (false, .iconst 1, 14, 1, 0) := rfl
theorem ix_235_14 : lkp 14 (mI mi_235) = some (false, .ireturn, 15, 0, 0) := rfl
theorem ix_235_15 : lkp 15 (mI mi_235) = some (false, .iconst 0, 16, 0, 0) := rfl
theorem ix_235_16 : lkp 16 (mI mi_235) = some (false, .ireturn, 17, 0, 0) := rfl
theorem ix_236_0 : lkp 0 (mI mi_236) = some (false, .aload_n 2, 1, 2, 0) := rfl
theorem ix_236_1 : lkp 1 (mI mi_236) = some (false, .iconst 0, 2, 0, 0) := rfl
theorem ix_236_2 : lkp 2 (mI mi_236) = some (false, .aload_n 0, 3, 0, 0) := rfl
theorem ix_236_3 : lkp 3 (mI mi_236) = some (false, .iload_n 1, 4, 1, 0) := rfl
theorem ix_236_4 : lkp 4 (mI mi_236) = some (false, .invokevirtual 106, 7, 110, 177) := rfl
theorem ix_236_7 : lkp 7 (mI mi_236) = some (false, .lastore, 8, 0, 0) := rfl
theorem ix_236_8 : lkp 8 (mI mi_236) = some (false, .goto 6, 11, 0, 14) := rfl
theorem ix_236_11 : lkp 11 (mI mi_236) = some (false, .astore_n 3, 12, 3, 0) := rfl
theorem ix_236_12 : lkp 12 (mI mi_236) = some (false, .iconst 1, 13, 1, 0) := rfl
theorem ix_236_13 : lkp 13 (mI mi_236) = some (false, .ireturn, 14, 0, 0) := rfl
theorem ix_236_14 : lkp 14 (mI mi_236) = some (false, .iconst 0, 15, 0, 0) := rfl
theorem ix_236_15 : lkp 15 (mI mi_236) = some (false, .ireturn, 16, 0, 0) := rfl
theorem ix_237_0 : lkp 0 (mI mi_237) = some (false, .aload_n 1, 1, 1, 0) := rfl
theorem ix_237_1 : lkp 1 (mI mi_237) = some (false, .iconst 0, 2, 0, 0) := rfl
theorem ix_237_2 : lkp 2 (mI mi_237) = some (false, .aload_n 0, 3, 0, 0) := rfl
theorem ix_237_3 : lkp 3 (mI mi_237) = some (false, .invokevirtual 110, 6, 112, 176) := rfl
theorem ix_237_6 : lkp 6 (mI mi_237) = some (false, .f2d, 7, 0, 0) := rfl
theorem ix_237_7 : lkp 7 (mI mi_237) = some (false, .dastore, 8, 0, 0) := rfl
theorem ix_237_8 : lkp 8 (mI mi_237) = some (false, .goto 6, 11, 0, 14) := rfl
theorem ix_237_11 : lkp 11 (mI mi_237) = some (false, .astore_n 2, 12, 2, 0) := rfl
theorem ix_237_12 : lkp 12 (mI mi_237) = some (false, .iconst 1, 13, 1, 0) := rfl
theorem ix_237_13 : lkp 13 (mI mi_237) = some (false, .ireturn, 14, 0, 0) := rfl
theorem ix_237_14 : lkp 14 (mI mi_237) = some (false, .iconst 0, 15, 0, 0) := rfl
theorem ix_237_15 : lkp 15 (mI mi_237) = some (false, .ireturn, 16, 0, 0) := rfl
theorem ix_238_0 : lkp 0 (mI mi_238) = some (false, .new 8, 3, 11, 10) := rfl
theorem ix_238_3 : lkp 3 (mI mi_238) = some (false, .dup, 4, 0, 0) := rfl
theorem ix_238_4 : lkp 4 (mI mi_238) = some (false, .invokespecial 114, 7, 79, 0) := rfl
theorem ix_238_7 : lkp 7 (mI mi_238) = some (false, .astore_n 1, 8, 1, 0) := rfl
theorem ix_238_8 : lkp 8 (mI mi_238) = some (false, .new 115, 11, 12, 41) := rfl
theorem ix_238_11 : lkp 11 (mI mi_238) = some (false, .dup, 12, 0, 0) := rfl
theorem ix_238_12 : lkp 12 (mI mi_238) = some (false, .invokespecial 117, 15, 124, 0) := rfl
theorem ix_238_15 : lkp 15 (mI mi_238) = some (false, .astore_n 2, 16, 2, 0) := rfl
theorem ix_238_16 : lkp 16 (mI mi_238) = some (false, .iconst 1, 17, 1, 0) := rfl
theorem ix_238_17 : lkp 17 (mI mi_238) = some (false, .newarray .long, 19, 4, 0) := rfl
theorem ix_238_19 : lkp 19 (mI mi_238) = some (false, .astore_n 3, 20, 3, 0) := rfl
theorem ix_238_20 : lkp 20 (mI mi_238) = some (false, .iconst 1, 21, 1, 0) := rfl
theorem ix_238_21 : lkp 21 (mI mi_238) = some (false, .newarray .double, 23, 5, 0) := rfl
theorem ix_238_23 : lkp 23 (mI mi_238) = some (false, .astore 4, 25, 4, 0) := rfl
theorem ix_238_25 : lkp 25 (mI mi_238) = some (false, .iconst 0, 26, 0, 0) := rfl
theorem ix_238_26 : lkp 26 (mI mi_238) = some (false, .istore 5, 28, 5, 0) := rfl
theorem ix_238_28 : lkp 28 (mI mi_238) = some (true, .iload 5, 30, 5, 0) := rfl
theorem ix_238_30 : lkp 30 (mI mi_238) = some (false, .aload_n 0, 31, 0, 0) := rfl
theorem ix_238_31 : lkp 31 (mI mi_238) = some (false, .arraylength, 32, 0, 0) := rfl
theorem ix_238_32 : lkp 32 (mI mi_238) = some (false, .bipush 6, 34, 6, 0) := rfl
theorem ix_238_34 : lkp 34 (mI mi_238) = some (false, .isub, 35, 0, 0) := rfl
theorem ix_238_35 : lkp 35 (mI mi_238) = some (false, .if_icmp .gt 2100, 38, 0, 2135) := rfl
theorem ix_238_38 : lkp 38 (mI mi_238) = some (false, .aload_n 0, 39, 0, 0) := rfl
theorem ix_238_39 : lkp 39 (mI mi_238) = some (false, .iload 5, 41, 5, 0) := rfl
theorem ix_238_41 : lkp 41 (mI mi_238) = some (false, .iaload, 42, 0, 0) := rfl
theorem ix_238_42 : lkp 42 (mI mi_238) = some (false, .bipush 63, 44, 63, 0) := rfl
theorem ix_238_44 : lkp 44 (mI mi_238) = some (false, .iand, 45, 0, 0) := rfl
theorem ix_238_45 : lkp 45 (mI mi_238) = some (false, .tableswitch 2084 0 34 #[155, 277, 345, 448, 504, 567, 623, 690, 746, 830, 886, 982, 1045, 1108, 1164, 1220, 1312, 1368, 1424, 1492, 1505, 1575, 1631, 1644, 1657, 1713, 1769, 1782, 1795, 1839, 1895, 1950, 1964, 2030, 2071], 200, 0, 0) := rfl
theorem ix_238_200 : lkp 200 (mI mi_238) = some (false, .aload_n 1, 201, 1, 0) := rfl
theorem ix_238_201 : lkp 201 (mI mi_238) = some (false, .aload_n 0, 202, 0, 0) := rfl
theorem ix_238_202 : lkp 202 (mI mi_238) = some (false, .iload 5, 204, 5, 0) := rfl
theorem ix_238_204 : lkp 204 (mI mi_238) = some (false, .iconst 1, 205, 1, 0) := rfl
theorem ix_238_205 : lkp 205 (mI mi_238) = some (false, .iadd, 206, 0, 0) := rfl
theorem ix_238_206 : lkp 206 (mI mi_238) = some (false, .iaload, 207, 0, 0) := rfl
theorem ix_238_207 : lkp 207 (mI mi_238) = some (false, .aload_n 0, 208, 0, 0) := rfl
theorem ix_238_208 : lkp 208 (mI mi_238) = some (false, .iload 5, 210, 5, 0) := rfl
theorem ix_238_210 : lkp 210 (mI mi_238) = some (false, .iconst 2, 211, 2, 0) := rfl
theorem ix_238_211 : lkp 211 (mI mi_238) = some (false, .iadd, 212, 0, 0) := rfl
theorem ix_238_212 : lkp 212 (mI mi_238) = some (false, .iaload, 213, 0, 0) := rfl
theorem ix_238_213 : lkp 213 (mI mi_238) = some (false, .aload_n 0, 214, 0, 0) := rfl
theorem ix_238_214 : lkp 214 (mI mi_238) = some (false, .iload 5, 216, 5, 0) := rfl
theorem ix_238_216 : lkp 216 (mI mi_238) = some (false, .iconst 3, 217, 3, 0) := rfl
theorem ix_238_217 : lkp 217 (mI mi_238) = some (false, .iadd, 218, 0, 0) := rfl
theorem ix_238_218 : lkp 218 (mI mi_238) = some (false, .iaload, 219, 0, 0) := rfl
theorem ix_238_219 : lkp 219 (mI mi_238) = some (false, .aload_n 0, 220, 0, 0) := rfl
theorem ix_238_220 : lkp 220 (mI mi_238) = some (false, .iload 5, 222, 5, 0) := rfl
theorem ix_238_222 : lkp 222 (mI mi_238) = some (false, .iconst 4, 223, 4, 0) := rfl
theorem ix_238_223 : lkp 223 (mI mi_238) = some (false, .iadd, 224, 0, 0) := rfl
theorem ix_238_224 : lkp 224 (mI mi_238) = some (false, .iaload, 225, 0, 0) := rfl
theorem ix_238_225 : lkp 225 (mI mi_238) = some (false, .ifCond .eq 7, 228, 0, 232) := rfl
theorem ix_238_228 : lkp 228 (mI mi_238) = some (false, .iconst 1, 229, 1, 0) := rfl
theorem ix_238_229 : lkp 229 (mI mi_238) = some (false, .goto 4, 232, 0, 233) := rfl
theorem ix_238_232 : lkp 232 (mI mi_238) = some (false, .iconst 0, 233, 0, 0) := rfl
theorem ix_238_233 : lkp 233 (mI mi_238) = some (false, .aload_n 0, 234, 0, 0) := rfl
theorem ix_238_234 : lkp 234 (mI mi_238) = some (false, .iload 5, 236, 5, 0) := rfl
theorem ix_238_236 : lkp 236 (mI mi_238) = some (false, .iconst 5, 237, 5, 0) := rfl
theorem ix_238_237 : lkp 237 (mI mi_238) = some (false, .iadd, 238, 0, 0) := rfl
theorem ix_238_238 : lkp 238 (mI mi_238) = some (false, .iaload, 239, 0, 0) := rfl
theorem ix_238_239 : lkp 239 (mI mi_238) = some (false, .i2c, 240, 0, 0) := rfl
theorem ix_238_240 : lkp 240 (mI mi_238) = some (false, .aload_n 3, 241, 3, 0) := rfl
theorem ix_238_241 : lkp 241 (mI mi_238) = some (false, .invokestatic 118, 244, 211, 7) := rfl
theorem ix_238_244 : lkp 244 (mI mi_238) = some (false, .istore 6, 246, 6, 0) := rfl
theorem ix_238_246 : lkp 246 (mI mi_238) = some (false, .aload_n 2, 247, 2, 0) := rfl
theorem ix_238_247 : lkp 247 (mI mi_238) = some (false, .aload_n 0, 248, 0, 0) := rfl
theorem ix_238_248 : lkp 248 (mI mi_238) = some (false, .iload 5, 250, 5, 0) := rfl
theorem ix_238_250 : lkp 250 (mI mi_238) = some (false, .iconst 1, 251, 1, 0) := rfl
theorem ix_238_251 : lkp 251 (mI mi_238) = some (false, .iadd, 252, 0, 0) := rfl
theorem ix_238_252 : lkp 252 (mI mi_238) = some (false, .iaload, 253, 0, 0) := rfl
theorem ix_238_253 : lkp 253 (mI mi_238) = some (false, .aload_n 0, 254, 0, 0) := rfl
theorem ix_238_254 : lkp 254 (mI mi_238) = some (false, .iload 5, 256, 5, 0) := rfl
theorem ix_238_256 : lkp 256 (mI mi_238) = some (false, .iconst 2, 257, 2, 0) := rfl
theorem ix_238_257 : lkp 257 (mI mi_238) = some (false, .iadd, 258, 0, 0) := rfl
theorem ix_238_258 : lkp 258 (mI mi_238) = some (false, .iaload, 259, 0, 0) := rfl
theorem ix_238_259 : lkp 259 (mI mi_238) = some (false, .aload_n 0, 260, 0, 0) := rfl
theorem ix_238_260 : lkp 260 (mI mi_238) = some (false, .iload 5, 262, 5, 0) := rfl
theorem ix_238_262 : lkp 262 (mI mi_238) = some (false, .iconst 3, 263, 3, 0) := rfl
theorem ix_238_263 : lkp 263 (mI mi_238) = some (false, .iadd, 264, 0, 0) := rfl
theorem ix_238_264 : lkp 264 (mI mi_238) = some (false, .iaload, 265, 0, 0) := rfl
theorem ix_238_265 : lkp 265 (mI mi_238) = some (false, .aload_n 0, 266, 0, 0) := rfl
theorem ix_238_266 : lkp 266 (mI mi_238) = some (false, .iload 5, 268, 5, 0) := rfl
theorem ix_238_268 : lkp 268 (mI mi_238) = some (false, .iconst 4, 269, 4, 0) := rfl
theorem ix_238_269 : lkp 269 (mI mi_238) = some (false, .iadd, 270, 0, 0) := rfl
theorem ix_238_270 : lkp 270 (mI mi_238) = some (false, .iaload, 271, 0, 0) := rfl
theorem ix_238_271 : lkp 271 (mI mi_238) = some (false, .ifCond .eq 7, 274, 0, 278) := rfl
theorem ix_238_274 : lkp 274 (mI mi_238) = some (false, .iconst 1, 275, 1, 0) := rfl
theorem ix_238_275 : lkp 275 (mI mi_238) = some (false, .goto 4, 278, 0, 279) := rfl
theorem ix_238_278 : lkp 278 (mI mi_238) = some (false, .iconst 0, 279, 0, 0) := rfl
theorem ix_238_279 : lkp 279 (mI mi_238) = some (false, .aload_n 0, 280, 0, 0) := rfl
theorem ix_238_280 : lkp 280 (mI mi_238) = some (false, .iload 5, 282, 5, 0) := rfl
theorem ix_238_282 : lkp 282 (mI mi_238) = some (false, .iconst 5, 283, 5, 0) := rfl
theorem ix_238_283 : lkp 283 (mI mi_238) = some (false, .iadd, 284, 0, 0) := rfl
theorem ix_238_284 : lkp 284 (mI mi_238) = some (false, .iaload, 285, 0, 0) := rfl
theorem ix_238_285 : lkp 285 (mI mi_238) = some (false, .i2c, 286, 0, 0) := rfl
theorem ix_238_286 : lkp 286 (mI mi_238) = some (false, .invokevirtual 123, 289, 134, 197) := rfl
theorem ix_238_289 : lkp 289 (mI mi_238) = some (false, .istore 7, 291, 7, 0) := rfl
theorem ix_238_291 : lkp 291 (mI mi_238) = some (false, .aload_n 2, 292, 2, 0) := rfl
theorem ix_238_292 : lkp 292 (mI mi_238) = some (false, .invokevirtual 124, 295, 125, 192) := rfl
theorem ix_238_295 : lkp 295 (mI mi_238) = some (false, .iload 6, 297, 6, 0) := rfl
theorem ix_238_297 : lkp 297 (mI mi_238) = some (false, .if_icmp .eq 5, 300, 0, 302) := rfl
theorem ix_238_300 : lkp 300 (mI mi_238) = some (false, .iconst 0, 301, 0, 0) := rfl
theorem ix_238_301 : lkp 301 (mI mi_238) = some (false, .ireturn, 302, 0, 1) := by decide +kernel
theorem ix_238_302 : lkp 302 (mI mi_238) = some (false, .iload 6, 304, 6, 0) := by decide +kernel
theorem ix_238_304 : lkp 304 (mI mi_238) = some (false, .ifCond .ne 15, 307, 0, 319) := by decide +kernel
theorem ix_238_307 : lkp 307 (mI mi_238) = some (false, .aload_n 3, 308, 3, 0) := by decide +kernel
theorem ix_238_308 : lkp 308 (mI mi_238) = some (false, .iconst 0, 309, 0, 0) := by decide +kernel
theorem ix_238_309 : lkp 309 (mI mi_238) = some (false, .laload, 310, 0, 0) := by decide +kernel
theorem ix_238_310 : lkp 310 (mI mi_238) = some (false, .iload 7, 312, 7, 0) := by decide +kernel
theorem ix_238_312 : lkp 312 (mI mi_238) = some (false, .i2l, 313, 0, 0) := by decide +kernel
theorem ix_238_313 : lkp 313 (mI mi_238) = some (false, .lcmp, 314, 0, 0) := by decide +kernel
theorem ix_238_314 : lkp 314 (mI mi_238) = some (false, .ifCond .eq 5, 317, 0, 319) := by decide +kernel
theorem ix_238_317 : lkp 317 (mI mi_238) = some (false, .iconst 0, 318, 0, 0) := by decide +kernel
theorem ix_238_318 : lkp 318 (mI mi_238) = some (false, .ireturn, 319, 0, 1) := by decide +kernel
theorem ix_238_319 : lkp 319 (mI mi_238) = some (false, .goto 1810, 322, 0, 2129) := by decide +kernel
theorem ix_238_322 : lkp 322 (mI mi_238) = some (false, .aload_n 1, 323, 1, 0) := by decide +kernel
theorem ix_238_323 : lkp 323 (mI mi_238) = some (false, .aload_n 0, 324, 0, 0) := by decide +kernel
theorem ix_238_324 : lkp 324 (mI mi_238) = some (false, .iload 5, 326, 5, 0) := by decide +kernel
theorem ix_238_326 : lkp 326 (mI mi_238) = some (false, .iconst 1, 327, 1, 0) := by decide +kernel
theorem ix_238_327 : lkp 327 (mI mi_238) = some (false, .iadd, 328, 0, 0) := by decide +kernel
theorem ix_238_328 : lkp 328 (mI mi_238) = some (false, .iaload, 329, 0, 0) := by decide +kernel
theorem ix_238_329 : lkp 329 (mI mi_238) = some (false, .aload_n 0, 330, 0, 0) := by decide +kernel
theorem ix_238_330 : lkp 330 (mI mi_238) = some (false, .iload 5, 332, 5, 0) := by decide +kernel
theorem ix_238_332 : lkp 332 (mI mi_238) = some (false, .iconst 2, 333, 2, 0) := by decide +kernel
theorem ix_238_333 : lkp 333 (mI mi_238) = some (false, .iadd, 334, 0, 0) := by decide +kernel
theorem ix_238_334 : lkp 334 (mI mi_238) = some (false, .iaload, 335, 0, 0) := by decide +kernel
theorem ix_238_335 : lkp 335 (mI mi_238) = some (false, .aload_n 3, 336, 3, 0) := by decide +kernel
theorem ix_238_336 : lkp 336 (mI mi_238) = some (false, .invokestatic 127, 339, 212, 4) := by decide +kernel
theorem ix_238_339 : lkp 339 (mI mi_238) = some (false, .istore 6, 341, 6, 0) := by decide +kernel
theorem ix_238_341 : lkp 341 (mI mi_238) = some (false, .aload_n 2, 342, 2, 0) := by decide +kernel
theorem ix_238_342 : lkp 342 (mI mi_238) = some (false, .aload_n 0, 343, 0, 0) := by decide +kernel
theorem ix_238_343 : lkp 343 (mI mi_238) = some (false, .iload 5, 345, 5, 0) := by decide +kernel
theorem ix_238_345 : lkp 345 (mI mi_238) = some (false, .iconst 1, 346, 1, 0) := by decide +kernel
theorem ix_238_346 : lkp 346 (mI mi_238) = some (false, .iadd, 347, 0, 0) := by decide +kernel
theorem ix_238_347 : lkp 347 (mI mi_238) = some (false, .iaload, 348, 0, 0) := by decide +kernel
theorem ix_238_348 : lkp 348 (mI mi_238) = some (false, .aload_n 0, 349, 0, 0) := by decide +kernel
theorem ix_238_349 : lkp 349 (mI mi_238) = some (false, .iload 5, 351, 5, 0) := by decide +kernel
theorem ix_238_351 : lkp 351 (mI mi_238) = some (false, .iconst 2, 352, 2, 0) := by decide +kernel
theorem ix_238_352 : lkp 352 (mI mi_238) = some (false, .iadd, 353, 0, 0) := by decide +kernel
theorem ix_238_353 : lkp 353 (mI mi_238) = some (false, .iaload, 354, 0, 0) := by decide +kernel
theorem ix_238_354 : lkp 354 (mI mi_238) = some (false, .invokevirtual 130, 357, 147, 194) := by decide +kernel
theorem ix_238_357 : lkp 357 (mI mi_238) = some (false, .istore 7, 359, 7, 0) := by decide +kernel
theorem ix_238_359 : lkp 359 (mI mi_238) = some (false, .aload_n 2, 360, 2, 0) := by decide +kernel
theorem ix_238_360 : lkp 360 (mI mi_238) = some (false, .invokevirtual 124, 363, 125, 192) := by decide +kernel
theorem ix_238_363 : lkp 363 (mI mi_238) = some (false, .iload 6, 365, 6, 0) := by decide +kernel
theorem ix_238_365 : lkp 365 (mI mi_238) = some (false, .if_icmp .eq 5, 368, 0, 370) := by decide +kernel
theorem ix_238_368 : lkp 368 (mI mi_238) = some (false, .iconst 0, 369, 0, 0) := by decide +kernel
theorem ix_238_369 : lkp 369 (mI mi_238) = some (false, .ireturn, 370, 0, 1) := by decide +kernel
theorem ix_238_370 : lkp 370 (mI mi_238) = some (false, .iload 6, 372, 6, 0) := by decide +kernel
theorem ix_238_372 : lkp 372 (mI mi_238) = some (false, .ifCond .ne 15, 375, 0, 387) := by decide +kernel
theorem ix_238_375 : lkp 375 (mI mi_238) = some (false, .aload_n 3, 376, 3, 0) := by decide +kernel
theorem ix_238_376 : lkp 376 (mI mi_238) = some (false, .iconst 0, 377, 0, 0) := by decide +kernel
theorem ix_238_377 : lkp 377 (mI mi_238) = some (false, .laload, 378, 0, 0) := by decide +kernel
theorem ix_238_378 : lkp 378 (mI mi_238) = some (false, .iload 7, 380, 7, 0) := by decide +kernel
theorem ix_238_380 : lkp 380 (mI mi_238) = some (false, .i2l, 381, 0, 0) := by decide +kernel
theorem ix_238_381 : lkp 381 (mI mi_238) = some (false, .lcmp, 382, 0, 0) := by decide +kernel
theorem ix_238_382 : lkp 382 (mI mi_238) = some (false, .ifCond .eq 5, 385, 0, 387) := by decide +kernel
theorem ix_238_385 : lkp 385 (mI mi_238) = some (false, .iconst 0, 386, 0, 0) := by decide +kernel
theorem ix_238_386 : lkp 386 (mI mi_238) = some (false, .ireturn, 387, 0, 1) := by decide +kernel
theorem ix_238_387 : lkp 387 (mI mi_238) = some (false, .goto 1742, 390, 0, 2129) := by decide +kernel
theorem ix_238_390 : lkp 390 (mI mi_238) = some (false, .aload_n 1, 391, 1, 0) := by decide +kernel
theorem ix_238_391 : lkp 391 (mI mi_238) = some (false, .aload_n 0, 392, 0, 0) := by decide +kernel
theorem ix_238_392 : lkp 392 (mI mi_238) = some (false, .iload 5, 394, 5, 0) := by decide +kernel
theorem ix_238_394 : lkp 394 (mI mi_238) = some (false, .iconst 1, 395, 1, 0) := by decide +kernel
theorem ix_238_395 : lkp 395 (mI mi_238) = some (false, .iadd, 396, 0, 0) := by decide +kernel
theorem ix_238_396 : lkp 396 (mI mi_238) = some (false, .iaload, 397, 0, 0) := by decide +kernel
theorem ix_238_397 : lkp 397 (mI mi_238) = some (false, .aload_n 0, 398, 0, 0) := by decide +kernel
theorem ix_238_398 : lkp 398 (mI mi_238) = some (false, .iload 5, 400, 5, 0) := by decide +kernel
theorem ix_238_400 : lkp 400 (mI mi_238) = some (false, .iconst 2, 401, 2, 0) := by decide +kernel
theorem ix_238_401 : lkp 401 (mI mi_238) = some (false, .iadd, 402, 0, 0) := by decide +kernel
theorem ix_238_402 : lkp 402 (mI mi_238) = some (false, .iaload, 403, 0, 0) := by decide +kernel
theorem ix_238_403 : lkp 403 (mI mi_238) = some (false, .aload_n 0, 404, 0, 0) := by decide +kernel
theorem ix_238_404 : lkp 404 (mI mi_238) = some (false, .iload 5, 406, 5, 0) := by decide +kernel
theorem ix_238_406 : lkp 406 (mI mi_238) = some (false, .iconst 3, 407, 3, 0) := by decide +kernel
theorem ix_238_407 : lkp 407 (mI mi_238) = some (false, .iadd, 408, 0, 0) := by decide +kernel
theorem ix_238_408 : lkp 408 (mI mi_238) = some (false, .iaload, 409, 0, 0) := by decide +kernel
theorem ix_238_409 : lkp 409 (mI mi_238) = some (false, .ifCond .eq 7, 412, 0, 416) := by decide +kernel
theorem ix_238_412 : lkp 412 (mI mi_238) = some (false, .iconst 1, 413, 1, 0) := by decide +kernel
theorem ix_238_413 : lkp 413 (mI mi_238) = some (false, .goto 4, 416, 0, 417) := by decide +kernel
theorem ix_238_416 : lkp 416 (mI mi_238) = some (false, .iconst 0, 417, 0, 0) := by decide +kernel
theorem ix_238_417 : lkp 417 (mI mi_238) = some (false, .aload_n 3, 418, 3, 0) := by decide +kernel
theorem ix_238_418 : lkp 418 (mI mi_238) = some (false, .invokestatic 131, 421, 213, 5) := by decide +kernel
theorem ix_238_421 : lkp 421 (mI mi_238) = some (false, .istore 6, 423, 6, 0) := by decide +kernel
theorem ix_238_423 : lkp 423 (mI mi_238) = some (false, .aload_n 2, 424, 2, 0) := by decide +kernel
theorem ix_238_424 : lkp 424 (mI mi_238) = some (false, .aload_n 0, 425, 0, 0) := by decide +kernel
theorem ix_238_425 : lkp 425 (mI mi_238) = some (false, .iload 5, 427, 5, 0) := by decide +kernel
theorem ix_238_427 : lkp 427 (mI mi_238) = some (false, .iconst 1, 428, 1, 0) := by decide +kernel
theorem ix_238_428 : lkp 428 (mI mi_238) = some (false, .iadd, 429, 0, 0) := by decide +kernel
theorem ix_238_429 : lkp 429 (mI mi_238) = some (false, .iaload, 430, 0, 0) := by decide +kernel
theorem ix_238_430 : lkp 430 (mI mi_238) = some (false, .aload_n 0, 431, 0, 0) := by decide +kernel
theorem ix_238_431 : lkp 431 (mI mi_238) = some (false, .iload 5, 433, 5, 0) := by decide +kernel
theorem ix_238_433 : lkp 433 (mI mi_238) = some (false, .iconst 2, 434, 2, 0) := by decide +kernel
theorem ix_238_434 : lkp 434 (mI mi_238) = some (false, .iadd, 435, 0, 0) := by decide +kernel
theorem ix_238_435 : lkp 435 (mI mi_238) = some (false, .iaload, 436, 0, 0) := by decide +kernel
theorem ix_238_436 : lkp 436 (mI mi_238) = some (false, .aload_n 0, 437, 0, 0) := by decide +kernel
theorem ix_238_437 : lkp 437 (mI mi_238) = some (false, .iload 5, 439, 5, 0) := by decide +kernel
theorem ix_238_439 : lkp 439 (mI mi_238) = some (false, .iconst 3, 440, 3, 0) := by decide +kernel
theorem ix_238_440 : lkp 440 (mI mi_238) = some (false, .iadd, 441, 0, 0) := by decide +kernel
theorem ix_238_441 : lkp 441 (mI mi_238) = some (false, .iaload, 442, 0, 0) := by decide +kernel
theorem ix_238_442 : lkp 442 (mI mi_238) = some (false, .ifCond .eq 7, 445, 0, 449) := by decide +kernel
theorem ix_238_445 : lkp 445 (mI mi_238) = some (false, .iconst 1, 446, 1, 0) := by decide +kernel
theorem ix_238_446 : lkp 446 (mI mi_238) = some (false, .goto 4, 449, 0, 450) := by decide +kernel
theorem ix_238_449 : lkp 449 (mI mi_238) = some (false, .iconst 0, 450, 0, 0) := by decide +kernel
theorem ix_238_450 : lkp 450 (mI mi_238) = some (false, .invokevirtual 134, 453, 151, 195) := by decide +kernel
theorem ix_238_453 : lkp 453 (mI mi_238) = some (false, .istore 7, 455, 7, 0) := by decide +kernel
theorem ix_238_455 : lkp 455 (mI mi_238) = some (false, .aload_n 2, 456, 2, 0) := by decide +kernel
theorem ix_238_456 : lkp 456 (mI mi_238) = some (false, .invokevirtual 124, 459, 125, 192) := by decide +kernel
theorem ix_238_459 : lkp 459 (mI mi_238) = some (false, .iload 6, 461, 6, 0) := by decide +kernel
theorem ix_238_461 : lkp 461 (mI mi_238) = some (false, .if_icmp .eq 5, 464, 0, 466) := by decide +kernel
theorem ix_238_464 : lkp 464 (mI mi_238) = some (false, .iconst 0, 465, 0, 0) := by decide +kernel
theorem ix_238_465 : lkp 465 (mI mi_238) = some (false, .ireturn, 466, 0, 1) := by decide +kernel
theorem ix_238_466 : lkp 466 (mI mi_238) = some (false, .iload 6, 468, 6, 0) := by decide +kernel
theorem ix_238_468 : lkp 468 (mI mi_238) = some (false, .ifCond .ne 22, 471, 0, 490) := by decide +kernel
theorem ix_238_471 : lkp 471 (mI mi_238) = some (false, .aload_n 3, 472, 3, 0) := by decide +kernel
theorem ix_238_472 : lkp 472 (mI mi_238) = some (false, .iconst 0, 473, 0, 0) := by decide +kernel
theorem ix_238_473 : lkp 473 (mI mi_238) = some (false, .laload, 474, 0, 0) := by decide +kernel
theorem ix_238_474 : lkp 474 (mI mi_238) = some (false, .iload 7, 476, 7, 0) := by decide +kernel
theorem ix_238_476 : lkp 476 (mI mi_238) = some (false, .ifCond .eq 7, 479, 0, 483) := by decide +kernel
theorem ix_238_479 : lkp 479 (mI mi_238) = some (false, .lconst 1, 480, 1, 0) := by decide +kernel
theorem ix_238_480 : lkp 480 (mI mi_238) = some (false, .goto 4, 483, 0, 484) := by decide +kernel
theorem ix_238_483 : lkp 483 (mI mi_238) = some (false, .lconst 0, 484, 0, 0) := by decide +kernel
theorem ix_238_484 : lkp 484 (mI mi_238) = some (false, .lcmp, 485, 0, 0) := by decide +kernel
theorem ix_238_485 : lkp 485 (mI mi_238) = some (false, .ifCond .eq 5, 488, 0, 490) := by decide +kernel
theorem ix_238_488 : lkp 488 (mI mi_238) = some (false, .iconst 0, 489, 0, 0) := by decide +kernel
theorem ix_238_489 : lkp 489 (mI mi_238) = some (false, .ireturn, 490, 0, 1) := by decide +kernel
theorem ix_238_490 : lkp 490 (mI mi_238) = some (false, .goto 1639, 493, 0, 2129) := by decide +kernel
theorem ix_238_493 : lkp 493 (mI mi_238) = some (false, .aload_n 1, 494, 1, 0) := by decide +kernel
theorem ix_238_494 : lkp 494 (mI mi_238) = some (false, .aload_n 0, 495, 0, 0) := by decide +kernel
theorem ix_238_495 : lkp 495 (mI mi_238) = some (false, .iload 5, 497, 5, 0) := by decide +kernel
theorem ix_238_497 : lkp 497 (mI mi_238) = some (false, .iconst 1, 498, 1, 0) := by decide +kernel
theorem ix_238_498 : lkp 498 (mI mi_238) = some (false, .iadd, 499, 0, 0) := by decide +kernel
theorem ix_238_499 : lkp 499 (mI mi_238) = some (false, .iaload, 500, 0, 0) := by decide +kernel
theorem ix_238_500 : lkp 500 (mI mi_238) = some (false, .aload_n 3, 501, 3, 0) := by decide +kernel
theorem ix_238_501 : lkp 501 (mI mi_238) = some (false, .invokestatic 135, 504, 214, 3) := by decide +kernel
theorem ix_238_504 : lkp 504 (mI mi_238) = some (false, .istore 6, 506, 6, 0) := by decide +kernel
theorem ix_238_506 : lkp 506 (mI mi_238) = some (false, .aload_n 2, 507, 2, 0) := by decide +kernel
theorem ix_238_507 : lkp 507 (mI mi_238) = some (false, .aload_n 0, 508, 0, 0) := by decide +kernel
theorem ix_238_508 : lkp 508 (mI mi_238) = some (false, .iload 5, 510, 5, 0) := by decide +kernel
theorem ix_238_510 : lkp 510 (mI mi_238) = some (false, .iconst 1, 511, 1, 0) := by decide +kernel
theorem ix_238_511 : lkp 511 (mI mi_238) = some (false, .iadd, 512, 0, 0) := by decide +kernel
theorem ix_238_512 : lkp 512 (mI mi_238) = some (false, .iaload, 513, 0, 0) := by decide +kernel
theorem ix_238_513 : lkp 513 (mI mi_238) = some (false, .invokevirtual 138, 516, 153, 193) := by decide +kernel
theorem ix_238_516 : lkp 516 (mI mi_238) = some (false, .istore 7, 518, 7, 0) := by decide +kernel
theorem ix_238_518 : lkp 518 (mI mi_238) = some (false, .aload_n 2, 519, 2, 0) := by decide +kernel
theorem ix_238_519 : lkp 519 (mI mi_238) = some (false, .invokevirtual 124, 522, 125, 192) := by decide +kernel
theorem ix_238_522 : lkp 522 (mI mi_238) = some (false, .iload 6, 524, 6, 0) := by decide +kernel
theorem ix_238_524 : lkp 524 (mI mi_238) = some (false, .if_icmp .eq 5, 527, 0, 529) := by decide +kernel
theorem ix_238_527 : lkp 527 (mI mi_238) = some (false, .iconst 0, 528, 0, 0) := by decide +kernel
theorem ix_238_528 : lkp 528 (mI mi_238) = some (false, .ireturn, 529, 0, 1) := by decide +kernel
theorem ix_238_529 : lkp 529 (mI mi_238) = some (false, .iload 6, 531, 6, 0) := by decide +kernel
theorem ix_238_531 : lkp 531 (mI mi_238) = some (false, .ifCond .ne 15, 534, 0, 546) := by decide +kernel
theorem ix_238_534 : lkp 534 (mI mi_238) = some (false, .aload_n 3, 535, 3, 0) := by decide +kernel
theorem ix_238_535 : lkp 535 (mI mi_238) = some (false, .iconst 0, 536, 0, 0) := by decide +kernel
theorem ix_238_536 : lkp 536 (mI mi_238) = some (false, .laload, 537, 0, 0) := by decide +kernel
theorem ix_238_537 : lkp 537 (mI mi_238) = some (false, .iload 7, 539, 7, 0) := by decide +kernel
theorem ix_238_539 : lkp 539 (mI mi_238) = some (false, .i2l, 540, 0, 0) := by decide +kernel
theorem ix_238_540 : lkp 540 (mI mi_238) = some (false, .lcmp, 541, 0, 0) := by decide +kernel
theorem ix_238_541 : lkp 541 (mI mi_238) = some (false, .ifCond .eq 5, 544, 0, 546) := by decide +kernel
theorem ix_238_544 : lkp 544 (mI mi_238) = some (false, .iconst 0, 545, 0, 0) := by decide +kernel
theorem ix_238_545 : lkp 545 (mI mi_238) = some (false, .ireturn, 546, 0, 1) := by decide +kernel
theorem ix_238_546 : lkp 546 (mI mi_238) = some (false, .goto 1583, 549, 0, 2129) := by decide +kernel
theorem ix_238_549 : lkp 549 (mI mi_238) = some (false, .aload_n 1, 550, 1, 0) := by decide +kernel
theorem ix_238_550 : lkp 550 (mI mi_238) = some (false, .aload_n 0, 551, 0, 0) := by decide +kernel
theorem ix_238_551 : lkp 551 (mI mi_238) = some (false, .iload 5, 553, 5, 0) := by decide +kernel
theorem ix_238_553 : lkp 553 (mI mi_238) = some (false, .iconst 1, 554, 1, 0) := by decide +kernel
theorem ix_238_554 : lkp 554 (mI mi_238) = some (false, .iadd, 555, 0, 0) := by decide +kernel
theorem ix_238_555 : lkp 555 (mI mi_238) = some (false, .iaload, 556, 0, 0) := by decide +kernel
theorem ix_238_556 : lkp 556 (mI mi_238) = some (false, .aload_n 3, 557, 3, 0) := by decide +kernel
theorem ix_238_557 : lkp 557 (mI mi_238) = some (false, .invokestatic 139, 560, 215, 3) := by decide +kernel
theorem ix_238_560 : lkp 560 (mI mi_238) = some (false, .istore 6, 562, 6, 0) := by decide +kernel
theorem ix_238_562 : lkp 562 (mI mi_238) = some (false, .aload_n 2, 563, 2, 0) := by decide +kernel
theorem ix_238_563 : lkp 563 (mI mi_238) = some (false, .aload_n 0, 564, 0, 0) := by decide +kernel
theorem ix_238_564 : lkp 564 (mI mi_238) = some (false, .iload 5, 566, 5, 0) := by decide +kernel
theorem ix_238_566 : lkp 566 (mI mi_238) = some (false, .iconst 1, 567, 1, 0) := by decide +kernel
theorem ix_238_567 : lkp 567 (mI mi_238) = some (false, .iadd, 568, 0, 0) := by decide +kernel
theorem ix_238_568 : lkp 568 (mI mi_238) = some (false, .iaload, 569, 0, 0) := by decide +kernel
theorem ix_238_569 : lkp 569 (mI mi_238) = some (false, .invokevirtual 141, 572, 154, 193) := by decide +kernel
theorem ix_238_572 : lkp 572 (mI mi_238) = some (false, .istore 7, 574, 7, 0) := by decide +kernel
theorem ix_238_574 : lkp 574 (mI mi_238) = some (false, .aload_n 2, 575, 2, 0) := by decide +kernel
theorem ix_238_575 : lkp 575 (mI mi_238) = some (false, .invokevirtual 124, 578, 125, 192) := by decide +kernel
theorem ix_238_578 : lkp 578 (mI mi_238) = some (false, .iload 6, 580, 6, 0) := by decide +kernel
theorem ix_238_580 : lkp 580 (mI mi_238) = some (false, .if_icmp .eq 5, 583, 0, 585) := by decide +kernel
theorem ix_238_583 : lkp 583 (mI mi_238) = some (false, .iconst 0, 584, 0, 0) := by decide +kernel
theorem ix_238_584 : lkp 584 (mI mi_238) = some (false, .ireturn, 585, 0, 1) := by decide +kernel
theorem ix_238_585 : lkp 585 (mI mi_238) = some (false, .iload 6, 587, 6, 0) := by decide +kernel
theorem ix_238_587 : lkp 587 (mI mi_238) = some (false, .ifCond .ne 22, 590, 0, 609) := by decide +kernel
theorem ix_238_590 : lkp 590 (mI mi_238) = some (false, .aload_n 3, 591, 3, 0) := by decide +kernel
theorem ix_238_591 : lkp 591 (mI mi_238) = some (false, .iconst 0, 592, 0, 0) := by decide +kernel
theorem ix_238_592 : lkp 592 (mI mi_238) = some (false, .laload, 593, 0, 0) := by decide +kernel
theorem ix_238_593 : lkp 593 (mI mi_238) = some (false, .iload 7, 595, 7, 0) := by decide +kernel
theorem ix_238_595 : lkp 595 (mI mi_238) = some (false, .ifCond .eq 7, 598, 0, 602) := by decide +kernel
theorem ix_238_598 : lkp 598 (mI mi_238) = some (false, .lconst 1, 599, 1, 0) := by decide +kernel
theorem ix_238_599 : lkp 599 (mI mi_238) = some (false, .goto 4, 602, 0, 603) := by decide +kernel
theorem ix_238_602 : lkp 602 (mI mi_238) = some (false, .lconst 0, 603, 0, 0) := by decide +kernel
theorem ix_238_603 : lkp 603 (mI mi_238) = some (false, .lcmp, 604, 0, 0) := by decide +kernel
theorem ix_238_604 : lkp 604 (mI mi_238) = some (false, .ifCond .eq 5, 607, 0, 609) := by decide +kernel
theorem ix_238_607 : lkp 607 (mI mi_238) = some (false, .iconst 0, 608, 0, 0) := by decide +kernel
theorem ix_238_608 : lkp 608 (mI mi_238) = some (false, .ireturn, 609, 0, 1) := by decide +kernel
theorem ix_238_609 : lkp 609 (mI mi_238) = some (false, .goto 1520, 612, 0, 2129) := by decide +kernel
theorem ix_238_612 : lkp 612 (mI mi_238) = some (false, .aload_n 1, 613, 1, 0) := by decide +kernel
theorem ix_238_613 : lkp 613 (mI mi_238) = some (false, .aload_n 0, 614, 0, 0) := by decide +kernel
theorem ix_238_614 : lkp 614 (mI mi_238) = some (false, .iload 5, 616, 5, 0) := by decide +kernel
theorem ix_238_616 : lkp 616 (mI mi_238) = some (false, .iconst 1, 617, 1, 0) := by decide +kernel
theorem ix_238_617 : lkp 617 (mI mi_238) = some (false, .iadd, 618, 0, 0) := by decide +kernel
theorem ix_238_618 : lkp 618 (mI mi_238) = some (false, .iaload, 619, 0, 0) := by decide +kernel
theorem ix_238_619 : lkp 619 (mI mi_238) = some (false, .aload_n 3, 620, 3, 0) := by decide +kernel
theorem ix_238_620 : lkp 620 (mI mi_238) = some (false, .invokestatic 142, 623, 216, 3) := by decide +kernel
theorem ix_238_623 : lkp 623 (mI mi_238) = some (false, .istore 6, 625, 6, 0) := by decide +kernel
theorem ix_238_625 : lkp 625 (mI mi_238) = some (false, .aload_n 2, 626, 2, 0) := by decide +kernel
theorem ix_238_626 : lkp 626 (mI mi_238) = some (false, .aload_n 0, 627, 0, 0) := by decide +kernel
theorem ix_238_627 : lkp 627 (mI mi_238) = some (false, .iload 5, 629, 5, 0) := by decide +kernel
theorem ix_238_629 : lkp 629 (mI mi_238) = some (false, .iconst 1, 630, 1, 0) := by decide +kernel
theorem ix_238_630 : lkp 630 (mI mi_238) = some (false, .iadd, 631, 0, 0) := by decide +kernel
theorem ix_238_631 : lkp 631 (mI mi_238) = some (false, .iaload, 632, 0, 0) := by decide +kernel
theorem ix_238_632 : lkp 632 (mI mi_238) = some (false, .invokevirtual 144, 635, 156, 193) := by decide +kernel
theorem ix_238_635 : lkp 635 (mI mi_238) = some (false, .istore 7, 637, 7, 0) := by decide +kernel
theorem ix_238_637 : lkp 637 (mI mi_238) = some (false, .aload_n 2, 638, 2, 0) := by decide +kernel
theorem ix_238_638 : lkp 638 (mI mi_238) = some (false, .invokevirtual 124, 641, 125, 192) := by decide +kernel
theorem ix_238_641 : lkp 641 (mI mi_238) = some (false, .iload 6, 643, 6, 0) := by decide +kernel
theorem ix_238_643 : lkp 643 (mI mi_238) = some (false, .if_icmp .eq 5, 646, 0, 648) := by decide +kernel
theorem ix_238_646 : lkp 646 (mI mi_238) = some (false, .iconst 0, 647, 0, 0) := by decide +kernel
theorem ix_238_647 : lkp 647 (mI mi_238) = some (false, .ireturn, 648, 0, 1) := by decide +kernel
theorem ix_238_648 : lkp 648 (mI mi_238) = some (false, .iload 6, 650, 6, 0) := by decide +kernel
theorem ix_238_650 : lkp 650 (mI mi_238) = some (false, .ifCond .ne 15, 653, 0, 665) := by decide +kernel
theorem ix_238_653 : lkp 653 (mI mi_238) = some (false, .aload_n 3, 654, 3, 0) := by decide +kernel
theorem ix_238_654 : lkp 654 (mI mi_238) = some (false, .iconst 0, 655, 0, 0) := by decide +kernel
theorem ix_238_655 : lkp 655 (mI mi_238) = some (false, .laload, 656, 0, 0) := by decide +kernel
theorem ix_238_656 : lkp 656 (mI mi_238) = some (false, .iload 7, 658, 7, 0) := by decide +kernel
theorem ix_238_658 : lkp 658 (mI mi_238) = some (false, .i2l, 659, 0, 0) := by decide +kernel
theorem ix_238_659 : lkp 659 (mI mi_238) = some (false, .lcmp, 660, 0, 0) := by decide +kernel
theorem ix_238_660 : lkp 660 (mI mi_238) = some (false, .ifCond .eq 5, 663, 0, 665) := by decide +kernel
theorem ix_238_663 : lkp 663 (mI mi_238) = some (false, .iconst 0, 664, 0, 0) := by decide +kernel
theorem ix_238_664 : lkp 664 (mI mi_238) = some (false, .ireturn, 665, 0, 1) := by decide +kernel
theorem ix_238_665 : lkp 665 (mI mi_238) = some (false, .goto 1464, 668, 0, 2129) := by decide +kernel
theorem ix_238_668 : lkp 668 (mI mi_238) = some (false, .aload_n 1, 669, 1, 0) := by decide +kernel
theorem ix_238_669 : lkp 669 (mI mi_238) = some (false, .aload_n 0, 670, 0, 0) := by decide +kernel
theorem ix_238_670 : lkp 670 (mI mi_238) = some (false, .iload 5, 672, 5, 0) := by decide +kernel
theorem ix_238_672 : lkp 672 (mI mi_238) = some (false, .iconst 1, 673, 1, 0) := by decide +kernel
theorem ix_238_673 : lkp 673 (mI mi_238) = some (false, .iadd, 674, 0, 0) := by decide +kernel
theorem ix_238_674 : lkp 674 (mI mi_238) = some (false, .iaload, 675, 0, 0) := by decide +kernel
theorem ix_238_675 : lkp 675 (mI mi_238) = some (false, .aload_n 0, 676, 0, 0) := by decide +kernel
theorem ix_238_676 : lkp 676 (mI mi_238) = some (false, .iload 5, 678, 5, 0) := by decide +kernel
theorem ix_238_678 : lkp 678 (mI mi_238) = some (false, .iconst 2, 679, 2, 0) := by decide +kernel
theorem ix_238_679 : lkp 679 (mI mi_238) = some (false, .iadd, 680, 0, 0) := by decide +kernel
theorem ix_238_680 : lkp 680 (mI mi_238) = some (false, .iaload, 681, 0, 0) := by decide +kernel
theorem ix_238_681 : lkp 681 (mI mi_238) = some (false, .aload_n 3, 682, 3, 0) := by decide +kernel
theorem ix_238_682 : lkp 682 (mI mi_238) = some (false, .invokestatic 145, 685, 217, 4) := by decide +kernel
theorem ix_238_685 : lkp 685 (mI mi_238) = some (false, .istore 6, 687, 6, 0) := by decide +kernel
theorem ix_238_687 : lkp 687 (mI mi_238) = some (false, .aload_n 2, 688, 2, 0) := by decide +kernel
theorem ix_238_688 : lkp 688 (mI mi_238) = some (false, .aload_n 0, 689, 0, 0) := by decide +kernel
theorem ix_238_689 : lkp 689 (mI mi_238) = some (false, .iload 5, 691, 5, 0) := by decide +kernel
theorem ix_238_691 : lkp 691 (mI mi_238) = some (false, .iconst 1, 692, 1, 0) := by decide +kernel
theorem ix_238_692 : lkp 692 (mI mi_238) = some (false, .iadd, 693, 0, 0) := by decide +kernel
theorem ix_238_693 : lkp 693 (mI mi_238) = some (false, .iaload, 694, 0, 0) := by decide +kernel
theorem ix_238_694 : lkp 694 (mI mi_238) = some (false, .aload_n 0, 695, 0, 0) := by decide +kernel
theorem ix_238_695 : lkp 695 (mI mi_238) = some (false, .iload 5, 697, 5, 0) := by decide +kernel
theorem ix_238_697 : lkp 697 (mI mi_238) = some (false, .iconst 2, 698, 2, 0) := by decide +kernel
theorem ix_238_698 : lkp 698 (mI mi_238) = some (false, .iadd, 699, 0, 0) := by decide +kernel
theorem ix_238_699 : lkp 699 (mI mi_238) = some (false, .iaload, 700, 0, 0) := by decide +kernel
theorem ix_238_700 : lkp 700 (mI mi_238) = some (false, .invokevirtual 147, 703, 157, 194) := by decide +kernel
theorem ix_238_703 : lkp 703 (mI mi_238) = some (false, .lstore 7, 705, 7, 0) := by decide +kernel
theorem ix_238_705 : lkp 705 (mI mi_238) = some (false, .aload_n 2, 706, 2, 0) := by decide +kernel
theorem ix_238_706 : lkp 706 (mI mi_238) = some (false, .invokevirtual 124, 709, 125, 192) := by decide +kernel
theorem ix_238_709 : lkp 709 (mI mi_238) = some (false, .iload 6, 711, 6, 0) := by decide +kernel
theorem ix_238_711 : lkp 711 (mI mi_238) = some (false, .if_icmp .eq 5, 714, 0, 716) := by decide +kernel
theorem ix_238_714 : lkp 714 (mI mi_238) = some (false, .iconst 0, 715, 0, 0) := by decide +kernel
theorem ix_238_715 : lkp 715 (mI mi_238) = some (false, .ireturn, 716, 0, 1) := by decide +kernel
theorem ix_238_716 : lkp 716 (mI mi_238) = some (false, .iload 6, 718, 6, 0) := by decide +kernel
theorem ix_238_718 : lkp 718 (mI mi_238) = some (false, .ifCond .ne 14, 721, 0, 732) := by decide +kernel
theorem ix_238_721 : lkp 721 (mI mi_238) = some (false, .aload_n 3, 722, 3, 0) := by decide +kernel
theorem ix_238_722 : lkp 722 (mI mi_238) = some (false, .iconst 0, 723, 0, 0) := by decide +kernel
theorem ix_238_723 : lkp 723 (mI mi_238) = some (false, .laload, 724, 0, 0) := by decide +kernel
theorem ix_238_724 : lkp 724 (mI mi_238) = some (false, .lload 7, 726, 7, 0) := by decide +kernel
theorem ix_238_726 : lkp 726 (mI mi_238) = some (false, .lcmp, 727, 0, 0) := by decide +kernel
theorem ix_238_727 : lkp 727 (mI mi_238) = some (false, .ifCond .eq 5, 730, 0, 732) := by decide +kernel
theorem ix_238_730 : lkp 730 (mI mi_238) = some (false, .iconst 0, 731, 0, 0) := by decide +kernel
theorem ix_238_731 : lkp 731 (mI mi_238) = some (false, .ireturn, 732, 0, 1) := by decide +kernel
theorem ix_238_732 : lkp 732 (mI mi_238) = some (false, .goto 1397, 735, 0, 2129) := by decide +kernel
theorem ix_238_735 : lkp 735 (mI mi_238) = some (false, .aload_n 1, 736, 1, 0) := by decide +kernel
theorem ix_238_736 : lkp 736 (mI mi_238) = some (false, .aload_n 0, 737, 0, 0) := by decide +kernel
theorem ix_238_737 : lkp 737 (mI mi_238) = some (false, .iload 5, 739, 5, 0) := by decide +kernel
theorem ix_238_739 : lkp 739 (mI mi_238) = some (false, .iconst 1, 740, 1, 0) := by decide +kernel
theorem ix_238_740 : lkp 740 (mI mi_238) = some (false, .iadd, 741, 0, 0) := by decide +kernel
theorem ix_238_741 : lkp 741 (mI mi_238) = some (false, .iaload, 742, 0, 0) := by decide +kernel
theorem ix_238_742 : lkp 742 (mI mi_238) = some (false, .aload_n 3, 743, 3, 0) := by decide +kernel
theorem ix_238_743 : lkp 743 (mI mi_238) = some (false, .invokestatic 148, 746, 218, 3) := by decide +kernel
theorem ix_238_746 : lkp 746 (mI mi_238) = some (false, .istore 6, 748, 6, 0) := by decide +kernel
theorem ix_238_748 : lkp 748 (mI mi_238) = some (false, .aload_n 2, 749, 2, 0) := by decide +kernel
theorem ix_238_749 : lkp 749 (mI mi_238) = some (false, .aload_n 0, 750, 0, 0) := by decide +kernel
theorem ix_238_750 : lkp 750 (mI mi_238) = some (false, .iload 5, 752, 5, 0) := by decide +kernel
theorem ix_238_752 : lkp 752 (mI mi_238) = some (false, .iconst 1, 753, 1, 0) := by decide +kernel
theorem ix_238_753 : lkp 753 (mI mi_238) = some (false, .iadd, 754, 0, 0) := by decide +kernel
theorem ix_238_754 : lkp 754 (mI mi_238) = some (false, .iaload, 755, 0, 0) := by decide +kernel
theorem ix_238_755 : lkp 755 (mI mi_238) = some (false, .invokevirtual 150, 758, 158, 193) := by decide +kernel
theorem ix_238_758 : lkp 758 (mI mi_238) = some (false, .istore 7, 760, 7, 0) := by decide +kernel
theorem ix_238_760 : lkp 760 (mI mi_238) = some (false, .aload_n 2, 761, 2, 0) := by decide +kernel
theorem ix_238_761 : lkp 761 (mI mi_238) = some (false, .invokevirtual 124, 764, 125, 192) := by decide +kernel
theorem ix_238_764 : lkp 764 (mI mi_238) = some (false, .iload 6, 766, 6, 0) := by decide +kernel
theorem ix_238_766 : lkp 766 (mI mi_238) = some (false, .if_icmp .eq 5, 769, 0, 771) := by decide +kernel
theorem ix_238_769 : lkp 769 (mI mi_238) = some (false, .iconst 0, 770, 0, 0) := by decide +kernel
theorem ix_238_770 : lkp 770 (mI mi_238) = some (false, .ireturn, 771, 0, 1) := by decide +kernel
theorem ix_238_771 : lkp 771 (mI mi_238) = some (false, .iload 6, 773, 6, 0) := by decide +kernel
theorem ix_238_773 : lkp 773 (mI mi_238) = some (false, .ifCond .ne 15, 776, 0, 788) := by decide +kernel
theorem ix_238_776 : lkp 776 (mI mi_238) = some (false, .aload_n 3, 777, 3, 0) := by decide +kernel
theorem ix_238_777 : lkp 777 (mI mi_238) = some (false, .iconst 0, 778, 0, 0) := by decide +kernel
theorem ix_238_778 : lkp 778 (mI mi_238) = some (false, .laload, 779, 0, 0) := by decide +kernel
theorem ix_238_779 : lkp 779 (mI mi_238) = some (false, .iload 7, 781, 7, 0) := by decide +kernel
theorem ix_238_781 : lkp 781 (mI mi_238) = some (false, .i2l, 782, 0, 0) := by decide +kernel
theorem ix_238_782 : lkp 782 (mI mi_238) = some (false, .lcmp, 783, 0, 0) := by decide +kernel
theorem ix_238_783 : lkp 783 (mI mi_238) = some (false, .ifCond .eq 5, 786, 0, 788) := by decide +kernel
theorem ix_238_786 : lkp 786 (mI mi_238) = some (false, .iconst 0, 787, 0, 0) := by decide +kernel
theorem ix_238_787 : lkp 787 (mI mi_238) = some (false, .ireturn, 788, 0, 1) := by decide +kernel
theorem ix_238_788 : lkp 788 (mI mi_238) = some (false, .goto 1341, 791, 0, 2129) := by decide +kernel
theorem ix_238_791 : lkp 791 (mI mi_238) = some (false, .aload_n 1, 792, 1, 0) := by decide +kernel
theorem ix_238_792 : lkp 792 (mI mi_238) = some (false, .aload_n 0, 793, 0, 0) := by decide +kernel
theorem ix_238_793 : lkp 793 (mI mi_238) = some (false, .iload 5, 795, 5, 0) := by decide +kernel
theorem ix_238_795 : lkp 795 (mI mi_238) = some (false, .iconst 1, 796, 1, 0) := by decide +kernel
theorem ix_238_796 : lkp 796 (mI mi_238) = some (false, .iadd, 797, 0, 0) := by decide +kernel
theorem ix_238_797 : lkp 797 (mI mi_238) = some (false, .iaload, 798, 0, 0) := by decide +kernel
theorem ix_238_798 : lkp 798 (mI mi_238) = some (false, .aload_n 0, 799, 0, 0) := by decide +kernel
theorem ix_238_799 : lkp 799 (mI mi_238) = some (false, .iload 5, 801, 5, 0) := by decide +kernel
theorem ix_238_801 : lkp 801 (mI mi_238) = some (false, .iconst 2, 802, 2, 0) := by decide +kernel
theorem ix_238_802 : lkp 802 (mI mi_238) = some (false, .iadd, 803, 0, 0) := by decide +kernel
theorem ix_238_803 : lkp 803 (mI mi_238) = some (false, .iaload, 804, 0, 0) := by decide +kernel
theorem ix_238_804 : lkp 804 (mI mi_238) = some (false, .ifCond .eq 7, 807, 0, 811) := by decide +kernel
theorem ix_238_807 : lkp 807 (mI mi_238) = some (false, .iconst 1, 808, 1, 0) := by decide +kernel
theorem ix_238_808 : lkp 808 (mI mi_238) = some (false, .goto 4, 811, 0, 812) := by decide +kernel
theorem ix_238_811 : lkp 811 (mI mi_238) = some (false, .iconst 0, 812, 0, 0) := by decide +kernel
theorem ix_238_812 : lkp 812 (mI mi_238) = some (false, .aload_n 3, 813, 3, 0) := by decide +kernel
theorem ix_238_813 : lkp 813 (mI mi_238) = some (false, .invokestatic 151, 816, 219, 4) := by decide +kernel
theorem ix_238_816 : lkp 816 (mI mi_238) = some (false, .istore 6, 818, 6, 0) := by decide +kernel
theorem ix_238_818 : lkp 818 (mI mi_238) = some (false, .aload_n 2, 819, 2, 0) := by decide +kernel
theorem ix_238_819 : lkp 819 (mI mi_238) = some (false, .aload_n 0, 820, 0, 0) := by decide +kernel
theorem ix_238_820 : lkp 820 (mI mi_238) = some (false, .iload 5, 822, 5, 0) := by decide +kernel
theorem ix_238_822 : lkp 822 (mI mi_238) = some (false, .iconst 1, 823, 1, 0) := by decide +kernel
theorem ix_238_823 : lkp 823 (mI mi_238) = some (false, .iadd, 824, 0, 0) := by decide +kernel
theorem ix_238_824 : lkp 824 (mI mi_238) = some (false, .iaload, 825, 0, 0) := by decide +kernel
theorem ix_238_825 : lkp 825 (mI mi_238) = some (false, .aload_n 0, 826, 0, 0) := by decide +kernel
theorem ix_238_826 : lkp 826 (mI mi_238) = some (false, .iload 5, 828, 5, 0) := by decide +kernel
theorem ix_238_828 : lkp 828 (mI mi_238) = some (false, .iconst 2, 829, 2, 0) := by decide +kernel
theorem ix_238_829 : lkp 829 (mI mi_238) = some (false, .iadd, 830, 0, 0) := by decide +kernel
theorem ix_238_830 : lkp 830 (mI mi_238) = some (false, .iaload, 831, 0, 0) := by decide +kernel
theorem ix_238_831 : lkp 831 (mI mi_238) = some (false, .ifCond .eq 7, 834, 0, 838) := by decide +kernel
theorem ix_238_834 : lkp 834 (mI mi_238) = some (false, .iconst 1, 835, 1, 0) := by decide +kernel
theorem ix_238_835 : lkp 835 (mI mi_238) = some (false, .goto 4, 838, 0, 839) := by decide +kernel
theorem ix_238_838 : lkp 838 (mI mi_238) = some (false, .iconst 0, 839, 0, 0) := by decide +kernel
theorem ix_238_839 : lkp 839 (mI mi_238) = some (false, .invokevirtual 154, 842, 159, 194) := by decide +kernel
theorem ix_238_842 : lkp 842 (mI mi_238) = some (false, .istore 7, 844, 7, 0) := by decide +kernel
theorem ix_238_844 : lkp 844 (mI mi_238) = some (false, .aload_n 2, 845, 2, 0) := by decide +kernel
theorem ix_238_845 : lkp 845 (mI mi_238) = some (false, .invokevirtual 124, 848, 125, 192) := by decide +kernel
theorem ix_238_848 : lkp 848 (mI mi_238) = some (false, .iload 6, 850, 6, 0) := by decide +kernel
theorem ix_238_850 : lkp 850 (mI mi_238) = some (false, .if_icmp .eq 5, 853, 0, 855) := by decide +kernel
theorem ix_238_853 : lkp 853 (mI mi_238) = some (false, .iconst 0, 854, 0, 0) := by decide +kernel
theorem ix_238_854 : lkp 854 (mI mi_238) = some (false, .ireturn, 855, 0, 1) := by decide +kernel
theorem ix_238_855 : lkp 855 (mI mi_238) = some (false, .iload 6, 857, 6, 0) := by decide +kernel
theorem ix_238_857 : lkp 857 (mI mi_238) = some (false, .ifCond .ne 15, 860, 0, 872) := by decide +kernel
theorem ix_238_860 : lkp 860 (mI mi_238) = some (false, .aload_n 3, 861, 3, 0) := by decide +kernel
theorem ix_238_861 : lkp 861 (mI mi_238) = some (false, .iconst 0, 862, 0, 0) := by decide +kernel
theorem ix_238_862 : lkp 862 (mI mi_238) = some (false, .laload, 863, 0, 0) := by decide +kernel
theorem ix_238_863 : lkp 863 (mI mi_238) = some (false, .iload 7, 865, 7, 0) := by decide +kernel
theorem ix_238_865 : lkp 865 (mI mi_238) = some (false, .i2l, 866, 0, 0) := by decide +kernel
theorem ix_238_866 : lkp 866 (mI mi_238) = some (false, .lcmp, 867, 0, 0) := by decide +kernel
theorem ix_238_867 : lkp 867 (mI mi_238) = some (false, .ifCond .eq 5, 870, 0, 872) := by decide +kernel
theorem ix_238_870 : lkp 870 (mI mi_238) = some (false, .iconst 0, 871, 0, 0) := by decide +kernel
theorem ix_238_871 : lkp 871 (mI mi_238) = some (false, .ireturn, 872, 0, 1) := by decide +kernel
theorem ix_238_872 : lkp 872 (mI mi_238) = some (false, .goto 1257, 875, 0, 2129) := by decide +kernel
theorem ix_238_875 : lkp 875 (mI mi_238) = some (false, .aload_n 1, 876, 1, 0) := by decide +kernel
theorem ix_238_876 : lkp 876 (mI mi_238) = some (false, .aload_n 0, 877, 0, 0) := by decide +kernel
theorem ix_238_877 : lkp 877 (mI mi_238) = some (false, .iload 5, 879, 5, 0) := by decide +kernel
theorem ix_238_879 : lkp 879 (mI mi_238) = some (false, .iconst 1, 880, 1, 0) := by decide +kernel
theorem ix_238_880 : lkp 880 (mI mi_238) = some (false, .iadd, 881, 0, 0) := by decide +kernel
theorem ix_238_881 : lkp 881 (mI mi_238) = some (false, .iaload, 882, 0, 0) := by decide +kernel
theorem ix_238_882 : lkp 882 (mI mi_238) = some (false, .aload_n 3, 883, 3, 0) := by decide +kernel
theorem ix_238_883 : lkp 883 (mI mi_238) = some (false, .invokestatic 155, 886, 220, 3) := by decide +kernel
theorem ix_238_886 : lkp 886 (mI mi_238) = some (false, .istore 6, 888, 6, 0) := by decide +kernel
theorem ix_238_888 : lkp 888 (mI mi_238) = some (false, .aload_n 2, 889, 2, 0) := by decide +kernel
theorem ix_238_889 : lkp 889 (mI mi_238) = some (false, .aload_n 0, 890, 0, 0) := by decide +kernel
theorem ix_238_890 : lkp 890 (mI mi_238) = some (false, .iload 5, 892, 5, 0) := by decide +kernel
theorem ix_238_892 : lkp 892 (mI mi_238) = some (false, .iconst 1, 893, 1, 0) := by decide +kernel
theorem ix_238_893 : lkp 893 (mI mi_238) = some (false, .iadd, 894, 0, 0) := by decide +kernel
theorem ix_238_894 : lkp 894 (mI mi_238) = some (false, .iaload, 895, 0, 0) := by decide +kernel
theorem ix_238_895 : lkp 895 (mI mi_238) = some (false, .invokevirtual 157, 898, 160, 193) := by decide +kernel
theorem ix_238_898 : lkp 898 (mI mi_238) = some (false, .istore 7, 900, 7, 0) := by decide +kernel
theorem ix_238_900 : lkp 900 (mI mi_238) = some (false, .aload_n 2, 901, 2, 0) := by decide +kernel
theorem ix_238_901 : lkp 901 (mI mi_238) = some (false, .invokevirtual 124, 904, 125, 192) := by decide +kernel
theorem ix_238_904 : lkp 904 (mI mi_238) = some (false, .iload 6, 906, 6, 0) := by decide +kernel
theorem ix_238_906 : lkp 906 (mI mi_238) = some (false, .if_icmp .eq 5, 909, 0, 911) := by decide +kernel
theorem ix_238_909 : lkp 909 (mI mi_238) = some (false, .iconst 0, 910, 0, 0) := by decide +kernel
theorem ix_238_910 : lkp 910 (mI mi_238) = some (false, .ireturn, 911, 0, 1) := by decide +kernel
theorem ix_238_911 : lkp 911 (mI mi_238) = some (false, .iload 6, 913, 6, 0) := by decide +kernel
theorem ix_238_913 : lkp 913 (mI mi_238) = some (false, .ifCond .ne 15, 916, 0, 928) := by decide +kernel
theorem ix_238_916 : lkp 916 (mI mi_238) = some (false, .aload_n 3, 917, 3, 0) := by decide +kernel
theorem ix_238_917 : lkp 917 (mI mi_238) = some (false, .iconst 0, 918, 0, 0) := by decide +kernel
theorem ix_238_918 : lkp 918 (mI mi_238) = some (false, .laload, 919, 0, 0) := by decide +kernel
theorem ix_238_919 : lkp 919 (mI mi_238) = some (false, .iload 7, 921, 7, 0) := by decide +kernel
theorem ix_238_921 : lkp 921 (mI mi_238) = some (false, .i2l, 922, 0, 0) := by decide +kernel
theorem ix_238_922 : lkp 922 (mI mi_238) = some (false, .lcmp, 923, 0, 0) := by decide +kernel
theorem ix_238_923 : lkp 923 (mI mi_238) = some (false, .ifCond .eq 5, 926, 0, 928) := by decide +kernel
theorem ix_238_926 : lkp 926 (mI mi_238) = some (false, .iconst 0, 927, 0, 0) := by decide +kernel
theorem ix_238_927 : lkp 927 (mI mi_238) = some (false, .ireturn, 928, 0, 1) := by decide +kernel
theorem ix_238_928 : lkp 928 (mI mi_238) = some (false, .goto 1201, 931, 0, 2129) := by decide +kernel
theorem ix_238_931 : lkp 931 (mI mi_238) = some (false, .aload_n 1, 932, 1, 0) := by decide +kernel
theorem ix_238_932 : lkp 932 (mI mi_238) = some (false, .aload_n 0, 933, 0, 0) := by decide +kernel
theorem ix_238_933 : lkp 933 (mI mi_238) = some (false, .iload 5, 935, 5, 0) := by decide +kernel
theorem ix_238_935 : lkp 935 (mI mi_238) = some (false, .iconst 1, 936, 1, 0) := by decide +kernel
theorem ix_238_936 : lkp 936 (mI mi_238) = some (false, .iadd, 937, 0, 0) := by decide +kernel
theorem ix_238_937 : lkp 937 (mI mi_238) = some (false, .iaload, 938, 0, 0) := by decide +kernel
theorem ix_238_938 : lkp 938 (mI mi_238) = some (false, .aload_n 0, 939, 0, 0) := by decide +kernel
theorem ix_238_939 : lkp 939 (mI mi_238) = some (false, .iload 5, 941, 5, 0) := by decide +kernel
theorem ix_238_941 : lkp 941 (mI mi_238) = some (false, .iconst 2, 942, 2, 0) := by decide +kernel
theorem ix_238_942 : lkp 942 (mI mi_238) = some (false, .iadd, 943, 0, 0) := by decide +kernel
theorem ix_238_943 : lkp 943 (mI mi_238) = some (false, .iaload, 944, 0, 0) := by decide +kernel
theorem ix_238_944 : lkp 944 (mI mi_238) = some (false, .aload_n 0, 945, 0, 0) := by decide +kernel
theorem ix_238_945 : lkp 945 (mI mi_238) = some (false, .iload 5, 947, 5, 0) := by decide +kernel
theorem ix_238_947 : lkp 947 (mI mi_238) = some (false, .iconst 3, 948, 3, 0) := by decide +kernel
theorem ix_238_948 : lkp 948 (mI mi_238) = some (false, .iadd, 949, 0, 0) := by decide +kernel
theorem ix_238_949 : lkp 949 (mI mi_238) = some (false, .iaload, 950, 0, 0) := by decide +kernel
theorem ix_238_950 : lkp 950 (mI mi_238) = some (false, .ifCond .eq 7, 953, 0, 957) := by decide +kernel
theorem ix_238_953 : lkp 953 (mI mi_238) = some (false, .iconst 1, 954, 1, 0) := by decide +kernel
theorem ix_238_954 : lkp 954 (mI mi_238) = some (false, .goto 4, 957, 0, 958) := by decide +kernel
theorem ix_238_957 : lkp 957 (mI mi_238) = some (false, .iconst 0, 958, 0, 0) := by decide +kernel
theorem ix_238_958 : lkp 958 (mI mi_238) = some (false, .aload_n 3, 959, 3, 0) := by decide +kernel
theorem ix_238_959 : lkp 959 (mI mi_238) = some (false, .invokestatic 158, 962, 221, 5) := by decide +kernel
theorem ix_238_962 : lkp 962 (mI mi_238) = some (false, .istore 6, 964, 6, 0) := by decide +kernel
theorem ix_238_964 : lkp 964 (mI mi_238) = some (false, .aload_n 2, 965, 2, 0) := by decide +kernel
theorem ix_238_965 : lkp 965 (mI mi_238) = some (false, .aload_n 0, 966, 0, 0) := by decide +kernel
theorem ix_238_966 : lkp 966 (mI mi_238) = some (false, .iload 5, 968, 5, 0) := by decide +kernel
theorem ix_238_968 : lkp 968 (mI mi_238) = some (false, .iconst 1, 969, 1, 0) := by decide +kernel
theorem ix_238_969 : lkp 969 (mI mi_238) = some (false, .iadd, 970, 0, 0) := by decide +kernel
theorem ix_238_970 : lkp 970 (mI mi_238) = some (false, .iaload, 971, 0, 0) := by decide +kernel
theorem ix_238_971 : lkp 971 (mI mi_238) = some (false, .aload_n 0, 972, 0, 0) := by decide +kernel
theorem ix_238_972 : lkp 972 (mI mi_238) = some (false, .iload 5, 974, 5, 0) := by decide +kernel
theorem ix_238_974 : lkp 974 (mI mi_238) = some (false, .iconst 2, 975, 2, 0) := by decide +kernel
theorem ix_238_975 : lkp 975 (mI mi_238) = some (false, .iadd, 976, 0, 0) := by decide +kernel
theorem ix_238_976 : lkp 976 (mI mi_238) = some (false, .iaload, 977, 0, 0) := by decide +kernel
theorem ix_238_977 : lkp 977 (mI mi_238) = some (false, .aload_n 0, 978, 0, 0) := by decide +kernel
theorem ix_238_978 : lkp 978 (mI mi_238) = some (false, .iload 5, 980, 5, 0) := by decide +kernel
theorem ix_238_980 : lkp 980 (mI mi_238) = some (false, .iconst 3, 981, 3, 0) := by decide +kernel
theorem ix_238_981 : lkp 981 (mI mi_238) = some (false, .iadd, 982, 0, 0) := by decide +kernel
theorem ix_238_982 : lkp 982 (mI mi_238) = some (false, .iaload, 983, 0, 0) := by decide +kernel
theorem ix_238_983 : lkp 983 (mI mi_238) = some (false, .ifCond .eq 7, 986, 0, 990) := by decide +kernel
theorem ix_238_986 : lkp 986 (mI mi_238) = some (false, .iconst 1, 987, 1, 0) := by decide +kernel
theorem ix_238_987 : lkp 987 (mI mi_238) = some (false, .goto 4, 990, 0, 991) := by decide +kernel
theorem ix_238_990 : lkp 990 (mI mi_238) = some (false, .iconst 0, 991, 0, 0) := by decide +kernel
theorem ix_238_991 : lkp 991 (mI mi_238) = some (false, .invokevirtual 160, 994, 161, 195) := by decide +kernel
theorem ix_238_994 : lkp 994 (mI mi_238) = some (false, .istore 7, 996, 7, 0) := by decide +kernel
theorem ix_238_996 : lkp 996 (mI mi_238) = some (false, .aload_n 2, 997, 2, 0) := by decide +kernel
theorem ix_238_997 : lkp 997 (mI mi_238) = some (false, .invokevirtual 124, 1000, 125, 192) := by decide +kernel
theorem ix_238_1000 : lkp 1000 (mI mi_238) = some (false, .iload 6, 1002, 6, 0) := by decide +kernel
theorem ix_238_1002 : lkp 1002 (mI mi_238) = some (false, .if_icmp .eq 5, 1005, 0, 1007) := by decide +kernel
theorem ix_238_1005 : lkp 1005 (mI mi_238) = some (false, .iconst 0, 1006, 0, 0) := by decide +kernel
theorem ix_238_1006 : lkp 1006 (mI mi_238) = some (false, .ireturn, 1007, 0, 1) := by decide +kernel
theorem ix_238_1007 : lkp 1007 (mI mi_238) = some (false, .iload 6, 1009, 6, 0) := by decide +kernel
theorem ix_238_1009 : lkp 1009 (mI mi_238) = some (false, .ifCond .ne 15, 1012, 0, 1024) := by decide +kernel
theorem ix_238_1012 : lkp 1012 (mI mi_238) = some (false, .aload_n 3, 1013, 3, 0) := by decide +kernel
theorem ix_238_1013 : lkp 1013 (mI mi_238) = some (false, .iconst 0, 1014, 0, 0) := by decide +kernel
theorem ix_238_1014 : lkp 1014 (mI mi_238) = some (false, .laload, 1015, 0, 0) := by decide +kernel
theorem ix_238_1015 : lkp 1015 (mI mi_238) = some (false, .iload 7, 1017, 7, 0) := by decide +kernel
theorem ix_238_1017 : lkp 1017 (mI mi_238) = some (false, .i2l, 1018, 0, 0) := by decide +kernel
theorem ix_238_1018 : lkp 1018 (mI mi_238) = some (false, .lcmp, 1019, 0, 0) := by decide +kernel
theorem ix_238_1019 : lkp 1019 (mI mi_238) = some (false, .ifCond .eq 5, 1022, 0, 1024) := by decide +kernel
theorem ix_238_1022 : lkp 1022 (mI mi_238) = some (false, .iconst 0, 1023, 0, 0) := by decide +kernel
theorem ix_238_1023 : lkp 1023 (mI mi_238) = some (false, .ireturn, 1024, 0, 1) := by decide +kernel
theorem ix_238_1024 : lkp 1024 (mI mi_238) = some (false, .goto 1105, 1027, 0, 2129) := by decide +kernel
theorem ix_238_1027 : lkp 1027 (mI mi_238) = some (false, .aload_n 1, 1028, 1, 0) := by decide +kernel
theorem ix_238_1028 : lkp 1028 (mI mi_238) = some (false, .aload_n 0, 1029, 0, 0) := by decide +kernel
theorem ix_238_1029 : lkp 1029 (mI mi_238) = some (false, .iload 5, 1031, 5, 0) := by decide +kernel
theorem ix_238_1031 : lkp 1031 (mI mi_238) = some (false, .iconst 1, 1032, 1, 0) := by decide +kernel
theorem ix_238_1032 : lkp 1032 (mI mi_238) = some (false, .iadd, 1033, 0, 0) := by decide +kernel
theorem ix_238_1033 : lkp 1033 (mI mi_238) = some (false, .iaload, 1034, 0, 0) := by decide +kernel
theorem ix_238_1034 : lkp 1034 (mI mi_238) = some (false, .aload_n 3, 1035, 3, 0) := by decide +kernel
theorem ix_238_1035 : lkp 1035 (mI mi_238) = some (false, .invokestatic 161, 1038, 222, 3) := by decide +kernel
theorem ix_238_1038 : lkp 1038 (mI mi_238) = some (false, .istore 6, 1040, 6, 0) := by decide +kernel
theorem ix_238_1040 : lkp 1040 (mI mi_238) = some (false, .aload_n 2, 1041, 2, 0) := by decide +kernel
theorem ix_238_1041 : lkp 1041 (mI mi_238) = some (false, .aload_n 0, 1042, 0, 0) := by decide +kernel
theorem ix_238_1042 : lkp 1042 (mI mi_238) = some (false, .iload 5, 1044, 5, 0) := by decide +kernel
theorem ix_238_1044 : lkp 1044 (mI mi_238) = some (false, .iconst 1, 1045, 1, 0) := by decide +kernel
theorem ix_238_1045 : lkp 1045 (mI mi_238) = some (false, .iadd, 1046, 0, 0) := by decide +kernel
theorem ix_238_1046 : lkp 1046 (mI mi_238) = some (false, .iaload, 1047, 0, 0) := by decide +kernel
theorem ix_238_1047 : lkp 1047 (mI mi_238) = some (false, .invokevirtual 163, 1050, 162, 193) := by decide +kernel
theorem ix_238_1050 : lkp 1050 (mI mi_238) = some (false, .istore 7, 1052, 7, 0) := by decide +kernel
theorem ix_238_1052 : lkp 1052 (mI mi_238) = some (false, .aload_n 2, 1053, 2, 0) := by decide +kernel
theorem ix_238_1053 : lkp 1053 (mI mi_238) = some (false, .invokevirtual 124, 1056, 125, 192) := by decide +kernel
theorem ix_238_1056 : lkp 1056 (mI mi_238) = some (false, .iload 6, 1058, 6, 0) := by decide +kernel
theorem ix_238_1058 : lkp 1058 (mI mi_238) = some (false, .if_icmp .eq 5, 1061, 0, 1063) := by decide +kernel
theorem ix_238_1061 : lkp 1061 (mI mi_238) = some (false, .iconst 0, 1062, 0, 0) := by decide +kernel
theorem ix_238_1062 : lkp 1062 (mI mi_238) = some (false, .ireturn, 1063, 0, 1) := by decide +kernel
theorem ix_238_1063 : lkp 1063 (mI mi_238) = some (false, .iload 6, 1065, 6, 0) := by decide +kernel
theorem ix_238_1065 : lkp 1065 (mI mi_238) = some (false, .ifCond .ne 22, 1068, 0, 1087) := by decide +kernel
theorem ix_238_1068 : lkp 1068 (mI mi_238) = some (false, .aload_n 3, 1069, 3, 0) := by decide +kernel
theorem ix_238_1069 : lkp 1069 (mI mi_238) = some (false, .iconst 0, 1070, 0, 0) := by decide +kernel
theorem ix_238_1070 : lkp 1070 (mI mi_238) = some (false, .laload, 1071, 0, 0) := by decide +kernel
theorem ix_238_1071 : lkp 1071 (mI mi_238) = some (false, .iload 7, 1073, 7, 0) := by decide +kernel
theorem ix_238_1073 : lkp 1073 (mI mi_238) = some (false, .ifCond .eq 7, 1076, 0, 1080) := by decide +kernel
theorem ix_238_1076 : lkp 1076 (mI mi_238) = some (false, .lconst 1, 1077, 1, 0) := by decide +kernel
theorem ix_238_1077 : lkp 1077 (mI mi_238) = some (false, .goto 4, 1080, 0, 1081) := by decide +kernel
theorem ix_238_1080 : lkp 1080 (mI mi_238) = some (false, .lconst 0, 1081, 0, 0) := by decide +kernel
theorem ix_238_1081 : lkp 1081 (mI mi_238) = some (false, .lcmp, 1082, 0, 0) := by decide +kernel
theorem ix_238_1082 : lkp 1082 (mI mi_238) = some (false, .ifCond .eq 5, 1085, 0, 1087) := by decide +kernel
theorem ix_238_1085 : lkp 1085 (mI mi_238) = some (false, .iconst 0, 1086, 0, 0) := by decide +kernel
theorem ix_238_1086 : lkp 1086 (mI mi_238) = some (false, .ireturn, 1087, 0, 1) := by decide +kernel
theorem ix_238_1087 : lkp 1087 (mI mi_238) = some (false, .goto 1042, 1090, 0, 2129) := by decide +kernel
theorem ix_238_1090 : lkp 1090 (mI mi_238) = some (false, .aload_n 1, 1091, 1, 0) := by decide +kernel
theorem ix_238_1091 : lkp 1091 (mI mi_238) = some (false, .aload_n 0, 1092, 0, 0) := by decide +kernel
theorem ix_238_1092 : lkp 1092 (mI mi_238) = some (false, .iload 5, 1094, 5, 0) := by decide +kernel
theorem ix_238_1094 : lkp 1094 (mI mi_238) = some (false, .iconst 1, 1095, 1, 0) := by decide +kernel
theorem ix_238_1095 : lkp 1095 (mI mi_238) = some (false, .iadd, 1096, 0, 0) := by decide +kernel
theorem ix_238_1096 : lkp 1096 (mI mi_238) = some (false, .iaload, 1097, 0, 0) := by decide +kernel
theorem ix_238_1097 : lkp 1097 (mI mi_238) = some (false, .aload_n 3, 1098, 3, 0) := by decide +kernel
theorem ix_238_1098 : lkp 1098 (mI mi_238) = some (false, .invokestatic 164, 1101, 223, 3) := by decide +kernel
theorem ix_238_1101 : lkp 1101 (mI mi_238) = some (false, .istore 6, 1103, 6, 0) := by decide +kernel
theorem ix_238_1103 : lkp 1103 (mI mi_238) = some (false, .aload_n 2, 1104, 2, 0) := by decide +kernel
theorem ix_238_1104 : lkp 1104 (mI mi_238) = some (false, .aload_n 0, 1105, 0, 0) := by decide +kernel
theorem ix_238_1105 : lkp 1105 (mI mi_238) = some (false, .iload 5, 1107, 5, 0) := by decide +kernel
theorem ix_238_1107 : lkp 1107 (mI mi_238) = some (false, .iconst 1, 1108, 1, 0) := by decide +kernel
theorem ix_238_1108 : lkp 1108 (mI mi_238) = some (false, .iadd, 1109, 0, 0) := by decide +kernel
theorem ix_238_1109 : lkp 1109 (mI mi_238) = some (false, .iaload, 1110, 0, 0) := by decide +kernel
theorem ix_238_1110 : lkp 1110 (mI mi_238) = some (false, .invokevirtual 166, 1113, 163, 193) := by decide +kernel
theorem ix_238_1113 : lkp 1113 (mI mi_238) = some (false, .istore 7, 1115, 7, 0) := by decide +kernel
theorem ix_238_1115 : lkp 1115 (mI mi_238) = some (false, .aload_n 2, 1116, 2, 0) := by decide +kernel
theorem ix_238_1116 : lkp 1116 (mI mi_238) = some (false, .invokevirtual 124, 1119, 125, 192) := by decide +kernel
theorem ix_238_1119 : lkp 1119 (mI mi_238) = some (false, .iload 6, 1121, 6, 0) := by decide +kernel
theorem ix_238_1121 : lkp 1121 (mI mi_238) = some (false, .if_icmp .eq 5, 1124, 0, 1126) := by decide +kernel
theorem ix_238_1124 : lkp 1124 (mI mi_238) = some (false, .iconst 0, 1125, 0, 0) := by decide +kernel
theorem ix_238_1125 : lkp 1125 (mI mi_238) = some (false, .ireturn, 1126, 0, 1) := by decide +kernel
theorem ix_238_1126 : lkp 1126 (mI mi_238) = some (false, .iload 6, 1128, 6, 0) := by decide +kernel
theorem ix_238_1128 : lkp 1128 (mI mi_238) = some (false, .ifCond .ne 22, 1131, 0, 1150) := by decide +kernel
theorem ix_238_1131 : lkp 1131 (mI mi_238) = some (false, .aload_n 3, 1132, 3, 0) := by decide +kernel
theorem ix_238_1132 : lkp 1132 (mI mi_238) = some (false, .iconst 0, 1133, 0, 0) := by decide +kernel
theorem ix_238_1133 : lkp 1133 (mI mi_238) = some (false, .laload, 1134, 0, 0) := by decide +kernel
theorem ix_238_1134 : lkp 1134 (mI mi_238) = some (false, .iload 7, 1136, 7, 0) := by decide +kernel
theorem ix_238_1136 : lkp 1136 (mI mi_238) = some (false, .ifCond .eq 7, 1139, 0, 1143) := by decide +kernel
theorem ix_238_1139 : lkp 1139 (mI mi_238) = some (false, .lconst 1, 1140, 1, 0) := by decide +kernel
theorem ix_238_1140 : lkp 1140 (mI mi_238) = some (false, .goto 4, 1143, 0, 1144) := by decide +kernel
theorem ix_238_1143 : lkp 1143 (mI mi_238) = some (false, .lconst 0, 1144, 0, 0) := by decide +kernel
theorem ix_238_1144 : lkp 1144 (mI mi_238) = some (false, .lcmp, 1145, 0, 0) := by decide +kernel
theorem ix_238_1145 : lkp 1145 (mI mi_238) = some (false, .ifCond .eq 5, 1148, 0, 1150) := by decide +kernel
theorem ix_238_1148 : lkp 1148 (mI mi_238) = some (false, .iconst 0, 1149, 0, 0) := by decide +kernel
theorem ix_238_1149 : lkp 1149 (mI mi_238) = some (false, .ireturn, 1150, 0, 1) := by decide +kernel
theorem ix_238_1150 : lkp 1150 (mI mi_238) = some (false, .goto 979, 1153, 0, 2129) := by decide +kernel
theorem ix_238_1153 : lkp 1153 (mI mi_238) = some (false, .aload_n 1, 1154, 1, 0) := by decide +kernel
theorem ix_238_1154 : lkp 1154 (mI mi_238) = some (false, .aload_n 0, 1155, 0, 0) := by decide +kernel
theorem ix_238_1155 : lkp 1155 (mI mi_238) = some (false, .iload 5, 1157, 5, 0) := by decide +kernel
theorem ix_238_1157 : lkp 1157 (mI mi_238) = some (false, .iconst 1, 1158, 1, 0) := by decide +kernel
theorem ix_238_1158 : lkp 1158 (mI mi_238) = some (false, .iadd, 1159, 0, 0) := by decide +kernel
theorem ix_238_1159 : lkp 1159 (mI mi_238) = some (false, .iaload, 1160, 0, 0) := by decide +kernel
theorem ix_238_1160 : lkp 1160 (mI mi_238) = some (false, .aload_n 3, 1161, 3, 0) := by decide +kernel
theorem ix_238_1161 : lkp 1161 (mI mi_238) = some (false, .invokestatic 167, 1164, 224, 3) := by decide +kernel
theorem ix_238_1164 : lkp 1164 (mI mi_238) = some (false, .istore 6, 1166, 6, 0) := by decide +kernel
theorem ix_238_1166 : lkp 1166 (mI mi_238) = some (false, .aload_n 2, 1167, 2, 0) := by decide +kernel
theorem ix_238_1167 : lkp 1167 (mI mi_238) = some (false, .aload_n 0, 1168, 0, 0) := by decide +kernel
theorem ix_238_1168 : lkp 1168 (mI mi_238) = some (false, .iload 5, 1170, 5, 0) := by decide +kernel
theorem ix_238_1170 : lkp 1170 (mI mi_238) = some (false, .iconst 1, 1171, 1, 0) := by decide +kernel
theorem ix_238_1171 : lkp 1171 (mI mi_238) = some (false, .iadd, 1172, 0, 0) := by decide +kernel
theorem ix_238_1172 : lkp 1172 (mI mi_238) = some (false, .iaload, 1173, 0, 0) := by decide +kernel
theorem ix_238_1173 : lkp 1173 (mI mi_238) = some (false, .invokevirtual 169, 1176, 164, 193) := by decide +kernel
theorem ix_238_1176 : lkp 1176 (mI mi_238) = some (false, .istore 7, 1178, 7, 0) := by decide +kernel
theorem ix_238_1178 : lkp 1178 (mI mi_238) = some (false, .aload_n 2, 1179, 2, 0) := by decide +kernel
theorem ix_238_1179 : lkp 1179 (mI mi_238) = some (false, .invokevirtual 124, 1182, 125, 192) := by decide +kernel
theorem ix_238_1182 : lkp 1182 (mI mi_238) = some (false, .iload 6, 1184, 6, 0) := by decide +kernel
theorem ix_238_1184 : lkp 1184 (mI mi_238) = some (false, .if_icmp .eq 5, 1187, 0, 1189) := by decide +kernel
theorem ix_238_1187 : lkp 1187 (mI mi_238) = some (false, .iconst 0, 1188, 0, 0) := by decide +kernel
theorem ix_238_1188 : lkp 1188 (mI mi_238) = some (false, .ireturn, 1189, 0, 1) := by decide +kernel
theorem ix_238_1189 : lkp 1189 (mI mi_238) = some (false, .iload 6, 1191, 6, 0) := by decide +kernel
theorem ix_238_1191 : lkp 1191 (mI mi_238) = some (false, .ifCond .ne 15, 1194, 0, 1206) := by decide +kernel
theorem ix_238_1194 : lkp 1194 (mI mi_238) = some (false, .aload_n 3, 1195, 3, 0) := by decide +kernel
theorem ix_238_1195 : lkp 1195 (mI mi_238) = some (false, .iconst 0, 1196, 0, 0) := by decide +kernel
theorem ix_238_1196 : lkp 1196 (mI mi_238) = some (false, .laload, 1197, 0, 0) := by decide +kernel
theorem ix_238_1197 : lkp 1197 (mI mi_238) = some (false, .iload 7, 1199, 7, 0) := by decide +kernel
theorem ix_238_1199 : lkp 1199 (mI mi_238) = some (false, .i2l, 1200, 0, 0) := by decide +kernel
theorem ix_238_1200 : lkp 1200 (mI mi_238) = some (false, .lcmp, 1201, 0, 0) := by decide +kernel
theorem ix_238_1201 : lkp 1201 (mI mi_238) = some (false, .ifCond .eq 5, 1204, 0, 1206) := by decide +kernel
theorem ix_238_1204 : lkp 1204 (mI mi_238) = some (false, .iconst 0, 1205, 0, 0) := by decide +kernel
theorem ix_238_1205 : lkp 1205 (mI mi_238) = some (false, .ireturn, 1206, 0, 1) := by decide +kernel
theorem ix_238_1206 : lkp 1206 (mI mi_238) = some (false, .goto 923, 1209, 0, 2129) := by decide +kernel
theorem ix_238_1209 : lkp 1209 (mI mi_238) = some (false, .aload_n 1, 1210, 1, 0) := by decide +kernel
theorem ix_238_1210 : lkp 1210 (mI mi_238) = some (false, .aload_n 0, 1211, 0, 0) := by decide +kernel
theorem ix_238_1211 : lkp 1211 (mI mi_238) = some (false, .iload 5, 1213, 5, 0) := by decide +kernel
theorem ix_238_1213 : lkp 1213 (mI mi_238) = some (false, .iconst 1, 1214, 1, 0) := by decide +kernel
theorem ix_238_1214 : lkp 1214 (mI mi_238) = some (false, .iadd, 1215, 0, 0) := by decide +kernel
theorem ix_238_1215 : lkp 1215 (mI mi_238) = some (false, .iaload, 1216, 0, 0) := by decide +kernel
theorem ix_238_1216 : lkp 1216 (mI mi_238) = some (false, .aload_n 3, 1217, 3, 0) := by decide +kernel
theorem ix_238_1217 : lkp 1217 (mI mi_238) = some (false, .invokestatic 170, 1220, 225, 3) := by decide +kernel
theorem ix_238_1220 : lkp 1220 (mI mi_238) = some (false, .istore 6, 1222, 6, 0) := by decide +kernel
theorem ix_238_1222 : lkp 1222 (mI mi_238) = some (false, .aload_n 2, 1223, 2, 0) := by decide +kernel
theorem ix_238_1223 : lkp 1223 (mI mi_238) = some (false, .aload_n 0, 1224, 0, 0) := by decide +kernel
theorem ix_238_1224 : lkp 1224 (mI mi_238) = some (false, .iload 5, 1226, 5, 0) := by decide +kernel
theorem ix_238_1226 : lkp 1226 (mI mi_238) = some (false, .iconst 1, 1227, 1, 0) := by decide +kernel
theorem ix_238_1227 : lkp 1227 (mI mi_238) = some (false, .iadd, 1228, 0, 0) := by decide +kernel
theorem ix_238_1228 : lkp 1228 (mI mi_238) = some (false, .iaload, 1229, 0, 0) := by decide +kernel
theorem ix_238_1229 : lkp 1229 (mI mi_238) = some (false, .invokevirtual 172, 1232, 165, 193) := by decide +kernel
theorem ix_238_1232 : lkp 1232 (mI mi_238) = some (false, .istore 7, 1234, 7, 0) := by decide +kernel
theorem ix_238_1234 : lkp 1234 (mI mi_238) = some (false, .aload_n 2, 1235, 2, 0) := by decide +kernel
theorem ix_238_1235 : lkp 1235 (mI mi_238) = some (false, .invokevirtual 124, 1238, 125, 192) := by decide +kernel
theorem ix_238_1238 : lkp 1238 (mI mi_238) = some (false, .iload 6, 1240, 6, 0) := by decide +kernel
theorem ix_238_1240 : lkp 1240 (mI mi_238) = some (false, .if_icmp .eq 5, 1243, 0, 1245) := by decide +kernel
theorem ix_238_1243 : lkp 1243 (mI mi_238) = some (false, .iconst 0, 1244, 0, 0) := by decide +kernel
theorem ix_238_1244 : lkp 1244 (mI mi_238) = some (false, .ireturn, 1245, 0, 1) := by decide +kernel
theorem ix_238_1245 : lkp 1245 (mI mi_238) = some (false, .iload 6, 1247, 6, 0) := by decide +kernel
theorem ix_238_1247 : lkp 1247 (mI mi_238) = some (false, .ifCond .ne 15, 1250, 0, 1262) := by decide +kernel
theorem ix_238_1250 : lkp 1250 (mI mi_238) = some (false, .aload_n 3, 1251, 3, 0) := by decide +kernel
theorem ix_238_1251 : lkp 1251 (mI mi_238) = some (false, .iconst 0, 1252, 0, 0) := by decide +kernel
theorem ix_238_1252 : lkp 1252 (mI mi_238) = some (false, .laload, 1253, 0, 0) := by decide +kernel
theorem ix_238_1253 : lkp 1253 (mI mi_238) = some (false, .iload 7, 1255, 7, 0) := by decide +kernel
theorem ix_238_1255 : lkp 1255 (mI mi_238) = some (false, .i2l, 1256, 0, 0) := by decide +kernel
theorem ix_238_1256 : lkp 1256 (mI mi_238) = some (false, .lcmp, 1257, 0, 0) := by decide +kernel
theorem ix_238_1257 : lkp 1257 (mI mi_238) = some (false, .ifCond .eq 5, 1260, 0, 1262) := by decide +kernel
theorem ix_238_1260 : lkp 1260 (mI mi_238) = some (false, .iconst 0, 1261, 0, 0) := by decide +kernel
theorem ix_238_1261 : lkp 1261 (mI mi_238) = some (false, .ireturn, 1262, 0, 1) := by decide +kernel
theorem ix_238_1262 : lkp 1262 (mI mi_238) = some (false, .goto 867, 1265, 0, 2129) := by decide +kernel
theorem ix_238_1265 : lkp 1265 (mI mi_238) = some (false, .aload_n 1, 1266, 1, 0) := by decide +kernel
theorem ix_238_1266 : lkp 1266 (mI mi_238) = some (false, .aload_n 0, 1267, 0, 0) := by decide +kernel
theorem ix_238_1267 : lkp 1267 (mI mi_238) = some (false, .iload 5, 1269, 5, 0) := by decide +kernel
theorem ix_238_1269 : lkp 1269 (mI mi_238) = some (false, .iconst 1, 1270, 1, 0) := by decide +kernel
theorem ix_238_1270 : lkp 1270 (mI mi_238) = some (false, .iadd, 1271, 0, 0) := by decide +kernel
theorem ix_238_1271 : lkp 1271 (mI mi_238) = some (false, .iaload, 1272, 0, 0) := by decide +kernel
theorem ix_238_1272 : lkp 1272 (mI mi_238) = some (false, .aload_n 0, 1273, 0, 0) := by decide +kernel
theorem ix_238_1273 : lkp 1273 (mI mi_238) = some (false, .iload 5, 1275, 5, 0) := by decide +kernel
theorem ix_238_1275 : lkp 1275 (mI mi_238) = some (false, .iconst 2, 1276, 2, 0) := by decide +kernel
theorem ix_238_1276 : lkp 1276 (mI mi_238) = some (false, .iadd, 1277, 0, 0) := by decide +kernel
theorem ix_238_1277 : lkp 1277 (mI mi_238) = some (false, .iaload, 1278, 0, 0) := by decide +kernel
theorem ix_238_1278 : lkp 1278 (mI mi_238) = some (false, .aload_n 0, 1279, 0, 0) := by decide +kernel
theorem ix_238_1279 : lkp 1279 (mI mi_238) = some (false, .iload 5, 1281, 5, 0) := by decide +kernel
theorem ix_238_1281 : lkp 1281 (mI mi_238) = some (false, .iconst 3, 1282, 3, 0) := by decide +kernel
theorem ix_238_1282 : lkp 1282 (mI mi_238) = some (false, .iadd, 1283, 0, 0) := by decide +kernel
theorem ix_238_1283 : lkp 1283 (mI mi_238) = some (false, .iaload, 1284, 0, 0) := by decide +kernel
theorem ix_238_1284 : lkp 1284 (mI mi_238) = some (false, .aload_n 0, 1285, 0, 0) := by decide +kernel
theorem ix_238_1285 : lkp 1285 (mI mi_238) = some (false, .iload 5, 1287, 5, 0) := by decide +kernel
theorem ix_238_1287 : lkp 1287 (mI mi_238) = some (false, .iconst 4, 1288, 4, 0) := by decide +kernel
theorem ix_238_1288 : lkp 1288 (mI mi_238) = some (false, .iadd, 1289, 0, 0) := by decide +kernel
theorem ix_238_1289 : lkp 1289 (mI mi_238) = some (false, .iaload, 1290, 0, 0) := by decide +kernel
theorem ix_238_1290 : lkp 1290 (mI mi_238) = some (false, .aload_n 3, 1291, 3, 0) := by decide +kernel
theorem ix_238_1291 : lkp 1291 (mI mi_238) = some (false, .invokestatic 173, 1294, 226, 6) := by decide +kernel
theorem ix_238_1294 : lkp 1294 (mI mi_238) = some (false, .istore 6, 1296, 6, 0) := by decide +kernel
theorem ix_238_1296 : lkp 1296 (mI mi_238) = some (false, .aload_n 2, 1297, 2, 0) := by decide +kernel
theorem ix_238_1297 : lkp 1297 (mI mi_238) = some (false, .aload_n 0, 1298, 0, 0) := by decide +kernel
theorem ix_238_1298 : lkp 1298 (mI mi_238) = some (false, .iload 5, 1300, 5, 0) := by decide +kernel
theorem ix_238_1300 : lkp 1300 (mI mi_238) = some (false, .iconst 1, 1301, 1, 0) := by decide +kernel
theorem ix_238_1301 : lkp 1301 (mI mi_238) = some (false, .iadd, 1302, 0, 0) := by decide +kernel
theorem ix_238_1302 : lkp 1302 (mI mi_238) = some (false, .iaload, 1303, 0, 0) := by decide +kernel
theorem ix_238_1303 : lkp 1303 (mI mi_238) = some (false, .aload_n 0, 1304, 0, 0) := by decide +kernel
theorem ix_238_1304 : lkp 1304 (mI mi_238) = some (false, .iload 5, 1306, 5, 0) := by decide +kernel
theorem ix_238_1306 : lkp 1306 (mI mi_238) = some (false, .iconst 2, 1307, 2, 0) := by decide +kernel
theorem ix_238_1307 : lkp 1307 (mI mi_238) = some (false, .iadd, 1308, 0, 0) := by decide +kernel
theorem ix_238_1308 : lkp 1308 (mI mi_238) = some (false, .iaload, 1309, 0, 0) := by decide +kernel
theorem ix_238_1309 : lkp 1309 (mI mi_238) = some (false, .aload_n 0, 1310, 0, 0) := by decide +kernel
theorem ix_238_1310 : lkp 1310 (mI mi_238) = some (false, .iload 5, 1312, 5, 0) := by decide +kernel
theorem ix_238_1312 : lkp 1312 (mI mi_238) = some (false, .iconst 3, 1313, 3, 0) := by decide +kernel
theorem ix_238_1313 : lkp 1313 (mI mi_238) = some (false, .iadd, 1314, 0, 0) := by decide +kernel
theorem ix_238_1314 : lkp 1314 (mI mi_238) = some (false, .iaload, 1315, 0, 0) := by decide +kernel
theorem ix_238_1315 : lkp 1315 (mI mi_238) = some (false, .aload_n 0, 1316, 0, 0) := by decide +kernel
theorem ix_238_1316 : lkp 1316 (mI mi_238) = some (false, .iload 5, 1318, 5, 0) := by decide +kernel
theorem ix_238_1318 : lkp 1318 (mI mi_238) = some (false, .iconst 4, 1319, 4, 0) := by decide +kernel
theorem ix_238_1319 : lkp 1319 (mI mi_238) = some (false, .iadd, 1320, 0, 0) := by decide +kernel
theorem ix_238_1320 : lkp 1320 (mI mi_238) = some (false, .iaload, 1321, 0, 0) := by decide +kernel
theorem ix_238_1321 : lkp 1321 (mI mi_238) = some (false, .invokevirtual 176, 1324, 167, 196) := by decide +kernel
theorem ix_238_1324 : lkp 1324 (mI mi_238) = some (false, .istore 7, 1326, 7, 0) := by decide +kernel
theorem ix_238_1326 : lkp 1326 (mI mi_238) = some (false, .aload_n 2, 1327, 2, 0) := by decide +kernel
theorem ix_238_1327 : lkp 1327 (mI mi_238) = some (false, .invokevirtual 124, 1330, 125, 192) := by decide +kernel
theorem ix_238_1330 : lkp 1330 (mI mi_238) = some (false, .iload 6, 1332, 6, 0) := by decide +kernel
theorem ix_238_1332 : lkp 1332 (mI mi_238) = some (false, .if_icmp .eq 5, 1335, 0, 1337) := by decide +kernel
theorem ix_238_1335 : lkp 1335 (mI mi_238) = some (false, .iconst 0, 1336, 0, 0) := by decide +kernel
theorem ix_238_1336 : lkp 1336 (mI mi_238) = some (false, .ireturn, 1337, 0, 1) := by decide +kernel
theorem ix_238_1337 : lkp 1337 (mI mi_238) = some (false, .iload 6, 1339, 6, 0) := by decide +kernel
theorem ix_238_1339 : lkp 1339 (mI mi_238) = some (false, .ifCond .ne 15, 1342, 0, 1354) := by decide +kernel
theorem ix_238_1342 : lkp 1342 (mI mi_238) = some (false, .aload_n 3, 1343, 3, 0) := by decide +kernel
theorem ix_238_1343 : lkp 1343 (mI mi_238) = some (false, .iconst 0, 1344, 0, 0) := by decide +kernel
theorem ix_238_1344 : lkp 1344 (mI mi_238) = some (false, .laload, 1345, 0, 0) := by decide +kernel
theorem ix_238_1345 : lkp 1345 (mI mi_238) = some (false, .iload 7, 1347, 7, 0) := by decide +kernel
theorem ix_238_1347 : lkp 1347 (mI mi_238) = some (false, .i2l, 1348, 0, 0) := by decide +kernel
theorem ix_238_1348 : lkp 1348 (mI mi_238) = some (false, .lcmp, 1349, 0, 0) := by decide +kernel
theorem ix_238_1349 : lkp 1349 (mI mi_238) = some (false, .ifCond .eq 5, 1352, 0, 1354) := by decide +kernel
theorem ix_238_1352 : lkp 1352 (mI mi_238) = some (false, .iconst 0, 1353, 0, 0) := by decide +kernel
theorem ix_238_1353 : lkp 1353 (mI mi_238) = some (false, .ireturn, 1354, 0, 1) := by decide +kernel
theorem ix_238_1354 : lkp 1354 (mI mi_238) = some (false, .goto 775, 1357, 0, 2129) := by decide +kernel
theorem ix_238_1357 : lkp 1357 (mI mi_238) = some (false, .aload_n 1, 1358, 1, 0) := by decide +kernel
theorem ix_238_1358 : lkp 1358 (mI mi_238) = some (false, .aload_n 0, 1359, 0, 0) := by decide +kernel
theorem ix_238_1359 : lkp 1359 (mI mi_238) = some (false, .iload 5, 1361, 5, 0) := by decide +kernel
theorem ix_238_1361 : lkp 1361 (mI mi_238) = some (false, .iconst 1, 1362, 1, 0) := by decide +kernel
theorem ix_238_1362 : lkp 1362 (mI mi_238) = some (false, .iadd, 1363, 0, 0) := by decide +kernel
theorem ix_238_1363 : lkp 1363 (mI mi_238) = some (false, .iaload, 1364, 0, 0) := by decide +kernel
theorem ix_238_1364 : lkp 1364 (mI mi_238) = some (false, .aload_n 3, 1365, 3, 0) := by decide +kernel
theorem ix_238_1365 : lkp 1365 (mI mi_238) = some (false, .invokestatic 177, 1368, 227, 3) := by decide +kernel
theorem ix_238_1368 : lkp 1368 (mI mi_238) = some (false, .istore 6, 1370, 6, 0) := by decide +kernel
theorem ix_238_1370 : lkp 1370 (mI mi_238) = some (false, .aload_n 2, 1371, 2, 0) := by decide +kernel
theorem ix_238_1371 : lkp 1371 (mI mi_238) = some (false, .aload_n 0, 1372, 0, 0) := by decide +kernel
theorem ix_238_1372 : lkp 1372 (mI mi_238) = some (false, .iload 5, 1374, 5, 0) := by decide +kernel
theorem ix_238_1374 : lkp 1374 (mI mi_238) = some (false, .iconst 1, 1375, 1, 0) := by decide +kernel
theorem ix_238_1375 : lkp 1375 (mI mi_238) = some (false, .iadd, 1376, 0, 0) := by decide +kernel
theorem ix_238_1376 : lkp 1376 (mI mi_238) = some (false, .iaload, 1377, 0, 0) := by decide +kernel
theorem ix_238_1377 : lkp 1377 (mI mi_238) = some (false, .invokevirtual 179, 1380, 168, 193) := by decide +kernel
theorem ix_238_1380 : lkp 1380 (mI mi_238) = some (false, .istore 7, 1382, 7, 0) := by decide +kernel
theorem ix_238_1382 : lkp 1382 (mI mi_238) = some (false, .aload_n 2, 1383, 2, 0) := by decide +kernel
theorem ix_238_1383 : lkp 1383 (mI mi_238) = some (false, .invokevirtual 124, 1386, 125, 192) := by decide +kernel
theorem ix_238_1386 : lkp 1386 (mI mi_238) = some (false, .iload 6, 1388, 6, 0) := by decide +kernel
theorem ix_238_1388 : lkp 1388 (mI mi_238) = some (false, .if_icmp .eq 5, 1391, 0, 1393) := by decide +kernel
theorem ix_238_1391 : lkp 1391 (mI mi_238) = some (false, .iconst 0, 1392, 0, 0) := by decide +kernel
theorem ix_238_1392 : lkp 1392 (mI mi_238) = some (false, .ireturn, 1393, 0, 1) := by decide +kernel
theorem ix_238_1393 : lkp 1393 (mI mi_238) = some (false, .iload 6, 1395, 6, 0) := by decide +kernel
theorem ix_238_1395 : lkp 1395 (mI mi_238) = some (false, .ifCond .ne 15, 1398, 0, 1410) := by decide +kernel
theorem ix_238_1398 : lkp 1398 (mI mi_238) = some (false, .aload_n 3, 1399, 3, 0) := by decide +kernel
theorem ix_238_1399 : lkp 1399 (mI mi_238) = some (false, .iconst 0, 1400, 0, 0) := by decide +kernel
theorem ix_238_1400 : lkp 1400 (mI mi_238) = some (false, .laload, 1401, 0, 0) := by decide +kernel
theorem ix_238_1401 : lkp 1401 (mI mi_238) = some (false, .iload 7, 1403, 7, 0) := by decide +kernel
theorem ix_238_1403 : lkp 1403 (mI mi_238) = some (false, .i2l, 1404, 0, 0) := by decide +kernel
theorem ix_238_1404 : lkp 1404 (mI mi_238) = some (false, .lcmp, 1405, 0, 0) := by decide +kernel
theorem ix_238_1405 : lkp 1405 (mI mi_238) = some (false, .ifCond .eq 5, 1408, 0, 1410) := by decide +kernel
theorem ix_238_1408 : lkp 1408 (mI mi_238) = some (false, .iconst 0, 1409, 0, 0) := by decide +kernel
theorem ix_238_1409 : lkp 1409 (mI mi_238) = some (false, .ireturn, 1410, 0, 1) := by decide +kernel
theorem ix_238_1410 : lkp 1410 (mI mi_238) = some (false, .goto 719, 1413, 0, 2129) := by decide +kernel
theorem ix_238_1413 : lkp 1413 (mI mi_238) = some (false, .aload_n 1, 1414, 1, 0) := by decide +kernel
theorem ix_238_1414 : lkp 1414 (mI mi_238) = some (false, .aload_n 0, 1415, 0, 0) := by decide +kernel
theorem ix_238_1415 : lkp 1415 (mI mi_238) = some (false, .iload 5, 1417, 5, 0) := by decide +kernel
theorem ix_238_1417 : lkp 1417 (mI mi_238) = some (false, .iconst 1, 1418, 1, 0) := by decide +kernel
theorem ix_238_1418 : lkp 1418 (mI mi_238) = some (false, .iadd, 1419, 0, 0) := by decide +kernel
theorem ix_238_1419 : lkp 1419 (mI mi_238) = some (false, .iaload, 1420, 0, 0) := by decide +kernel
theorem ix_238_1420 : lkp 1420 (mI mi_238) = some (false, .aload_n 3, 1421, 3, 0) := by decide +kernel
theorem ix_238_1421 : lkp 1421 (mI mi_238) = some (false, .invokestatic 180, 1424, 228, 3) := by decide +kernel
theorem ix_238_1424 : lkp 1424 (mI mi_238) = some (false, .istore 6, 1426, 6, 0) := by decide +kernel
theorem ix_238_1426 : lkp 1426 (mI mi_238) = some (false, .aload_n 2, 1427, 2, 0) := by decide +kernel
theorem ix_238_1427 : lkp 1427 (mI mi_238) = some (false, .aload_n 0, 1428, 0, 0) := by decide +kernel
theorem ix_238_1428 : lkp 1428 (mI mi_238) = some (false, .iload 5, 1430, 5, 0) := by decide +kernel
theorem ix_238_1430 : lkp 1430 (mI mi_238) = some (false, .iconst 1, 1431, 1, 0) := by decide +kernel
theorem ix_238_1431 : lkp 1431 (mI mi_238) = some (false, .iadd, 1432, 0, 0) := by decide +kernel
theorem ix_238_1432 : lkp 1432 (mI mi_238) = some (false, .iaload, 1433, 0, 0) := by decide +kernel
theorem ix_238_1433 : lkp 1433 (mI mi_238) = some (false, .invokevirtual 182, 1436, 169, 193) := by decide +kernel
theorem ix_238_1436 : lkp 1436 (mI mi_238) = some (false, .istore 7, 1438, 7, 0) := by decide +kernel
theorem ix_238_1438 : lkp 1438 (mI mi_238) = some (false, .aload_n 2, 1439, 2, 0) := by decide +kernel
theorem ix_238_1439 : lkp 1439 (mI mi_238) = some (false, .invokevirtual 124, 1442, 125, 192) := by decide +kernel
theorem ix_238_1442 : lkp 1442 (mI mi_238) = some (false, .iload 6, 1444, 6, 0) := by decide +kernel
theorem ix_238_1444 : lkp 1444 (mI mi_238) = some (false, .if_icmp .eq 5, 1447, 0, 1449) := by decide +kernel
theorem ix_238_1447 : lkp 1447 (mI mi_238) = some (false, .iconst 0, 1448, 0, 0) := by decide +kernel
theorem ix_238_1448 : lkp 1448 (mI mi_238) = some (false, .ireturn, 1449, 0, 1) := by decide +kernel
theorem ix_238_1449 : lkp 1449 (mI mi_238) = some (false, .iload 6, 1451, 6, 0) := by decide +kernel
theorem ix_238_1451 : lkp 1451 (mI mi_238) = some (false, .ifCond .ne 15, 1454, 0, 1466) := by decide +kernel
theorem ix_238_1454 : lkp 1454 (mI mi_238) = some (false, .aload_n 3, 1455, 3, 0) := by decide +kernel
theorem ix_238_1455 : lkp 1455 (mI mi_238) = some (false, .iconst 0, 1456, 0, 0) := by decide +kernel
theorem ix_238_1456 : lkp 1456 (mI mi_238) = some (false, .laload, 1457, 0, 0) := by decide +kernel
theorem ix_238_1457 : lkp 1457 (mI mi_238) = some (false, .iload 7, 1459, 7, 0) := by decide +kernel
theorem ix_238_1459 : lkp 1459 (mI mi_238) = some (false, .i2l, 1460, 0, 0) := by decide +kernel
theorem ix_238_1460 : lkp 1460 (mI mi_238) = some (false, .lcmp, 1461, 0, 0) := by decide +kernel
theorem ix_238_1461 : lkp 1461 (mI mi_238) = some (false, .ifCond .eq 5, 1464, 0, 1466) := by decide +kernel
theorem ix_238_1464 : lkp 1464 (mI mi_238) = some (false, .iconst 0, 1465, 0, 0) := by decide +kernel
theorem ix_238_1465 : lkp 1465 (mI mi_238) = some (false, .ireturn, 1466, 0, 1) := by decide +kernel
theorem ix_238_1466 : lkp 1466 (mI mi_238) = some (false, .goto 663, 1469, 0, 2129) := by decide +kernel
theorem ix_238_1469 : lkp 1469 (mI mi_238) = some (false, .aload_n 1, 1470, 1, 0) := by decide +kernel
theorem ix_238_1470 : lkp 1470 (mI mi_238) = some (false, .aload_n 0, 1471, 0, 0) := by decide +kernel
theorem ix_238_1471 : lkp 1471 (mI mi_238) = some (false, .iload 5, 1473, 5, 0) := by decide +kernel
theorem ix_238_1473 : lkp 1473 (mI mi_238) = some (false, .iconst 1, 1474, 1, 0) := by decide +kernel
theorem ix_238_1474 : lkp 1474 (mI mi_238) = some (false, .iadd, 1475, 0, 0) := by decide +kernel
theorem ix_238_1475 : lkp 1475 (mI mi_238) = some (false, .iaload, 1476, 0, 0) := by decide +kernel
theorem ix_238_1476 : lkp 1476 (mI mi_238) = some (false, .aload_n 0, 1477, 0, 0) := by decide +kernel
theorem ix_238_1477 : lkp 1477 (mI mi_238) = some (false, .iload 5, 1479, 5, 0) := by decide +kernel
theorem ix_238_1479 : lkp 1479 (mI mi_238) = some (false, .iconst 2, 1480, 2, 0) := by decide +kernel
theorem ix_238_1480 : lkp 1480 (mI mi_238) = some (false, .iadd, 1481, 0, 0) := by decide +kernel
theorem ix_238_1481 : lkp 1481 (mI mi_238) = some (false, .iaload, 1482, 0, 0) := by decide +kernel
theorem ix_238_1482 : lkp 1482 (mI mi_238) = some (false, .aload_n 3, 1483, 3, 0) := by decide +kernel
theorem ix_238_1483 : lkp 1483 (mI mi_238) = some (false, .invokestatic 183, 1486, 229, 4) := by decide +kernel
theorem ix_238_1486 : lkp 1486 (mI mi_238) = some (false, .istore 6, 1488, 6, 0) := by decide +kernel
theorem ix_238_1488 : lkp 1488 (mI mi_238) = some (false, .aload_n 2, 1489, 2, 0) := by decide +kernel
theorem ix_238_1489 : lkp 1489 (mI mi_238) = some (false, .aload_n 0, 1490, 0, 0) := by decide +kernel
theorem ix_238_1490 : lkp 1490 (mI mi_238) = some (false, .iload 5, 1492, 5, 0) := by decide +kernel
theorem ix_238_1492 : lkp 1492 (mI mi_238) = some (false, .iconst 1, 1493, 1, 0) := by decide +kernel
theorem ix_238_1493 : lkp 1493 (mI mi_238) = some (false, .iadd, 1494, 0, 0) := by decide +kernel
theorem ix_238_1494 : lkp 1494 (mI mi_238) = some (false, .iaload, 1495, 0, 0) := by decide +kernel
theorem ix_238_1495 : lkp 1495 (mI mi_238) = some (false, .aload_n 0, 1496, 0, 0) := by decide +kernel
theorem ix_238_1496 : lkp 1496 (mI mi_238) = some (false, .iload 5, 1498, 5, 0) := by decide +kernel
theorem ix_238_1498 : lkp 1498 (mI mi_238) = some (false, .iconst 2, 1499, 2, 0) := by decide +kernel
theorem ix_238_1499 : lkp 1499 (mI mi_238) = some (false, .iadd, 1500, 0, 0) := by decide +kernel
theorem ix_238_1500 : lkp 1500 (mI mi_238) = some (false, .iaload, 1501, 0, 0) := by decide +kernel
theorem ix_238_1501 : lkp 1501 (mI mi_238) = some (false, .invokevirtual 185, 1504, 170, 194) := by decide +kernel
theorem ix_238_1504 : lkp 1504 (mI mi_238) = some (false, .istore 7, 1506, 7, 0) := by decide +kernel
theorem ix_238_1506 : lkp 1506 (mI mi_238) = some (false, .aload_n 2, 1507, 2, 0) := by decide +kernel
theorem ix_238_1507 : lkp 1507 (mI mi_238) = some (false, .invokevirtual 124, 1510, 125, 192) := by decide +kernel
theorem ix_238_1510 : lkp 1510 (mI mi_238) = some (false, .iload 6, 1512, 6, 0) := by decide +kernel
theorem ix_238_1512 : lkp 1512 (mI mi_238) = some (false, .if_icmp .eq 5, 1515, 0, 1517) := by decide +kernel
theorem ix_238_1515 : lkp 1515 (mI mi_238) = some (false, .iconst 0, 1516, 0, 0) := by decide +kernel
theorem ix_238_1516 : lkp 1516 (mI mi_238) = some (false, .ireturn, 1517, 0, 1) := by decide +kernel
theorem ix_238_1517 : lkp 1517 (mI mi_238) = some (false, .iload 6, 1519, 6, 0) := by decide +kernel
theorem ix_238_1519 : lkp 1519 (mI mi_238) = some (false, .ifCond .ne 15, 1522, 0, 1534) := by decide +kernel
theorem ix_238_1522 : lkp 1522 (mI mi_238) = some (false, .aload_n 3, 1523, 3, 0) := by decide +kernel
theorem ix_238_1523 : lkp 1523 (mI mi_238) = some (false, .iconst 0, 1524, 0, 0) := by decide +kernel
theorem ix_238_1524 : lkp 1524 (mI mi_238) = some (false, .laload, 1525, 0, 0) := by decide +kernel
theorem ix_238_1525 : lkp 1525 (mI mi_238) = some (false, .iload 7, 1527, 7, 0) := by decide +kernel
theorem ix_238_1527 : lkp 1527 (mI mi_238) = some (false, .i2l, 1528, 0, 0) := by decide +kernel
theorem ix_238_1528 : lkp 1528 (mI mi_238) = some (false, .lcmp, 1529, 0, 0) := by decide +kernel
theorem ix_238_1529 : lkp 1529 (mI mi_238) = some (false, .ifCond .eq 5, 1532, 0, 1534) := by decide +kernel
theorem ix_238_1532 : lkp 1532 (mI mi_238) = some (false, .iconst 0, 1533, 0, 0) := by decide +kernel
theorem ix_238_1533 : lkp 1533 (mI mi_238) = some (false, .ireturn, 1534, 0, 1) := by decide +kernel
theorem ix_238_1534 : lkp 1534 (mI mi_238) = some (false, .goto 595, 1537, 0, 2129) := by decide +kernel
theorem ix_238_1537 : lkp 1537 (mI mi_238) = some (false, .aload_n 1, 1538, 1, 0) := by decide +kernel
theorem ix_238_1538 : lkp 1538 (mI mi_238) = some (false, .invokevirtual 186, 1541, 99, 176) := by decide +kernel
theorem ix_238_1541 : lkp 1541 (mI mi_238) = some (false, .aload_n 2, 1542, 2, 0) := by decide +kernel
theorem ix_238_1542 : lkp 1542 (mI mi_238) = some (false, .invokevirtual 189, 1545, 171, 192) := by decide +kernel
theorem ix_238_1545 : lkp 1545 (mI mi_238) = some (false, .if_icmp .eq 584, 1548, 0, 2129) := by decide +kernel
theorem ix_238_1548 : lkp 1548 (mI mi_238) = some (false, .iconst 0, 1549, 0, 0) := by decide +kernel
theorem ix_238_1549 : lkp 1549 (mI mi_238) = some (false, .ireturn, 1550, 0, 1) := by decide +kernel
theorem ix_238_1550 : lkp 1550 (mI mi_238) = some (false, .aload_n 1, 1551, 1, 0) := by decide +kernel
theorem ix_238_1551 : lkp 1551 (mI mi_238) = some (false, .aload_n 0, 1552, 0, 0) := by decide +kernel
theorem ix_238_1552 : lkp 1552 (mI mi_238) = some (false, .iload 5, 1554, 5, 0) := by decide +kernel
theorem ix_238_1554 : lkp 1554 (mI mi_238) = some (false, .iconst 1, 1555, 1, 0) := by decide +kernel
theorem ix_238_1555 : lkp 1555 (mI mi_238) = some (false, .iadd, 1556, 0, 0) := by decide +kernel
theorem ix_238_1556 : lkp 1556 (mI mi_238) = some (false, .iaload, 1557, 0, 0) := by decide +kernel
theorem ix_238_1557 : lkp 1557 (mI mi_238) = some (false, .aload_n 0, 1558, 0, 0) := by decide +kernel
theorem ix_238_1558 : lkp 1558 (mI mi_238) = some (false, .iload 5, 1560, 5, 0) := by decide +kernel
theorem ix_238_1560 : lkp 1560 (mI mi_238) = some (false, .iconst 2, 1561, 2, 0) := by decide +kernel
theorem ix_238_1561 : lkp 1561 (mI mi_238) = some (false, .iadd, 1562, 0, 0) := by decide +kernel
theorem ix_238_1562 : lkp 1562 (mI mi_238) = some (false, .iaload, 1563, 0, 0) := by decide +kernel
theorem ix_238_1563 : lkp 1563 (mI mi_238) = some (false, .i2c, 1564, 0, 0) := by decide +kernel
theorem ix_238_1564 : lkp 1564 (mI mi_238) = some (false, .aload_n 3, 1565, 3, 0) := by decide +kernel
theorem ix_238_1565 : lkp 1565 (mI mi_238) = some (false, .invokestatic 190, 1568, 230, 4) := by decide +kernel
theorem ix_238_1568 : lkp 1568 (mI mi_238) = some (false, .istore 6, 1570, 6, 0) := by decide +kernel
theorem ix_238_1570 : lkp 1570 (mI mi_238) = some (false, .aload_n 2, 1571, 2, 0) := by decide +kernel
theorem ix_238_1571 : lkp 1571 (mI mi_238) = some (false, .aload_n 0, 1572, 0, 0) := by decide +kernel
theorem ix_238_1572 : lkp 1572 (mI mi_238) = some (false, .iload 5, 1574, 5, 0) := by decide +kernel
theorem ix_238_1574 : lkp 1574 (mI mi_238) = some (false, .iconst 1, 1575, 1, 0) := by decide +kernel
theorem ix_238_1575 : lkp 1575 (mI mi_238) = some (false, .iadd, 1576, 0, 0) := by decide +kernel
theorem ix_238_1576 : lkp 1576 (mI mi_238) = some (false, .iaload, 1577, 0, 0) := by decide +kernel
theorem ix_238_1577 : lkp 1577 (mI mi_238) = some (false, .aload_n 0, 1578, 0, 0) := by decide +kernel
theorem ix_238_1578 : lkp 1578 (mI mi_238) = some (false, .iload 5, 1580, 5, 0) := by decide +kernel
theorem ix_238_1580 : lkp 1580 (mI mi_238) = some (false, .iconst 2, 1581, 2, 0) := by decide +kernel
theorem ix_238_1581 : lkp 1581 (mI mi_238) = some (false, .iadd, 1582, 0, 0) := by decide +kernel
theorem ix_238_1582 : lkp 1582 (mI mi_238) = some (false, .iaload, 1583, 0, 0) := by decide +kernel
theorem ix_238_1583 : lkp 1583 (mI mi_238) = some (false, .i2c, 1584, 0, 0) := by decide +kernel
theorem ix_238_1584 : lkp 1584 (mI mi_238) = some (false, .invokevirtual 193, 1587, 173, 194) := by decide +kernel
theorem ix_238_1587 : lkp 1587 (mI mi_238) = some (false, .istore 7, 1589, 7, 0) := by decide +kernel
theorem ix_238_1589 : lkp 1589 (mI mi_238) = some (false, .aload_n 2, 1590, 2, 0) := by decide +kernel
theorem ix_238_1590 : lkp 1590 (mI mi_238) = some (false, .invokevirtual 124, 1593, 125, 192) := by decide +kernel
theorem ix_238_1593 : lkp 1593 (mI mi_238) = some (false, .iload 6, 1595, 6, 0) := by decide +kernel
theorem ix_238_1595 : lkp 1595 (mI mi_238) = some (false, .if_icmp .eq 5, 1598, 0, 1600) := by decide +kernel
theorem ix_238_1598 : lkp 1598 (mI mi_238) = some (false, .iconst 0, 1599, 0, 0) := by decide +kernel
theorem ix_238_1599 : lkp 1599 (mI mi_238) = some (false, .ireturn, 1600, 0, 1) := by decide +kernel
theorem ix_238_1600 : lkp 1600 (mI mi_238) = some (false, .iload 6, 1602, 6, 0) := by decide +kernel
theorem ix_238_1602 : lkp 1602 (mI mi_238) = some (false, .ifCond .ne 15, 1605, 0, 1617) := by decide +kernel
theorem ix_238_1605 : lkp 1605 (mI mi_238) = some (false, .aload_n 3, 1606, 3, 0) := by decide +kernel
theorem ix_238_1606 : lkp 1606 (mI mi_238) = some (false, .iconst 0, 1607, 0, 0) := by decide +kernel
theorem ix_238_1607 : lkp 1607 (mI mi_238) = some (false, .laload, 1608, 0, 0) := by decide +kernel
theorem ix_238_1608 : lkp 1608 (mI mi_238) = some (false, .iload 7, 1610, 7, 0) := by decide +kernel
theorem ix_238_1610 : lkp 1610 (mI mi_238) = some (false, .i2l, 1611, 0, 0) := by decide +kernel
theorem ix_238_1611 : lkp 1611 (mI mi_238) = some (false, .lcmp, 1612, 0, 0) := by decide +kernel
theorem ix_238_1612 : lkp 1612 (mI mi_238) = some (false, .ifCond .eq 5, 1615, 0, 1617) := by decide +kernel
theorem ix_238_1615 : lkp 1615 (mI mi_238) = some (false, .iconst 0, 1616, 0, 0) := by decide +kernel
theorem ix_238_1616 : lkp 1616 (mI mi_238) = some (false, .ireturn, 1617, 0, 1) := by decide +kernel
theorem ix_238_1617 : lkp 1617 (mI mi_238) = some (false, .goto 512, 1620, 0, 2129) := by decide +kernel
theorem ix_238_1620 : lkp 1620 (mI mi_238) = some (false, .aload_n 1, 1621, 1, 0) := by decide +kernel
theorem ix_238_1621 : lkp 1621 (mI mi_238) = some (false, .aload_n 0, 1622, 0, 0) := by decide +kernel
theorem ix_238_1622 : lkp 1622 (mI mi_238) = some (false, .iload 5, 1624, 5, 0) := by decide +kernel
theorem ix_238_1624 : lkp 1624 (mI mi_238) = some (false, .iconst 1, 1625, 1, 0) := by decide +kernel
theorem ix_238_1625 : lkp 1625 (mI mi_238) = some (false, .iadd, 1626, 0, 0) := by decide +kernel
theorem ix_238_1626 : lkp 1626 (mI mi_238) = some (false, .iaload, 1627, 0, 0) := by decide +kernel
theorem ix_238_1627 : lkp 1627 (mI mi_238) = some (false, .aload_n 3, 1628, 3, 0) := by decide +kernel
theorem ix_238_1628 : lkp 1628 (mI mi_238) = some (false, .invokestatic 194, 1631, 231, 3) := by decide +kernel
theorem ix_238_1631 : lkp 1631 (mI mi_238) = some (false, .istore 6, 1633, 6, 0) := by decide +kernel
theorem ix_238_1633 : lkp 1633 (mI mi_238) = some (false, .aload_n 2, 1634, 2, 0) := by decide +kernel
theorem ix_238_1634 : lkp 1634 (mI mi_238) = some (false, .aload_n 0, 1635, 0, 0) := by decide +kernel
theorem ix_238_1635 : lkp 1635 (mI mi_238) = some (false, .iload 5, 1637, 5, 0) := by decide +kernel
theorem ix_238_1637 : lkp 1637 (mI mi_238) = some (false, .iconst 1, 1638, 1, 0) := by decide +kernel
theorem ix_238_1638 : lkp 1638 (mI mi_238) = some (false, .iadd, 1639, 0, 0) := by decide +kernel
theorem ix_238_1639 : lkp 1639 (mI mi_238) = some (false, .iaload, 1640, 0, 0) := by decide +kernel
theorem ix_238_1640 : lkp 1640 (mI mi_238) = some (false, .invokevirtual 196, 1643, 174, 193) := by decide +kernel
theorem ix_238_1643 : lkp 1643 (mI mi_238) = some (false, .istore 7, 1645, 7, 0) := by decide +kernel
theorem ix_238_1645 : lkp 1645 (mI mi_238) = some (false, .aload_n 2, 1646, 2, 0) := by decide +kernel
theorem ix_238_1646 : lkp 1646 (mI mi_238) = some (false, .invokevirtual 124, 1649, 125, 192) := by decide +kernel
theorem ix_238_1649 : lkp 1649 (mI mi_238) = some (false, .iload 6, 1651, 6, 0) := by decide +kernel
theorem ix_238_1651 : lkp 1651 (mI mi_238) = some (false, .if_icmp .eq 5, 1654, 0, 1656) := by decide +kernel
theorem ix_238_1654 : lkp 1654 (mI mi_238) = some (false, .iconst 0, 1655, 0, 0) := by decide +kernel
theorem ix_238_1655 : lkp 1655 (mI mi_238) = some (false, .ireturn, 1656, 0, 1) := by decide +kernel
theorem ix_238_1656 : lkp 1656 (mI mi_238) = some (false, .iload 6, 1658, 6, 0) := by decide +kernel
theorem ix_238_1658 : lkp 1658 (mI mi_238) = some (false, .ifCond .ne 15, 1661, 0, 1673) := by decide +kernel
theorem ix_238_1661 : lkp 1661 (mI mi_238) = some (false, .aload_n 3, 1662, 3, 0) := by decide +kernel
theorem ix_238_1662 : lkp 1662 (mI mi_238) = some (false, .iconst 0, 1663, 0, 0) := by decide +kernel
theorem ix_238_1663 : lkp 1663 (mI mi_238) = some (false, .laload, 1664, 0, 0) := by decide +kernel
theorem ix_238_1664 : lkp 1664 (mI mi_238) = some (false, .iload 7, 1666, 7, 0) := by decide +kernel
theorem ix_238_1666 : lkp 1666 (mI mi_238) = some (false, .i2l, 1667, 0, 0) := by decide +kernel
theorem ix_238_1667 : lkp 1667 (mI mi_238) = some (false, .lcmp, 1668, 0, 0) := by decide +kernel
theorem ix_238_1668 : lkp 1668 (mI mi_238) = some (false, .ifCond .eq 5, 1671, 0, 1673) := by decide +kernel
theorem ix_238_1671 : lkp 1671 (mI mi_238) = some (false, .iconst 0, 1672, 0, 0) := by decide +kernel
theorem ix_238_1672 : lkp 1672 (mI mi_238) = some (false, .ireturn, 1673, 0, 1) := by decide +kernel
theorem ix_238_1673 : lkp 1673 (mI mi_238) = some (false, .goto 456, 1676, 0, 2129) := by decide +kernel
theorem ix_238_1676 : lkp 1676 (mI mi_238) = some (false, .aload_n 1, 1677, 1, 0) := by decide +kernel
theorem ix_238_1677 : lkp 1677 (mI mi_238) = some (false, .invokevirtual 197, 1680, 102, 176) := by decide +kernel
theorem ix_238_1680 : lkp 1680 (mI mi_238) = some (false, .aload_n 2, 1681, 2, 0) := by decide +kernel
theorem ix_238_1681 : lkp 1681 (mI mi_238) = some (false, .invokevirtual 200, 1684, 175, 192) := by decide +kernel
theorem ix_238_1684 : lkp 1684 (mI mi_238) = some (false, .if_icmp .eq 445, 1687, 0, 2129) := by decide +kernel
theorem ix_238_1687 : lkp 1687 (mI mi_238) = some (false, .iconst 0, 1688, 0, 0) := by decide +kernel
theorem ix_238_1688 : lkp 1688 (mI mi_238) = some (false, .ireturn, 1689, 0, 1) := by decide +kernel
theorem ix_238_1689 : lkp 1689 (mI mi_238) = some (false, .aload_n 1, 1690, 1, 0) := by decide +kernel
theorem ix_238_1690 : lkp 1690 (mI mi_238) = some (false, .invokevirtual 201, 1693, 103, 176) := by decide +kernel
theorem ix_238_1693 : lkp 1693 (mI mi_238) = some (false, .aload_n 2, 1694, 2, 0) := by decide +kernel
theorem ix_238_1694 : lkp 1694 (mI mi_238) = some (false, .invokevirtual 204, 1697, 176, 192) := by decide +kernel
theorem ix_238_1697 : lkp 1697 (mI mi_238) = some (false, .if_icmp .eq 432, 1700, 0, 2129) := by decide +kernel
theorem ix_238_1700 : lkp 1700 (mI mi_238) = some (false, .iconst 0, 1701, 0, 0) := by decide +kernel
theorem ix_238_1701 : lkp 1701 (mI mi_238) = some (false, .ireturn, 1702, 0, 1) := by decide +kernel
theorem ix_238_1702 : lkp 1702 (mI mi_238) = some (false, .aload_n 1, 1703, 1, 0) := by decide +kernel
theorem ix_238_1703 : lkp 1703 (mI mi_238) = some (false, .aload_n 0, 1704, 0, 0) := by decide +kernel
theorem ix_238_1704 : lkp 1704 (mI mi_238) = some (false, .iload 5, 1706, 5, 0) := by decide +kernel
theorem ix_238_1706 : lkp 1706 (mI mi_238) = some (false, .iconst 1, 1707, 1, 0) := by decide +kernel
theorem ix_238_1707 : lkp 1707 (mI mi_238) = some (false, .iadd, 1708, 0, 0) := by decide +kernel
theorem ix_238_1708 : lkp 1708 (mI mi_238) = some (false, .iaload, 1709, 0, 0) := by decide +kernel
theorem ix_238_1709 : lkp 1709 (mI mi_238) = some (false, .aload_n 3, 1710, 3, 0) := by decide +kernel
theorem ix_238_1710 : lkp 1710 (mI mi_238) = some (false, .invokestatic 205, 1713, 232, 3) := by decide +kernel
theorem ix_238_1713 : lkp 1713 (mI mi_238) = some (false, .istore 6, 1715, 6, 0) := by decide +kernel
theorem ix_238_1715 : lkp 1715 (mI mi_238) = some (false, .aload_n 2, 1716, 2, 0) := by decide +kernel
theorem ix_238_1716 : lkp 1716 (mI mi_238) = some (false, .aload_n 0, 1717, 0, 0) := by decide +kernel
theorem ix_238_1717 : lkp 1717 (mI mi_238) = some (false, .iload 5, 1719, 5, 0) := by decide +kernel
theorem ix_238_1719 : lkp 1719 (mI mi_238) = some (false, .iconst 1, 1720, 1, 0) := by decide +kernel
theorem ix_238_1720 : lkp 1720 (mI mi_238) = some (false, .iadd, 1721, 0, 0) := by decide +kernel
theorem ix_238_1721 : lkp 1721 (mI mi_238) = some (false, .iaload, 1722, 0, 0) := by decide +kernel
theorem ix_238_1722 : lkp 1722 (mI mi_238) = some (false, .invokevirtual 207, 1725, 178, 193) := by decide +kernel
theorem ix_238_1725 : lkp 1725 (mI mi_238) = some (false, .istore 7, 1727, 7, 0) := by decide +kernel
theorem ix_238_1727 : lkp 1727 (mI mi_238) = some (false, .aload_n 2, 1728, 2, 0) := by decide +kernel
theorem ix_238_1728 : lkp 1728 (mI mi_238) = some (false, .invokevirtual 124, 1731, 125, 192) := by decide +kernel
theorem ix_238_1731 : lkp 1731 (mI mi_238) = some (false, .iload 6, 1733, 6, 0) := by decide +kernel
theorem ix_238_1733 : lkp 1733 (mI mi_238) = some (false, .if_icmp .eq 5, 1736, 0, 1738) := by decide +kernel
theorem ix_238_1736 : lkp 1736 (mI mi_238) = some (false, .iconst 0, 1737, 0, 0) := by decide +kernel
theorem ix_238_1737 : lkp 1737 (mI mi_238) = some (false, .ireturn, 1738, 0, 1) := by decide +kernel
theorem ix_238_1738 : lkp 1738 (mI mi_238) = some (false, .iload 6, 1740, 6, 0) := by decide +kernel
theorem ix_238_1740 : lkp 1740 (mI mi_238) = some (false, .ifCond .ne 15, 1743, 0, 1755) := by decide +kernel
theorem ix_238_1743 : lkp 1743 (mI mi_238) = some (false, .aload_n 3, 1744, 3, 0) := by decide +kernel
theorem ix_238_1744 : lkp 1744 (mI mi_238) = some (false, .iconst 0, 1745, 0, 0) := by decide +kernel
theorem ix_238_1745 : lkp 1745 (mI mi_238) = some (false, .laload, 1746, 0, 0) := by decide +kernel
theorem ix_238_1746 : lkp 1746 (mI mi_238) = some (false, .iload 7, 1748, 7, 0) := by decide +kernel
theorem ix_238_1748 : lkp 1748 (mI mi_238) = some (false, .i2l, 1749, 0, 0) := by decide +kernel
theorem ix_238_1749 : lkp 1749 (mI mi_238) = some (false, .lcmp, 1750, 0, 0) := by decide +kernel
theorem ix_238_1750 : lkp 1750 (mI mi_238) = some (false, .ifCond .eq 5, 1753, 0, 1755) := by decide +kernel
theorem ix_238_1753 : lkp 1753 (mI mi_238) = some (false, .iconst 0, 1754, 0, 0) := by decide +kernel
theorem ix_238_1754 : lkp 1754 (mI mi_238) = some (false, .ireturn, 1755, 0, 1) := by decide +kernel
theorem ix_238_1755 : lkp 1755 (mI mi_238) = some (false, .goto 374, 1758, 0, 2129) := by decide +kernel
theorem ix_238_1758 : lkp 1758 (mI mi_238) = some (false, .aload_n 1, 1759, 1, 0) := by decide +kernel
theorem ix_238_1759 : lkp 1759 (mI mi_238) = some (false, .aload_n 0, 1760, 0, 0) := by decide +kernel
theorem ix_238_1760 : lkp 1760 (mI mi_238) = some (false, .iload 5, 1762, 5, 0) := by decide +kernel
theorem ix_238_1762 : lkp 1762 (mI mi_238) = some (false, .iconst 1, 1763, 1, 0) := by decide +kernel
theorem ix_238_1763 : lkp 1763 (mI mi_238) = some (false, .iadd, 1764, 0, 0) := by decide +kernel
theorem ix_238_1764 : lkp 1764 (mI mi_238) = some (false, .iaload, 1765, 0, 0) := by decide +kernel
theorem ix_238_1765 : lkp 1765 (mI mi_238) = some (false, .aload_n 3, 1766, 3, 0) := by decide +kernel
theorem ix_238_1766 : lkp 1766 (mI mi_238) = some (false, .invokestatic 208, 1769, 233, 3) := by decide +kernel
theorem ix_238_1769 : lkp 1769 (mI mi_238) = some (false, .istore 6, 1771, 6, 0) := by decide +kernel
theorem ix_238_1771 : lkp 1771 (mI mi_238) = some (false, .aload_n 2, 1772, 2, 0) := by decide +kernel
theorem ix_238_1772 : lkp 1772 (mI mi_238) = some (false, .aload_n 0, 1773, 0, 0) := by decide +kernel
theorem ix_238_1773 : lkp 1773 (mI mi_238) = some (false, .iload 5, 1775, 5, 0) := by decide +kernel
theorem ix_238_1775 : lkp 1775 (mI mi_238) = some (false, .iconst 1, 1776, 1, 0) := by decide +kernel
theorem ix_238_1776 : lkp 1776 (mI mi_238) = some (false, .iadd, 1777, 0, 0) := by decide +kernel
theorem ix_238_1777 : lkp 1777 (mI mi_238) = some (false, .iaload, 1778, 0, 0) := by decide +kernel
theorem ix_238_1778 : lkp 1778 (mI mi_238) = some (false, .invokevirtual 210, 1781, 179, 193) := by decide +kernel
theorem ix_238_1781 : lkp 1781 (mI mi_238) = some (false, .istore 7, 1783, 7, 0) := by decide +kernel
theorem ix_238_1783 : lkp 1783 (mI mi_238) = some (false, .aload_n 2, 1784, 2, 0) := by decide +kernel
theorem ix_238_1784 : lkp 1784 (mI mi_238) = some (false, .invokevirtual 124, 1787, 125, 192) := by decide +kernel
theorem ix_238_1787 : lkp 1787 (mI mi_238) = some (false, .iload 6, 1789, 6, 0) := by decide +kernel
theorem ix_238_1789 : lkp 1789 (mI mi_238) = some (false, .if_icmp .eq 5, 1792, 0, 1794) := by decide +kernel
theorem ix_238_1792 : lkp 1792 (mI mi_238) = some (false, .iconst 0, 1793, 0, 0) := by decide +kernel
theorem ix_238_1793 : lkp 1793 (mI mi_238) = some (false, .ireturn, 1794, 0, 1) := by decide +kernel
theorem ix_238_1794 : lkp 1794 (mI mi_238) = some (false, .iload 6, 1796, 6, 0) := by decide +kernel
theorem ix_238_1796 : lkp 1796 (mI mi_238) = some (false, .ifCond .ne 15, 1799, 0, 1811) := by decide +kernel
theorem ix_238_1799 : lkp 1799 (mI mi_238) = some (false, .aload_n 3, 1800, 3, 0) := by decide +kernel
theorem ix_238_1800 : lkp 1800 (mI mi_238) = some (false, .iconst 0, 1801, 0, 0) := by decide +kernel
theorem ix_238_1801 : lkp 1801 (mI mi_238) = some (false, .laload, 1802, 0, 0) := by decide +kernel
theorem ix_238_1802 : lkp 1802 (mI mi_238) = some (false, .iload 7, 1804, 7, 0) := by decide +kernel
theorem ix_238_1804 : lkp 1804 (mI mi_238) = some (false, .i2l, 1805, 0, 0) := by decide +kernel
theorem ix_238_1805 : lkp 1805 (mI mi_238) = some (false, .lcmp, 1806, 0, 0) := by decide +kernel
theorem ix_238_1806 : lkp 1806 (mI mi_238) = some (false, .ifCond .eq 5, 1809, 0, 1811) := by decide +kernel
theorem ix_238_1809 : lkp 1809 (mI mi_238) = some (false, .iconst 0, 1810, 0, 0) := by decide +kernel
theorem ix_238_1810 : lkp 1810 (mI mi_238) = some (false, .ireturn, 1811, 0, 1) := by decide +kernel
theorem ix_238_1811 : lkp 1811 (mI mi_238) = some (false, .goto 318, 1814, 0, 2129) := by decide +kernel
theorem ix_238_1814 : lkp 1814 (mI mi_238) = some (false, .aload_n 1, 1815, 1, 0) := by decide +kernel
theorem ix_238_1815 : lkp 1815 (mI mi_238) = some (false, .invokevirtual 211, 1818, 106, 176) := by decide +kernel
theorem ix_238_1818 : lkp 1818 (mI mi_238) = some (false, .aload_n 2, 1819, 2, 0) := by decide +kernel
theorem ix_238_1819 : lkp 1819 (mI mi_238) = some (false, .invokevirtual 214, 1822, 180, 192) := by decide +kernel
theorem ix_238_1822 : lkp 1822 (mI mi_238) = some (false, .if_icmp .eq 307, 1825, 0, 2129) := by decide +kernel
theorem ix_238_1825 : lkp 1825 (mI mi_238) = some (false, .iconst 0, 1826, 0, 0) := by decide +kernel
theorem ix_238_1826 : lkp 1826 (mI mi_238) = some (false, .ireturn, 1827, 0, 1) := by decide +kernel
theorem ix_238_1827 : lkp 1827 (mI mi_238) = some (false, .aload_n 1, 1828, 1, 0) := by decide +kernel
theorem ix_238_1828 : lkp 1828 (mI mi_238) = some (false, .invokevirtual 215, 1831, 107, 176) := by decide +kernel
theorem ix_238_1831 : lkp 1831 (mI mi_238) = some (false, .aload_n 2, 1832, 2, 0) := by decide +kernel
theorem ix_238_1832 : lkp 1832 (mI mi_238) = some (false, .invokevirtual 218, 1835, 181, 192) := by decide +kernel
theorem ix_238_1835 : lkp 1835 (mI mi_238) = some (false, .if_icmp .eq 294, 1838, 0, 2129) := by decide +kernel
theorem ix_238_1838 : lkp 1838 (mI mi_238) = some (false, .iconst 0, 1839, 0, 0) := by decide +kernel
theorem ix_238_1839 : lkp 1839 (mI mi_238) = some (false, .ireturn, 1840, 0, 1) := by decide +kernel
theorem ix_238_1840 : lkp 1840 (mI mi_238) = some (false, .aload_n 1, 1841, 1, 0) := by decide +kernel
theorem ix_238_1841 : lkp 1841 (mI mi_238) = some (false, .aload_n 3, 1842, 3, 0) := by decide +kernel
theorem ix_238_1842 : lkp 1842 (mI mi_238) = some (false, .invokestatic 219, 1845, 234, 2) := by decide +kernel
theorem ix_238_1845 : lkp 1845 (mI mi_238) = some (false, .istore 6, 1847, 6, 0) := by decide +kernel
theorem ix_238_1847 : lkp 1847 (mI mi_238) = some (false, .aload_n 2, 1848, 2, 0) := by decide +kernel
theorem ix_238_1848 : lkp 1848 (mI mi_238) = some (false, .invokevirtual 222, 1851, 182, 192) := by decide +kernel
theorem ix_238_1851 : lkp 1851 (mI mi_238) = some (false, .istore 7, 1853, 7, 0) := by decide +kernel
theorem ix_238_1853 : lkp 1853 (mI mi_238) = some (false, .aload_n 2, 1854, 2, 0) := by decide +kernel
theorem ix_238_1854 : lkp 1854 (mI mi_238) = some (false, .invokevirtual 124, 1857, 125, 192) := by decide +kernel
theorem ix_238_1857 : lkp 1857 (mI mi_238) = some (false, .iload 6, 1859, 6, 0) := by decide +kernel
theorem ix_238_1859 : lkp 1859 (mI mi_238) = some (false, .if_icmp .eq 5, 1862, 0, 1864) := by decide +kernel
theorem ix_238_1862 : lkp 1862 (mI mi_238) = some (false, .iconst 0, 1863, 0, 0) := by decide +kernel
theorem ix_238_1863 : lkp 1863 (mI mi_238) = some (false, .ireturn, 1864, 0, 1) := by decide +kernel
theorem ix_238_1864 : lkp 1864 (mI mi_238) = some (false, .iload 6, 1866, 6, 0) := by decide +kernel
theorem ix_238_1866 : lkp 1866 (mI mi_238) = some (false, .ifCond .ne 15, 1869, 0, 1881) := by decide +kernel
theorem ix_238_1869 : lkp 1869 (mI mi_238) = some (false, .aload_n 3, 1870, 3, 0) := by decide +kernel
theorem ix_238_1870 : lkp 1870 (mI mi_238) = some (false, .iconst 0, 1871, 0, 0) := by decide +kernel
theorem ix_238_1871 : lkp 1871 (mI mi_238) = some (false, .laload, 1872, 0, 0) := by decide +kernel
theorem ix_238_1872 : lkp 1872 (mI mi_238) = some (false, .iload 7, 1874, 7, 0) := by decide +kernel
theorem ix_238_1874 : lkp 1874 (mI mi_238) = some (false, .i2l, 1875, 0, 0) := by decide +kernel
theorem ix_238_1875 : lkp 1875 (mI mi_238) = some (false, .lcmp, 1876, 0, 0) := by decide +kernel
theorem ix_238_1876 : lkp 1876 (mI mi_238) = some (false, .ifCond .eq 5, 1879, 0, 1881) := by decide +kernel
theorem ix_238_1879 : lkp 1879 (mI mi_238) = some (false, .iconst 0, 1880, 0, 0) := by decide +kernel
theorem ix_238_1880 : lkp 1880 (mI mi_238) = some (false, .ireturn, 1881, 0, 1) := by decide +kernel
theorem ix_238_1881 : lkp 1881 (mI mi_238) = some (false, .goto 248, 1884, 0, 2129) := by decide +kernel
theorem ix_238_1884 : lkp 1884 (mI mi_238) = some (false, .aload_n 1, 1885, 1, 0) := by decide +kernel
theorem ix_238_1885 : lkp 1885 (mI mi_238) = some (false, .aload_n 0, 1886, 0, 0) := by decide +kernel
theorem ix_238_1886 : lkp 1886 (mI mi_238) = some (false, .iload 5, 1888, 5, 0) := by decide +kernel
theorem ix_238_1888 : lkp 1888 (mI mi_238) = some (false, .iconst 1, 1889, 1, 0) := by decide +kernel
theorem ix_238_1889 : lkp 1889 (mI mi_238) = some (false, .iadd, 1890, 0, 0) := by decide +kernel
theorem ix_238_1890 : lkp 1890 (mI mi_238) = some (false, .iaload, 1891, 0, 0) := by decide +kernel
theorem ix_238_1891 : lkp 1891 (mI mi_238) = some (false, .aload_n 3, 1892, 3, 0) := by decide +kernel
theorem ix_238_1892 : lkp 1892 (mI mi_238) = some (false, .invokestatic 223, 1895, 235, 3) := by decide +kernel
theorem ix_238_1895 : lkp 1895 (mI mi_238) = some (false, .istore 6, 1897, 6, 0) := by decide +kernel
theorem ix_238_1897 : lkp 1897 (mI mi_238) = some (false, .aload_n 2, 1898, 2, 0) := by decide +kernel
theorem ix_238_1898 : lkp 1898 (mI mi_238) = some (false, .aload_n 0, 1899, 0, 0) := by decide +kernel
theorem ix_238_1899 : lkp 1899 (mI mi_238) = some (false, .iload 5, 1901, 5, 0) := by decide +kernel
theorem ix_238_1901 : lkp 1901 (mI mi_238) = some (false, .iconst 1, 1902, 1, 0) := by decide +kernel
theorem ix_238_1902 : lkp 1902 (mI mi_238) = some (false, .iadd, 1903, 0, 0) := by decide +kernel
theorem ix_238_1903 : lkp 1903 (mI mi_238) = some (false, .iaload, 1904, 0, 0) := by decide +kernel
theorem ix_238_1904 : lkp 1904 (mI mi_238) = some (false, .invokevirtual 225, 1907, 184, 193) := by decide +kernel
theorem ix_238_1907 : lkp 1907 (mI mi_238) = some (false, .istore 7, 1909, 7, 0) := by decide +kernel
theorem ix_238_1909 : lkp 1909 (mI mi_238) = some (false, .aload_n 2, 1910, 2, 0) := by decide +kernel
theorem ix_238_1910 : lkp 1910 (mI mi_238) = some (false, .invokevirtual 124, 1913, 125, 192) := by decide +kernel
theorem ix_238_1913 : lkp 1913 (mI mi_238) = some (false, .iload 6, 1915, 6, 0) := by decide +kernel
theorem ix_238_1915 : lkp 1915 (mI mi_238) = some (false, .if_icmp .eq 5, 1918, 0, 1920) := by decide +kernel
theorem ix_238_1918 : lkp 1918 (mI mi_238) = some (false, .iconst 0, 1919, 0, 0) := by decide +kernel
theorem ix_238_1919 : lkp 1919 (mI mi_238) = some (false, .ireturn, 1920, 0, 1) := by decide +kernel
theorem ix_238_1920 : lkp 1920 (mI mi_238) = some (false, .iload 6, 1922, 6, 0) := by decide +kernel
theorem ix_238_1922 : lkp 1922 (mI mi_238) = some (false, .ifCond .ne 15, 1925, 0, 1937) := by decide +kernel
theorem ix_238_1925 : lkp 1925 (mI mi_238) = some (false, .aload_n 3, 1926, 3, 0) := by decide +kernel
theorem ix_238_1926 : lkp 1926 (mI mi_238) = some (false, .iconst 0, 1927, 0, 0) := by decide +kernel
theorem ix_238_1927 : lkp 1927 (mI mi_238) = some (false, .laload, 1928, 0, 0) := by decide +kernel
theorem ix_238_1928 : lkp 1928 (mI mi_238) = some (false, .iload 7, 1930, 7, 0) := by decide +kernel
theorem ix_238_1930 : lkp 1930 (mI mi_238) = some (false, .i2l, 1931, 0, 0) := by decide +kernel
theorem ix_238_1931 : lkp 1931 (mI mi_238) = some (false, .lcmp, 1932, 0, 0) := by decide +kernel
theorem ix_238_1932 : lkp 1932 (mI mi_238) = some (false, .ifCond .eq 5, 1935, 0, 1937) := by decide +kernel
theorem ix_238_1935 : lkp 1935 (mI mi_238) = some (false, .iconst 0, 1936, 0, 0) := by decide +kernel
theorem ix_238_1936 : lkp 1936 (mI mi_238) = some (false, .ireturn, 1937, 0, 1) := by decide +kernel
theorem ix_238_1937 : lkp 1937 (mI mi_238) = some (false, .goto 192, 1940, 0, 2129) := by decide +kernel
theorem ix_238_1940 : lkp 1940 (mI mi_238) = some (false, .aload_n 1, 1941, 1, 0) := by decide +kernel
theorem ix_238_1941 : lkp 1941 (mI mi_238) = some (false, .aload_n 0, 1942, 0, 0) := by decide +kernel
theorem ix_238_1942 : lkp 1942 (mI mi_238) = some (false, .iload 5, 1944, 5, 0) := by decide +kernel
theorem ix_238_1944 : lkp 1944 (mI mi_238) = some (false, .iconst 1, 1945, 1, 0) := by decide +kernel
theorem ix_238_1945 : lkp 1945 (mI mi_238) = some (false, .iadd, 1946, 0, 0) := by decide +kernel
theorem ix_238_1946 : lkp 1946 (mI mi_238) = some (false, .iaload, 1947, 0, 0) := by decide +kernel
theorem ix_238_1947 : lkp 1947 (mI mi_238) = some (false, .aload_n 3, 1948, 3, 0) := by decide +kernel
theorem ix_238_1948 : lkp 1948 (mI mi_238) = some (false, .invokestatic 226, 1951, 236, 3) := by decide +kernel
theorem ix_238_1951 : lkp 1951 (mI mi_238) = some (false, .istore 6, 1953, 6, 0) := by decide +kernel
theorem ix_238_1953 : lkp 1953 (mI mi_238) = some (false, .aload_n 2, 1954, 2, 0) := by decide +kernel
theorem ix_238_1954 : lkp 1954 (mI mi_238) = some (false, .aload_n 0, 1955, 0, 0) := by decide +kernel
theorem ix_238_1955 : lkp 1955 (mI mi_238) = some (false, .iload 5, 1957, 5, 0) := by decide +kernel
theorem ix_238_1957 : lkp 1957 (mI mi_238) = some (false, .iconst 1, 1958, 1, 0) := by decide +kernel
theorem ix_238_1958 : lkp 1958 (mI mi_238) = some (false, .iadd, 1959, 0, 0) := by decide +kernel
theorem ix_238_1959 : lkp 1959 (mI mi_238) = some (false, .iaload, 1960, 0, 0) := by decide +kernel
theorem ix_238_1960 : lkp 1960 (mI mi_238) = some (false, .invokevirtual 228, 1963, 185, 193) := by decide +kernel
theorem ix_238_1963 : lkp 1963 (mI mi_238) = some (false, .lstore 7, 1965, 7, 0) := by decide +kernel
theorem ix_238_1965 : lkp 1965 (mI mi_238) = some (false, .aload_n 2, 1966, 2, 0) := by decide +kernel
theorem ix_238_1966 : lkp 1966 (mI mi_238) = some (false, .invokevirtual 124, 1969, 125, 192) := by decide +kernel
theorem ix_238_1969 : lkp 1969 (mI mi_238) = some (false, .iload 6, 1971, 6, 0) := by decide +kernel
theorem ix_238_1971 : lkp 1971 (mI mi_238) = some (false, .if_icmp .eq 5, 1974, 0, 1976) := by decide +kernel
theorem ix_238_1974 : lkp 1974 (mI mi_238) = some (false, .iconst 0, 1975, 0, 0) := by decide +kernel
theorem ix_238_1975 : lkp 1975 (mI mi_238) = some (false, .ireturn, 1976, 0, 1) := by decide +kernel
theorem ix_238_1976 : lkp 1976 (mI mi_238) = some (false, .iload 6, 1978, 6, 0) := by decide +kernel
theorem ix_238_1978 : lkp 1978 (mI mi_238) = some (false, .ifCond .ne 14, 1981, 0, 1992) := by decide +kernel
theorem ix_238_1981 : lkp 1981 (mI mi_238) = some (false, .aload_n 3, 1982, 3, 0) := by decide +kernel
theorem ix_238_1982 : lkp 1982 (mI mi_238) = some (false, .iconst 0, 1983, 0, 0) := by decide +kernel
theorem ix_238_1983 : lkp 1983 (mI mi_238) = some (false, .laload, 1984, 0, 0) := by decide +kernel
theorem ix_238_1984 : lkp 1984 (mI mi_238) = some (false, .lload 7, 1986, 7, 0) := by decide +kernel
theorem ix_238_1986 : lkp 1986 (mI mi_238) = some (false, .lcmp, 1987, 0, 0) := by decide +kernel
theorem ix_238_1987 : lkp 1987 (mI mi_238) = some (false, .ifCond .eq 5, 1990, 0, 1992) := by decide +kernel
theorem ix_238_1990 : lkp 1990 (mI mi_238) = some (false, .iconst 0, 1991, 0, 0) := by decide +kernel
theorem ix_238_1991 : lkp 1991 (mI mi_238) = some (false, .ireturn, 1992, 0, 1) := by decide +kernel
theorem ix_238_1992 : lkp 1992 (mI mi_238) = some (false, .goto 137, 1995, 0, 2129) := by decide +kernel
theorem ix_238_1995 : lkp 1995 (mI mi_238) = some (false, .aload_n 1, 1996, 1, 0) := by decide +kernel
theorem ix_238_1996 : lkp 1996 (mI mi_238) = some (false, .invokevirtual 229, 1999, 111, 176) := by decide +kernel
theorem ix_238_1999 : lkp 1999 (mI mi_238) = some (false, .aload_n 2, 2000, 2, 0) := by decide +kernel
theorem ix_238_2000 : lkp 2000 (mI mi_238) = some (false, .invokevirtual 233, 2003, 187, 192) := by decide +kernel
theorem ix_238_2003 : lkp 2003 (mI mi_238) = some (false, .lcmp, 2004, 0, 0) := by decide +kernel
theorem ix_238_2004 : lkp 2004 (mI mi_238) = some (false, .ifCond .eq 125, 2007, 0, 2129) := by decide +kernel
theorem ix_238_2007 : lkp 2007 (mI mi_238) = some (false, .iconst 0, 2008, 0, 0) := by decide +kernel
theorem ix_238_2008 : lkp 2008 (mI mi_238) = some (false, .ireturn, 2009, 0, 1) := by decide +kernel
theorem ix_238_2009 : lkp 2009 (mI mi_238) = some (false, .aload_n 1, 2010, 1, 0) := by decide +kernel
theorem ix_238_2010 : lkp 2010 (mI mi_238) = some (false, .aload 4, 2012, 4, 0) := by decide +kernel
theorem ix_238_2012 : lkp 2012 (mI mi_238) = some (false, .invokestatic 234, 2015, 237, 2) := by decide +kernel
theorem ix_238_2015 : lkp 2015 (mI mi_238) = some (false, .istore 6, 2017, 6, 0) := by decide +kernel
theorem ix_238_2017 : lkp 2017 (mI mi_238) = some (false, .aload_n 2, 2018, 2, 0) := by decide +kernel
theorem ix_238_2018 : lkp 2018 (mI mi_238) = some (false, .invokevirtual 237, 2021, 188, 192) := by decide +kernel
theorem ix_238_2021 : lkp 2021 (mI mi_238) = some (false, .fstore 7, 2023, 7, 0) := by decide +kernel
theorem ix_238_2023 : lkp 2023 (mI mi_238) = some (false, .aload_n 2, 2024, 2, 0) := by decide +kernel
theorem ix_238_2024 : lkp 2024 (mI mi_238) = some (false, .invokevirtual 124, 2027, 125, 192) := by decide +kernel
theorem ix_238_2027 : lkp 2027 (mI mi_238) = some (false, .iload 6, 2029, 6, 0) := by decide +kernel
theorem ix_238_2029 : lkp 2029 (mI mi_238) = some (false, .if_icmp .eq 5, 2032, 0, 2034) := by decide +kernel
theorem ix_238_2032 : lkp 2032 (mI mi_238) = some (false, .iconst 0, 2033, 0, 0) := by decide +kernel
theorem ix_238_2033 : lkp 2033 (mI mi_238) = some (false, .ireturn, 2034, 0, 1) := by decide +kernel
theorem ix_238_2034 : lkp 2034 (mI mi_238) = some (false, .iload 6, 2036, 6, 0) := by decide +kernel
theorem ix_238_2036 : lkp 2036 (mI mi_238) = some (false, .ifCond .ne 36, 2039, 0, 2072) := by decide +kernel
theorem ix_238_2039 : lkp 2039 (mI mi_238) = some (false, .aload 4, 2041, 4, 0) := by decide +kernel
theorem ix_238_2041 : lkp 2041 (mI mi_238) = some (false, .iconst 0, 2042, 0, 0) := by decide +kernel
theorem ix_238_2042 : lkp 2042 (mI mi_238) = some (false, .daload, 2043, 0, 0) := by decide +kernel
theorem ix_238_2043 : lkp 2043 (mI mi_238) = some (false, .fload 7, 2045, 7, 0) := by decide +kernel
theorem ix_238_2045 : lkp 2045 (mI mi_238) = some (false, .f2d, 2046, 0, 0) := by decide +kernel
theorem ix_238_2046 : lkp 2046 (mI mi_238) = some (false, .dcmp .l, 2047, 0, 0) := by decide +kernel
theorem ix_238_2047 : lkp 2047 (mI mi_238) = some (false, .ifCond .eq 25, 2050, 0, 2072) := by decide +kernel
theorem ix_238_2050 : lkp 2050 (mI mi_238) = some (false, .aload 4, 2052, 4, 0) := by decide +kernel
theorem ix_238_2052 : lkp 2052 (mI mi_238) = some (false, .iconst 0, 2053, 0, 0) := by decide +kernel
theorem ix_238_2053 : lkp 2053 (mI mi_238) = some (false, .daload, 2054, 0, 0) := by decide +kernel
theorem ix_238_2054 : lkp 2054 (mI mi_238) = some (false, .aload 4, 2056, 4, 0) := by decide +kernel
theorem ix_238_2056 : lkp 2056 (mI mi_238) = some (false, .iconst 0, 2057, 0, 0) := by decide +kernel
theorem ix_238_2057 : lkp 2057 (mI mi_238) = some (false, .daload, 2058, 0, 0) := by decide +kernel
theorem ix_238_2058 : lkp 2058 (mI mi_238) = some (false, .dcmp .l, 2059, 0, 0) := by decide +kernel
theorem ix_238_2059 : lkp 2059 (mI mi_238) = some (false, .ifCond .eq 11, 2062, 0, 2070) := by decide +kernel
theorem ix_238_2062 : lkp 2062 (mI mi_238) = some (false, .fload 7, 2064, 7, 0) := by decide +kernel
theorem ix_238_2064 : lkp 2064 (mI mi_238) = some (false, .fload 7, 2066, 7, 0) := by decide +kernel
theorem ix_238_2066 : lkp 2066 (mI mi_238) = some (false, .fcmp .l, 2067, 0, 0) := by decide +kernel
theorem ix_238_2067 : lkp 2067 (mI mi_238) = some (false, .ifCond .ne 5, 2070, 0, 2072) := by decide +kernel
theorem ix_238_2070 : lkp 2070 (mI mi_238) = some (false, .iconst 0, 2071, 0, 0) := by decide +kernel
theorem ix_238_2071 : lkp 2071 (mI mi_238) = some (false, .ireturn, 2072, 0, 1) := by decide +kernel
theorem ix_238_2072 : lkp 2072 (mI mi_238) = some (false, .goto 57, 2075, 0, 2129) := by decide +kernel
theorem ix_238_2075 : lkp 2075 (mI mi_238) = some (false, .aload_n 1, 2076, 1, 0) := by decide +kernel
theorem ix_238_2076 : lkp 2076 (mI mi_238) = some (false, .invokevirtual 238, 2079, 113, 176) := by decide +kernel
theorem ix_238_2079 : lkp 2079 (mI mi_238) = some (false, .dstore 6, 2081, 6, 0) := by decide +kernel
theorem ix_238_2081 : lkp 2081 (mI mi_238) = some (false, .aload_n 2, 2082, 2, 0) := by decide +kernel
theorem ix_238_2082 : lkp 2082 (mI mi_238) = some (false, .invokevirtual 242, 2085, 189, 192) := by decide +kernel
theorem ix_238_2085 : lkp 2085 (mI mi_238) = some (false, .dstore 8, 2087, 8, 0) := by decide +kernel
theorem ix_238_2087 : lkp 2087 (mI mi_238) = some (false, .dload 6, 2089, 6, 0) := by decide +kernel
theorem ix_238_2089 : lkp 2089 (mI mi_238) = some (false, .dload 8, 2091, 8, 0) := by decide +kernel
theorem ix_238_2091 : lkp 2091 (mI mi_238) = some (false, .dcmp .l, 2092, 0, 0) := by decide +kernel
theorem ix_238_2092 : lkp 2092 (mI mi_238) = some (false, .ifCond .eq 21, 2095, 0, 2113) := by decide +kernel
theorem ix_238_2095 : lkp 2095 (mI mi_238) = some (false, .dload 6, 2097, 6, 0) := by decide +kernel
theorem ix_238_2097 : lkp 2097 (mI mi_238) = some (false, .dload 6, 2099, 6, 0) := by decide +kernel
theorem ix_238_2099 : lkp 2099 (mI mi_238) = some (false, .dcmp .l, 2100, 0, 0) := by decide +kernel
theorem ix_238_2100 : lkp 2100 (mI mi_238) = some (false, .ifCond .eq 11, 2103, 0, 2111) := by decide +kernel
theorem ix_238_2103 : lkp 2103 (mI mi_238) = some (false, .dload 8, 2105, 8, 0) := by decide +kernel
theorem ix_238_2105 : lkp 2105 (mI mi_238) = some (false, .dload 8, 2107, 8, 0) := by decide +kernel
theorem ix_238_2107 : lkp 2107 (mI mi_238) = some (false, .dcmp .l, 2108, 0, 0) := by decide +kernel
theorem ix_238_2108 : lkp 2108 (mI mi_238) = some (false, .ifCond .ne 5, 2111, 0, 2113) := by decide +kernel
theorem ix_238_2111 : lkp 2111 (mI mi_238) = some (false, .iconst 0, 2112, 0, 0) := by decide +kernel
theorem ix_238_2112 : lkp 2112 (mI mi_238) = some (false, .ireturn, 2113, 0, 1) := by decide +kernel
theorem ix_238_2113 : lkp 2113 (mI mi_238) = some (false, .goto 16, 2116, 0, 2129) := by decide +kernel
theorem ix_238_2116 : lkp 2116 (mI mi_238) = some (false, .aload_n 1, 2117, 1, 0) := by decide +kernel
theorem ix_238_2117 : lkp 2117 (mI mi_238) = some (false, .invokevirtual 243, 2120, 114, 176) := by decide +kernel
theorem ix_238_2120 : lkp 2120 (mI mi_238) = some (false, .aload_n 2, 2121, 2, 0) := by decide +kernel
theorem ix_238_2121 : lkp 2121 (mI mi_238) = some (false, .invokevirtual 247, 2124, 190, 192) := by decide +kernel
theorem ix_238_2124 : lkp 2124 (mI mi_238) = some (false, .if_icmp .eq 5, 2127, 0, 2129) := by decide +kernel
theorem ix_238_2127 : lkp 2127 (mI mi_238) = some (false, .iconst 0, 2128, 0, 0) := by decide +kernel
theorem ix_238_2128 : lkp 2128 (mI mi_238) = some (false, .ireturn, 2129, 0, 1) := by decide +kernel
theorem ix_238_2129 : lkp 2129 (mI mi_238) = some (false, .iinc 5 6, 2132, 5, 12) := by decide +kernel
theorem ix_238_2132 : lkp 2132 (mI mi_238) = some (false, .goto (-2104), 2135, 0, 28) := by decide +kernel
theorem ix_238_2135 : lkp 2135 (mI mi_238) = some (false, .iconst 1, 2136, 1, 0) := by decide +kernel
theorem ix_238_2136 : lkp 2136 (mI mi_238) = some (false, .ireturn, 2137, 0, 1) := by decide +kernel
