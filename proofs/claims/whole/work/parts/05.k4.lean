theorem k194_4 : mm_at 194 4 = some (.iconst 0, 5, 0, .int (0)) := by decide +kernel
theorem k194_5 : mm_at 194 5 = some (.istore_n 1, 6, 1, .null) := by decide +kernel
theorem k194_6 : mm_at 194 6 = some (.iload_n 1, 7, 1, .null) := by decide +kernel
theorem k194_7 : mm_at 194 7 = some (.bipush 8, 9, 0, .int (8)) := by decide +kernel
theorem k194_9 : mm_at 194 9 = some (.if_icmp .ge 48, 12, 57, .null) := by decide +kernel
theorem k194_12 : mm_at 194 12 = some (.aload_n 0, 13, 0, .null) := by decide +kernel
theorem k194_13 : mm_at 194 13 = some (.getfield 9, 16, 1200, .null) := by decide +kernel
theorem k194_16 : mm_at 194 16 = some (.iconst 4, 17, 0, .int (4)) := by decide +kernel
theorem k194_17 : mm_at 194 17 = some (.aload_n 0, 18, 0, .null) := by decide +kernel
theorem k194_18 : mm_at 194 18 = some (.iload_n 1, 19, 1, .null) := by decide +kernel
theorem k194_19 : mm_at 194 19 = some (.invokevirtual 189, 22, 260, .null) := by decide +kernel
theorem k194_22 : mm_at 194 22 = some (.ifCond .eq 16, 25, 38, .null) := by decide +kernel
theorem k194_25 : mm_at 194 25 = some (.aload_n 0, 26, 0, .null) := by decide +kernel
theorem k194_26 : mm_at 194 26 = some (.getfield 9, 29, 1200, .null) := by decide +kernel
theorem k194_29 : mm_at 194 29 = some (.iconst 4, 30, 0, .int (4)) := by decide +kernel
theorem k194_30 : mm_at 194 30 = some (.iaload, 31, 0, .null) := by decide +kernel
theorem k194_31 : mm_at 194 31 = some (.iconst 1, 32, 0, .int (1)) := by decide +kernel
theorem k194_32 : mm_at 194 32 = some (.iload_n 1, 33, 1, .null) := by decide +kernel
theorem k194_33 : mm_at 194 33 = some (.ishl, 34, 0, .null) := by decide +kernel
theorem k194_34 : mm_at 194 34 = some (.ior, 35, 0, .null) := by decide +kernel
theorem k194_35 : mm_at 194 35 = some (.goto 15, 38, 50, .null) := by decide +kernel
theorem k194_38 : mm_at 194 38 = some (.aload_n 0, 39, 0, .null) := by decide +kernel
theorem k194_39 : mm_at 194 39 = some (.getfield 9, 42, 1200, .null) := by decide +kernel
theorem k194_42 : mm_at 194 42 = some (.iconst 4, 43, 0, .int (4)) := by decide +kernel
theorem k194_43 : mm_at 194 43 = some (.iaload, 44, 0, .null) := by decide +kernel
theorem k194_44 : mm_at 194 44 = some (.iconst 1, 45, 0, .int (1)) := by decide +kernel
theorem k194_45 : mm_at 194 45 = some (.iload_n 1, 46, 1, .null) := by decide +kernel
theorem k194_46 : mm_at 194 46 = some (.ishl, 47, 0, .null) := by decide +kernel
theorem k194_47 : mm_at 194 47 = some (.iconst (-1), 48, 0, .int (-1)) := by decide +kernel
theorem k194_48 : mm_at 194 48 = some (.ixor, 49, 0, .null) := by decide +kernel
theorem k194_49 : mm_at 194 49 = some (.iand, 50, 0, .null) := by decide +kernel
theorem k194_50 : mm_at 194 50 = some (.iastore, 51, 0, .null) := by decide +kernel
theorem k194_51 : mm_at 194 51 = some (.iinc 1 1, 54, 1, .int (1)) := by decide +kernel
theorem k194_54 : mm_at 194 54 = some (.goto (-48), 57, 6, .null) := by decide +kernel
theorem k194_57 : mm_at 194 57 = some (.iconst 0, 58, 0, .int (0)) := by decide +kernel
theorem k194_58 : mm_at 194 58 = some (.istore_n 1, 59, 1, .null) := by decide +kernel
theorem k194_59 : mm_at 194 59 = some (.iload_n 1, 60, 1, .null) := by decide +kernel
theorem k194_60 : mm_at 194 60 = some (.aload_n 0, 61, 0, .null) := by decide +kernel
theorem k194_61 : mm_at 194 61 = some (.getfield 9, 64, 1200, .null) := by decide +kernel
theorem k194_64 : mm_at 194 64 = some (.iconst 2, 65, 0, .int (2)) := by decide +kernel
theorem k194_65 : mm_at 194 65 = some (.iaload, 66, 0, .null) := by decide +kernel
theorem k194_66 : mm_at 194 66 = some (.if_icmp .ge 46, 69, 112, .null) := by decide +kernel
theorem k194_69 : mm_at 194 69 = some (.aload_n 0, 70, 0, .null) := by decide +kernel
theorem k194_70 : mm_at 194 70 = some (.iload_n 1, 71, 1, .null) := by decide +kernel
theorem k194_71 : mm_at 194 71 = some (.iconst 3, 72, 0, .int (3)) := by decide +kernel
theorem k194_72 : mm_at 194 72 = some (.invokevirtual 55, 75, 226, .null) := by decide +kernel
theorem k194_75 : mm_at 194 75 = some (.istore_n 2, 76, 2, .null) := by decide +kernel
theorem k194_76 : mm_at 194 76 = some (.aload_n 0, 77, 0, .null) := by decide +kernel
theorem k194_77 : mm_at 194 77 = some (.getfield 9, 80, 1200, .null) := by decide +kernel
theorem k194_80 : mm_at 194 80 = some (.bipush 7, 82, 0, .int (7)) := by decide +kernel
theorem k194_82 : mm_at 194 82 = some (.iconst 4, 83, 0, .int (4)) := by decide +kernel
theorem k194_83 : mm_at 194 83 = some (.iload_n 1, 84, 1, .null) := by decide +kernel
theorem k194_84 : mm_at 194 84 = some (.imul, 85, 0, .null) := by decide +kernel
theorem k194_85 : mm_at 194 85 = some (.iadd, 86, 0, .null) := by decide +kernel
theorem k194_86 : mm_at 194 86 = some (.iconst 3, 87, 0, .int (3)) := by decide +kernel
theorem k194_87 : mm_at 194 87 = some (.iadd, 88, 0, .null) := by decide +kernel
theorem k194_88 : mm_at 194 88 = some (.aload_n 0, 89, 0, .null) := by decide +kernel
theorem k194_89 : mm_at 194 89 = some (.iload_n 1, 90, 1, .null) := by decide +kernel
theorem k194_90 : mm_at 194 90 = some (.invokevirtual 105, 93, 240, .null) := by decide +kernel
theorem k194_93 : mm_at 194 93 = some (.ifCond .lt 11, 96, 104, .null) := by decide +kernel
theorem k194_96 : mm_at 194 96 = some (.iload_n 2, 97, 2, .null) := by decide +kernel
theorem k194_97 : mm_at 194 97 = some (.iload_n 2, 98, 2, .null) := by decide +kernel
theorem k194_98 : mm_at 194 98 = some (.iconst 1, 99, 0, .int (1)) := by decide +kernel
theorem k194_99 : mm_at 194 99 = some (.isub, 100, 0, .null) := by decide +kernel
theorem k194_100 : mm_at 194 100 = some (.iand, 101, 0, .null) := by decide +kernel
theorem k194_101 : mm_at 194 101 = some (.goto 4, 104, 105, .null) := by decide +kernel
theorem k194_104 : mm_at 194 104 = some (.iload_n 2, 105, 2, .null) := by decide +kernel
theorem k194_105 : mm_at 194 105 = some (.iastore, 106, 0, .null) := by decide +kernel
theorem k194_106 : mm_at 194 106 = some (.iinc 1 1, 109, 1, .int (1)) := by decide +kernel
theorem k194_109 : mm_at 194 109 = some (.goto (-50), 112, 59, .null) := by decide +kernel
theorem k194_112 : mm_at 194 112 = some (.aload_n 0, 113, 0, .null) := by decide +kernel
theorem k194_113 : mm_at 194 113 = some (.getfield 9, 116, 1200, .null) := by decide +kernel
theorem k194_116 : mm_at 194 116 = some (.iconst 0, 117, 0, .int (0)) := by decide +kernel
theorem k194_117 : mm_at 194 117 = some (.dup2, 118, 0, .null) := by decide +kernel
theorem k194_118 : mm_at 194 118 = some (.iaload, 119, 0, .null) := by decide +kernel
theorem k194_119 : mm_at 194 119 = some (.iconst 1, 120, 0, .int (1)) := by decide +kernel
theorem k194_120 : mm_at 194 120 = some (.iadd, 121, 0, .null) := by decide +kernel
theorem k194_121 : mm_at 194 121 = some (.iastore, 122, 0, .null) := by decide +kernel
theorem k194_122 : mm_at 194 122 = some (.return_, 123, 0, .null) := by decide +kernel
theorem k195_0 : mm_at 195 0 = some (.iconst 0, 1, 0, .int (0)) := by decide +kernel
theorem k195_1 : mm_at 195 1 = some (.istore_n 2, 2, 2, .null) := by decide +kernel
theorem k195_2 : mm_at 195 2 = some (.iload_n 2, 3, 2, .null) := by decide +kernel
theorem k195_3 : mm_at 195 3 = some (.iload_n 1, 4, 1, .null) := by decide +kernel
theorem k195_4 : mm_at 195 4 = some (.if_icmp .ge 13, 7, 17, .null) := by decide +kernel
theorem k195_7 : mm_at 195 7 = some (.aload_n 0, 8, 0, .null) := by decide +kernel
theorem k195_8 : mm_at 195 8 = some (.invokevirtual 204, 11, 265, .null) := by decide +kernel
theorem k195_11 : mm_at 195 11 = some (.iinc 2 1, 14, 2, .int (1)) := by decide +kernel
theorem k195_14 : mm_at 195 14 = some (.goto (-12), 17, 2, .null) := by decide +kernel
theorem k195_17 : mm_at 195 17 = some (.return_, 18, 0, .null) := by decide +kernel
theorem k196_0 : mm_at 196 0 = some (.iload_n 1, 1, 1, .null) := by decide +kernel
theorem k196_1 : mm_at 196 1 = some (.iconst 1, 2, 0, .int (1)) := by decide +kernel
theorem k196_2 : mm_at 196 2 = some (.bipush 60, 4, 0, .int (60)) := by decide +kernel
theorem k196_4 : mm_at 196 4 = some (.invokestatic 47, 7, 224, .null) := by decide +kernel
theorem k196_7 : mm_at 196 7 = some (.ifCond .ne 10, 10, 17, .null) := by decide +kernel
theorem k196_10 : mm_at 196 10 = some (.aload_n 0, 11, 0, .null) := by decide +kernel
theorem k196_11 : mm_at 196 11 = some (.ldc 97, 13, 0, .int (-1000000001)) := by decide +kernel
theorem k196_13 : mm_at 196 13 = some (.invokevirtual 98, 16, 238, .null) := by decide +kernel
theorem k196_16 : mm_at 196 16 = some (.ireturn, 17, 0, .null) := by decide +kernel
theorem k196_17 : mm_at 196 17 = some (.aload_n 0, 18, 0, .null) := by decide +kernel
theorem k196_18 : mm_at 196 18 = some (.getfield 9, 21, 1200, .null) := by decide +kernel
theorem k196_21 : mm_at 196 21 = some (.iconst 0, 22, 0, .int (0)) := by decide +kernel
theorem k196_22 : mm_at 196 22 = some (.iaload, 23, 0, .null) := by decide +kernel
theorem k196_23 : mm_at 196 23 = some (.iload_n 1, 24, 1, .null) := by decide +kernel
theorem k196_24 : mm_at 196 24 = some (.iadd, 25, 0, .null) := by decide +kernel
theorem k196_25 : mm_at 196 25 = some (.sipush 9999, 28, 0, .int (9999)) := by decide +kernel
theorem k196_28 : mm_at 196 28 = some (.if_icmp .le 10, 31, 38, .null) := by decide +kernel
theorem k196_31 : mm_at 196 31 = some (.aload_n 0, 32, 0, .null) := by decide +kernel
theorem k196_32 : mm_at 196 32 = some (.ldc 125, 34, 0, .int (-1000000003)) := by decide +kernel
theorem k196_34 : mm_at 196 34 = some (.invokevirtual 98, 37, 238, .null) := by decide +kernel
theorem k196_37 : mm_at 196 37 = some (.ireturn, 38, 0, .null) := by decide +kernel
theorem k196_38 : mm_at 196 38 = some (.aload_n 0, 39, 0, .null) := by decide +kernel
theorem k196_39 : mm_at 196 39 = some (.iload_n 1, 40, 1, .null) := by decide +kernel
theorem k196_40 : mm_at 196 40 = some (.invokevirtual 207, 43, 266, .null) := by decide +kernel
theorem k196_43 : mm_at 196 43 = some (.aload_n 0, 44, 0, .null) := by decide +kernel
theorem k196_44 : mm_at 196 44 = some (.getfield 9, 47, 1200, .null) := by decide +kernel
theorem k196_47 : mm_at 196 47 = some (.iconst 4, 48, 0, .int (4)) := by decide +kernel
theorem k196_48 : mm_at 196 48 = some (.iaload, 49, 0, .null) := by decide +kernel
theorem k196_49 : mm_at 196 49 = some (.ireturn, 50, 0, .null) := by decide +kernel
theorem k197_0 : mm_at 197 0 = some (.aload_n 0, 1, 0, .null) := by decide +kernel
theorem k197_1 : mm_at 197 1 = some (.getfield 9, 4, 1200, .null) := by decide +kernel
theorem k197_4 : mm_at 197 4 = some (.iconst 1, 5, 0, .int (1)) := by decide +kernel
theorem k197_5 : mm_at 197 5 = some (.aload_n 0, 6, 0, .null) := by decide +kernel
theorem k197_6 : mm_at 197 6 = some (.getfield 9, 9, 1200, .null) := by decide +kernel
theorem k197_9 : mm_at 197 9 = some (.iconst 1, 10, 0, .int (1)) := by decide +kernel
theorem k197_10 : mm_at 197 10 = some (.iaload, 11, 0, .null) := by decide +kernel
theorem k197_11 : mm_at 197 11 = some (.ldc 210, 13, 0, .int (1103515245)) := by decide +kernel
theorem k197_13 : mm_at 197 13 = some (.imul, 14, 0, .null) := by decide +kernel
theorem k197_14 : mm_at 197 14 = some (.sipush 12345, 17, 0, .int (12345)) := by decide +kernel
theorem k197_17 : mm_at 197 17 = some (.iadd, 18, 0, .null) := by decide +kernel
theorem k197_18 : mm_at 197 18 = some (.iastore, 19, 0, .null) := by decide +kernel
theorem k197_19 : mm_at 197 19 = some (.aload_n 0, 20, 0, .null) := by decide +kernel
theorem k197_20 : mm_at 197 20 = some (.getfield 9, 23, 1200, .null) := by decide +kernel
theorem k197_23 : mm_at 197 23 = some (.iconst 1, 24, 0, .int (1)) := by decide +kernel
theorem k197_24 : mm_at 197 24 = some (.iaload, 25, 0, .null) := by decide +kernel
theorem k197_25 : mm_at 197 25 = some (.bipush 8, 27, 0, .int (8)) := by decide +kernel
theorem k197_27 : mm_at 197 27 = some (.iushr, 28, 0, .null) := by decide +kernel
theorem k197_28 : mm_at 197 28 = some (.ireturn, 29, 0, .null) := by decide +kernel
theorem k198_0 : mm_at 198 0 = some (.iload_n 1, 1, 1, .null) := by decide +kernel
theorem k198_1 : mm_at 198 1 = some (.iconst 1, 2, 0, .int (1)) := by decide +kernel
theorem k198_2 : mm_at 198 2 = some (.bipush 40, 4, 0, .int (40)) := by decide +kernel
theorem k198_4 : mm_at 198 4 = some (.invokestatic 47, 7, 224, .null) := by decide +kernel
theorem k198_7 : mm_at 198 7 = some (.ifCond .ne 10, 10, 17, .null) := by decide +kernel
theorem k198_10 : mm_at 198 10 = some (.aload_n 0, 11, 0, .null) := by decide +kernel
theorem k198_11 : mm_at 198 11 = some (.ldc 97, 13, 0, .int (-1000000001)) := by decide +kernel
theorem k198_13 : mm_at 198 13 = some (.invokevirtual 98, 16, 238, .null) := by decide +kernel
theorem k198_16 : mm_at 198 16 = some (.ireturn, 17, 0, .null) := by decide +kernel
theorem k198_17 : mm_at 198 17 = some (.aload_n 0, 18, 0, .null) := by decide +kernel
theorem k198_18 : mm_at 198 18 = some (.getfield 9, 21, 1200, .null) := by decide +kernel
theorem k198_21 : mm_at 198 21 = some (.iconst 0, 22, 0, .int (0)) := by decide +kernel
theorem k198_22 : mm_at 198 22 = some (.iaload, 23, 0, .null) := by decide +kernel
theorem k198_23 : mm_at 198 23 = some (.iload_n 1, 24, 1, .null) := by decide +kernel
theorem k198_24 : mm_at 198 24 = some (.iadd, 25, 0, .null) := by decide +kernel
theorem k198_25 : mm_at 198 25 = some (.sipush 9999, 28, 0, .int (9999)) := by decide +kernel
theorem k198_28 : mm_at 198 28 = some (.if_icmp .le 10, 31, 38, .null) := by decide +kernel
theorem k198_31 : mm_at 198 31 = some (.aload_n 0, 32, 0, .null) := by decide +kernel
theorem k198_32 : mm_at 198 32 = some (.ldc 125, 34, 0, .int (-1000000003)) := by decide +kernel
theorem k198_34 : mm_at 198 34 = some (.invokevirtual 98, 37, 238, .null) := by decide +kernel
theorem k198_37 : mm_at 198 37 = some (.ireturn, 38, 0, .null) := by decide +kernel
theorem k198_38 : mm_at 198 38 = some (.iconst 0, 39, 0, .int (0)) := by decide +kernel
theorem k198_39 : mm_at 198 39 = some (.istore_n 2, 40, 2, .null) := by decide +kernel
theorem k198_40 : mm_at 198 40 = some (.iload_n 2, 41, 2, .null) := by decide +kernel
theorem k198_41 : mm_at 198 41 = some (.iload_n 1, 42, 1, .null) := by decide +kernel
theorem k198_42 : mm_at 198 42 = some (.if_icmp .ge 47, 45, 89, .null) := by decide +kernel
theorem k198_45 : mm_at 198 45 = some (.aload_n 0, 46, 0, .null) := by decide +kernel
theorem k198_46 : mm_at 198 46 = some (.getfield 9, 49, 1200, .null) := by decide +kernel
theorem k198_49 : mm_at 198 49 = some (.iconst 3, 50, 0, .int (3)) := by decide +kernel
theorem k198_50 : mm_at 198 50 = some (.iaload, 51, 0, .null) := by decide +kernel
theorem k198_51 : mm_at 198 51 = some (.ifCond .le 28, 54, 79, .null) := by decide +kernel
theorem k198_54 : mm_at 198 54 = some (.aload_n 0, 55, 0, .null) := by decide +kernel
theorem k198_55 : mm_at 198 55 = some (.invokevirtual 211, 58, 267, .null) := by decide +kernel
theorem k198_58 : mm_at 198 58 = some (.aload_n 0, 59, 0, .null) := by decide +kernel
theorem k198_59 : mm_at 198 59 = some (.getfield 9, 62, 1200, .null) := by decide +kernel
theorem k198_62 : mm_at 198 62 = some (.iconst 3, 63, 0, .int (3)) := by decide +kernel
theorem k198_63 : mm_at 198 63 = some (.iaload, 64, 0, .null) := by decide +kernel
theorem k198_64 : mm_at 198 64 = some (.irem, 65, 0, .null) := by decide +kernel
theorem k198_65 : mm_at 198 65 = some (.istore_n 3, 66, 3, .null) := by decide +kernel
theorem k198_66 : mm_at 198 66 = some (.aload_n 0, 67, 0, .null) := by decide +kernel
theorem k198_67 : mm_at 198 67 = some (.iload_n 3, 68, 3, .null) := by decide +kernel
theorem k198_68 : mm_at 198 68 = some (.iconst 0, 69, 0, .int (0)) := by decide +kernel
theorem k198_69 : mm_at 198 69 = some (.aload_n 0, 70, 0, .null) := by decide +kernel
theorem k198_70 : mm_at 198 70 = some (.invokevirtual 211, 73, 267, .null) := by decide +kernel
theorem k198_73 : mm_at 198 73 = some (.bipush 100, 75, 0, .int (100)) := by decide +kernel
theorem k198_75 : mm_at 198 75 = some (.irem, 76, 0, .null) := by decide +kernel
theorem k198_76 : mm_at 198 76 = some (.invokevirtual 118, 79, 244, .null) := by decide +kernel
theorem k198_79 : mm_at 198 79 = some (.aload_n 0, 80, 0, .null) := by decide +kernel
theorem k198_80 : mm_at 198 80 = some (.invokevirtual 204, 83, 265, .null) := by decide +kernel
theorem k198_83 : mm_at 198 83 = some (.iinc 2 1, 86, 2, .int (1)) := by decide +kernel
theorem k198_86 : mm_at 198 86 = some (.goto (-46), 89, 40, .null) := by decide +kernel
theorem k198_89 : mm_at 198 89 = some (.aload_n 0, 90, 0, .null) := by decide +kernel
theorem k198_90 : mm_at 198 90 = some (.getfield 9, 93, 1200, .null) := by decide +kernel
theorem k198_93 : mm_at 198 93 = some (.iconst 4, 94, 0, .int (4)) := by decide +kernel
theorem k198_94 : mm_at 198 94 = some (.iaload, 95, 0, .null) := by decide +kernel
theorem k198_95 : mm_at 198 95 = some (.ireturn, 96, 0, .null) := by decide +kernel
theorem k199_0 : mm_at 199 0 = some (.aload_n 0, 1, 0, .null) := by decide +kernel
theorem k199_1 : mm_at 199 1 = some (.getfield 9, 4, 1200, .null) := by decide +kernel
theorem k199_4 : mm_at 199 4 = some (.aload_n 0, 5, 0, .null) := by decide +kernel
theorem k199_5 : mm_at 199 5 = some (.getfield 16, 8, 1202, .null) := by decide +kernel
theorem k199_8 : mm_at 199 8 = some (.invokestatic 214, 11, 268, .null) := by decide +kernel
theorem k199_11 : mm_at 199 11 = some (.return_, 12, 0, .null) := by decide +kernel
theorem k200_0 : mm_at 200 0 = some (.aload_n 0, 1, 0, .null) := by decide +kernel
theorem k200_1 : mm_at 200 1 = some (.getfield 16, 4, 1202, .null) := by decide +kernel
theorem k200_4 : mm_at 200 4 = some (.aload_n 0, 5, 0, .null) := by decide +kernel
theorem k200_5 : mm_at 200 5 = some (.getfield 9, 8, 1200, .null) := by decide +kernel
theorem k200_8 : mm_at 200 8 = some (.invokestatic 214, 11, 268, .null) := by decide +kernel
theorem k200_11 : mm_at 200 11 = some (.return_, 12, 0, .null) := by decide +kernel
theorem k201_0 : mm_at 201 0 = some (.iload_n 1, 1, 1, .null) := by decide +kernel
theorem k201_1 : mm_at 201 1 = some (.iconst 0, 2, 0, .int (0)) := by decide +kernel
theorem k201_2 : mm_at 201 2 = some (.bipush 60, 4, 0, .int (60)) := by decide +kernel
theorem k201_4 : mm_at 201 4 = some (.invokestatic 47, 7, 224, .null) := by decide +kernel
theorem k201_7 : mm_at 201 7 = some (.ifCond .eq 16, 10, 23, .null) := by decide +kernel
theorem k201_10 : mm_at 201 10 = some (.iload_n 2, 11, 2, .null) := by decide +kernel
theorem k201_11 : mm_at 201 11 = some (.iconst (-1), 12, 0, .int (-1)) := by decide +kernel
theorem k201_12 : mm_at 201 12 = some (.if_icmp .eq 18, 15, 30, .null) := by decide +kernel
theorem k201_15 : mm_at 201 15 = some (.aload_n 0, 16, 0, .null) := by decide +kernel
theorem k201_16 : mm_at 201 16 = some (.iload_n 2, 17, 2, .null) := by decide +kernel
theorem k201_17 : mm_at 201 17 = some (.invokevirtual 122, 20, 245, .null) := by decide +kernel
theorem k201_20 : mm_at 201 20 = some (.ifCond .ne 10, 23, 30, .null) := by decide +kernel
theorem k201_23 : mm_at 201 23 = some (.aload_n 0, 24, 0, .null) := by decide +kernel
theorem k201_24 : mm_at 201 24 = some (.ldc 97, 26, 0, .int (-1000000001)) := by decide +kernel
theorem k201_26 : mm_at 201 26 = some (.invokevirtual 98, 29, 238, .null) := by decide +kernel
theorem k201_29 : mm_at 201 29 = some (.ireturn, 30, 0, .null) := by decide +kernel
theorem k201_30 : mm_at 201 30 = some (.aload_n 0, 31, 0, .null) := by decide +kernel
theorem k201_31 : mm_at 201 31 = some (.invokevirtual 218, 34, 269, .null) := by decide +kernel
theorem k201_34 : mm_at 201 34 = some (.aload_n 0, 35, 0, .null) := by decide +kernel
theorem k201_35 : mm_at 201 35 = some (.iload_n 1, 36, 1, .null) := by decide +kernel
theorem k201_36 : mm_at 201 36 = some (.invokevirtual 207, 39, 266, .null) := by decide +kernel
theorem k201_39 : mm_at 201 39 = some (.iload_n 2, 40, 2, .null) := by decide +kernel
theorem k201_40 : mm_at 201 40 = some (.ifCond .ge 12, 43, 52, .null) := by decide +kernel
theorem k201_43 : mm_at 201 43 = some (.aload_n 0, 44, 0, .null) := by decide +kernel
theorem k201_44 : mm_at 201 44 = some (.getfield 9, 47, 1200, .null) := by decide +kernel
theorem k201_47 : mm_at 201 47 = some (.iconst 4, 48, 0, .int (4)) := by decide +kernel
theorem k201_48 : mm_at 201 48 = some (.iaload, 49, 0, .null) := by decide +kernel
theorem k201_49 : mm_at 201 49 = some (.goto 9, 52, 58, .null) := by decide +kernel
theorem k201_52 : mm_at 201 52 = some (.aload_n 0, 53, 0, .null) := by decide +kernel
theorem k201_53 : mm_at 201 53 = some (.iload_n 2, 54, 2, .null) := by decide +kernel
theorem k201_54 : mm_at 201 54 = some (.iconst 2, 55, 0, .int (2)) := by decide +kernel
theorem k201_55 : mm_at 201 55 = some (.invokevirtual 51, 58, 225, .null) := by decide +kernel
theorem k201_58 : mm_at 201 58 = some (.istore_n 3, 59, 3, .null) := by decide +kernel
theorem k201_59 : mm_at 201 59 = some (.aload_n 0, 60, 0, .null) := by decide +kernel
theorem k201_60 : mm_at 201 60 = some (.invokevirtual 221, 63, 270, .null) := by decide +kernel
theorem k201_63 : mm_at 201 63 = some (.iload_n 3, 64, 3, .null) := by decide +kernel
theorem k201_64 : mm_at 201 64 = some (.ireturn, 65, 0, .null) := by decide +kernel
theorem k202_0 : mm_at 202 0 = some (.iload_n 1, 1, 1, .null) := by decide +kernel
theorem k202_1 : mm_at 202 1 = some (.invokestatic 115, 4, 243, .null) := by decide +kernel
theorem k202_4 : mm_at 202 4 = some (.ifCond .ne 10, 7, 14, .null) := by decide +kernel
theorem k202_7 : mm_at 202 7 = some (.aload_n 0, 8, 0, .null) := by decide +kernel
theorem k202_8 : mm_at 202 8 = some (.ldc 97, 10, 0, .int (-1000000001)) := by decide +kernel
theorem k202_10 : mm_at 202 10 = some (.invokevirtual 98, 13, 238, .null) := by decide +kernel
theorem k202_13 : mm_at 202 13 = some (.ireturn, 14, 0, .null) := by decide +kernel
theorem k202_14 : mm_at 202 14 = some (.aload_n 0, 15, 0, .null) := by decide +kernel
theorem k202_15 : mm_at 202 15 = some (.invokevirtual 218, 18, 269, .null) := by decide +kernel
theorem k202_18 : mm_at 202 18 = some (.iconst 0, 19, 0, .int (0)) := by decide +kernel
theorem k202_19 : mm_at 202 19 = some (.istore_n 2, 20, 2, .null) := by decide +kernel
theorem k202_20 : mm_at 202 20 = some (.iload_n 2, 21, 2, .null) := by decide +kernel
theorem k202_21 : mm_at 202 21 = some (.bipush 60, 23, 0, .int (60)) := by decide +kernel
theorem k202_23 : mm_at 202 23 = some (.if_icmp .gt 26, 26, 49, .null) := by decide +kernel
theorem k202_26 : mm_at 202 26 = some (.aload_n 0, 27, 0, .null) := by decide +kernel
theorem k202_27 : mm_at 202 27 = some (.getfield 9, 30, 1200, .null) := by decide +kernel
theorem k202_30 : mm_at 202 30 = some (.iconst 4, 31, 0, .int (4)) := by decide +kernel
theorem k202_31 : mm_at 202 31 = some (.iaload, 32, 0, .null) := by decide +kernel
theorem k202_32 : mm_at 202 32 = some (.iload_n 1, 33, 1, .null) := by decide +kernel
theorem k202_33 : mm_at 202 33 = some (.ishr, 34, 0, .null) := by decide +kernel
theorem k202_34 : mm_at 202 34 = some (.iconst 1, 35, 0, .int (1)) := by decide +kernel
theorem k202_35 : mm_at 202 35 = some (.iand, 36, 0, .null) := by decide +kernel
theorem k202_36 : mm_at 202 36 = some (.ifCond .ne 13, 39, 49, .null) := by decide +kernel
theorem k202_39 : mm_at 202 39 = some (.aload_n 0, 40, 0, .null) := by decide +kernel
theorem k202_40 : mm_at 202 40 = some (.invokevirtual 204, 43, 265, .null) := by decide +kernel
theorem k202_43 : mm_at 202 43 = some (.iinc 2 1, 46, 2, .int (1)) := by decide +kernel
theorem k202_46 : mm_at 202 46 = some (.goto (-26), 49, 20, .null) := by decide +kernel
theorem k202_49 : mm_at 202 49 = some (.aload_n 0, 50, 0, .null) := by decide +kernel
theorem k202_50 : mm_at 202 50 = some (.invokevirtual 221, 53, 270, .null) := by decide +kernel
theorem k202_53 : mm_at 202 53 = some (.iload_n 2, 54, 2, .null) := by decide +kernel
theorem k202_54 : mm_at 202 54 = some (.bipush 60, 56, 0, .int (60)) := by decide +kernel
theorem k202_56 : mm_at 202 56 = some (.if_icmp .le 12, 59, 68, .null) := by decide +kernel
theorem k202_59 : mm_at 202 59 = some (.aload_n 0, 60, 0, .null) := by decide +kernel
theorem k202_60 : mm_at 202 60 = some (.ldc 224, 62, 0, .int (-1000000002)) := by decide +kernel
theorem k202_62 : mm_at 202 62 = some (.invokevirtual 98, 65, 238, .null) := by decide +kernel
theorem k202_65 : mm_at 202 65 = some (.goto 4, 68, 69, .null) := by decide +kernel
theorem k202_68 : mm_at 202 68 = some (.iload_n 2, 69, 2, .null) := by decide +kernel
theorem k202_69 : mm_at 202 69 = some (.ireturn, 70, 0, .null) := by decide +kernel
theorem k203_0 : mm_at 203 0 = some (.iload_n 1, 1, 1, .null) := by decide +kernel
theorem k203_1 : mm_at 203 1 = some (.invokestatic 115, 4, 243, .null) := by decide +kernel
theorem k203_4 : mm_at 203 4 = some (.ifCond .ne 10, 7, 14, .null) := by decide +kernel
theorem k203_7 : mm_at 203 7 = some (.aload_n 0, 8, 0, .null) := by decide +kernel
theorem k203_8 : mm_at 203 8 = some (.ldc 97, 10, 0, .int (-1000000001)) := by decide +kernel
theorem k203_10 : mm_at 203 10 = some (.invokevirtual 98, 13, 238, .null) := by decide +kernel
theorem k203_13 : mm_at 203 13 = some (.ireturn, 14, 0, .null) := by decide +kernel
theorem k203_14 : mm_at 203 14 = some (.aload_n 0, 15, 0, .null) := by decide +kernel
theorem k203_15 : mm_at 203 15 = some (.invokevirtual 218, 18, 269, .null) := by decide +kernel
theorem k203_18 : mm_at 203 18 = some (.aload_n 0, 19, 0, .null) := by decide +kernel
theorem k203_19 : mm_at 203 19 = some (.iload_n 1, 20, 1, .null) := by decide +kernel
theorem k203_20 : mm_at 203 20 = some (.invokevirtual 189, 23, 260, .null) := by decide +kernel
theorem k203_23 : mm_at 203 23 = some (.istore_n 2, 24, 2, .null) := by decide +kernel
theorem k203_24 : mm_at 203 24 = some (.iconst (-1), 25, 0, .int (-1)) := by decide +kernel
theorem k203_25 : mm_at 203 25 = some (.istore_n 3, 26, 3, .null) := by decide +kernel
theorem k203_26 : mm_at 203 26 = some (.iconst 1, 27, 0, .int (1)) := by decide +kernel
theorem k203_27 : mm_at 203 27 = some (.istore 4, 29, 4, .null) := by decide +kernel
theorem k203_29 : mm_at 203 29 = some (.iload 4, 31, 4, .null) := by decide +kernel
theorem k203_31 : mm_at 203 31 = some (.iconst 1, 32, 0, .int (1)) := by decide +kernel
theorem k203_32 : mm_at 203 32 = some (.aload_n 0, 33, 0, .null) := by decide +kernel
theorem k203_33 : mm_at 203 33 = some (.getfield 9, 36, 1200, .null) := by decide +kernel
theorem k203_36 : mm_at 203 36 = some (.iconst 2, 37, 0, .int (2)) := by decide +kernel
theorem k203_37 : mm_at 203 37 = some (.iaload, 38, 0, .null) := by decide +kernel
theorem k203_38 : mm_at 203 38 = some (.ishl, 39, 0, .null) := by decide +kernel
theorem k203_39 : mm_at 203 39 = some (.if_icmp .ge 103, 42, 142, .null) := by decide +kernel
theorem k203_42 : mm_at 203 42 = some (.iconst 0, 43, 0, .int (0)) := by decide +kernel
theorem k203_43 : mm_at 203 43 = some (.istore 5, 45, 5, .null) := by decide +kernel
theorem k203_45 : mm_at 203 45 = some (.iload 5, 47, 5, .null) := by decide +kernel
theorem k203_47 : mm_at 203 47 = some (.aload_n 0, 48, 0, .null) := by decide +kernel
theorem k203_48 : mm_at 203 48 = some (.getfield 9, 51, 1200, .null) := by decide +kernel
theorem k203_51 : mm_at 203 51 = some (.iconst 2, 52, 0, .int (2)) := by decide +kernel
theorem k203_52 : mm_at 203 52 = some (.iaload, 53, 0, .null) := by decide +kernel
theorem k203_53 : mm_at 203 53 = some (.if_icmp .ge 35, 56, 88, .null) := by decide +kernel
theorem k203_56 : mm_at 203 56 = some (.aload_n 0, 57, 0, .null) := by decide +kernel
theorem k203_57 : mm_at 203 57 = some (.getfield 9, 60, 1200, .null) := by decide +kernel
theorem k203_60 : mm_at 203 60 = some (.bipush 7, 62, 0, .int (7)) := by decide +kernel
theorem k203_62 : mm_at 203 62 = some (.iconst 4, 63, 0, .int (4)) := by decide +kernel
theorem k203_63 : mm_at 203 63 = some (.iload 5, 65, 5, .null) := by decide +kernel
theorem k203_65 : mm_at 203 65 = some (.imul, 66, 0, .null) := by decide +kernel
theorem k203_66 : mm_at 203 66 = some (.iadd, 67, 0, .null) := by decide +kernel
theorem k203_67 : mm_at 203 67 = some (.iconst 3, 68, 0, .int (3)) := by decide +kernel
theorem k203_68 : mm_at 203 68 = some (.iadd, 69, 0, .null) := by decide +kernel
theorem k203_69 : mm_at 203 69 = some (.dup2, 70, 0, .null) := by decide +kernel
theorem k203_70 : mm_at 203 70 = some (.iaload, 71, 0, .null) := by decide +kernel
theorem k203_71 : mm_at 203 71 = some (.iload 4, 73, 4, .null) := by decide +kernel
theorem k203_73 : mm_at 203 73 = some (.iload 5, 75, 5, .null) := by decide +kernel
theorem k203_75 : mm_at 203 75 = some (.ishr, 76, 0, .null) := by decide +kernel
theorem k203_76 : mm_at 203 76 = some (.iconst 1, 77, 0, .int (1)) := by decide +kernel
theorem k203_77 : mm_at 203 77 = some (.iand, 78, 0, .null) := by decide +kernel
theorem k203_78 : mm_at 203 78 = some (.iload_n 1, 79, 1, .null) := by decide +kernel
theorem k203_79 : mm_at 203 79 = some (.ishl, 80, 0, .null) := by decide +kernel
theorem k203_80 : mm_at 203 80 = some (.ixor, 81, 0, .null) := by decide +kernel
theorem k203_81 : mm_at 203 81 = some (.iastore, 82, 0, .null) := by decide +kernel
theorem k203_82 : mm_at 203 82 = some (.iinc 5 1, 85, 5, .int (1)) := by decide +kernel
theorem k203_85 : mm_at 203 85 = some (.goto (-40), 88, 45, .null) := by decide +kernel
theorem k203_88 : mm_at 203 88 = some (.aload_n 0, 89, 0, .null) := by decide +kernel
theorem k203_89 : mm_at 203 89 = some (.iload_n 1, 90, 1, .null) := by decide +kernel
theorem k203_90 : mm_at 203 90 = some (.invokevirtual 189, 93, 260, .null) := by decide +kernel
theorem k203_93 : mm_at 203 93 = some (.iload_n 2, 94, 2, .null) := by decide +kernel
theorem k203_94 : mm_at 203 94 = some (.if_icmp .eq 7, 97, 101, .null) := by decide +kernel
theorem k203_97 : mm_at 203 97 = some (.iconst 1, 98, 0, .int (1)) := by decide +kernel
theorem k203_98 : mm_at 203 98 = some (.goto 4, 101, 102, .null) := by decide +kernel
theorem k203_101 : mm_at 203 101 = some (.iconst 0, 102, 0, .int (0)) := by decide +kernel
theorem k203_102 : mm_at 203 102 = some (.istore 5, 104, 5, .null) := by decide +kernel
theorem k203_104 : mm_at 203 104 = some (.aload_n 0, 105, 0, .null) := by decide +kernel
theorem k203_105 : mm_at 203 105 = some (.invokevirtual 221, 108, 270, .null) := by decide +kernel
theorem k203_108 : mm_at 203 108 = some (.iload 5, 110, 5, .null) := by decide +kernel
theorem k203_110 : mm_at 203 110 = some (.ifCond .eq 24, 113, 134, .null) := by decide +kernel
theorem k203_113 : mm_at 203 113 = some (.iload_n 3, 114, 3, .null) := by decide +kernel
theorem k203_114 : mm_at 203 114 = some (.ifCond .lt 15, 117, 129, .null) := by decide +kernel
theorem k203_117 : mm_at 203 117 = some (.iload 4, 119, 4, .null) := by decide +kernel
theorem k203_119 : mm_at 203 119 = some (.invokestatic 62, 122, 228, .null) := by decide +kernel
theorem k203_122 : mm_at 203 122 = some (.iload_n 3, 123, 3, .null) := by decide +kernel
theorem k203_123 : mm_at 203 123 = some (.invokestatic 62, 126, 228, .null) := by decide +kernel
theorem k203_126 : mm_at 203 126 = some (.if_icmp .ge 8, 129, 134, .null) := by decide +kernel
theorem k203_129 : mm_at 203 129 = some (.iload 4, 131, 4, .null) := by decide +kernel
theorem k203_131 : mm_at 203 131 = some (.goto 4, 134, 135, .null) := by decide +kernel
theorem k203_134 : mm_at 203 134 = some (.iload_n 3, 135, 3, .null) := by decide +kernel
theorem k203_135 : mm_at 203 135 = some (.istore_n 3, 136, 3, .null) := by decide +kernel
theorem k203_136 : mm_at 203 136 = some (.iinc 4 1, 139, 4, .int (1)) := by decide +kernel
theorem k203_139 : mm_at 203 139 = some (.goto (-110), 142, 29, .null) := by decide +kernel
theorem k203_142 : mm_at 203 142 = some (.iload_n 3, 143, 3, .null) := by decide +kernel
theorem k203_143 : mm_at 203 143 = some (.ifCond .ge 12, 146, 155, .null) := by decide +kernel
theorem k203_146 : mm_at 203 146 = some (.aload_n 0, 147, 0, .null) := by decide +kernel
theorem k203_147 : mm_at 203 147 = some (.ldc 224, 149, 0, .int (-1000000002)) := by decide +kernel
theorem k203_149 : mm_at 203 149 = some (.invokevirtual 98, 152, 238, .null) := by decide +kernel
theorem k203_152 : mm_at 203 152 = some (.goto 4, 155, 156, .null) := by decide +kernel
theorem k203_155 : mm_at 203 155 = some (.iload_n 3, 156, 3, .null) := by decide +kernel
theorem k203_156 : mm_at 203 156 = some (.ireturn, 157, 0, .null) := by decide +kernel
theorem k204_0 : mm_at 204 0 = some (.iload_n 2, 1, 2, .null) := by decide +kernel
theorem k204_1 : mm_at 204 1 = some (.ifCond .ne 9, 4, 10, .null) := by decide +kernel
theorem k204_4 : mm_at 204 4 = some (.aload_n 0, 5, 0, .null) := by decide +kernel
theorem k204_5 : mm_at 204 5 = some (.iload_n 1, 6, 1, .null) := by decide +kernel
theorem k204_6 : mm_at 204 6 = some (.invokevirtual 189, 9, 260, .null) := by decide +kernel
theorem k204_9 : mm_at 204 9 = some (.ireturn, 10, 0, .null) := by decide +kernel
theorem k204_10 : mm_at 204 10 = some (.iconst 0, 11, 0, .int (0)) := by decide +kernel
theorem k204_11 : mm_at 204 11 = some (.istore_n 3, 12, 3, .null) := by decide +kernel
theorem k204_12 : mm_at 204 12 = some (.iload_n 3, 13, 3, .null) := by decide +kernel
theorem k204_13 : mm_at 204 13 = some (.aload_n 0, 14, 0, .null) := by decide +kernel
theorem k204_14 : mm_at 204 14 = some (.getfield 9, 17, 1200, .null) := by decide +kernel
theorem k204_17 : mm_at 204 17 = some (.iconst 3, 18, 0, .int (3)) := by decide +kernel
theorem k204_18 : mm_at 204 18 = some (.iaload, 19, 0, .null) := by decide +kernel
theorem k204_19 : mm_at 204 19 = some (.if_icmp .ge 85, 22, 104, .null) := by decide +kernel
theorem k204_22 : mm_at 204 22 = some (.aload_n 0, 23, 0, .null) := by decide +kernel
theorem k204_23 : mm_at 204 23 = some (.iload_n 3, 24, 3, .null) := by decide +kernel
theorem k204_24 : mm_at 204 24 = some (.iconst 2, 25, 0, .int (2)) := by decide +kernel
theorem k204_25 : mm_at 204 25 = some (.invokevirtual 51, 28, 225, .null) := by decide +kernel
theorem k204_28 : mm_at 204 28 = some (.istore 4, 30, 4, .null) := by decide +kernel
theorem k204_30 : mm_at 204 30 = some (.iconst (-1), 31, 0, .int (-1)) := by decide +kernel
theorem k204_31 : mm_at 204 31 = some (.istore 5, 33, 5, .null) := by decide +kernel
theorem k204_33 : mm_at 204 33 = some (.iload 5, 35, 5, .null) := by decide +kernel
theorem k204_35 : mm_at 204 35 = some (.aload_n 0, 36, 0, .null) := by decide +kernel
theorem k204_36 : mm_at 204 36 = some (.getfield 9, 39, 1200, .null) := by decide +kernel
theorem k204_39 : mm_at 204 39 = some (.iconst 2, 40, 0, .int (2)) := by decide +kernel
theorem k204_40 : mm_at 204 40 = some (.iaload, 41, 0, .null) := by decide +kernel
theorem k204_41 : mm_at 204 41 = some (.if_icmp .ge 57, 44, 98, .null) := by decide +kernel
theorem k204_44 : mm_at 204 44 = some (.iload 5, 46, 5, .null) := by decide +kernel
theorem k204_46 : mm_at 204 46 = some (.iconst (-1), 47, 0, .int (-1)) := by decide +kernel
theorem k204_47 : mm_at 204 47 = some (.if_icmp .eq 12, 50, 59, .null) := by decide +kernel
theorem k204_50 : mm_at 204 50 = some (.aload_n 0, 51, 0, .null) := by decide +kernel
theorem k204_51 : mm_at 204 51 = some (.iload 5, 53, 5, .null) := by decide +kernel
theorem k204_53 : mm_at 204 53 = some (.invokevirtual 105, 56, 240, .null) := by decide +kernel
theorem k204_56 : mm_at 204 56 = some (.ifCond .ge 36, 59, 92, .null) := by decide +kernel
theorem k204_59 : mm_at 204 59 = some (.aload_n 0, 60, 0, .null) := by decide +kernel
theorem k204_60 : mm_at 204 60 = some (.iload_n 3, 61, 3, .null) := by decide +kernel
theorem k204_61 : mm_at 204 61 = some (.iconst 2, 62, 0, .int (2)) := by decide +kernel
theorem k204_62 : mm_at 204 62 = some (.iload 5, 64, 5, .null) := by decide +kernel
theorem k204_64 : mm_at 204 64 = some (.invokevirtual 118, 67, 244, .null) := by decide +kernel
theorem k204_67 : mm_at 204 67 = some (.aload_n 0, 68, 0, .null) := by decide +kernel
theorem k204_68 : mm_at 204 68 = some (.iload_n 1, 69, 1, .null) := by decide +kernel
theorem k204_69 : mm_at 204 69 = some (.iload_n 2, 70, 2, .null) := by decide +kernel
theorem k204_70 : mm_at 204 70 = some (.iconst 1, 71, 0, .int (1)) := by decide +kernel
theorem k204_71 : mm_at 204 71 = some (.isub, 72, 0, .null) := by decide +kernel
theorem k204_72 : mm_at 204 72 = some (.invokevirtual 225, 75, 271, .null) := by decide +kernel
theorem k204_75 : mm_at 204 75 = some (.istore 6, 77, 6, .null) := by decide +kernel
theorem k204_77 : mm_at 204 77 = some (.aload_n 0, 78, 0, .null) := by decide +kernel
theorem k204_78 : mm_at 204 78 = some (.iload_n 3, 79, 3, .null) := by decide +kernel
theorem k204_79 : mm_at 204 79 = some (.iconst 2, 80, 0, .int (2)) := by decide +kernel
theorem k204_80 : mm_at 204 80 = some (.iload 4, 82, 4, .null) := by decide +kernel
theorem k204_82 : mm_at 204 82 = some (.invokevirtual 118, 85, 244, .null) := by decide +kernel
theorem k204_85 : mm_at 204 85 = some (.iload 6, 87, 6, .null) := by decide +kernel
theorem k204_87 : mm_at 204 87 = some (.ifCond .eq 5, 90, 92, .null) := by decide +kernel
theorem k204_90 : mm_at 204 90 = some (.iconst 1, 91, 0, .int (1)) := by decide +kernel
theorem k204_91 : mm_at 204 91 = some (.ireturn, 92, 0, .null) := by decide +kernel
theorem k204_92 : mm_at 204 92 = some (.iinc 5 1, 95, 5, .int (1)) := by decide +kernel
theorem k204_95 : mm_at 204 95 = some (.goto (-62), 98, 33, .null) := by decide +kernel
theorem k204_98 : mm_at 204 98 = some (.iinc 3 1, 101, 3, .int (1)) := by decide +kernel
theorem k204_101 : mm_at 204 101 = some (.goto (-89), 104, 12, .null) := by decide +kernel
theorem k204_104 : mm_at 204 104 = some (.iconst 0, 105, 0, .int (0)) := by decide +kernel
theorem k204_105 : mm_at 204 105 = some (.ireturn, 106, 0, .null) := by decide +kernel
theorem k205_0 : mm_at 205 0 = some (.iload_n 1, 1, 1, .null) := by decide +kernel
theorem k205_1 : mm_at 205 1 = some (.invokestatic 115, 4, 243, .null) := by decide +kernel
theorem k205_4 : mm_at 205 4 = some (.ifCond .ne 10, 7, 14, .null) := by decide +kernel
theorem k205_7 : mm_at 205 7 = some (.aload_n 0, 8, 0, .null) := by decide +kernel
theorem k205_8 : mm_at 205 8 = some (.ldc 97, 10, 0, .int (-1000000001)) := by decide +kernel
theorem k205_10 : mm_at 205 10 = some (.invokevirtual 98, 13, 238, .null) := by decide +kernel
theorem k205_13 : mm_at 205 13 = some (.ireturn, 14, 0, .null) := by decide +kernel
theorem k205_14 : mm_at 205 14 = some (.iconst 0, 15, 0, .int (0)) := by decide +kernel
theorem k205_15 : mm_at 205 15 = some (.istore_n 2, 16, 2, .null) := by decide +kernel
theorem k205_16 : mm_at 205 16 = some (.iload_n 2, 17, 2, .null) := by decide +kernel
theorem k205_17 : mm_at 205 17 = some (.iconst 2, 18, 0, .int (2)) := by decide +kernel
theorem k205_18 : mm_at 205 18 = some (.if_icmp .gt 20, 21, 38, .null) := by decide +kernel
theorem k205_21 : mm_at 205 21 = some (.aload_n 0, 22, 0, .null) := by decide +kernel
theorem k205_22 : mm_at 205 22 = some (.iload_n 1, 23, 1, .null) := by decide +kernel
theorem k205_23 : mm_at 205 23 = some (.iload_n 2, 24, 2, .null) := by decide +kernel
theorem k205_24 : mm_at 205 24 = some (.invokevirtual 225, 27, 271, .null) := by decide +kernel
theorem k205_27 : mm_at 205 27 = some (.ifCond .eq 5, 30, 32, .null) := by decide +kernel
theorem k205_30 : mm_at 205 30 = some (.iload_n 2, 31, 2, .null) := by decide +kernel
theorem k205_31 : mm_at 205 31 = some (.ireturn, 32, 0, .null) := by decide +kernel
theorem k205_32 : mm_at 205 32 = some (.iinc 2 1, 35, 2, .int (1)) := by decide +kernel
theorem k205_35 : mm_at 205 35 = some (.goto (-19), 38, 16, .null) := by decide +kernel
theorem k205_38 : mm_at 205 38 = some (.aload_n 0, 39, 0, .null) := by decide +kernel
theorem k205_39 : mm_at 205 39 = some (.ldc 224, 41, 0, .int (-1000000002)) := by decide +kernel
theorem k205_41 : mm_at 205 41 = some (.invokevirtual 98, 44, 238, .null) := by decide +kernel
theorem k205_44 : mm_at 205 44 = some (.ireturn, 45, 0, .null) := by decide +kernel
theorem k206_0 : mm_at 206 0 = some (.iconst 0, 1, 0, .int (0)) := by decide +kernel
theorem k206_1 : mm_at 206 1 = some (.istore_n 2, 2, 2, .null) := by decide +kernel
theorem k206_2 : mm_at 206 2 = some (.iconst 0, 3, 0, .int (0)) := by decide +kernel
theorem k206_3 : mm_at 206 3 = some (.istore_n 3, 4, 3, .null) := by decide +kernel
theorem k206_4 : mm_at 206 4 = some (.iload_n 3, 5, 3, .null) := by decide +kernel
theorem k206_5 : mm_at 206 5 = some (.aload_n 0, 6, 0, .null) := by decide +kernel
theorem k206_6 : mm_at 206 6 = some (.getfield 9, 9, 1200, .null) := by decide +kernel
theorem k206_9 : mm_at 206 9 = some (.iconst 2, 10, 0, .int (2)) := by decide +kernel
theorem k206_10 : mm_at 206 10 = some (.iaload, 11, 0, .null) := by decide +kernel
theorem k206_11 : mm_at 206 11 = some (.if_icmp .ge 30, 14, 41, .null) := by decide +kernel
theorem k206_14 : mm_at 206 14 = some (.iload_n 2, 15, 2, .null) := by decide +kernel
theorem k206_15 : mm_at 206 15 = some (.iload_n 1, 16, 1, .null) := by decide +kernel
theorem k206_16 : mm_at 206 16 = some (.iload_n 3, 17, 3, .null) := by decide +kernel
theorem k206_17 : mm_at 206 17 = some (.ishr, 18, 0, .null) := by decide +kernel
theorem k206_18 : mm_at 206 18 = some (.iconst 1, 19, 0, .int (1)) := by decide +kernel
theorem k206_19 : mm_at 206 19 = some (.iand, 20, 0, .null) := by decide +kernel
theorem k206_20 : mm_at 206 20 = some (.iconst 1, 21, 0, .int (1)) := by decide +kernel
theorem k206_21 : mm_at 206 21 = some (.if_icmp .ne 11, 24, 32, .null) := by decide +kernel
theorem k206_24 : mm_at 206 24 = some (.aload_n 0, 25, 0, .null) := by decide +kernel
theorem k206_25 : mm_at 206 25 = some (.iload_n 3, 26, 3, .null) := by decide +kernel
theorem k206_26 : mm_at 206 26 = some (.invokevirtual 80, 29, 233, .null) := by decide +kernel
theorem k206_29 : mm_at 206 29 = some (.goto 4, 32, 33, .null) := by decide +kernel
theorem k206_32 : mm_at 206 32 = some (.iconst 0, 33, 0, .int (0)) := by decide +kernel
theorem k206_33 : mm_at 206 33 = some (.iadd, 34, 0, .null) := by decide +kernel
theorem k206_34 : mm_at 206 34 = some (.istore_n 2, 35, 2, .null) := by decide +kernel
theorem k206_35 : mm_at 206 35 = some (.iinc 3 1, 38, 3, .int (1)) := by decide +kernel
theorem k206_38 : mm_at 206 38 = some (.goto (-34), 41, 4, .null) := by decide +kernel
theorem k206_41 : mm_at 206 41 = some (.iload_n 2, 42, 2, .null) := by decide +kernel
theorem k206_42 : mm_at 206 42 = some (.ireturn, 43, 0, .null) := by decide +kernel
theorem k207_0 : mm_at 207 0 = some (.aload_n 0, 1, 0, .null) := by decide +kernel
theorem k207_1 : mm_at 207 1 = some (.iload_n 1, 2, 1, .null) := by decide +kernel
theorem k207_2 : mm_at 207 2 = some (.invokevirtual 102, 5, 239, .null) := by decide +kernel
theorem k207_5 : mm_at 207 5 = some (.ifCond .ne 10, 8, 15, .null) := by decide +kernel
theorem k207_8 : mm_at 207 8 = some (.aload_n 0, 9, 0, .null) := by decide +kernel
theorem k207_9 : mm_at 207 9 = some (.ldc 97, 11, 0, .int (-1000000001)) := by decide +kernel
theorem k207_11 : mm_at 207 11 = some (.invokevirtual 98, 14, 238, .null) := by decide +kernel
theorem k207_14 : mm_at 207 14 = some (.ireturn, 15, 0, .null) := by decide +kernel
theorem k207_15 : mm_at 207 15 = some (.aload_n 0, 16, 0, .null) := by decide +kernel
theorem k207_16 : mm_at 207 16 = some (.invokevirtual 86, 19, 235, .null) := by decide +kernel
theorem k207_19 : mm_at 207 19 = some (.istore_n 2, 20, 2, .null) := by decide +kernel
theorem k207_20 : mm_at 207 20 = some (.iload_n 2, 21, 2, .null) := by decide +kernel
theorem k207_21 : mm_at 207 21 = some (.iload_n 1, 22, 1, .null) := by decide +kernel
theorem k207_22 : mm_at 207 22 = some (.ishr, 23, 0, .null) := by decide +kernel
theorem k207_23 : mm_at 207 23 = some (.iconst 1, 24, 0, .int (1)) := by decide +kernel
theorem k207_24 : mm_at 207 24 = some (.iand, 25, 0, .null) := by decide +kernel
theorem k207_25 : mm_at 207 25 = some (.ifCond .ne 10, 28, 35, .null) := by decide +kernel
theorem k207_28 : mm_at 207 28 = some (.aload_n 0, 29, 0, .null) := by decide +kernel
theorem k207_29 : mm_at 207 29 = some (.ldc 125, 31, 0, .int (-1000000003)) := by decide +kernel
theorem k207_31 : mm_at 207 31 = some (.invokevirtual 98, 34, 238, .null) := by decide +kernel
theorem k207_34 : mm_at 207 34 = some (.ireturn, 35, 0, .null) := by decide +kernel
theorem k207_35 : mm_at 207 35 = some (.aload_n 0, 36, 0, .null) := by decide +kernel
theorem k207_36 : mm_at 207 36 = some (.iload_n 2, 37, 2, .null) := by decide +kernel
theorem k207_37 : mm_at 207 37 = some (.invokevirtual 228, 40, 272, .null) := by decide +kernel
theorem k207_40 : mm_at 207 40 = some (.istore_n 3, 41, 3, .null) := by decide +kernel
theorem k207_41 : mm_at 207 41 = some (.aload_n 0, 42, 0, .null) := by decide +kernel
theorem k207_42 : mm_at 207 42 = some (.iload_n 1, 43, 1, .null) := by decide +kernel
theorem k207_43 : mm_at 207 43 = some (.invokevirtual 80, 46, 233, .null) := by decide +kernel
theorem k207_46 : mm_at 207 46 = some (.istore 4, 48, 4, .null) := by decide +kernel
theorem k207_48 : mm_at 207 48 = some (.iconst 0, 49, 0, .int (0)) := by decide +kernel
theorem k207_49 : mm_at 207 49 = some (.istore 5, 51, 5, .null) := by decide +kernel
theorem k207_51 : mm_at 207 51 = some (.iconst 0, 52, 0, .int (0)) := by decide +kernel
theorem k207_52 : mm_at 207 52 = some (.istore 6, 54, 6, .null) := by decide +kernel
theorem k207_54 : mm_at 207 54 = some (.iload 6, 56, 6, .null) := by decide +kernel
theorem k207_56 : mm_at 207 56 = some (.iconst 1, 57, 0, .int (1)) := by decide +kernel
theorem k207_57 : mm_at 207 57 = some (.aload_n 0, 58, 0, .null) := by decide +kernel
theorem k207_58 : mm_at 207 58 = some (.getfield 9, 61, 1200, .null) := by decide +kernel
theorem k207_61 : mm_at 207 61 = some (.iconst 2, 62, 0, .int (2)) := by decide +kernel
theorem k207_62 : mm_at 207 62 = some (.iaload, 63, 0, .null) := by decide +kernel
theorem k207_63 : mm_at 207 63 = some (.ishl, 64, 0, .null) := by decide +kernel
theorem k207_64 : mm_at 207 64 = some (.if_icmp .ge 76, 67, 140, .null) := by decide +kernel
theorem k207_67 : mm_at 207 67 = some (.aload_n 0, 68, 0, .null) := by decide +kernel
theorem k207_68 : mm_at 207 68 = some (.iload 6, 70, 6, .null) := by decide +kernel
theorem k207_70 : mm_at 207 70 = some (.invokevirtual 228, 73, 272, .null) := by decide +kernel
theorem k207_73 : mm_at 207 73 = some (.istore 7, 75, 7, .null) := by decide +kernel
theorem k207_75 : mm_at 207 75 = some (.iload 6, 77, 6, .null) := by decide +kernel
theorem k207_77 : mm_at 207 77 = some (.iload_n 2, 78, 2, .null) := by decide +kernel
theorem k207_78 : mm_at 207 78 = some (.iconst (-1), 79, 0, .int (-1)) := by decide +kernel
theorem k207_79 : mm_at 207 79 = some (.ixor, 80, 0, .null) := by decide +kernel
theorem k207_80 : mm_at 207 80 = some (.iand, 81, 0, .null) := by decide +kernel
theorem k207_81 : mm_at 207 81 = some (.ifCond .ne 16, 84, 97, .null) := by decide +kernel
theorem k207_84 : mm_at 207 84 = some (.iload 6, 86, 6, .null) := by decide +kernel
theorem k207_86 : mm_at 207 86 = some (.iload_n 1, 87, 1, .null) := by decide +kernel
theorem k207_87 : mm_at 207 87 = some (.ishr, 88, 0, .null) := by decide +kernel
theorem k207_88 : mm_at 207 88 = some (.iconst 1, 89, 0, .int (1)) := by decide +kernel
theorem k207_89 : mm_at 207 89 = some (.iand, 90, 0, .null) := by decide +kernel
theorem k207_90 : mm_at 207 90 = some (.ifCond .ne 7, 93, 97, .null) := by decide +kernel
theorem k207_93 : mm_at 207 93 = some (.iconst 1, 94, 0, .int (1)) := by decide +kernel
theorem k207_94 : mm_at 207 94 = some (.goto 4, 97, 98, .null) := by decide +kernel
theorem k207_97 : mm_at 207 97 = some (.iconst 0, 98, 0, .int (0)) := by decide +kernel
theorem k207_98 : mm_at 207 98 = some (.istore 8, 100, 8, .null) := by decide +kernel
theorem k207_100 : mm_at 207 100 = some (.iload 5, 102, 5, .null) := by decide +kernel
theorem k207_102 : mm_at 207 102 = some (.iload 8, 104, 8, .null) := by decide +kernel
theorem k207_104 : mm_at 207 104 = some (.ifCond .eq 26, 107, 130, .null) := by decide +kernel
theorem k207_107 : mm_at 207 107 = some (.iconst 2, 108, 0, .int (2)) := by decide +kernel
theorem k207_108 : mm_at 207 108 = some (.iload 7, 110, 7, .null) := by decide +kernel
theorem k207_110 : mm_at 207 110 = some (.imul, 111, 0, .null) := by decide +kernel
theorem k207_111 : mm_at 207 111 = some (.iload_n 3, 112, 3, .null) := by decide +kernel
theorem k207_112 : mm_at 207 112 = some (.if_icmp .gt 18, 115, 130, .null) := by decide +kernel
theorem k207_115 : mm_at 207 115 = some (.iconst 2, 116, 0, .int (2)) := by decide +kernel
theorem k207_116 : mm_at 207 116 = some (.iload 7, 118, 7, .null) := by decide +kernel
theorem k207_118 : mm_at 207 118 = some (.iload 4, 120, 4, .null) := by decide +kernel
theorem k207_120 : mm_at 207 120 = some (.iadd, 121, 0, .null) := by decide +kernel
theorem k207_121 : mm_at 207 121 = some (.imul, 122, 0, .null) := by decide +kernel
theorem k207_122 : mm_at 207 122 = some (.iload_n 3, 123, 3, .null) := by decide +kernel
theorem k207_123 : mm_at 207 123 = some (.if_icmp .le 7, 126, 130, .null) := by decide +kernel
theorem k207_126 : mm_at 207 126 = some (.iconst 1, 127, 0, .int (1)) := by decide +kernel
theorem k207_127 : mm_at 207 127 = some (.goto 4, 130, 131, .null) := by decide +kernel
theorem k207_130 : mm_at 207 130 = some (.iconst 0, 131, 0, .int (0)) := by decide +kernel
theorem k207_131 : mm_at 207 131 = some (.iadd, 132, 0, .null) := by decide +kernel
theorem k207_132 : mm_at 207 132 = some (.istore 5, 134, 5, .null) := by decide +kernel
theorem k207_134 : mm_at 207 134 = some (.iinc 6 1, 137, 6, .int (1)) := by decide +kernel
theorem k207_137 : mm_at 207 137 = some (.goto (-83), 140, 54, .null) := by decide +kernel
theorem k207_140 : mm_at 207 140 = some (.iload 5, 142, 5, .null) := by decide +kernel
theorem k207_142 : mm_at 207 142 = some (.ireturn, 143, 0, .null) := by decide +kernel
theorem k208_0 : mm_at 208 0 = some (.iload_n 2, 1, 2, .null) := by decide +kernel
theorem k208_1 : mm_at 208 1 = some (.invokestatic 62, 4, 228, .null) := by decide +kernel
theorem k208_4 : mm_at 208 4 = some (.aload_n 0, 5, 0, .null) := by decide +kernel
theorem k208_5 : mm_at 208 5 = some (.invokevirtual 86, 8, 235, .null) := by decide +kernel
theorem k208_8 : mm_at 208 8 = some (.invokestatic 62, 11, 228, .null) := by decide +kernel
theorem k208_11 : mm_at 208 11 = some (.if_icmp .ne 7, 14, 18, .null) := by decide +kernel
theorem k208_14 : mm_at 208 14 = some (.iconst 1, 15, 0, .int (1)) := by decide +kernel
theorem k208_15 : mm_at 208 15 = some (.goto 4, 18, 19, .null) := by decide +kernel
theorem k208_18 : mm_at 208 18 = some (.iconst 0, 19, 0, .int (0)) := by decide +kernel
theorem k208_19 : mm_at 208 19 = some (.istore_n 3, 20, 3, .null) := by decide +kernel
theorem k208_20 : mm_at 208 20 = some (.iconst 0, 21, 0, .int (0)) := by decide +kernel
theorem k208_21 : mm_at 208 21 = some (.istore 4, 23, 4, .null) := by decide +kernel
theorem k208_23 : mm_at 208 23 = some (.iload 4, 25, 4, .null) := by decide +kernel
theorem k208_25 : mm_at 208 25 = some (.aload_n 0, 26, 0, .null) := by decide +kernel
theorem k208_26 : mm_at 208 26 = some (.getfield 40, 29, 1217, .null) := by decide +kernel
theorem k208_29 : mm_at 208 29 = some (.iload_n 1, 30, 1, .null) := by decide +kernel
theorem k208_30 : mm_at 208 30 = some (.iaload, 31, 0, .null) := by decide +kernel
theorem k208_31 : mm_at 208 31 = some (.if_icmp .ge 41, 34, 72, .null) := by decide +kernel
theorem k208_34 : mm_at 208 34 = some (.iload_n 3, 35, 3, .null) := by decide +kernel
theorem k208_35 : mm_at 208 35 = some (.ifCond .eq 37, 38, 72, .null) := by decide +kernel
theorem k208_38 : mm_at 208 38 = some (.aload_n 0, 39, 0, .null) := by decide +kernel
theorem k208_39 : mm_at 208 39 = some (.iload 4, 41, 4, .null) := by decide +kernel
theorem k208_41 : mm_at 208 41 = some (.iload_n 2, 42, 2, .null) := by decide +kernel
theorem k208_42 : mm_at 208 42 = some (.invokevirtual 90, 45, 236, .null) := by decide +kernel
theorem k208_45 : mm_at 208 45 = some (.aload_n 0, 46, 0, .null) := by decide +kernel
theorem k208_46 : mm_at 208 46 = some (.getfield 43, 49, 1218, .null) := by decide +kernel
theorem k208_49 : mm_at 208 49 = some (.bipush 40, 51, 0, .int (40)) := by decide +kernel
theorem k208_51 : mm_at 208 51 = some (.iload_n 1, 52, 1, .null) := by decide +kernel
theorem k208_52 : mm_at 208 52 = some (.imul, 53, 0, .null) := by decide +kernel
theorem k208_53 : mm_at 208 53 = some (.iload 4, 55, 4, .null) := by decide +kernel
theorem k208_55 : mm_at 208 55 = some (.iadd, 56, 0, .null) := by decide +kernel
theorem k208_56 : mm_at 208 56 = some (.iaload, 57, 0, .null) := by decide +kernel
theorem k208_57 : mm_at 208 57 = some (.if_icmp .ne 7, 60, 64, .null) := by decide +kernel
theorem k208_60 : mm_at 208 60 = some (.iconst 1, 61, 0, .int (1)) := by decide +kernel
theorem k208_61 : mm_at 208 61 = some (.goto 4, 64, 65, .null) := by decide +kernel
theorem k208_64 : mm_at 208 64 = some (.iconst 0, 65, 0, .int (0)) := by decide +kernel
theorem k208_65 : mm_at 208 65 = some (.istore_n 3, 66, 3, .null) := by decide +kernel
theorem k208_66 : mm_at 208 66 = some (.iinc 4 1, 69, 4, .int (1)) := by decide +kernel
theorem k208_69 : mm_at 208 69 = some (.goto (-46), 72, 23, .null) := by decide +kernel
theorem k208_72 : mm_at 208 72 = some (.iload_n 3, 73, 3, .null) := by decide +kernel
theorem k208_73 : mm_at 208 73 = some (.ireturn, 74, 0, .null) := by decide +kernel
theorem k209_0 : mm_at 209 0 = some (.iload_n 1, 1, 1, .null) := by decide +kernel
theorem k209_1 : mm_at 209 1 = some (.invokestatic 231, 4, 273, .null) := by decide +kernel
theorem k209_4 : mm_at 209 4 = some (.ifCond .eq 12, 7, 16, .null) := by decide +kernel
theorem k209_7 : mm_at 209 7 = some (.iload_n 2, 8, 2, .null) := by decide +kernel
theorem k209_8 : mm_at 209 8 = some (.iconst 0, 9, 0, .int (0)) := by decide +kernel
theorem k209_9 : mm_at 209 9 = some (.iconst 1, 10, 0, .int (1)) := by decide +kernel
theorem k209_10 : mm_at 209 10 = some (.invokestatic 47, 13, 224, .null) := by decide +kernel
theorem k209_13 : mm_at 209 13 = some (.ifCond .ne 10, 16, 23, .null) := by decide +kernel
theorem k209_16 : mm_at 209 16 = some (.aload_n 0, 17, 0, .null) := by decide +kernel
theorem k209_17 : mm_at 209 17 = some (.ldc 97, 19, 0, .int (-1000000001)) := by decide +kernel
theorem k209_19 : mm_at 209 19 = some (.invokevirtual 98, 22, 238, .null) := by decide +kernel
theorem k209_22 : mm_at 209 22 = some (.ireturn, 23, 0, .null) := by decide +kernel
theorem k209_23 : mm_at 209 23 = some (.aload_n 0, 24, 0, .null) := by decide +kernel
theorem k209_24 : mm_at 209 24 = some (.getfield 37, 27, 1216, .null) := by decide +kernel
theorem k209_27 : mm_at 209 27 = some (.iload_n 1, 28, 1, .null) := by decide +kernel
theorem k209_28 : mm_at 209 28 = some (.iaload, 29, 0, .null) := by decide +kernel
theorem k209_29 : mm_at 209 29 = some (.ifCond .eq 14, 32, 43, .null) := by decide +kernel
theorem k209_32 : mm_at 209 32 = some (.aload_n 0, 33, 0, .null) := by decide +kernel
theorem k209_33 : mm_at 209 33 = some (.getfield 40, 36, 1217, .null) := by decide +kernel
theorem k209_36 : mm_at 209 36 = some (.iload_n 1, 37, 1, .null) := by decide +kernel
theorem k209_37 : mm_at 209 37 = some (.iaload, 38, 0, .null) := by decide +kernel
theorem k209_38 : mm_at 209 38 = some (.bipush 8, 40, 0, .int (8)) := by decide +kernel
theorem k209_40 : mm_at 209 40 = some (.if_icmp .le 10, 43, 50, .null) := by decide +kernel
theorem k209_43 : mm_at 209 43 = some (.aload_n 0, 44, 0, .null) := by decide +kernel
theorem k209_44 : mm_at 209 44 = some (.ldc 224, 46, 0, .int (-1000000002)) := by decide +kernel
theorem k209_46 : mm_at 209 46 = some (.invokevirtual 98, 49, 238, .null) := by decide +kernel
theorem k209_49 : mm_at 209 49 = some (.ireturn, 50, 0, .null) := by decide +kernel
theorem k209_50 : mm_at 209 50 = some (.iconst 0, 51, 0, .int (0)) := by decide +kernel
theorem k209_51 : mm_at 209 51 = some (.istore_n 3, 52, 3, .null) := by decide +kernel
theorem k209_52 : mm_at 209 52 = some (.iconst (-1), 53, 0, .int (-1)) := by decide +kernel
theorem k209_53 : mm_at 209 53 = some (.istore 4, 55, 4, .null) := by decide +kernel
theorem k209_55 : mm_at 209 55 = some (.iconst 1, 56, 0, .int (1)) := by decide +kernel
theorem k209_56 : mm_at 209 56 = some (.aload_n 0, 57, 0, .null) := by decide +kernel
theorem k209_57 : mm_at 209 57 = some (.getfield 9, 60, 1200, .null) := by decide +kernel
theorem k209_60 : mm_at 209 60 = some (.iconst 2, 61, 0, .int (2)) := by decide +kernel
theorem k209_61 : mm_at 209 61 = some (.iaload, 62, 0, .null) := by decide +kernel
theorem k209_62 : mm_at 209 62 = some (.ishl, 63, 0, .null) := by decide +kernel
theorem k209_63 : mm_at 209 63 = some (.iconst 1, 64, 0, .int (1)) := by decide +kernel
theorem k209_64 : mm_at 209 64 = some (.isub, 65, 0, .null) := by decide +kernel
theorem k209_65 : mm_at 209 65 = some (.istore 5, 67, 5, .null) := by decide +kernel
theorem k209_67 : mm_at 209 67 = some (.iload 5, 69, 5, .null) := by decide +kernel
theorem k209_69 : mm_at 209 69 = some (.ifCond .lt 26, 72, 95, .null) := by decide +kernel
theorem k209_72 : mm_at 209 72 = some (.aload_n 0, 73, 0, .null) := by decide +kernel
theorem k209_73 : mm_at 209 73 = some (.iload_n 1, 74, 1, .null) := by decide +kernel
theorem k209_74 : mm_at 209 74 = some (.iload 5, 76, 5, .null) := by decide +kernel
theorem k209_76 : mm_at 209 76 = some (.invokevirtual 234, 79, 274, .null) := by decide +kernel
theorem k209_79 : mm_at 209 79 = some (.ifCond .eq 10, 82, 89, .null) := by decide +kernel
theorem k209_82 : mm_at 209 82 = some (.iinc 3 1, 85, 3, .int (1)) := by decide +kernel
theorem k209_85 : mm_at 209 85 = some (.iload 5, 87, 5, .null) := by decide +kernel
theorem k209_87 : mm_at 209 87 = some (.istore 4, 89, 4, .null) := by decide +kernel
theorem k209_89 : mm_at 209 89 = some (.iinc 5 (-1), 92, 5, .int (-1)) := by decide +kernel
theorem k209_92 : mm_at 209 92 = some (.goto (-25), 95, 67, .null) := by decide +kernel
theorem k209_95 : mm_at 209 95 = some (.iload_n 2, 96, 2, .null) := by decide +kernel
theorem k209_96 : mm_at 209 96 = some (.ifCond .ne 7, 99, 103, .null) := by decide +kernel
theorem k209_99 : mm_at 209 99 = some (.iload_n 3, 100, 3, .null) := by decide +kernel
theorem k209_100 : mm_at 209 100 = some (.goto 19, 103, 119, .null) := by decide +kernel
theorem k209_103 : mm_at 209 103 = some (.iload 4, 105, 4, .null) := by decide +kernel
theorem k209_105 : mm_at 209 105 = some (.ifCond .ge 12, 108, 117, .null) := by decide +kernel
theorem k209_108 : mm_at 209 108 = some (.aload_n 0, 109, 0, .null) := by decide +kernel
theorem k209_109 : mm_at 209 109 = some (.ldc 224, 111, 0, .int (-1000000002)) := by decide +kernel
theorem k209_111 : mm_at 209 111 = some (.invokevirtual 98, 114, 238, .null) := by decide +kernel
theorem k209_114 : mm_at 209 114 = some (.goto 5, 117, 119, .null) := by decide +kernel
theorem k209_117 : mm_at 209 117 = some (.iload 4, 119, 4, .null) := by decide +kernel
theorem k209_119 : mm_at 209 119 = some (.ireturn, 120, 0, .null) := by decide +kernel
theorem k210_0 : mm_at 210 0 = some (.aload_n 0, 1, 0, .null) := by decide +kernel
theorem k210_1 : mm_at 210 1 = some (.iload_n 1, 2, 1, .null) := by decide +kernel
theorem k210_2 : mm_at 210 2 = some (.iload_n 2, 3, 2, .null) := by decide +kernel
theorem k210_3 : mm_at 210 3 = some (.invokevirtual 90, 6, 236, .null) := by decide +kernel
theorem k210_6 : mm_at 210 6 = some (.istore 4, 8, 4, .null) := by decide +kernel
theorem k210_8 : mm_at 210 8 = some (.iconst 1, 9, 0, .int (1)) := by decide +kernel
theorem k210_9 : mm_at 210 9 = some (.istore 5, 11, 5, .null) := by decide +kernel
theorem k210_11 : mm_at 210 11 = some (.iconst 0, 12, 0, .int (0)) := by decide +kernel
theorem k210_12 : mm_at 210 12 = some (.istore 6, 14, 6, .null) := by decide +kernel
theorem k210_14 : mm_at 210 14 = some (.iload 6, 16, 6, .null) := by decide +kernel
theorem k210_16 : mm_at 210 16 = some (.iload_n 2, 17, 2, .null) := by decide +kernel
theorem k210_17 : mm_at 210 17 = some (.if_icmp .ge 42, 20, 59, .null) := by decide +kernel
theorem k210_20 : mm_at 210 20 = some (.iload 5, 22, 5, .null) := by decide +kernel
theorem k210_22 : mm_at 210 22 = some (.ifCond .eq 37, 25, 59, .null) := by decide +kernel
theorem k210_25 : mm_at 210 25 = some (.iload 6, 27, 6, .null) := by decide +kernel
theorem k210_27 : mm_at 210 27 = some (.invokestatic 62, 30, 228, .null) := by decide +kernel
theorem k210_30 : mm_at 210 30 = some (.iload_n 3, 31, 3, .null) := by decide +kernel
theorem k210_31 : mm_at 210 31 = some (.if_icmp .ne 15, 34, 46, .null) := by decide +kernel
theorem k210_34 : mm_at 210 34 = some (.aload_n 0, 35, 0, .null) := by decide +kernel
theorem k210_35 : mm_at 210 35 = some (.iload_n 1, 36, 1, .null) := by decide +kernel
theorem k210_36 : mm_at 210 36 = some (.iload 6, 38, 6, .null) := by decide +kernel
theorem k210_38 : mm_at 210 38 = some (.invokevirtual 90, 41, 236, .null) := by decide +kernel
theorem k210_41 : mm_at 210 41 = some (.iload 4, 43, 4, .null) := by decide +kernel
theorem k210_43 : mm_at 210 43 = some (.if_icmp .eq 7, 46, 50, .null) := by decide +kernel
theorem k210_46 : mm_at 210 46 = some (.iconst 1, 47, 0, .int (1)) := by decide +kernel
theorem k210_47 : mm_at 210 47 = some (.goto 4, 50, 51, .null) := by decide +kernel
theorem k210_50 : mm_at 210 50 = some (.iconst 0, 51, 0, .int (0)) := by decide +kernel
theorem k210_51 : mm_at 210 51 = some (.istore 5, 53, 5, .null) := by decide +kernel
theorem k210_53 : mm_at 210 53 = some (.iinc 6 1, 56, 6, .int (1)) := by decide +kernel
theorem k210_56 : mm_at 210 56 = some (.goto (-42), 59, 14, .null) := by decide +kernel
theorem k210_59 : mm_at 210 59 = some (.iload 5, 61, 5, .null) := by decide +kernel
theorem k210_61 : mm_at 210 61 = some (.ireturn, 62, 0, .null) := by decide +kernel
theorem k211_0 : mm_at 211 0 = some (.aload_n 0, 1, 0, .null) := by decide +kernel
theorem k211_1 : mm_at 211 1 = some (.invokevirtual 86, 4, 235, .null) := by decide +kernel
theorem k211_4 : mm_at 211 4 = some (.invokestatic 62, 7, 228, .null) := by decide +kernel
theorem k211_7 : mm_at 211 7 = some (.istore_n 2, 8, 2, .null) := by decide +kernel
theorem k211_8 : mm_at 211 8 = some (.iconst 0, 9, 0, .int (0)) := by decide +kernel
theorem k211_9 : mm_at 211 9 = some (.istore_n 3, 10, 3, .null) := by decide +kernel
theorem k211_10 : mm_at 211 10 = some (.iconst 0, 11, 0, .int (0)) := by decide +kernel
theorem k211_11 : mm_at 211 11 = some (.istore 4, 13, 4, .null) := by decide +kernel
theorem k211_13 : mm_at 211 13 = some (.iload 4, 15, 4, .null) := by decide +kernel
theorem k211_15 : mm_at 211 15 = some (.iconst 1, 16, 0, .int (1)) := by decide +kernel
theorem k211_16 : mm_at 211 16 = some (.aload_n 0, 17, 0, .null) := by decide +kernel
theorem k211_17 : mm_at 211 17 = some (.getfield 9, 20, 1200, .null) := by decide +kernel
theorem k211_20 : mm_at 211 20 = some (.iconst 2, 21, 0, .int (2)) := by decide +kernel
theorem k211_21 : mm_at 211 21 = some (.iaload, 22, 0, .null) := by decide +kernel
theorem k211_22 : mm_at 211 22 = some (.ishl, 23, 0, .null) := by decide +kernel
theorem k211_23 : mm_at 211 23 = some (.if_icmp .ge 37, 26, 60, .null) := by decide +kernel
theorem k211_26 : mm_at 211 26 = some (.iload_n 3, 27, 3, .null) := by decide +kernel
theorem k211_27 : mm_at 211 27 = some (.iload 4, 29, 4, .null) := by decide +kernel
theorem k211_29 : mm_at 211 29 = some (.invokestatic 62, 32, 228, .null) := by decide +kernel
theorem k211_32 : mm_at 211 32 = some (.iload_n 2, 33, 2, .null) := by decide +kernel
theorem k211_33 : mm_at 211 33 = some (.if_icmp .ne 18, 36, 51, .null) := by decide +kernel
theorem k211_36 : mm_at 211 36 = some (.aload_n 0, 37, 0, .null) := by decide +kernel
theorem k211_37 : mm_at 211 37 = some (.iload_n 1, 38, 1, .null) := by decide +kernel
theorem k211_38 : mm_at 211 38 = some (.iload 4, 40, 4, .null) := by decide +kernel
theorem k211_40 : mm_at 211 40 = some (.iload_n 2, 41, 2, .null) := by decide +kernel
theorem k211_41 : mm_at 211 41 = some (.invokevirtual 237, 44, 275, .null) := by decide +kernel
theorem k211_44 : mm_at 211 44 = some (.ifCond .eq 7, 47, 51, .null) := by decide +kernel
theorem k211_47 : mm_at 211 47 = some (.iconst 1, 48, 0, .int (1)) := by decide +kernel
theorem k211_48 : mm_at 211 48 = some (.goto 4, 51, 52, .null) := by decide +kernel
theorem k211_51 : mm_at 211 51 = some (.iconst 0, 52, 0, .int (0)) := by decide +kernel
theorem k211_52 : mm_at 211 52 = some (.iadd, 53, 0, .null) := by decide +kernel
theorem k211_53 : mm_at 211 53 = some (.istore_n 3, 54, 3, .null) := by decide +kernel
theorem k211_54 : mm_at 211 54 = some (.iinc 4 1, 57, 4, .int (1)) := by decide +kernel
theorem k211_57 : mm_at 211 57 = some (.goto (-44), 60, 13, .null) := by decide +kernel
theorem k211_60 : mm_at 211 60 = some (.iload_n 3, 61, 3, .null) := by decide +kernel
theorem k211_61 : mm_at 211 61 = some (.ireturn, 62, 0, .null) := by decide +kernel
theorem k212_0 : mm_at 212 0 = some (.iload_n 1, 1, 1, .null) := by decide +kernel
theorem k212_1 : mm_at 212 1 = some (.iconst 0, 2, 0, .int (0)) := by decide +kernel
theorem k212_2 : mm_at 212 2 = some (.iconst 1, 3, 0, .int (1)) := by decide +kernel
theorem k212_3 : mm_at 212 3 = some (.invokestatic 47, 6, 224, .null) := by decide +kernel
theorem k212_6 : mm_at 212 6 = some (.ifCond .ne 10, 9, 16, .null) := by decide +kernel
theorem k212_9 : mm_at 212 9 = some (.aload_n 0, 10, 0, .null) := by decide +kernel
theorem k212_10 : mm_at 212 10 = some (.ldc 97, 12, 0, .int (-1000000001)) := by decide +kernel
theorem k212_12 : mm_at 212 12 = some (.invokevirtual 98, 15, 238, .null) := by decide +kernel
theorem k212_15 : mm_at 212 15 = some (.ireturn, 16, 0, .null) := by decide +kernel
theorem k212_16 : mm_at 212 16 = some (.iconst 0, 17, 0, .int (0)) := by decide +kernel
theorem k212_17 : mm_at 212 17 = some (.istore_n 2, 18, 2, .null) := by decide +kernel
theorem k212_18 : mm_at 212 18 = some (.iconst 0, 19, 0, .int (0)) := by decide +kernel
theorem k212_19 : mm_at 212 19 = some (.istore_n 3, 20, 3, .null) := by decide +kernel
theorem k212_20 : mm_at 212 20 = some (.iconst 0, 21, 0, .int (0)) := by decide +kernel
theorem k212_21 : mm_at 212 21 = some (.istore 4, 23, 4, .null) := by decide +kernel
theorem k212_23 : mm_at 212 23 = some (.iload 4, 25, 4, .null) := by decide +kernel
theorem k212_25 : mm_at 212 25 = some (.bipush 8, 27, 0, .int (8)) := by decide +kernel
theorem k212_27 : mm_at 212 27 = some (.if_icmp .ge 43, 30, 70, .null) := by decide +kernel
theorem k212_30 : mm_at 212 30 = some (.aload_n 0, 31, 0, .null) := by decide +kernel
theorem k212_31 : mm_at 212 31 = some (.iload 4, 33, 4, .null) := by decide +kernel
theorem k212_33 : mm_at 212 33 = some (.invokevirtual 240, 36, 276, .null) := by decide +kernel
theorem k212_36 : mm_at 212 36 = some (.istore 5, 38, 5, .null) := by decide +kernel
theorem k212_38 : mm_at 212 38 = some (.iload 5, 40, 5, .null) := by decide +kernel
theorem k212_40 : mm_at 212 40 = some (.iload_n 3, 41, 3, .null) := by decide +kernel
theorem k212_41 : mm_at 212 41 = some (.if_icmp .le 8, 44, 49, .null) := by decide +kernel
theorem k212_44 : mm_at 212 44 = some (.iload 4, 46, 4, .null) := by decide +kernel
theorem k212_46 : mm_at 212 46 = some (.goto 4, 49, 50, .null) := by decide +kernel
theorem k212_49 : mm_at 212 49 = some (.iload_n 2, 50, 2, .null) := by decide +kernel
theorem k212_50 : mm_at 212 50 = some (.istore_n 2, 51, 2, .null) := by decide +kernel
theorem k212_51 : mm_at 212 51 = some (.iload 5, 53, 5, .null) := by decide +kernel
theorem k212_53 : mm_at 212 53 = some (.iload_n 3, 54, 3, .null) := by decide +kernel
theorem k212_54 : mm_at 212 54 = some (.if_icmp .le 8, 57, 62, .null) := by decide +kernel
theorem k212_57 : mm_at 212 57 = some (.iload 5, 59, 5, .null) := by decide +kernel
theorem k212_59 : mm_at 212 59 = some (.goto 4, 62, 63, .null) := by decide +kernel
theorem k212_62 : mm_at 212 62 = some (.iload_n 3, 63, 3, .null) := by decide +kernel
theorem k212_63 : mm_at 212 63 = some (.istore_n 3, 64, 3, .null) := by decide +kernel
theorem k212_64 : mm_at 212 64 = some (.iinc 4 1, 67, 4, .int (1)) := by decide +kernel
theorem k212_67 : mm_at 212 67 = some (.goto (-44), 70, 23, .null) := by decide +kernel
theorem k212_70 : mm_at 212 70 = some (.iload_n 1, 71, 1, .null) := by decide +kernel
theorem k212_71 : mm_at 212 71 = some (.ifCond .ne 7, 74, 78, .null) := by decide +kernel
theorem k212_74 : mm_at 212 74 = some (.iload_n 2, 75, 2, .null) := by decide +kernel
theorem k212_75 : mm_at 212 75 = some (.goto 4, 78, 79, .null) := by decide +kernel
theorem k212_78 : mm_at 212 78 = some (.iload_n 3, 79, 3, .null) := by decide +kernel
theorem k212_79 : mm_at 212 79 = some (.ireturn, 80, 0, .null) := by decide +kernel
theorem k213_0 : mm_at 213 0 = some (.aload_n 0, 1, 0, .null) := by decide +kernel
theorem k213_1 : mm_at 213 1 = some (.iload_n 1, 2, 1, .null) := by decide +kernel
theorem k213_2 : mm_at 213 2 = some (.invokevirtual 122, 5, 245, .null) := by decide +kernel
theorem k213_5 : mm_at 213 5 = some (.ifCond .eq 11, 8, 16, .null) := by decide +kernel
theorem k213_8 : mm_at 213 8 = some (.aload_n 0, 9, 0, .null) := by decide +kernel
theorem k213_9 : mm_at 213 9 = some (.iload_n 2, 10, 2, .null) := by decide +kernel
theorem k213_10 : mm_at 213 10 = some (.invokevirtual 102, 13, 239, .null) := by decide +kernel
theorem k213_13 : mm_at 213 13 = some (.ifCond .ne 10, 16, 23, .null) := by decide +kernel
theorem k213_16 : mm_at 213 16 = some (.aload_n 0, 17, 0, .null) := by decide +kernel
theorem k213_17 : mm_at 213 17 = some (.ldc 97, 19, 0, .int (-1000000001)) := by decide +kernel
theorem k213_19 : mm_at 213 19 = some (.invokevirtual 98, 22, 238, .null) := by decide +kernel
theorem k213_22 : mm_at 213 22 = some (.ireturn, 23, 0, .null) := by decide +kernel
theorem k213_23 : mm_at 213 23 = some (.aload_n 0, 24, 0, .null) := by decide +kernel
theorem k213_24 : mm_at 213 24 = some (.invokevirtual 218, 27, 269, .null) := by decide +kernel
theorem k213_27 : mm_at 213 27 = some (.iconst (-1), 28, 0, .int (-1)) := by decide +kernel
theorem k213_28 : mm_at 213 28 = some (.istore_n 3, 29, 3, .null) := by decide +kernel
theorem k213_29 : mm_at 213 29 = some (.bipush 99, 31, 0, .int (99)) := by decide +kernel
theorem k213_31 : mm_at 213 31 = some (.istore 4, 33, 4, .null) := by decide +kernel
theorem k213_33 : mm_at 213 33 = some (.iload 4, 35, 4, .null) := by decide +kernel
theorem k213_35 : mm_at 213 35 = some (.ifCond .lt 42, 38, 77, .null) := by decide +kernel
theorem k213_38 : mm_at 213 38 = some (.aload_n 0, 39, 0, .null) := by decide +kernel
theorem k213_39 : mm_at 213 39 = some (.iload_n 1, 40, 1, .null) := by decide +kernel
theorem k213_40 : mm_at 213 40 = some (.iconst 0, 41, 0, .int (0)) := by decide +kernel
theorem k213_41 : mm_at 213 41 = some (.iload 4, 43, 4, .null) := by decide +kernel
theorem k213_43 : mm_at 213 43 = some (.invokevirtual 118, 46, 244, .null) := by decide +kernel
theorem k213_46 : mm_at 213 46 = some (.aload_n 0, 47, 0, .null) := by decide +kernel
theorem k213_47 : mm_at 213 47 = some (.invokevirtual 201, 50, 264, .null) := by decide +kernel
theorem k213_50 : mm_at 213 50 = some (.aload_n 0, 51, 0, .null) := by decide +kernel
theorem k213_51 : mm_at 213 51 = some (.iload_n 1, 52, 1, .null) := by decide +kernel
theorem k213_52 : mm_at 213 52 = some (.iconst 2, 53, 0, .int (2)) := by decide +kernel
theorem k213_53 : mm_at 213 53 = some (.invokevirtual 51, 56, 225, .null) := by decide +kernel
theorem k213_56 : mm_at 213 56 = some (.iload_n 2, 57, 2, .null) := by decide +kernel
theorem k213_57 : mm_at 213 57 = some (.if_icmp .ne 8, 60, 65, .null) := by decide +kernel
theorem k213_60 : mm_at 213 60 = some (.iload 4, 62, 4, .null) := by decide +kernel
theorem k213_62 : mm_at 213 62 = some (.goto 4, 65, 66, .null) := by decide +kernel
theorem k213_65 : mm_at 213 65 = some (.iload_n 3, 66, 3, .null) := by decide +kernel
theorem k213_66 : mm_at 213 66 = some (.istore_n 3, 67, 3, .null) := by decide +kernel
theorem k213_67 : mm_at 213 67 = some (.aload_n 0, 68, 0, .null) := by decide +kernel
theorem k213_68 : mm_at 213 68 = some (.invokevirtual 221, 71, 270, .null) := by decide +kernel
theorem k213_71 : mm_at 213 71 = some (.iinc 4 (-1), 74, 4, .int (-1)) := by decide +kernel
theorem k213_74 : mm_at 213 74 = some (.goto (-41), 77, 33, .null) := by decide +kernel
theorem k213_77 : mm_at 213 77 = some (.iload_n 3, 78, 3, .null) := by decide +kernel
theorem k213_78 : mm_at 213 78 = some (.ifCond .ge 12, 81, 90, .null) := by decide +kernel
theorem k213_81 : mm_at 213 81 = some (.aload_n 0, 82, 0, .null) := by decide +kernel
theorem k213_82 : mm_at 213 82 = some (.ldc 224, 84, 0, .int (-1000000002)) := by decide +kernel
theorem k213_84 : mm_at 213 84 = some (.invokevirtual 98, 87, 238, .null) := by decide +kernel
theorem k213_87 : mm_at 213 87 = some (.goto 4, 90, 91, .null) := by decide +kernel
theorem k213_90 : mm_at 213 90 = some (.iload_n 3, 91, 3, .null) := by decide +kernel
theorem k213_91 : mm_at 213 91 = some (.ireturn, 92, 0, .null) := by decide +kernel
theorem k214_0 : mm_at 214 0 = some (.aload_n 0, 1, 0, .null) := by decide +kernel
theorem k214_1 : mm_at 214 1 = some (.invokevirtual 218, 4, 269, .null) := by decide +kernel
theorem k214_4 : mm_at 214 4 = some (.aload_n 0, 5, 0, .null) := by decide +kernel
theorem k214_5 : mm_at 214 5 = some (.invokevirtual 201, 8, 264, .null) := by decide +kernel
theorem k214_8 : mm_at 214 8 = some (.iconst 0, 9, 0, .int (0)) := by decide +kernel
theorem k214_9 : mm_at 214 9 = some (.istore_n 1, 10, 1, .null) := by decide +kernel
theorem k214_10 : mm_at 214 10 = some (.iconst 0, 11, 0, .int (0)) := by decide +kernel
theorem k214_11 : mm_at 214 11 = some (.istore_n 2, 12, 2, .null) := by decide +kernel
theorem k214_12 : mm_at 214 12 = some (.iload_n 2, 13, 2, .null) := by decide +kernel
theorem k214_13 : mm_at 214 13 = some (.aload_n 0, 14, 0, .null) := by decide +kernel
theorem k214_14 : mm_at 214 14 = some (.getfield 9, 17, 1200, .null) := by decide +kernel
theorem k214_17 : mm_at 214 17 = some (.iconst 3, 18, 0, .int (3)) := by decide +kernel
theorem k214_18 : mm_at 214 18 = some (.iaload, 19, 0, .null) := by decide +kernel
theorem k214_19 : mm_at 214 19 = some (.if_icmp .ge 29, 22, 48, .null) := by decide +kernel
theorem k214_22 : mm_at 214 22 = some (.iload_n 1, 23, 1, .null) := by decide +kernel
theorem k214_23 : mm_at 214 23 = some (.aload_n 0, 24, 0, .null) := by decide +kernel
theorem k214_24 : mm_at 214 24 = some (.iload_n 2, 25, 2, .null) := by decide +kernel
theorem k214_25 : mm_at 214 25 = some (.iconst 2, 26, 0, .int (2)) := by decide +kernel
theorem k214_26 : mm_at 214 26 = some (.invokevirtual 51, 29, 225, .null) := by decide +kernel
theorem k214_29 : mm_at 214 29 = some (.iconst (-1), 30, 0, .int (-1)) := by decide +kernel
theorem k214_30 : mm_at 214 30 = some (.if_icmp .ne 9, 33, 39, .null) := by decide +kernel
theorem k214_33 : mm_at 214 33 = some (.iconst 1, 34, 0, .int (1)) := by decide +kernel
theorem k214_34 : mm_at 214 34 = some (.iload_n 2, 35, 2, .null) := by decide +kernel
theorem k214_35 : mm_at 214 35 = some (.ishl, 36, 0, .null) := by decide +kernel
theorem k214_36 : mm_at 214 36 = some (.goto 4, 39, 40, .null) := by decide +kernel
theorem k214_39 : mm_at 214 39 = some (.iconst 0, 40, 0, .int (0)) := by decide +kernel
theorem k214_40 : mm_at 214 40 = some (.ior, 41, 0, .null) := by decide +kernel
theorem k214_41 : mm_at 214 41 = some (.istore_n 1, 42, 1, .null) := by decide +kernel
theorem k214_42 : mm_at 214 42 = some (.iinc 2 1, 45, 2, .int (1)) := by decide +kernel
theorem k214_45 : mm_at 214 45 = some (.goto (-33), 48, 12, .null) := by decide +kernel
theorem k214_48 : mm_at 214 48 = some (.aload_n 0, 49, 0, .null) := by decide +kernel
theorem k214_49 : mm_at 214 49 = some (.invokevirtual 221, 52, 270, .null) := by decide +kernel
theorem k214_52 : mm_at 214 52 = some (.iload_n 1, 53, 1, .null) := by decide +kernel
theorem k214_53 : mm_at 214 53 = some (.ireturn, 54, 0, .null) := by decide +kernel
theorem k215_0 : mm_at 215 0 = some (.aload_n 0, 1, 0, .null) := by decide +kernel
theorem k215_1 : mm_at 215 1 = some (.iconst 1, 2, 0, .int (1)) := by decide +kernel
theorem k215_2 : mm_at 215 2 = some (.iload_n 1, 3, 1, .null) := by decide +kernel
theorem k215_3 : mm_at 215 3 = some (.invokevirtual 108, 6, 241, .null) := by decide +kernel
theorem k215_6 : mm_at 215 6 = some (.ireturn, 7, 0, .null) := by decide +kernel
theorem k216_0 : mm_at 216 0 = some (.aload_n 0, 1, 0, .null) := by decide +kernel
theorem k216_1 : mm_at 216 1 = some (.getfield 243, 4, 1215, .null) := by decide +kernel
theorem k216_4 : mm_at 216 4 = some (.bipush 40, 6, 0, .int (40)) := by decide +kernel
theorem k216_6 : mm_at 216 6 = some (.if_icmp .ge 23, 9, 29, .null) := by decide +kernel
theorem k216_9 : mm_at 216 9 = some (.aload_n 0, 10, 0, .null) := by decide +kernel
theorem k216_10 : mm_at 216 10 = some (.getfield 34, 13, 1214, .null) := by decide +kernel
theorem k216_13 : mm_at 216 13 = some (.aload_n 0, 14, 0, .null) := by decide +kernel
theorem k216_14 : mm_at 216 14 = some (.getfield 243, 17, 1215, .null) := by decide +kernel
theorem k216_17 : mm_at 216 17 = some (.iload_n 1, 18, 1, .null) := by decide +kernel
theorem k216_18 : mm_at 216 18 = some (.iastore, 19, 0, .null) := by decide +kernel
theorem k216_19 : mm_at 216 19 = some (.aload_n 0, 20, 0, .null) := by decide +kernel
theorem k216_20 : mm_at 216 20 = some (.dup, 21, 0, .null) := by decide +kernel
theorem k216_21 : mm_at 216 21 = some (.getfield 243, 24, 1215, .null) := by decide +kernel
theorem k216_24 : mm_at 216 24 = some (.iconst 1, 25, 0, .int (1)) := by decide +kernel
theorem k216_25 : mm_at 216 25 = some (.iadd, 26, 0, .null) := by decide +kernel
theorem k216_26 : mm_at 216 26 = some (.putfield 243, 29, 1215, .null) := by decide +kernel
theorem k216_29 : mm_at 216 29 = some (.return_, 30, 0, .null) := by decide +kernel
theorem k217_0 : mm_at 217 0 = some (.aload_n 0, 1, 0, .null) := by decide +kernel
theorem k217_1 : mm_at 217 1 = some (.bipush 10, 3, 0, .int (10)) := by decide +kernel
theorem k217_3 : mm_at 217 3 = some (.invokevirtual 246, 6, 277, .null) := by decide +kernel
theorem k217_6 : mm_at 217 6 = some (.iload_n 2, 7, 2, .null) := by decide +kernel
theorem k217_7 : mm_at 217 7 = some (.iload_n 1, 8, 1, .null) := by decide +kernel
theorem k217_8 : mm_at 217 8 = some (.iadd, 9, 0, .null) := by decide +kernel
theorem k217_9 : mm_at 217 9 = some (.ireturn, 10, 0, .null) := by decide +kernel
theorem k218_0 : mm_at 218 0 = some (.aload_n 0, 1, 0, .null) := by decide +kernel
theorem k218_1 : mm_at 218 1 = some (.iload_n 1, 2, 1, .null) := by decide +kernel
theorem k218_2 : mm_at 218 2 = some (.iconst 0, 3, 0, .int (0)) := by decide +kernel
theorem k218_3 : mm_at 218 3 = some (.invokevirtual 55, 6, 226, .null) := by decide +kernel
theorem k218_6 : mm_at 218 6 = some (.istore_n 3, 7, 3, .null) := by decide +kernel
theorem k218_7 : mm_at 218 7 = some (.iload_n 3, 8, 3, .null) := by decide +kernel
theorem k218_8 : mm_at 218 8 = some (.iconst 1, 9, 0, .int (1)) := by decide +kernel
theorem k218_9 : mm_at 218 9 = some (.if_icmp .eq 8, 12, 17, .null) := by decide +kernel
theorem k218_12 : mm_at 218 12 = some (.iload_n 3, 13, 3, .null) := by decide +kernel
theorem k218_13 : mm_at 218 13 = some (.iconst 4, 14, 0, .int (4)) := by decide +kernel
theorem k218_14 : mm_at 218 14 = some (.if_icmp .ne 18, 17, 32, .null) := by decide +kernel
theorem k218_17 : mm_at 218 17 = some (.aload_n 0, 18, 0, .null) := by decide +kernel
theorem k218_18 : mm_at 218 18 = some (.bipush 20, 20, 0, .int (20)) := by decide +kernel
theorem k218_20 : mm_at 218 20 = some (.invokevirtual 246, 23, 277, .null) := by decide +kernel
theorem k218_23 : mm_at 218 23 = some (.aload_n 0, 24, 0, .null) := by decide +kernel
theorem k218_24 : mm_at 218 24 = some (.iload_n 1, 25, 1, .null) := by decide +kernel
theorem k218_25 : mm_at 218 25 = some (.iload_n 2, 26, 2, .null) := by decide +kernel
theorem k218_26 : mm_at 218 26 = some (.invokevirtual 249, 29, 278, .null) := by decide +kernel
theorem k218_29 : mm_at 218 29 = some (.iconst 3, 30, 0, .int (3)) := by decide +kernel
theorem k218_30 : mm_at 218 30 = some (.imul, 31, 0, .null) := by decide +kernel
theorem k218_31 : mm_at 218 31 = some (.ireturn, 32, 0, .null) := by decide +kernel
theorem k218_32 : mm_at 218 32 = some (.aload_n 0, 33, 0, .null) := by decide +kernel
theorem k218_33 : mm_at 218 33 = some (.iload_n 1, 34, 1, .null) := by decide +kernel
theorem k218_34 : mm_at 218 34 = some (.iload_n 2, 35, 2, .null) := by decide +kernel
theorem k218_35 : mm_at 218 35 = some (.invokevirtual 249, 38, 278, .null) := by decide +kernel
theorem k218_38 : mm_at 218 38 = some (.ireturn, 39, 0, .null) := by decide +kernel
theorem k219_0 : mm_at 219 0 = some (.aload_n 0, 1, 0, .null) := by decide +kernel
theorem k219_1 : mm_at 219 1 = some (.bipush 11, 3, 0, .int (11)) := by decide +kernel
theorem k219_3 : mm_at 219 3 = some (.invokevirtual 246, 6, 277, .null) := by decide +kernel
theorem k219_6 : mm_at 219 6 = some (.aload_n 0, 7, 0, .null) := by decide +kernel
theorem k219_7 : mm_at 219 7 = some (.iload_n 1, 8, 1, .null) := by decide +kernel
theorem k219_8 : mm_at 219 8 = some (.iload_n 2, 9, 2, .null) := by decide +kernel
theorem k219_9 : mm_at 219 9 = some (.invokevirtual 252, 12, 279, .null) := by decide +kernel
theorem k219_12 : mm_at 219 12 = some (.iconst 2, 13, 0, .int (2)) := by decide +kernel
theorem k219_13 : mm_at 219 13 = some (.imul, 14, 0, .null) := by decide +kernel
theorem k219_14 : mm_at 219 14 = some (.ireturn, 15, 0, .null) := by decide +kernel
theorem k220_0 : mm_at 220 0 = some (.aload_n 0, 1, 0, .null) := by decide +kernel
theorem k220_1 : mm_at 220 1 = some (.bipush 30, 3, 0, .int (30)) := by decide +kernel
theorem k220_3 : mm_at 220 3 = some (.invokevirtual 246, 6, 277, .null) := by decide +kernel
theorem k220_6 : mm_at 220 6 = some (.aload_n 0, 7, 0, .null) := by decide +kernel
theorem k220_7 : mm_at 220 7 = some (.iload_n 1, 8, 1, .null) := by decide +kernel
theorem k220_8 : mm_at 220 8 = some (.iload_n 2, 9, 2, .null) := by decide +kernel
theorem k220_9 : mm_at 220 9 = some (.invokevirtual 255, 12, 280, .null) := by decide +kernel
theorem k220_12 : mm_at 220 12 = some (.istore_n 3, 13, 3, .null) := by decide +kernel
theorem k220_13 : mm_at 220 13 = some (.iload_n 3, 14, 3, .null) := by decide +kernel
theorem k220_14 : mm_at 220 14 = some (.aload_n 0, 15, 0, .null) := by decide +kernel
theorem k220_15 : mm_at 220 15 = some (.iload_n 1, 16, 1, .null) := by decide +kernel
theorem k220_16 : mm_at 220 16 = some (.iconst 1, 17, 0, .int (1)) := by decide +kernel
theorem k220_17 : mm_at 220 17 = some (.invokevirtual 258, 20, 281, .null) := by decide +kernel
theorem k220_20 : mm_at 220 20 = some (.isub, 21, 0, .null) := by decide +kernel
theorem k220_21 : mm_at 220 21 = some (.ireturn, 22, 0, .null) := by decide +kernel
theorem k221_0 : mm_at 221 0 = some (.aload_n 0, 1, 0, .null) := by decide +kernel
theorem k221_1 : mm_at 221 1 = some (.iload_n 1, 2, 1, .null) := by decide +kernel
theorem k221_2 : mm_at 221 2 = some (.iconst 0, 3, 0, .int (0)) := by decide +kernel
theorem k221_3 : mm_at 221 3 = some (.invokevirtual 55, 6, 226, .null) := by decide +kernel
theorem k221_6 : mm_at 221 6 = some (.istore_n 3, 7, 3, .null) := by decide +kernel
theorem k221_7 : mm_at 221 7 = some (.iload_n 3, 8, 3, .null) := by decide +kernel
theorem k221_8 : mm_at 221 8 = some (.iconst 5, 9, 0, .int (5)) := by decide +kernel
theorem k221_9 : mm_at 221 9 = some (.if_icmp .ne 18, 12, 27, .null) := by decide +kernel
theorem k221_12 : mm_at 221 12 = some (.aload_n 0, 13, 0, .null) := by decide +kernel
theorem k221_13 : mm_at 221 13 = some (.bipush 60, 15, 0, .int (60)) := by decide +kernel
theorem k221_15 : mm_at 221 15 = some (.invokevirtual 246, 18, 277, .null) := by decide +kernel
theorem k221_18 : mm_at 221 18 = some (.aload_n 0, 19, 0, .null) := by decide +kernel
theorem k221_19 : mm_at 221 19 = some (.iload_n 1, 20, 1, .null) := by decide +kernel
theorem k221_20 : mm_at 221 20 = some (.iload_n 2, 21, 2, .null) := by decide +kernel
theorem k221_21 : mm_at 221 21 = some (.iconst 1, 22, 0, .int (1)) := by decide +kernel
theorem k221_22 : mm_at 221 22 = some (.iadd, 23, 0, .null) := by decide +kernel
theorem k221_23 : mm_at 221 23 = some (.invokevirtual 261, 26, 282, .null) := by decide +kernel
theorem k221_26 : mm_at 221 26 = some (.ireturn, 27, 0, .null) := by decide +kernel
theorem k221_27 : mm_at 221 27 = some (.iload_n 3, 28, 3, .null) := by decide +kernel
theorem k221_28 : mm_at 221 28 = some (.iconst 2, 29, 0, .int (2)) := by decide +kernel
theorem k221_29 : mm_at 221 29 = some (.if_icmp .ne 12, 32, 41, .null) := by decide +kernel
theorem k221_32 : mm_at 221 32 = some (.aload_n 0, 33, 0, .null) := by decide +kernel
theorem k221_33 : mm_at 221 33 = some (.iload_n 1, 34, 1, .null) := by decide +kernel
theorem k221_34 : mm_at 221 34 = some (.iload_n 2, 35, 2, .null) := by decide +kernel
theorem k221_35 : mm_at 221 35 = some (.invokevirtual 261, 38, 282, .null) := by decide +kernel
theorem k221_38 : mm_at 221 38 = some (.goto 9, 41, 47, .null) := by decide +kernel
theorem k221_41 : mm_at 221 41 = some (.aload_n 0, 42, 0, .null) := by decide +kernel
theorem k221_42 : mm_at 221 42 = some (.iload_n 1, 43, 1, .null) := by decide +kernel
theorem k221_43 : mm_at 221 43 = some (.iload_n 2, 44, 2, .null) := by decide +kernel
theorem k221_44 : mm_at 221 44 = some (.invokevirtual 255, 47, 280, .null) := by decide +kernel
theorem k221_47 : mm_at 221 47 = some (.ireturn, 48, 0, .null) := by decide +kernel
theorem k222_0 : mm_at 222 0 = some (.aload_n 0, 1, 0, .null) := by decide +kernel
theorem k222_1 : mm_at 222 1 = some (.bipush 12, 3, 0, .int (12)) := by decide +kernel
theorem k222_3 : mm_at 222 3 = some (.invokevirtual 246, 6, 277, .null) := by decide +kernel
theorem k222_6 : mm_at 222 6 = some (.iload_n 2, 7, 2, .null) := by decide +kernel
theorem k222_7 : mm_at 222 7 = some (.aload_n 0, 8, 0, .null) := by decide +kernel
theorem k222_8 : mm_at 222 8 = some (.iload_n 1, 9, 1, .null) := by decide +kernel
theorem k222_9 : mm_at 222 9 = some (.iconst 1, 10, 0, .int (1)) := by decide +kernel
theorem k222_10 : mm_at 222 10 = some (.invokevirtual 55, 13, 226, .null) := by decide +kernel
theorem k222_13 : mm_at 222 13 = some (.isub, 14, 0, .null) := by decide +kernel
theorem k222_14 : mm_at 222 14 = some (.ireturn, 15, 0, .null) := by decide +kernel
theorem k223_0 : mm_at 223 0 = some (.aload_n 0, 1, 0, .null) := by decide +kernel
theorem k223_1 : mm_at 223 1 = some (.bipush 40, 3, 0, .int (40)) := by decide +kernel
theorem k223_3 : mm_at 223 3 = some (.invokevirtual 246, 6, 277, .null) := by decide +kernel
theorem k223_6 : mm_at 223 6 = some (.aload_n 0, 7, 0, .null) := by decide +kernel
theorem k223_7 : mm_at 223 7 = some (.iload_n 1, 8, 1, .null) := by decide +kernel
theorem k223_8 : mm_at 223 8 = some (.iload_n 2, 9, 2, .null) := by decide +kernel
theorem k223_9 : mm_at 223 9 = some (.invokevirtual 264, 12, 283, .null) := by decide +kernel
theorem k223_12 : mm_at 223 12 = some (.ineg, 13, 0, .null) := by decide +kernel
theorem k223_13 : mm_at 223 13 = some (.ireturn, 14, 0, .null) := by decide +kernel
theorem k224_0 : mm_at 224 0 = some (.aload_n 0, 1, 0, .null) := by decide +kernel
theorem k224_1 : mm_at 224 1 = some (.iload_n 1, 2, 1, .null) := by decide +kernel
theorem k224_2 : mm_at 224 2 = some (.iconst 0, 3, 0, .int (0)) := by decide +kernel
theorem k224_3 : mm_at 224 3 = some (.invokevirtual 55, 6, 226, .null) := by decide +kernel
theorem k224_6 : mm_at 224 6 = some (.istore_n 3, 7, 3, .null) := by decide +kernel
theorem k224_7 : mm_at 224 7 = some (.iload_n 3, 8, 3, .null) := by decide +kernel
theorem k224_8 : mm_at 224 8 = some (.bipush 6, 10, 0, .int (6)) := by decide +kernel
theorem k224_10 : mm_at 224 10 = some (.if_icmp .ne 18, 13, 28, .null) := by decide +kernel
theorem k224_13 : mm_at 224 13 = some (.aload_n 0, 14, 0, .null) := by decide +kernel
theorem k224_14 : mm_at 224 14 = some (.bipush 70, 16, 0, .int (70)) := by decide +kernel
theorem k224_16 : mm_at 224 16 = some (.invokevirtual 246, 19, 277, .null) := by decide +kernel
theorem k224_19 : mm_at 224 19 = some (.aload_n 0, 20, 0, .null) := by decide +kernel
theorem k224_20 : mm_at 224 20 = some (.iload_n 1, 21, 1, .null) := by decide +kernel
theorem k224_21 : mm_at 224 21 = some (.iload_n 2, 22, 2, .null) := by decide +kernel
theorem k224_22 : mm_at 224 22 = some (.invokevirtual 267, 25, 284, .null) := by decide +kernel
theorem k224_25 : mm_at 224 25 = some (.iload_n 1, 26, 1, .null) := by decide +kernel
theorem k224_26 : mm_at 224 26 = some (.ixor, 27, 0, .null) := by decide +kernel
theorem k224_27 : mm_at 224 27 = some (.ireturn, 28, 0, .null) := by decide +kernel
theorem k224_28 : mm_at 224 28 = some (.iload_n 3, 29, 3, .null) := by decide +kernel
theorem k224_29 : mm_at 224 29 = some (.iconst 3, 30, 0, .int (3)) := by decide +kernel
theorem k224_30 : mm_at 224 30 = some (.if_icmp .ne 12, 33, 42, .null) := by decide +kernel
theorem k224_33 : mm_at 224 33 = some (.aload_n 0, 34, 0, .null) := by decide +kernel
theorem k224_34 : mm_at 224 34 = some (.iload_n 1, 35, 1, .null) := by decide +kernel
theorem k224_35 : mm_at 224 35 = some (.iload_n 2, 36, 2, .null) := by decide +kernel
theorem k224_36 : mm_at 224 36 = some (.invokevirtual 267, 39, 284, .null) := by decide +kernel
theorem k224_39 : mm_at 224 39 = some (.goto 9, 42, 48, .null) := by decide +kernel
theorem k224_42 : mm_at 224 42 = some (.aload_n 0, 43, 0, .null) := by decide +kernel
theorem k224_43 : mm_at 224 43 = some (.iload_n 1, 44, 1, .null) := by decide +kernel
theorem k224_44 : mm_at 224 44 = some (.iload_n 2, 45, 2, .null) := by decide +kernel
theorem k224_45 : mm_at 224 45 = some (.invokevirtual 264, 48, 283, .null) := by decide +kernel
theorem k224_48 : mm_at 224 48 = some (.ireturn, 49, 0, .null) := by decide +kernel
theorem k225_0 : mm_at 225 0 = some (.aload_n 0, 1, 0, .null) := by decide +kernel
theorem k225_1 : mm_at 225 1 = some (.bipush 13, 3, 0, .int (13)) := by decide +kernel
theorem k225_3 : mm_at 225 3 = some (.invokevirtual 246, 6, 277, .null) := by decide +kernel
theorem k225_6 : mm_at 225 6 = some (.aload_n 0, 7, 0, .null) := by decide +kernel
theorem k225_7 : mm_at 225 7 = some (.iload_n 1, 8, 1, .null) := by decide +kernel
theorem k225_8 : mm_at 225 8 = some (.iload_n 2, 9, 2, .null) := by decide +kernel
theorem k225_9 : mm_at 225 9 = some (.invokevirtual 270, 12, 285, .null) := by decide +kernel
theorem k225_12 : mm_at 225 12 = some (.istore_n 3, 13, 3, .null) := by decide +kernel
theorem k225_13 : mm_at 225 13 = some (.iload_n 3, 14, 3, .null) := by decide +kernel
theorem k225_14 : mm_at 225 14 = some (.aload_n 0, 15, 0, .null) := by decide +kernel
theorem k225_15 : mm_at 225 15 = some (.iload_n 1, 16, 1, .null) := by decide +kernel
theorem k225_16 : mm_at 225 16 = some (.iload_n 2, 17, 2, .null) := by decide +kernel
theorem k225_17 : mm_at 225 17 = some (.invokevirtual 258, 20, 281, .null) := by decide +kernel
theorem k225_20 : mm_at 225 20 = some (.ixor, 21, 0, .null) := by decide +kernel
theorem k225_21 : mm_at 225 21 = some (.ireturn, 22, 0, .null) := by decide +kernel
theorem k226_0 : mm_at 226 0 = some (.aload_n 0, 1, 0, .null) := by decide +kernel
theorem k226_1 : mm_at 226 1 = some (.iload_n 1, 2, 1, .null) := by decide +kernel
theorem k226_2 : mm_at 226 2 = some (.iconst 0, 3, 0, .int (0)) := by decide +kernel
theorem k226_3 : mm_at 226 3 = some (.invokevirtual 55, 6, 226, .null) := by decide +kernel
theorem k226_6 : mm_at 226 6 = some (.istore_n 3, 7, 3, .null) := by decide +kernel
theorem k226_7 : mm_at 226 7 = some (.iload_n 3, 8, 3, .null) := by decide +kernel
theorem k226_8 : mm_at 226 8 = some (.iconst 4, 9, 0, .int (4)) := by decide +kernel
theorem k226_9 : mm_at 226 9 = some (.if_icmp .ne 27, 12, 36, .null) := by decide +kernel
theorem k226_12 : mm_at 226 12 = some (.aload_n 0, 13, 0, .null) := by decide +kernel
theorem k226_13 : mm_at 226 13 = some (.bipush 50, 15, 0, .int (50)) := by decide +kernel
theorem k226_15 : mm_at 226 15 = some (.invokevirtual 246, 18, 277, .null) := by decide +kernel
theorem k226_18 : mm_at 226 18 = some (.aload_n 0, 19, 0, .null) := by decide +kernel
theorem k226_19 : mm_at 226 19 = some (.iload_n 1, 20, 1, .null) := by decide +kernel
theorem k226_20 : mm_at 226 20 = some (.iload_n 2, 21, 2, .null) := by decide +kernel
theorem k226_21 : mm_at 226 21 = some (.invokevirtual 273, 24, 286, .null) := by decide +kernel
theorem k226_24 : mm_at 226 24 = some (.istore 4, 26, 4, .null) := by decide +kernel
theorem k226_26 : mm_at 226 26 = some (.iload 4, 28, 4, .null) := by decide +kernel
theorem k226_28 : mm_at 226 28 = some (.aload_n 0, 29, 0, .null) := by decide +kernel
theorem k226_29 : mm_at 226 29 = some (.iload_n 1, 30, 1, .null) := by decide +kernel
theorem k226_30 : mm_at 226 30 = some (.iconst 2, 31, 0, .int (2)) := by decide +kernel
theorem k226_31 : mm_at 226 31 = some (.invokevirtual 252, 34, 279, .null) := by decide +kernel
theorem k226_34 : mm_at 226 34 = some (.isub, 35, 0, .null) := by decide +kernel
theorem k226_35 : mm_at 226 35 = some (.ireturn, 36, 0, .null) := by decide +kernel
theorem k226_36 : mm_at 226 36 = some (.iload_n 3, 37, 3, .null) := by decide +kernel
theorem k226_37 : mm_at 226 37 = some (.bipush 6, 39, 0, .int (6)) := by decide +kernel
theorem k226_39 : mm_at 226 39 = some (.if_icmp .ne 27, 42, 66, .null) := by decide +kernel
theorem k226_42 : mm_at 226 42 = some (.aload_n 0, 43, 0, .null) := by decide +kernel
theorem k226_43 : mm_at 226 43 = some (.bipush 71, 45, 0, .int (71)) := by decide +kernel
theorem k226_45 : mm_at 226 45 = some (.invokevirtual 246, 48, 277, .null) := by decide +kernel
theorem k226_48 : mm_at 226 48 = some (.aload_n 0, 49, 0, .null) := by decide +kernel
theorem k226_49 : mm_at 226 49 = some (.iload_n 1, 50, 1, .null) := by decide +kernel
theorem k226_50 : mm_at 226 50 = some (.iload_n 2, 51, 2, .null) := by decide +kernel
theorem k226_51 : mm_at 226 51 = some (.invokevirtual 270, 54, 285, .null) := by decide +kernel
theorem k226_54 : mm_at 226 54 = some (.istore 4, 56, 4, .null) := by decide +kernel
theorem k226_56 : mm_at 226 56 = some (.iload 4, 58, 4, .null) := by decide +kernel
theorem k226_58 : mm_at 226 58 = some (.aload_n 0, 59, 0, .null) := by decide +kernel
theorem k226_59 : mm_at 226 59 = some (.iload_n 1, 60, 1, .null) := by decide +kernel
theorem k226_60 : mm_at 226 60 = some (.iload_n 2, 61, 2, .null) := by decide +kernel
theorem k226_61 : mm_at 226 61 = some (.invokevirtual 273, 64, 286, .null) := by decide +kernel
theorem k226_64 : mm_at 226 64 = some (.isub, 65, 0, .null) := by decide +kernel
theorem k226_65 : mm_at 226 65 = some (.ireturn, 66, 0, .null) := by decide +kernel
theorem k226_66 : mm_at 226 66 = some (.aload_n 0, 67, 0, .null) := by decide +kernel
theorem k226_67 : mm_at 226 67 = some (.iload_n 1, 68, 1, .null) := by decide +kernel
theorem k226_68 : mm_at 226 68 = some (.iload_n 2, 69, 2, .null) := by decide +kernel
theorem k226_69 : mm_at 226 69 = some (.invokevirtual 273, 72, 286, .null) := by decide +kernel
theorem k226_72 : mm_at 226 72 = some (.ireturn, 73, 0, .null) := by decide +kernel
theorem k227_0 : mm_at 227 0 = some (.aload_n 0, 1, 0, .null) := by decide +kernel
theorem k227_1 : mm_at 227 1 = some (.iload_n 1, 2, 1, .null) := by decide +kernel
theorem k227_2 : mm_at 227 2 = some (.invokevirtual 102, 5, 239, .null) := by decide +kernel
theorem k227_5 : mm_at 227 5 = some (.ifCond .eq 12, 8, 17, .null) := by decide +kernel
theorem k227_8 : mm_at 227 8 = some (.iload_n 2, 9, 2, .null) := by decide +kernel
theorem k227_9 : mm_at 227 9 = some (.iconst 0, 10, 0, .int (0)) := by decide +kernel
theorem k227_10 : mm_at 227 10 = some (.iconst 3, 11, 0, .int (3)) := by decide +kernel
theorem k227_11 : mm_at 227 11 = some (.invokestatic 47, 14, 224, .null) := by decide +kernel
theorem k227_14 : mm_at 227 14 = some (.ifCond .ne 10, 17, 24, .null) := by decide +kernel
theorem k227_17 : mm_at 227 17 = some (.aload_n 0, 18, 0, .null) := by decide +kernel
theorem k227_18 : mm_at 227 18 = some (.ldc 97, 20, 0, .int (-1000000001)) := by decide +kernel
theorem k227_20 : mm_at 227 20 = some (.invokevirtual 98, 23, 238, .null) := by decide +kernel
theorem k227_23 : mm_at 227 23 = some (.ireturn, 24, 0, .null) := by decide +kernel
theorem k227_24 : mm_at 227 24 = some (.aload_n 0, 25, 0, .null) := by decide +kernel
theorem k227_25 : mm_at 227 25 = some (.iconst 0, 26, 0, .int (0)) := by decide +kernel
theorem k227_26 : mm_at 227 26 = some (.putfield 243, 29, 1215, .null) := by decide +kernel
theorem k227_29 : mm_at 227 29 = some (.iload_n 2, 30, 2, .null) := by decide +kernel
theorem k227_30 : mm_at 227 30 = some (.tableswitch 47 0 2 #[26, 33, 40], 56, 0, .null) := by decide +kernel
theorem k227_56 : mm_at 227 56 = some (.aload_n 0, 57, 0, .null) := by decide +kernel
theorem k227_57 : mm_at 227 57 = some (.iload_n 1, 58, 1, .null) := by decide +kernel
theorem k227_58 : mm_at 227 58 = some (.iload_n 3, 59, 3, .null) := by decide +kernel
theorem k227_59 : mm_at 227 59 = some (.invokevirtual 252, 62, 279, .null) := by decide +kernel
theorem k227_62 : mm_at 227 62 = some (.ireturn, 63, 0, .null) := by decide +kernel
theorem k227_63 : mm_at 227 63 = some (.aload_n 0, 64, 0, .null) := by decide +kernel
theorem k227_64 : mm_at 227 64 = some (.iload_n 1, 65, 1, .null) := by decide +kernel
theorem k227_65 : mm_at 227 65 = some (.iload_n 3, 66, 3, .null) := by decide +kernel
theorem k227_66 : mm_at 227 66 = some (.invokevirtual 270, 69, 285, .null) := by decide +kernel
theorem k227_69 : mm_at 227 69 = some (.ireturn, 70, 0, .null) := by decide +kernel
theorem k227_70 : mm_at 227 70 = some (.aload_n 0, 71, 0, .null) := by decide +kernel
theorem k227_71 : mm_at 227 71 = some (.iload_n 1, 72, 1, .null) := by decide +kernel
theorem k227_72 : mm_at 227 72 = some (.iload_n 3, 73, 3, .null) := by decide +kernel
theorem k227_73 : mm_at 227 73 = some (.invokevirtual 258, 76, 281, .null) := by decide +kernel
theorem k227_76 : mm_at 227 76 = some (.ireturn, 77, 0, .null) := by decide +kernel
theorem k227_77 : mm_at 227 77 = some (.aload_n 0, 78, 0, .null) := by decide +kernel
theorem k227_78 : mm_at 227 78 = some (.iload_n 1, 79, 1, .null) := by decide +kernel
theorem k227_79 : mm_at 227 79 = some (.iload_n 3, 80, 3, .null) := by decide +kernel
theorem k227_80 : mm_at 227 80 = some (.invokevirtual 276, 83, 287, .null) := by decide +kernel
theorem k227_83 : mm_at 227 83 = some (.ireturn, 84, 0, .null) := by decide +kernel
theorem k228_0 : mm_at 228 0 = some (.iload_n 1, 1, 1, .null) := by decide +kernel
theorem k228_1 : mm_at 228 1 = some (.iconst 0, 2, 0, .int (0)) := by decide +kernel
theorem k228_2 : mm_at 228 2 = some (.aload_n 0, 3, 0, .null) := by decide +kernel
theorem k228_3 : mm_at 228 3 = some (.getfield 243, 6, 1215, .null) := by decide +kernel
theorem k228_6 : mm_at 228 6 = some (.iconst 1, 7, 0, .int (1)) := by decide +kernel
theorem k228_7 : mm_at 228 7 = some (.isub, 8, 0, .null) := by decide +kernel
theorem k228_8 : mm_at 228 8 = some (.invokestatic 47, 11, 224, .null) := by decide +kernel
theorem k228_11 : mm_at 228 11 = some (.ifCond .eq 12, 14, 23, .null) := by decide +kernel
theorem k228_14 : mm_at 228 14 = some (.aload_n 0, 15, 0, .null) := by decide +kernel
theorem k228_15 : mm_at 228 15 = some (.getfield 34, 18, 1214, .null) := by decide +kernel
theorem k228_18 : mm_at 228 18 = some (.iload_n 1, 19, 1, .null) := by decide +kernel
theorem k228_19 : mm_at 228 19 = some (.iaload, 20, 0, .null) := by decide +kernel
theorem k228_20 : mm_at 228 20 = some (.goto 9, 23, 29, .null) := by decide +kernel
theorem k228_23 : mm_at 228 23 = some (.aload_n 0, 24, 0, .null) := by decide +kernel
theorem k228_24 : mm_at 228 24 = some (.ldc 224, 26, 0, .int (-1000000002)) := by decide +kernel
theorem k228_26 : mm_at 228 26 = some (.invokevirtual 98, 29, 238, .null) := by decide +kernel
theorem k228_29 : mm_at 228 29 = some (.ireturn, 30, 0, .null) := by decide +kernel
theorem k229_0 : mm_at 229 0 = some (.iload_n 0, 1, 0, .null) := by decide +kernel
theorem k229_1 : mm_at 229 1 = some (.iconst 0, 2, 0, .int (0)) := by decide +kernel
theorem k229_2 : mm_at 229 2 = some (.iconst 3, 3, 0, .int (3)) := by decide +kernel
theorem k229_3 : mm_at 229 3 = some (.invokestatic 47, 6, 224, .null) := by decide +kernel
theorem k229_6 : mm_at 229 6 = some (.ireturn, 7, 0, .null) := by decide +kernel
theorem k230_0 : mm_at 230 0 = some (.iload_n 1, 1, 1, .null) := by decide +kernel
theorem k230_1 : mm_at 230 1 = some (.invokestatic 231, 4, 273, .null) := by decide +kernel
theorem k230_4 : mm_at 230 4 = some (.ifCond .eq 25, 7, 29, .null) := by decide +kernel
theorem k230_7 : mm_at 230 7 = some (.iload_n 2, 8, 2, .null) := by decide +kernel
theorem k230_8 : mm_at 230 8 = some (.ifCond .eq 28, 11, 36, .null) := by decide +kernel
theorem k230_11 : mm_at 230 11 = some (.iload_n 2, 12, 2, .null) := by decide +kernel
theorem k230_12 : mm_at 230 12 = some (.bipush 8, 14, 0, .int (8)) := by decide +kernel
theorem k230_14 : mm_at 230 14 = some (.if_icmp .eq 22, 17, 36, .null) := by decide +kernel
theorem k230_17 : mm_at 230 17 = some (.iload_n 2, 18, 2, .null) := by decide +kernel
theorem k230_18 : mm_at 230 18 = some (.bipush 16, 20, 0, .int (16)) := by decide +kernel
theorem k230_20 : mm_at 230 20 = some (.if_icmp .eq 16, 23, 36, .null) := by decide +kernel
theorem k230_23 : mm_at 230 23 = some (.iload_n 2, 24, 2, .null) := by decide +kernel
theorem k230_24 : mm_at 230 24 = some (.bipush 32, 26, 0, .int (32)) := by decide +kernel
theorem k230_26 : mm_at 230 26 = some (.if_icmp .eq 10, 29, 36, .null) := by decide +kernel
theorem k230_29 : mm_at 230 29 = some (.aload_n 0, 30, 0, .null) := by decide +kernel
theorem k230_30 : mm_at 230 30 = some (.ldc 97, 32, 0, .int (-1000000001)) := by decide +kernel
theorem k230_32 : mm_at 230 32 = some (.invokevirtual 98, 35, 238, .null) := by decide +kernel
theorem k230_35 : mm_at 230 35 = some (.ireturn, 36, 0, .null) := by decide +kernel
theorem k230_36 : mm_at 230 36 = some (.iload_n 2, 37, 2, .null) := by decide +kernel
theorem k230_37 : mm_at 230 37 = some (.ifCond .le 14, 40, 51, .null) := by decide +kernel
theorem k230_40 : mm_at 230 40 = some (.iload_n 3, 41, 3, .null) := by decide +kernel
theorem k230_41 : mm_at 230 41 = some (.ifCond .ge 10, 44, 51, .null) := by decide +kernel
theorem k230_44 : mm_at 230 44 = some (.aload_n 0, 45, 0, .null) := by decide +kernel
theorem k230_45 : mm_at 230 45 = some (.ldc 125, 47, 0, .int (-1000000003)) := by decide +kernel
theorem k230_47 : mm_at 230 47 = some (.invokevirtual 98, 50, 238, .null) := by decide +kernel
theorem k230_50 : mm_at 230 50 = some (.ireturn, 51, 0, .null) := by decide +kernel
theorem k230_51 : mm_at 230 51 = some (.iload_n 2, 52, 2, .null) := by decide +kernel
theorem k230_52 : mm_at 230 52 = some (.ifCond .le 16, 55, 68, .null) := by decide +kernel
theorem k230_55 : mm_at 230 55 = some (.iload_n 3, 56, 3, .null) := by decide +kernel
theorem k230_56 : mm_at 230 56 = some (.bipush 40, 58, 0, .int (40)) := by decide +kernel
theorem k230_58 : mm_at 230 58 = some (.if_icmp .le 10, 61, 68, .null) := by decide +kernel
theorem k230_61 : mm_at 230 61 = some (.aload_n 0, 62, 0, .null) := by decide +kernel
theorem k230_62 : mm_at 230 62 = some (.ldc 97, 64, 0, .int (-1000000001)) := by decide +kernel
theorem k230_64 : mm_at 230 64 = some (.invokevirtual 98, 67, 238, .null) := by decide +kernel
theorem k230_67 : mm_at 230 67 = some (.ireturn, 68, 0, .null) := by decide +kernel
theorem k230_68 : mm_at 230 68 = some (.aload_n 0, 69, 0, .null) := by decide +kernel
theorem k230_69 : mm_at 230 69 = some (.getfield 37, 72, 1216, .null) := by decide +kernel
theorem k230_72 : mm_at 230 72 = some (.iload_n 1, 73, 1, .null) := by decide +kernel
theorem k230_73 : mm_at 230 73 = some (.iload_n 2, 74, 2, .null) := by decide +kernel
theorem k230_74 : mm_at 230 74 = some (.iastore, 75, 0, .null) := by decide +kernel
theorem k230_75 : mm_at 230 75 = some (.aload_n 0, 76, 0, .null) := by decide +kernel
theorem k230_76 : mm_at 230 76 = some (.getfield 40, 79, 1217, .null) := by decide +kernel
theorem k230_79 : mm_at 230 79 = some (.iload_n 1, 80, 1, .null) := by decide +kernel
theorem k230_80 : mm_at 230 80 = some (.iload_n 2, 81, 2, .null) := by decide +kernel
theorem k230_81 : mm_at 230 81 = some (.ifCond .ne 7, 84, 88, .null) := by decide +kernel
theorem k230_84 : mm_at 230 84 = some (.iconst 0, 85, 0, .int (0)) := by decide +kernel
theorem k230_85 : mm_at 230 85 = some (.goto 4, 88, 89, .null) := by decide +kernel
theorem k230_88 : mm_at 230 88 = some (.iload_n 3, 89, 3, .null) := by decide +kernel
theorem k230_89 : mm_at 230 89 = some (.iastore, 90, 0, .null) := by decide +kernel
theorem k230_90 : mm_at 230 90 = some (.iconst 0, 91, 0, .int (0)) := by decide +kernel
theorem k230_91 : mm_at 230 91 = some (.istore 4, 93, 4, .null) := by decide +kernel
theorem k230_93 : mm_at 230 93 = some (.iload 4, 95, 4, .null) := by decide +kernel
theorem k230_95 : mm_at 230 95 = some (.bipush 40, 97, 0, .int (40)) := by decide +kernel
theorem k230_97 : mm_at 230 97 = some (.if_icmp .ge 22, 100, 119, .null) := by decide +kernel
theorem k230_100 : mm_at 230 100 = some (.aload_n 0, 101, 0, .null) := by decide +kernel
theorem k230_101 : mm_at 230 101 = some (.getfield 43, 104, 1218, .null) := by decide +kernel
theorem k230_104 : mm_at 230 104 = some (.bipush 40, 106, 0, .int (40)) := by decide +kernel
theorem k230_106 : mm_at 230 106 = some (.iload_n 1, 107, 1, .null) := by decide +kernel
theorem k230_107 : mm_at 230 107 = some (.imul, 108, 0, .null) := by decide +kernel
theorem k230_108 : mm_at 230 108 = some (.iload 4, 110, 4, .null) := by decide +kernel
theorem k230_110 : mm_at 230 110 = some (.iadd, 111, 0, .null) := by decide +kernel
theorem k230_111 : mm_at 230 111 = some (.iconst 0, 112, 0, .int (0)) := by decide +kernel
theorem k230_112 : mm_at 230 112 = some (.iastore, 113, 0, .null) := by decide +kernel
theorem k230_113 : mm_at 230 113 = some (.iinc 4 1, 116, 4, .int (1)) := by decide +kernel
theorem k230_116 : mm_at 230 116 = some (.goto (-23), 119, 93, .null) := by decide +kernel
theorem k230_119 : mm_at 230 119 = some (.iconst 1, 120, 0, .int (1)) := by decide +kernel
theorem k230_120 : mm_at 230 120 = some (.ireturn, 121, 0, .null) := by decide +kernel
theorem k231_0 : mm_at 231 0 = some (.iload_n 1, 1, 1, .null) := by decide +kernel
theorem k231_1 : mm_at 231 1 = some (.invokestatic 231, 4, 273, .null) := by decide +kernel
theorem k231_4 : mm_at 231 4 = some (.ifCond .ne 8, 7, 12, .null) := by decide +kernel
theorem k231_7 : mm_at 231 7 = some (.ldc 97, 9, 0, .int (-1000000001)) := by decide +kernel
theorem k231_9 : mm_at 231 9 = some (.goto 18, 12, 27, .null) := by decide +kernel
theorem k231_12 : mm_at 231 12 = some (.aload_n 0, 13, 0, .null) := by decide +kernel
theorem k231_13 : mm_at 231 13 = some (.getfield 37, 16, 1216, .null) := by decide +kernel
theorem k231_16 : mm_at 231 16 = some (.iload_n 1, 17, 1, .null) := by decide +kernel
theorem k231_17 : mm_at 231 17 = some (.iaload, 18, 0, .null) := by decide +kernel
theorem k231_18 : mm_at 231 18 = some (.ifCond .ne 8, 21, 26, .null) := by decide +kernel
theorem k231_21 : mm_at 231 21 = some (.ldc 224, 23, 0, .int (-1000000002)) := by decide +kernel
theorem k231_23 : mm_at 231 23 = some (.goto 4, 26, 27, .null) := by decide +kernel
theorem k231_26 : mm_at 231 26 = some (.iconst 0, 27, 0, .int (0)) := by decide +kernel
theorem k231_27 : mm_at 231 27 = some (.ireturn, 28, 0, .null) := by decide +kernel
theorem k232_0 : mm_at 232 0 = some (.aload_n 0, 1, 0, .null) := by decide +kernel
theorem k232_1 : mm_at 232 1 = some (.iload_n 1, 2, 1, .null) := by decide +kernel
theorem k232_2 : mm_at 232 2 = some (.invokevirtual 279, 5, 288, .null) := by decide +kernel
theorem k232_5 : mm_at 232 5 = some (.istore 4, 7, 4, .null) := by decide +kernel
theorem k232_7 : mm_at 232 7 = some (.iload 4, 9, 4, .null) := by decide +kernel
theorem k232_9 : mm_at 232 9 = some (.ifCond .ne 24, 12, 33, .null) := by decide +kernel
theorem k232_12 : mm_at 232 12 = some (.iload_n 2, 13, 2, .null) := by decide +kernel
theorem k232_13 : mm_at 232 13 = some (.iconst 0, 14, 0, .int (0)) := by decide +kernel
theorem k232_14 : mm_at 232 14 = some (.aload_n 0, 15, 0, .null) := by decide +kernel
theorem k232_15 : mm_at 232 15 = some (.getfield 40, 18, 1217, .null) := by decide +kernel
theorem k232_18 : mm_at 232 18 = some (.iload_n 1, 19, 1, .null) := by decide +kernel
theorem k232_19 : mm_at 232 19 = some (.iaload, 20, 0, .null) := by decide +kernel
theorem k232_20 : mm_at 232 20 = some (.iconst 1, 21, 0, .int (1)) := by decide +kernel
theorem k232_21 : mm_at 232 21 = some (.isub, 22, 0, .null) := by decide +kernel
theorem k232_22 : mm_at 232 22 = some (.invokestatic 47, 25, 224, .null) := by decide +kernel
theorem k232_25 : mm_at 232 25 = some (.ifCond .ne 8, 28, 33, .null) := by decide +kernel
theorem k232_28 : mm_at 232 28 = some (.ldc 97, 30, 0, .int (-1000000001)) := by decide +kernel
theorem k232_30 : mm_at 232 30 = some (.goto 5, 33, 35, .null) := by decide +kernel
theorem k232_33 : mm_at 232 33 = some (.iload 4, 35, 4, .null) := by decide +kernel
theorem k232_35 : mm_at 232 35 = some (.istore 4, 37, 4, .null) := by decide +kernel
theorem k232_37 : mm_at 232 37 = some (.iload 4, 39, 4, .null) := by decide +kernel
theorem k232_39 : mm_at 232 39 = some (.ifCond .eq 10, 42, 49, .null) := by decide +kernel
theorem k232_42 : mm_at 232 42 = some (.aload_n 0, 43, 0, .null) := by decide +kernel
theorem k232_43 : mm_at 232 43 = some (.iload 4, 45, 4, .null) := by decide +kernel
theorem k232_45 : mm_at 232 45 = some (.invokevirtual 98, 48, 238, .null) := by decide +kernel
theorem k232_48 : mm_at 232 48 = some (.ireturn, 49, 0, .null) := by decide +kernel
theorem k232_49 : mm_at 232 49 = some (.aload_n 0, 50, 0, .null) := by decide +kernel
theorem k232_50 : mm_at 232 50 = some (.getfield 43, 53, 1218, .null) := by decide +kernel
theorem k232_53 : mm_at 232 53 = some (.bipush 40, 55, 0, .int (40)) := by decide +kernel
theorem k232_55 : mm_at 232 55 = some (.iload_n 1, 56, 1, .null) := by decide +kernel
theorem k232_56 : mm_at 232 56 = some (.imul, 57, 0, .null) := by decide +kernel
theorem k232_57 : mm_at 232 57 = some (.iload_n 2, 58, 2, .null) := by decide +kernel
theorem k232_58 : mm_at 232 58 = some (.iadd, 59, 0, .null) := by decide +kernel
theorem k232_59 : mm_at 232 59 = some (.aload_n 0, 60, 0, .null) := by decide +kernel
theorem k232_60 : mm_at 232 60 = some (.getfield 37, 63, 1216, .null) := by decide +kernel
theorem k232_63 : mm_at 232 63 = some (.iload_n 1, 64, 1, .null) := by decide +kernel
theorem k232_64 : mm_at 232 64 = some (.iaload, 65, 0, .null) := by decide +kernel
theorem k232_65 : mm_at 232 65 = some (.bipush 8, 67, 0, .int (8)) := by decide +kernel
theorem k232_67 : mm_at 232 67 = some (.if_icmp .ne 8, 70, 75, .null) := by decide +kernel
theorem k232_70 : mm_at 232 70 = some (.iload_n 3, 71, 3, .null) := by decide +kernel
theorem k232_71 : mm_at 232 71 = some (.i2b, 72, 0, .null) := by decide +kernel
theorem k232_72 : mm_at 232 72 = some (.goto 20, 75, 92, .null) := by decide +kernel
theorem k232_75 : mm_at 232 75 = some (.aload_n 0, 76, 0, .null) := by decide +kernel
theorem k232_76 : mm_at 232 76 = some (.getfield 37, 79, 1216, .null) := by decide +kernel
theorem k232_79 : mm_at 232 79 = some (.iload_n 1, 80, 1, .null) := by decide +kernel
theorem k232_80 : mm_at 232 80 = some (.iaload, 81, 0, .null) := by decide +kernel
theorem k232_81 : mm_at 232 81 = some (.bipush 16, 83, 0, .int (16)) := by decide +kernel
theorem k232_83 : mm_at 232 83 = some (.if_icmp .ne 8, 86, 91, .null) := by decide +kernel
theorem k232_86 : mm_at 232 86 = some (.iload_n 3, 87, 3, .null) := by decide +kernel
theorem k232_87 : mm_at 232 87 = some (.i2s, 88, 0, .null) := by decide +kernel
theorem k232_88 : mm_at 232 88 = some (.goto 4, 91, 92, .null) := by decide +kernel
theorem k232_91 : mm_at 232 91 = some (.iload_n 3, 92, 3, .null) := by decide +kernel
theorem k232_92 : mm_at 232 92 = some (.iastore, 93, 0, .null) := by decide +kernel
theorem k232_93 : mm_at 232 93 = some (.iconst 1, 94, 0, .int (1)) := by decide +kernel
theorem k232_94 : mm_at 232 94 = some (.ireturn, 95, 0, .null) := by decide +kernel
theorem k233_0 : mm_at 233 0 = some (.iload_n 1, 1, 1, .null) := by decide +kernel
theorem k233_1 : mm_at 233 1 = some (.invokestatic 231, 4, 273, .null) := by decide +kernel
theorem k233_4 : mm_at 233 4 = some (.ifCond .eq 10, 7, 14, .null) := by decide +kernel
theorem k233_7 : mm_at 233 7 = some (.iload_n 3, 8, 3, .null) := by decide +kernel
theorem k233_8 : mm_at 233 8 = some (.invokestatic 231, 11, 273, .null) := by decide +kernel
theorem k233_11 : mm_at 233 11 = some (.ifCond .ne 6, 14, 17, .null) := by decide +kernel
theorem k233_14 : mm_at 233 14 = some (.ldc 97, 16, 0, .int (-1000000001)) := by decide +kernel
theorem k233_16 : mm_at 233 16 = some (.ireturn, 17, 0, .null) := by decide +kernel
theorem k233_17 : mm_at 233 17 = some (.aload_n 0, 18, 0, .null) := by decide +kernel
theorem k233_18 : mm_at 233 18 = some (.getfield 37, 21, 1216, .null) := by decide +kernel
theorem k233_21 : mm_at 233 21 = some (.iload_n 1, 22, 1, .null) := by decide +kernel
theorem k233_22 : mm_at 233 22 = some (.iaload, 23, 0, .null) := by decide +kernel
theorem k233_23 : mm_at 233 23 = some (.ifCond .eq 12, 26, 35, .null) := by decide +kernel
theorem k233_26 : mm_at 233 26 = some (.aload_n 0, 27, 0, .null) := by decide +kernel
theorem k233_27 : mm_at 233 27 = some (.getfield 37, 30, 1216, .null) := by decide +kernel
theorem k233_30 : mm_at 233 30 = some (.iload_n 3, 31, 3, .null) := by decide +kernel
theorem k233_31 : mm_at 233 31 = some (.iaload, 32, 0, .null) := by decide +kernel
theorem k233_32 : mm_at 233 32 = some (.ifCond .ne 6, 35, 38, .null) := by decide +kernel
theorem k233_35 : mm_at 233 35 = some (.ldc 224, 37, 0, .int (-1000000002)) := by decide +kernel
theorem k233_37 : mm_at 233 37 = some (.ireturn, 38, 0, .null) := by decide +kernel
theorem k233_38 : mm_at 233 38 = some (.aload_n 0, 39, 0, .null) := by decide +kernel
theorem k233_39 : mm_at 233 39 = some (.getfield 37, 42, 1216, .null) := by decide +kernel
theorem k233_42 : mm_at 233 42 = some (.iload_n 1, 43, 1, .null) := by decide +kernel
theorem k233_43 : mm_at 233 43 = some (.iaload, 44, 0, .null) := by decide +kernel
theorem k233_44 : mm_at 233 44 = some (.aload_n 0, 45, 0, .null) := by decide +kernel
theorem k233_45 : mm_at 233 45 = some (.getfield 37, 48, 1216, .null) := by decide +kernel
theorem k233_48 : mm_at 233 48 = some (.iload_n 3, 49, 3, .null) := by decide +kernel
theorem k233_49 : mm_at 233 49 = some (.iaload, 50, 0, .null) := by decide +kernel
theorem k233_50 : mm_at 233 50 = some (.if_icmp .eq 6, 53, 56, .null) := by decide +kernel
theorem k233_53 : mm_at 233 53 = some (.ldc 114, 55, 0, .int (-1000000005)) := by decide +kernel
theorem k233_55 : mm_at 233 55 = some (.ireturn, 56, 0, .null) := by decide +kernel
theorem k233_56 : mm_at 233 56 = some (.iload 5, 58, 5, .null) := by decide +kernel
theorem k233_58 : mm_at 233 58 = some (.ifCond .lt 43, 61, 101, .null) := by decide +kernel
theorem k233_61 : mm_at 233 61 = some (.iload_n 2, 62, 2, .null) := by decide +kernel
theorem k233_62 : mm_at 233 62 = some (.ifCond .lt 39, 65, 101, .null) := by decide +kernel
theorem k233_65 : mm_at 233 65 = some (.iload 4, 67, 4, .null) := by decide +kernel
theorem k233_67 : mm_at 233 67 = some (.ifCond .lt 34, 70, 101, .null) := by decide +kernel
theorem k233_70 : mm_at 233 70 = some (.iload 5, 72, 5, .null) := by decide +kernel
theorem k233_72 : mm_at 233 72 = some (.aload_n 0, 73, 0, .null) := by decide +kernel
theorem k233_73 : mm_at 233 73 = some (.getfield 40, 76, 1217, .null) := by decide +kernel
theorem k233_76 : mm_at 233 76 = some (.iload_n 1, 77, 1, .null) := by decide +kernel
theorem k233_77 : mm_at 233 77 = some (.iaload, 78, 0, .null) := by decide +kernel
theorem k233_78 : mm_at 233 78 = some (.iload_n 2, 79, 2, .null) := by decide +kernel
theorem k233_79 : mm_at 233 79 = some (.isub, 80, 0, .null) := by decide +kernel
theorem k233_80 : mm_at 233 80 = some (.if_icmp .gt 21, 83, 101, .null) := by decide +kernel
theorem k233_83 : mm_at 233 83 = some (.iload 5, 85, 5, .null) := by decide +kernel
theorem k233_85 : mm_at 233 85 = some (.aload_n 0, 86, 0, .null) := by decide +kernel
theorem k233_86 : mm_at 233 86 = some (.getfield 40, 89, 1217, .null) := by decide +kernel
theorem k233_89 : mm_at 233 89 = some (.iload_n 3, 90, 3, .null) := by decide +kernel
theorem k233_90 : mm_at 233 90 = some (.iaload, 91, 0, .null) := by decide +kernel
theorem k233_91 : mm_at 233 91 = some (.iload 4, 93, 4, .null) := by decide +kernel
theorem k233_93 : mm_at 233 93 = some (.isub, 94, 0, .null) := by decide +kernel
theorem k233_94 : mm_at 233 94 = some (.if_icmp .gt 7, 97, 101, .null) := by decide +kernel
theorem k233_97 : mm_at 233 97 = some (.iconst 1, 98, 0, .int (1)) := by decide +kernel
theorem k233_98 : mm_at 233 98 = some (.goto 4, 101, 102, .null) := by decide +kernel
theorem k233_101 : mm_at 233 101 = some (.iconst 0, 102, 0, .int (0)) := by decide +kernel
theorem k233_102 : mm_at 233 102 = some (.istore 6, 104, 6, .null) := by decide +kernel
theorem k233_104 : mm_at 233 104 = some (.iload 6, 106, 6, .null) := by decide +kernel
theorem k233_106 : mm_at 233 106 = some (.ifCond .eq 7, 109, 113, .null) := by decide +kernel
theorem k233_109 : mm_at 233 109 = some (.iconst 0, 110, 0, .int (0)) := by decide +kernel
theorem k233_110 : mm_at 233 110 = some (.goto 5, 113, 115, .null) := by decide +kernel
theorem k233_113 : mm_at 233 113 = some (.ldc 97, 115, 0, .int (-1000000001)) := by decide +kernel
theorem k233_115 : mm_at 233 115 = some (.ireturn, 116, 0, .null) := by decide +kernel
theorem k234_0 : mm_at 234 0 = some (.aload_n 0, 1, 0, .null) := by decide +kernel
theorem k234_1 : mm_at 234 1 = some (.iload_n 1, 2, 1, .null) := by decide +kernel
theorem k234_2 : mm_at 234 2 = some (.iload_n 2, 3, 2, .null) := by decide +kernel
theorem k234_3 : mm_at 234 3 = some (.iload_n 3, 4, 3, .null) := by decide +kernel
theorem k234_4 : mm_at 234 4 = some (.iload 4, 6, 4, .null) := by decide +kernel
theorem k234_6 : mm_at 234 6 = some (.iload 5, 8, 5, .null) := by decide +kernel
theorem k234_8 : mm_at 234 8 = some (.invokevirtual 282, 11, 289, .null) := by decide +kernel
theorem k234_11 : mm_at 234 11 = some (.istore 6, 13, 6, .null) := by decide +kernel
theorem k234_13 : mm_at 234 13 = some (.iload 6, 15, 6, .null) := by decide +kernel
theorem k234_15 : mm_at 234 15 = some (.ifCond .eq 10, 18, 25, .null) := by decide +kernel
theorem k234_18 : mm_at 234 18 = some (.aload_n 0, 19, 0, .null) := by decide +kernel
theorem k234_19 : mm_at 234 19 = some (.iload 6, 21, 6, .null) := by decide +kernel
theorem k234_21 : mm_at 234 21 = some (.invokevirtual 98, 24, 238, .null) := by decide +kernel
theorem k234_24 : mm_at 234 24 = some (.ireturn, 25, 0, .null) := by decide +kernel
theorem k234_25 : mm_at 234 25 = some (.iconst 0, 26, 0, .int (0)) := by decide +kernel
theorem k234_26 : mm_at 234 26 = some (.istore 7, 28, 7, .null) := by decide +kernel
theorem k234_28 : mm_at 234 28 = some (.iload 7, 30, 7, .null) := by decide +kernel
theorem k234_30 : mm_at 234 30 = some (.iload 5, 32, 5, .null) := by decide +kernel
theorem k234_32 : mm_at 234 32 = some (.if_icmp .ge 58, 35, 90, .null) := by decide +kernel
theorem k234_35 : mm_at 234 35 = some (.iload_n 2, 36, 2, .null) := by decide +kernel
theorem k234_36 : mm_at 234 36 = some (.iload 4, 38, 4, .null) := by decide +kernel
theorem k234_38 : mm_at 234 38 = some (.if_icmp .ge 13, 41, 51, .null) := by decide +kernel
theorem k234_41 : mm_at 234 41 = some (.iload 5, 43, 5, .null) := by decide +kernel
theorem k234_43 : mm_at 234 43 = some (.iconst 1, 44, 0, .int (1)) := by decide +kernel
theorem k234_44 : mm_at 234 44 = some (.isub, 45, 0, .null) := by decide +kernel
theorem k234_45 : mm_at 234 45 = some (.iload 7, 47, 7, .null) := by decide +kernel
theorem k234_47 : mm_at 234 47 = some (.isub, 48, 0, .null) := by decide +kernel
theorem k234_48 : mm_at 234 48 = some (.goto 5, 51, 53, .null) := by decide +kernel
theorem k234_51 : mm_at 234 51 = some (.iload 7, 53, 7, .null) := by decide +kernel
theorem k234_53 : mm_at 234 53 = some (.istore 8, 55, 8, .null) := by decide +kernel
theorem k234_55 : mm_at 234 55 = some (.aload_n 0, 56, 0, .null) := by decide +kernel
theorem k234_56 : mm_at 234 56 = some (.getfield 43, 59, 1218, .null) := by decide +kernel
theorem k234_59 : mm_at 234 59 = some (.bipush 40, 61, 0, .int (40)) := by decide +kernel
theorem k234_61 : mm_at 234 61 = some (.iload_n 3, 62, 3, .null) := by decide +kernel
theorem k234_62 : mm_at 234 62 = some (.imul, 63, 0, .null) := by decide +kernel
theorem k234_63 : mm_at 234 63 = some (.iload 4, 65, 4, .null) := by decide +kernel
theorem k234_65 : mm_at 234 65 = some (.iadd, 66, 0, .null) := by decide +kernel
theorem k234_66 : mm_at 234 66 = some (.iload 8, 68, 8, .null) := by decide +kernel
theorem k234_68 : mm_at 234 68 = some (.iadd, 69, 0, .null) := by decide +kernel
theorem k234_69 : mm_at 234 69 = some (.aload_n 0, 70, 0, .null) := by decide +kernel
theorem k234_70 : mm_at 234 70 = some (.getfield 43, 73, 1218, .null) := by decide +kernel
theorem k234_73 : mm_at 234 73 = some (.bipush 40, 75, 0, .int (40)) := by decide +kernel
theorem k234_75 : mm_at 234 75 = some (.iload_n 1, 76, 1, .null) := by decide +kernel
theorem k234_76 : mm_at 234 76 = some (.imul, 77, 0, .null) := by decide +kernel
theorem k234_77 : mm_at 234 77 = some (.iload_n 2, 78, 2, .null) := by decide +kernel
theorem k234_78 : mm_at 234 78 = some (.iadd, 79, 0, .null) := by decide +kernel
theorem k234_79 : mm_at 234 79 = some (.iload 8, 81, 8, .null) := by decide +kernel
theorem k234_81 : mm_at 234 81 = some (.iadd, 82, 0, .null) := by decide +kernel
theorem k234_82 : mm_at 234 82 = some (.iaload, 83, 0, .null) := by decide +kernel
theorem k234_83 : mm_at 234 83 = some (.iastore, 84, 0, .null) := by decide +kernel
theorem k234_84 : mm_at 234 84 = some (.iinc 7 1, 87, 7, .int (1)) := by decide +kernel
theorem k234_87 : mm_at 234 87 = some (.goto (-59), 90, 28, .null) := by decide +kernel
theorem k234_90 : mm_at 234 90 = some (.iload 5, 92, 5, .null) := by decide +kernel
theorem k234_92 : mm_at 234 92 = some (.ireturn, 93, 0, .null) := by decide +kernel
theorem k235_0 : mm_at 235 0 = some (.aload_n 0, 1, 0, .null) := by decide +kernel
theorem k235_1 : mm_at 235 1 = some (.iload_n 1, 2, 1, .null) := by decide +kernel
theorem k235_2 : mm_at 235 2 = some (.invokevirtual 279, 5, 288, .null) := by decide +kernel
theorem k235_5 : mm_at 235 5 = some (.istore_n 2, 6, 2, .null) := by decide +kernel
theorem k235_6 : mm_at 235 6 = some (.iload_n 2, 7, 2, .null) := by decide +kernel
theorem k235_7 : mm_at 235 7 = some (.ifCond .eq 9, 10, 16, .null) := by decide +kernel
theorem k235_10 : mm_at 235 10 = some (.aload_n 0, 11, 0, .null) := by decide +kernel
theorem k235_11 : mm_at 235 11 = some (.iload_n 2, 12, 2, .null) := by decide +kernel
theorem k235_12 : mm_at 235 12 = some (.invokevirtual 98, 15, 238, .null) := by decide +kernel
theorem k235_15 : mm_at 235 15 = some (.ireturn, 16, 0, .null) := by decide +kernel
theorem k235_16 : mm_at 235 16 = some (.iconst 0, 17, 0, .int (0)) := by decide +kernel
theorem k235_17 : mm_at 235 17 = some (.istore_n 3, 18, 3, .null) := by decide +kernel
theorem k235_18 : mm_at 235 18 = some (.iload_n 3, 19, 3, .null) := by decide +kernel
theorem k235_19 : mm_at 235 19 = some (.aload_n 0, 20, 0, .null) := by decide +kernel
theorem k235_20 : mm_at 235 20 = some (.getfield 40, 23, 1217, .null) := by decide +kernel
theorem k235_23 : mm_at 235 23 = some (.iload_n 1, 24, 1, .null) := by decide +kernel
theorem k235_24 : mm_at 235 24 = some (.iaload, 25, 0, .null) := by decide +kernel
theorem k235_25 : mm_at 235 25 = some (.if_icmp .ge 56, 28, 81, .null) := by decide +kernel
theorem k235_28 : mm_at 235 28 = some (.iload_n 3, 29, 3, .null) := by decide +kernel
theorem k235_29 : mm_at 235 29 = some (.aload_n 0, 30, 0, .null) := by decide +kernel
theorem k235_30 : mm_at 235 30 = some (.getfield 9, 33, 1200, .null) := by decide +kernel
theorem k235_33 : mm_at 235 33 = some (.iconst 3, 34, 0, .int (3)) := by decide +kernel
theorem k235_34 : mm_at 235 34 = some (.iaload, 35, 0, .null) := by decide +kernel
theorem k235_35 : mm_at 235 35 = some (.if_icmp .ge 46, 38, 81, .null) := by decide +kernel
theorem k235_38 : mm_at 235 38 = some (.aload_n 0, 39, 0, .null) := by decide +kernel
theorem k235_39 : mm_at 235 39 = some (.getfield 43, 42, 1218, .null) := by decide +kernel
theorem k235_42 : mm_at 235 42 = some (.bipush 40, 44, 0, .int (40)) := by decide +kernel
theorem k235_44 : mm_at 235 44 = some (.iload_n 1, 45, 1, .null) := by decide +kernel
theorem k235_45 : mm_at 235 45 = some (.imul, 46, 0, .null) := by decide +kernel
theorem k235_46 : mm_at 235 46 = some (.iload_n 3, 47, 3, .null) := by decide +kernel
theorem k235_47 : mm_at 235 47 = some (.iadd, 48, 0, .null) := by decide +kernel
theorem k235_48 : mm_at 235 48 = some (.iaload, 49, 0, .null) := by decide +kernel
theorem k235_49 : mm_at 235 49 = some (.iconst 0, 50, 0, .int (0)) := by decide +kernel
theorem k235_50 : mm_at 235 50 = some (.bipush 99, 52, 0, .int (99)) := by decide +kernel
theorem k235_52 : mm_at 235 52 = some (.invokestatic 47, 55, 224, .null) := by decide +kernel
theorem k235_55 : mm_at 235 55 = some (.ifCond .eq 26, 58, 81, .null) := by decide +kernel
theorem k235_58 : mm_at 235 58 = some (.aload_n 0, 59, 0, .null) := by decide +kernel
theorem k235_59 : mm_at 235 59 = some (.iload_n 3, 60, 3, .null) := by decide +kernel
theorem k235_60 : mm_at 235 60 = some (.iconst 0, 61, 0, .int (0)) := by decide +kernel
theorem k235_61 : mm_at 235 61 = some (.aload_n 0, 62, 0, .null) := by decide +kernel
theorem k235_62 : mm_at 235 62 = some (.getfield 43, 65, 1218, .null) := by decide +kernel
theorem k235_65 : mm_at 235 65 = some (.bipush 40, 67, 0, .int (40)) := by decide +kernel
theorem k235_67 : mm_at 235 67 = some (.iload_n 1, 68, 1, .null) := by decide +kernel
theorem k235_68 : mm_at 235 68 = some (.imul, 69, 0, .null) := by decide +kernel
theorem k235_69 : mm_at 235 69 = some (.iload_n 3, 70, 3, .null) := by decide +kernel
theorem k235_70 : mm_at 235 70 = some (.iadd, 71, 0, .null) := by decide +kernel
theorem k235_71 : mm_at 235 71 = some (.iaload, 72, 0, .null) := by decide +kernel
theorem k235_72 : mm_at 235 72 = some (.invokevirtual 118, 75, 244, .null) := by decide +kernel
theorem k235_75 : mm_at 235 75 = some (.iinc 3 1, 78, 3, .int (1)) := by decide +kernel
theorem k235_78 : mm_at 235 78 = some (.goto (-60), 81, 18, .null) := by decide +kernel
theorem k235_81 : mm_at 235 81 = some (.iload_n 3, 82, 3, .null) := by decide +kernel
theorem k235_82 : mm_at 235 82 = some (.ireturn, 83, 0, .null) := by decide +kernel
theorem k236_0 : mm_at 236 0 = some (.aload_n 0, 1, 0, .null) := by decide +kernel
theorem k236_1 : mm_at 236 1 = some (.iload_n 1, 2, 1, .null) := by decide +kernel
theorem k236_2 : mm_at 236 2 = some (.invokevirtual 279, 5, 288, .null) := by decide +kernel
theorem k236_5 : mm_at 236 5 = some (.istore_n 2, 6, 2, .null) := by decide +kernel
theorem k236_6 : mm_at 236 6 = some (.iload_n 2, 7, 2, .null) := by decide +kernel
theorem k236_7 : mm_at 236 7 = some (.ifCond .eq 9, 10, 16, .null) := by decide +kernel
theorem k236_10 : mm_at 236 10 = some (.aload_n 0, 11, 0, .null) := by decide +kernel
theorem k236_11 : mm_at 236 11 = some (.iload_n 2, 12, 2, .null) := by decide +kernel
theorem k236_12 : mm_at 236 12 = some (.invokevirtual 98, 15, 238, .null) := by decide +kernel
theorem k236_15 : mm_at 236 15 = some (.ireturn, 16, 0, .null) := by decide +kernel
theorem k236_16 : mm_at 236 16 = some (.iconst 0, 17, 0, .int (0)) := by decide +kernel
theorem k236_17 : mm_at 236 17 = some (.istore_n 3, 18, 3, .null) := by decide +kernel
theorem k236_18 : mm_at 236 18 = some (.iload_n 3, 19, 3, .null) := by decide +kernel
theorem k236_19 : mm_at 236 19 = some (.aload_n 0, 20, 0, .null) := by decide +kernel
theorem k236_20 : mm_at 236 20 = some (.getfield 40, 23, 1217, .null) := by decide +kernel
theorem k236_23 : mm_at 236 23 = some (.iload_n 1, 24, 1, .null) := by decide +kernel
theorem k236_24 : mm_at 236 24 = some (.iaload, 25, 0, .null) := by decide +kernel
theorem k236_25 : mm_at 236 25 = some (.if_icmp .ge 39, 28, 64, .null) := by decide +kernel
theorem k236_28 : mm_at 236 28 = some (.iload_n 3, 29, 3, .null) := by decide +kernel
theorem k236_29 : mm_at 236 29 = some (.aload_n 0, 30, 0, .null) := by decide +kernel
theorem k236_30 : mm_at 236 30 = some (.getfield 9, 33, 1200, .null) := by decide +kernel
theorem k236_33 : mm_at 236 33 = some (.iconst 3, 34, 0, .int (3)) := by decide +kernel
theorem k236_34 : mm_at 236 34 = some (.iaload, 35, 0, .null) := by decide +kernel
theorem k236_35 : mm_at 236 35 = some (.if_icmp .ge 29, 38, 64, .null) := by decide +kernel
theorem k236_38 : mm_at 236 38 = some (.aload_n 0, 39, 0, .null) := by decide +kernel
theorem k236_39 : mm_at 236 39 = some (.getfield 43, 42, 1218, .null) := by decide +kernel
theorem k236_42 : mm_at 236 42 = some (.bipush 40, 44, 0, .int (40)) := by decide +kernel
theorem k236_44 : mm_at 236 44 = some (.iload_n 1, 45, 1, .null) := by decide +kernel
theorem k236_45 : mm_at 236 45 = some (.imul, 46, 0, .null) := by decide +kernel
theorem k236_46 : mm_at 236 46 = some (.iload_n 3, 47, 3, .null) := by decide +kernel
theorem k236_47 : mm_at 236 47 = some (.iadd, 48, 0, .null) := by decide +kernel
theorem k236_48 : mm_at 236 48 = some (.iaload, 49, 0, .null) := by decide +kernel
theorem k236_49 : mm_at 236 49 = some (.aload_n 0, 50, 0, .null) := by decide +kernel
theorem k236_50 : mm_at 236 50 = some (.iload_n 3, 51, 3, .null) := by decide +kernel
theorem k236_51 : mm_at 236 51 = some (.iconst 2, 52, 0, .int (2)) := by decide +kernel
theorem k236_52 : mm_at 236 52 = some (.invokevirtual 51, 55, 225, .null) := by decide +kernel
theorem k236_55 : mm_at 236 55 = some (.if_icmp .ne 9, 58, 64, .null) := by decide +kernel
theorem k236_58 : mm_at 236 58 = some (.iinc 3 1, 61, 3, .int (1)) := by decide +kernel
theorem k236_61 : mm_at 236 61 = some (.goto (-43), 64, 18, .null) := by decide +kernel
theorem k236_64 : mm_at 236 64 = some (.iload_n 3, 65, 3, .null) := by decide +kernel
theorem k236_65 : mm_at 236 65 = some (.aload_n 0, 66, 0, .null) := by decide +kernel
theorem k236_66 : mm_at 236 66 = some (.getfield 9, 69, 1200, .null) := by decide +kernel
theorem k236_69 : mm_at 236 69 = some (.iconst 3, 70, 0, .int (3)) := by decide +kernel
theorem k236_70 : mm_at 236 70 = some (.iaload, 71, 0, .null) := by decide +kernel
theorem k236_71 : mm_at 236 71 = some (.if_icmp .ne 17, 74, 88, .null) := by decide +kernel
theorem k236_74 : mm_at 236 74 = some (.aload_n 0, 75, 0, .null) := by decide +kernel
theorem k236_75 : mm_at 236 75 = some (.getfield 40, 78, 1217, .null) := by decide +kernel
theorem k236_78 : mm_at 236 78 = some (.iload_n 1, 79, 1, .null) := by decide +kernel
theorem k236_79 : mm_at 236 79 = some (.iaload, 80, 0, .null) := by decide +kernel
theorem k236_80 : mm_at 236 80 = some (.iload_n 3, 81, 3, .null) := by decide +kernel
theorem k236_81 : mm_at 236 81 = some (.if_icmp .ne 7, 84, 88, .null) := by decide +kernel
theorem k236_84 : mm_at 236 84 = some (.iconst (-1), 85, 0, .int (-1)) := by decide +kernel
theorem k236_85 : mm_at 236 85 = some (.goto 4, 88, 89, .null) := by decide +kernel
theorem k236_88 : mm_at 236 88 = some (.iload_n 3, 89, 3, .null) := by decide +kernel
theorem k236_89 : mm_at 236 89 = some (.ireturn, 90, 0, .null) := by decide +kernel
theorem k237_0 : mm_at 237 0 = some (.aload_n 0, 1, 0, .null) := by decide +kernel
theorem k237_1 : mm_at 237 1 = some (.getfield 9, 4, 1200, .null) := by decide +kernel
theorem k237_4 : mm_at 237 4 = some (.aload_n 0, 5, 0, .null) := by decide +kernel
theorem k237_5 : mm_at 237 5 = some (.getfield 13, 8, 1201, .null) := by decide +kernel
theorem k237_8 : mm_at 237 8 = some (.invokestatic 214, 11, 268, .null) := by decide +kernel
theorem k237_11 : mm_at 237 11 = some (.aload_n 0, 12, 0, .null) := by decide +kernel
theorem k237_12 : mm_at 237 12 = some (.dup, 13, 0, .null) := by decide +kernel
theorem k237_13 : mm_at 237 13 = some (.getfield 286, 16, 1203, .null) := by decide +kernel
theorem k237_16 : mm_at 237 16 = some (.iconst 1, 17, 0, .int (1)) := by decide +kernel
theorem k237_17 : mm_at 237 17 = some (.iadd, 18, 0, .null) := by decide +kernel
theorem k237_18 : mm_at 237 18 = some (.putfield 286, 21, 1203, .null) := by decide +kernel
theorem k237_21 : mm_at 237 21 = some (.aload_n 0, 22, 0, .null) := by decide +kernel
theorem k237_22 : mm_at 237 22 = some (.getfield 286, 25, 1203, .null) := by decide +kernel
theorem k237_25 : mm_at 237 25 = some (.ireturn, 26, 0, .null) := by decide +kernel
theorem k238_0 : mm_at 238 0 = some (.aload_n 0, 1, 0, .null) := by decide +kernel
theorem k238_1 : mm_at 238 1 = some (.getfield 286, 4, 1203, .null) := by decide +kernel
theorem k238_4 : mm_at 238 4 = some (.ifCond .ne 10, 7, 14, .null) := by decide +kernel
theorem k238_7 : mm_at 238 7 = some (.aload_n 0, 8, 0, .null) := by decide +kernel
theorem k238_8 : mm_at 238 8 = some (.ldc 224, 10, 0, .int (-1000000002)) := by decide +kernel
theorem k238_10 : mm_at 238 10 = some (.invokevirtual 98, 13, 238, .null) := by decide +kernel
theorem k238_13 : mm_at 238 13 = some (.ireturn, 14, 0, .null) := by decide +kernel
theorem k238_14 : mm_at 238 14 = some (.aload_n 0, 15, 0, .null) := by decide +kernel
theorem k238_15 : mm_at 238 15 = some (.getfield 13, 18, 1201, .null) := by decide +kernel
theorem k238_18 : mm_at 238 18 = some (.aload_n 0, 19, 0, .null) := by decide +kernel
theorem k238_19 : mm_at 238 19 = some (.getfield 9, 22, 1200, .null) := by decide +kernel
theorem k238_22 : mm_at 238 22 = some (.invokestatic 214, 25, 268, .null) := by decide +kernel
theorem k238_25 : mm_at 238 25 = some (.aload_n 0, 26, 0, .null) := by decide +kernel
theorem k238_26 : mm_at 238 26 = some (.getfield 9, 29, 1200, .null) := by decide +kernel
theorem k238_29 : mm_at 238 29 = some (.iconst 0, 30, 0, .int (0)) := by decide +kernel
theorem k238_30 : mm_at 238 30 = some (.iaload, 31, 0, .null) := by decide +kernel
theorem k238_31 : mm_at 238 31 = some (.ireturn, 32, 0, .null) := by decide +kernel
theorem k239_0 : mm_at 239 0 = some (.aload_n 0, 1, 0, .null) := by decide +kernel
theorem k239_1 : mm_at 239 1 = some (.getfield 9, 4, 1200, .null) := by decide +kernel
theorem k239_4 : mm_at 239 4 = some (.bipush 6, 6, 0, .int (6)) := by decide +kernel
theorem k239_6 : mm_at 239 6 = some (.iaload, 7, 0, .null) := by decide +kernel
theorem k239_7 : mm_at 239 7 = some (.bipush 20, 9, 0, .int (20)) := by decide +kernel
theorem k239_9 : mm_at 239 9 = some (.if_icmp .ne 10, 12, 19, .null) := by decide +kernel
theorem k239_12 : mm_at 239 12 = some (.aload_n 0, 13, 0, .null) := by decide +kernel
theorem k239_13 : mm_at 239 13 = some (.ldc 101, 15, 0, .int (-1000000004)) := by decide +kernel
theorem k239_15 : mm_at 239 15 = some (.invokevirtual 98, 18, 238, .null) := by decide +kernel
theorem k239_18 : mm_at 239 18 = some (.ireturn, 19, 0, .null) := by decide +kernel
theorem k239_19 : mm_at 239 19 = some (.aload_n 0, 20, 0, .null) := by decide +kernel
theorem k239_20 : mm_at 239 20 = some (.getfield 9, 23, 1200, .null) := by decide +kernel
theorem k239_23 : mm_at 239 23 = some (.bipush 99, 25, 0, .int (99)) := by decide +kernel
theorem k239_25 : mm_at 239 25 = some (.aload_n 0, 26, 0, .null) := by decide +kernel
theorem k239_26 : mm_at 239 26 = some (.getfield 9, 29, 1200, .null) := by decide +kernel
theorem k239_29 : mm_at 239 29 = some (.bipush 6, 31, 0, .int (6)) := by decide +kernel
theorem k239_31 : mm_at 239 31 = some (.iaload, 32, 0, .null) := by decide +kernel
theorem k239_32 : mm_at 239 32 = some (.iadd, 33, 0, .null) := by decide +kernel
theorem k239_33 : mm_at 239 33 = some (.iload_n 1, 34, 1, .null) := by decide +kernel
theorem k239_34 : mm_at 239 34 = some (.iastore, 35, 0, .null) := by decide +kernel
theorem k239_35 : mm_at 239 35 = some (.aload_n 0, 36, 0, .null) := by decide +kernel
theorem k239_36 : mm_at 239 36 = some (.getfield 9, 39, 1200, .null) := by decide +kernel
theorem k239_39 : mm_at 239 39 = some (.bipush 6, 41, 0, .int (6)) := by decide +kernel
theorem k239_41 : mm_at 239 41 = some (.dup2, 42, 0, .null) := by decide +kernel
theorem k239_42 : mm_at 239 42 = some (.iaload, 43, 0, .null) := by decide +kernel
theorem k239_43 : mm_at 239 43 = some (.iconst 1, 44, 0, .int (1)) := by decide +kernel
theorem k239_44 : mm_at 239 44 = some (.iadd, 45, 0, .null) := by decide +kernel
theorem k239_45 : mm_at 239 45 = some (.iastore, 46, 0, .null) := by decide +kernel
theorem k239_46 : mm_at 239 46 = some (.aload_n 0, 47, 0, .null) := by decide +kernel
theorem k239_47 : mm_at 239 47 = some (.getfield 9, 50, 1200, .null) := by decide +kernel
theorem k239_50 : mm_at 239 50 = some (.bipush 6, 52, 0, .int (6)) := by decide +kernel
theorem k239_52 : mm_at 239 52 = some (.iaload, 53, 0, .null) := by decide +kernel
theorem k239_53 : mm_at 239 53 = some (.ireturn, 54, 0, .null) := by decide +kernel
theorem k240_0 : mm_at 240 0 = some (.aload_n 0, 1, 0, .null) := by decide +kernel
theorem k240_1 : mm_at 240 1 = some (.getfield 9, 4, 1200, .null) := by decide +kernel
theorem k240_4 : mm_at 240 4 = some (.bipush 6, 6, 0, .int (6)) := by decide +kernel
theorem k240_6 : mm_at 240 6 = some (.iaload, 7, 0, .null) := by decide +kernel
theorem k240_7 : mm_at 240 7 = some (.istore_n 1, 8, 1, .null) := by decide +kernel
theorem k240_8 : mm_at 240 8 = some (.aload_n 0, 9, 0, .null) := by decide +kernel
theorem k240_9 : mm_at 240 9 = some (.getfield 9, 12, 1200, .null) := by decide +kernel
theorem k240_12 : mm_at 240 12 = some (.bipush 6, 14, 0, .int (6)) := by decide +kernel
theorem k240_14 : mm_at 240 14 = some (.iconst 0, 15, 0, .int (0)) := by decide +kernel
theorem k240_15 : mm_at 240 15 = some (.iastore, 16, 0, .null) := by decide +kernel
theorem k240_16 : mm_at 240 16 = some (.aload_n 0, 17, 0, .null) := by decide +kernel
theorem k240_17 : mm_at 240 17 = some (.invokevirtual 218, 20, 269, .null) := by decide +kernel
theorem k240_20 : mm_at 240 20 = some (.iconst 0, 21, 0, .int (0)) := by decide +kernel
theorem k240_21 : mm_at 240 21 = some (.istore_n 2, 22, 2, .null) := by decide +kernel
theorem k240_22 : mm_at 240 22 = some (.iconst 0, 23, 0, .int (0)) := by decide +kernel
theorem k240_23 : mm_at 240 23 = some (.istore_n 3, 24, 3, .null) := by decide +kernel
theorem k240_24 : mm_at 240 24 = some (.iload_n 3, 25, 3, .null) := by decide +kernel
theorem k240_25 : mm_at 240 25 = some (.iload_n 1, 26, 1, .null) := by decide +kernel
theorem k240_26 : mm_at 240 26 = some (.if_icmp .ge 43, 29, 69, .null) := by decide +kernel
theorem k240_29 : mm_at 240 29 = some (.iload_n 2, 30, 2, .null) := by decide +kernel
theorem k240_30 : mm_at 240 30 = some (.ifCond .ne 39, 33, 69, .null) := by decide +kernel
theorem k240_33 : mm_at 240 33 = some (.aload_n 0, 34, 0, .null) := by decide +kernel
theorem k240_34 : mm_at 240 34 = some (.invokevirtual 204, 37, 265, .null) := by decide +kernel
theorem k240_37 : mm_at 240 37 = some (.aload_n 0, 38, 0, .null) := by decide +kernel
theorem k240_38 : mm_at 240 38 = some (.getfield 9, 41, 1200, .null) := by decide +kernel
theorem k240_41 : mm_at 240 41 = some (.bipush 99, 43, 0, .int (99)) := by decide +kernel
theorem k240_43 : mm_at 240 43 = some (.iload_n 3, 44, 3, .null) := by decide +kernel
theorem k240_44 : mm_at 240 44 = some (.iadd, 45, 0, .null) := by decide +kernel
theorem k240_45 : mm_at 240 45 = some (.iaload, 46, 0, .null) := by decide +kernel
theorem k240_46 : mm_at 240 46 = some (.aload_n 0, 47, 0, .null) := by decide +kernel
theorem k240_47 : mm_at 240 47 = some (.getfield 9, 50, 1200, .null) := by decide +kernel
theorem k240_50 : mm_at 240 50 = some (.iconst 4, 51, 0, .int (4)) := by decide +kernel
theorem k240_51 : mm_at 240 51 = some (.iaload, 52, 0, .null) := by decide +kernel
theorem k240_52 : mm_at 240 52 = some (.if_icmp .ne 7, 55, 59, .null) := by decide +kernel
theorem k240_55 : mm_at 240 55 = some (.iconst 0, 56, 0, .int (0)) := by decide +kernel
theorem k240_56 : mm_at 240 56 = some (.goto 6, 59, 62, .null) := by decide +kernel
theorem k240_59 : mm_at 240 59 = some (.iconst 1, 60, 0, .int (1)) := by decide +kernel
theorem k240_60 : mm_at 240 60 = some (.iload_n 3, 61, 3, .null) := by decide +kernel
theorem k240_61 : mm_at 240 61 = some (.iadd, 62, 0, .null) := by decide +kernel
theorem k240_62 : mm_at 240 62 = some (.istore_n 2, 63, 2, .null) := by decide +kernel
theorem k240_63 : mm_at 240 63 = some (.iinc 3 1, 66, 3, .int (1)) := by decide +kernel
theorem k240_66 : mm_at 240 66 = some (.goto (-42), 69, 24, .null) := by decide +kernel
theorem k240_69 : mm_at 240 69 = some (.aload_n 0, 70, 0, .null) := by decide +kernel
theorem k240_70 : mm_at 240 70 = some (.invokevirtual 221, 73, 270, .null) := by decide +kernel
theorem k240_73 : mm_at 240 73 = some (.iload_n 2, 74, 2, .null) := by decide +kernel
theorem k240_74 : mm_at 240 74 = some (.ireturn, 75, 0, .null) := by decide +kernel
theorem k241_0 : mm_at 241 0 = some (.iload_n 1, 1, 1, .null) := by decide +kernel
theorem k241_1 : mm_at 241 1 = some (.tableswitch 127 0 9 #[55, 62, 69, 76, 83, 91, 100, 107, 115, 120], 56, 0, .null) := by decide +kernel
theorem k241_56 : mm_at 241 56 = some (.aload_n 0, 57, 0, .null) := by decide +kernel
theorem k241_57 : mm_at 241 57 = some (.getfield 9, 60, 1200, .null) := by decide +kernel
theorem k241_60 : mm_at 241 60 = some (.iconst 2, 61, 0, .int (2)) := by decide +kernel
theorem k241_61 : mm_at 241 61 = some (.iaload, 62, 0, .null) := by decide +kernel
theorem k241_62 : mm_at 241 62 = some (.ireturn, 63, 0, .null) := by decide +kernel
theorem k241_63 : mm_at 241 63 = some (.aload_n 0, 64, 0, .null) := by decide +kernel
theorem k241_64 : mm_at 241 64 = some (.getfield 9, 67, 1200, .null) := by decide +kernel
theorem k241_67 : mm_at 241 67 = some (.iconst 3, 68, 0, .int (3)) := by decide +kernel
theorem k241_68 : mm_at 241 68 = some (.iaload, 69, 0, .null) := by decide +kernel
theorem k241_69 : mm_at 241 69 = some (.ireturn, 70, 0, .null) := by decide +kernel
theorem k241_70 : mm_at 241 70 = some (.aload_n 0, 71, 0, .null) := by decide +kernel
theorem k241_71 : mm_at 241 71 = some (.getfield 9, 74, 1200, .null) := by decide +kernel
theorem k241_74 : mm_at 241 74 = some (.iconst 0, 75, 0, .int (0)) := by decide +kernel
theorem k241_75 : mm_at 241 75 = some (.iaload, 76, 0, .null) := by decide +kernel
theorem k241_76 : mm_at 241 76 = some (.ireturn, 77, 0, .null) := by decide +kernel
theorem k241_77 : mm_at 241 77 = some (.aload_n 0, 78, 0, .null) := by decide +kernel
theorem k241_78 : mm_at 241 78 = some (.getfield 9, 81, 1200, .null) := by decide +kernel
theorem k241_81 : mm_at 241 81 = some (.iconst 4, 82, 0, .int (4)) := by decide +kernel
theorem k241_82 : mm_at 241 82 = some (.iaload, 83, 0, .null) := by decide +kernel
theorem k241_83 : mm_at 241 83 = some (.ireturn, 84, 0, .null) := by decide +kernel
theorem k241_84 : mm_at 241 84 = some (.aload_n 0, 85, 0, .null) := by decide +kernel
theorem k241_85 : mm_at 241 85 = some (.invokevirtual 86, 88, 235, .null) := by decide +kernel
theorem k241_88 : mm_at 241 88 = some (.invokestatic 62, 91, 228, .null) := by decide +kernel
theorem k241_91 : mm_at 241 91 = some (.ireturn, 92, 0, .null) := by decide +kernel
theorem k241_92 : mm_at 241 92 = some (.aload_n 0, 93, 0, .null) := by decide +kernel
theorem k241_93 : mm_at 241 93 = some (.aload_n 0, 94, 0, .null) := by decide +kernel
theorem k241_94 : mm_at 241 94 = some (.invokevirtual 86, 97, 235, .null) := by decide +kernel
theorem k241_97 : mm_at 241 97 = some (.invokevirtual 228, 100, 272, .null) := by decide +kernel
theorem k241_100 : mm_at 241 100 = some (.ireturn, 101, 0, .null) := by decide +kernel
theorem k241_101 : mm_at 241 101 = some (.aload_n 0, 102, 0, .null) := by decide +kernel
theorem k241_102 : mm_at 241 102 = some (.getfield 9, 105, 1200, .null) := by decide +kernel
theorem k241_105 : mm_at 241 105 = some (.iconst 5, 106, 0, .int (5)) := by decide +kernel
theorem k241_106 : mm_at 241 106 = some (.iaload, 107, 0, .null) := by decide +kernel
theorem k241_107 : mm_at 241 107 = some (.ireturn, 108, 0, .null) := by decide +kernel
theorem k241_108 : mm_at 241 108 = some (.aload_n 0, 109, 0, .null) := by decide +kernel
theorem k241_109 : mm_at 241 109 = some (.getfield 9, 112, 1200, .null) := by decide +kernel
theorem k241_112 : mm_at 241 112 = some (.bipush 6, 114, 0, .int (6)) := by decide +kernel
theorem k241_114 : mm_at 241 114 = some (.iaload, 115, 0, .null) := by decide +kernel
theorem k241_115 : mm_at 241 115 = some (.ireturn, 116, 0, .null) := by decide +kernel
theorem k241_116 : mm_at 241 116 = some (.aload_n 0, 117, 0, .null) := by decide +kernel
theorem k241_117 : mm_at 241 117 = some (.getfield 243, 120, 1215, .null) := by decide +kernel
theorem k241_120 : mm_at 241 120 = some (.ireturn, 121, 0, .null) := by decide +kernel
theorem k241_121 : mm_at 241 121 = some (.aload_n 0, 122, 0, .null) := by decide +kernel
theorem k241_122 : mm_at 241 122 = some (.getfield 9, 125, 1200, .null) := by decide +kernel
theorem k241_125 : mm_at 241 125 = some (.iconst 1, 126, 0, .int (1)) := by decide +kernel
theorem k241_126 : mm_at 241 126 = some (.iaload, 127, 0, .null) := by decide +kernel
theorem k241_127 : mm_at 241 127 = some (.ireturn, 128, 0, .null) := by decide +kernel
theorem k241_128 : mm_at 241 128 = some (.aload_n 0, 129, 0, .null) := by decide +kernel
theorem k241_129 : mm_at 241 129 = some (.ldc 97, 131, 0, .int (-1000000001)) := by decide +kernel
theorem k241_131 : mm_at 241 131 = some (.invokevirtual 98, 134, 238, .null) := by decide +kernel
theorem k241_134 : mm_at 241 134 = some (.ireturn, 135, 0, .null) := by decide +kernel
theorem k242_0 : mm_at 242 0 = some (.iload_n 1, 1, 1, .null) := by decide +kernel
theorem k242_1 : mm_at 242 1 = some (.iconst 1, 2, 0, .int (1)) := by decide +kernel
theorem k242_2 : mm_at 242 2 = some (.iconst 5, 3, 0, .int (5)) := by decide +kernel
theorem k242_3 : mm_at 242 3 = some (.invokestatic 47, 6, 224, .null) := by decide +kernel
theorem k242_6 : mm_at 242 6 = some (.ifCond .eq 12, 9, 18, .null) := by decide +kernel
theorem k242_9 : mm_at 242 9 = some (.aload_n 0, 10, 0, .null) := by decide +kernel
theorem k242_10 : mm_at 242 10 = some (.getfield 19, 13, 1204, .null) := by decide +kernel
theorem k242_13 : mm_at 242 13 = some (.iload_n 1, 14, 1, .null) := by decide +kernel
theorem k242_14 : mm_at 242 14 = some (.iaload, 15, 0, .null) := by decide +kernel
theorem k242_15 : mm_at 242 15 = some (.goto 9, 18, 24, .null) := by decide +kernel
theorem k242_18 : mm_at 242 18 = some (.aload_n 0, 19, 0, .null) := by decide +kernel
theorem k242_19 : mm_at 242 19 = some (.ldc 97, 21, 0, .int (-1000000001)) := by decide +kernel
theorem k242_21 : mm_at 242 21 = some (.invokevirtual 98, 24, 238, .null) := by decide +kernel
theorem k242_24 : mm_at 242 24 = some (.ireturn, 25, 0, .null) := by decide +kernel
theorem k243_0 : mm_at 243 0 = some (.aload_n 0, 1, 0, .null) := by decide +kernel
theorem k243_1 : mm_at 243 1 = some (.getfield 9, 4, 5000, .null) := by decide +kernel
theorem k243_4 : mm_at 243 4 = some (.arraylength, 5, 0, .null) := by decide +kernel
theorem k243_5 : mm_at 243 5 = some (.aload_n 0, 6, 0, .null) := by decide +kernel
theorem k243_6 : mm_at 243 6 = some (.invokevirtual 335, 9, 290, .null) := by decide +kernel
theorem k243_9 : mm_at 243 9 = some (.ishr, 10, 0, .null) := by decide +kernel
theorem k243_10 : mm_at 243 10 = some (.ireturn, 11, 0, .null) := by decide +kernel
theorem k244_0 : mm_at 244 0 = some (.aload_n 0, 1, 0, .null) := by decide +kernel
theorem k244_1 : mm_at 244 1 = some (.iload_n 1, 2, 1, .null) := by decide +kernel
theorem k244_2 : mm_at 244 2 = some (.iconst 0, 3, 0, .int (0)) := by decide +kernel
theorem k244_3 : mm_at 244 3 = some (.invokevirtual 633, 6, 291, .null) := by decide +kernel
theorem k244_6 : mm_at 244 6 = some (.ireturn, 7, 0, .null) := by decide +kernel
theorem k245_0 : mm_at 245 0 = some (.aload_n 0, 1, 0, .null) := by decide +kernel
theorem k245_1 : mm_at 245 1 = some (.invokevirtual 492, 4, 292, .null) := by decide +kernel
theorem k245_4 : mm_at 245 4 = some (.ifCond .eq 19, 7, 23, .null) := by decide +kernel
theorem k245_7 : mm_at 245 7 = some (.aload_n 0, 8, 0, .null) := by decide +kernel
theorem k245_8 : mm_at 245 8 = some (.getfield 9, 11, 5000, .null) := by decide +kernel
theorem k245_11 : mm_at 245 11 = some (.iload_n 1, 12, 1, .null) := by decide +kernel
theorem k245_12 : mm_at 245 12 = some (.iload_n 2, 13, 2, .null) := by decide +kernel
theorem k245_13 : mm_at 245 13 = some (.aload_n 0, 14, 0, .null) := by decide +kernel
theorem k245_14 : mm_at 245 14 = some (.invokevirtual 505, 17, 293, .null) := by decide +kernel
theorem k245_17 : mm_at 245 17 = some (.invokestatic 637, 20, 294, .null) := by decide +kernel
theorem k245_20 : mm_at 245 20 = some (.goto 16, 23, 36, .null) := by decide +kernel
theorem k245_23 : mm_at 245 23 = some (.aload_n 0, 24, 0, .null) := by decide +kernel
theorem k245_24 : mm_at 245 24 = some (.getfield 9, 27, 5000, .null) := by decide +kernel
theorem k245_27 : mm_at 245 27 = some (.iload_n 1, 28, 1, .null) := by decide +kernel
theorem k245_28 : mm_at 245 28 = some (.iload_n 2, 29, 2, .null) := by decide +kernel
theorem k245_29 : mm_at 245 29 = some (.aload_n 0, 30, 0, .null) := by decide +kernel
theorem k245_30 : mm_at 245 30 = some (.invokevirtual 505, 33, 293, .null) := by decide +kernel
theorem k245_33 : mm_at 245 33 = some (.invokestatic 640, 36, 9999, .null) := by decide +kernel
theorem k245_36 : mm_at 245 36 = some (.ireturn, 37, 0, .null) := by decide +kernel
theorem k246_0 : mm_at 246 0 = some (.getstatic 38, 3, 0, .int 1) := by decide +kernel
theorem k246_3 : mm_at 246 3 = some (.ifCond .eq 10, 6, 13, .null) := by decide +kernel
theorem k246_6 : mm_at 246 6 = some (.aload_n 0, 7, 0, .null) := by decide +kernel
theorem k246_7 : mm_at 246 7 = some (.getfield 15, 10, 5001, .null) := by decide +kernel
theorem k246_10 : mm_at 246 10 = some (.goto 4, 13, 14, .null) := by decide +kernel
theorem k246_13 : mm_at 246 13 = some (.iconst 1, 14, 0, .int (1)) := by decide +kernel
theorem k246_14 : mm_at 246 14 = some (.ireturn, 15, 0, .null) := by decide +kernel
theorem k247_0 : mm_at 247 0 = some (.getstatic 38, 3, 0, .int 1) := by decide +kernel
theorem k247_3 : mm_at 247 3 = some (.ifCond .eq 14, 6, 17, .null) := by decide +kernel
theorem k247_6 : mm_at 247 6 = some (.aload_n 0, 7, 0, .null) := by decide +kernel
theorem k247_7 : mm_at 247 7 = some (.getfield 15, 10, 5001, .null) := by decide +kernel
theorem k247_10 : mm_at 247 10 = some (.ifCond .ne 7, 13, 17, .null) := by decide +kernel
theorem k247_13 : mm_at 247 13 = some (.iconst 1, 14, 0, .int (1)) := by decide +kernel
theorem k247_14 : mm_at 247 14 = some (.goto 4, 17, 18, .null) := by decide +kernel
theorem k247_17 : mm_at 247 17 = some (.iconst 0, 18, 0, .int (0)) := by decide +kernel
theorem k247_18 : mm_at 247 18 = some (.ireturn, 19, 0, .null) := by decide +kernel
theorem k248_0 : mm_at 248 0 = some (.iload_n 0, 1, 0, .null) := by decide +kernel
theorem k248_1 : mm_at 248 1 = some (.ifCond .lt 14, 4, 15, .null) := by decide +kernel
theorem k248_4 : mm_at 248 4 = some (.iload_n 0, 5, 0, .null) := by decide +kernel
theorem k248_5 : mm_at 248 5 = some (.sipush 255, 8, 0, .int (255)) := by decide +kernel
theorem k248_8 : mm_at 248 8 = some (.if_icmp .gt 7, 11, 15, .null) := by decide +kernel
theorem k248_11 : mm_at 248 11 = some (.iconst 1, 12, 0, .int (1)) := by decide +kernel
theorem k248_12 : mm_at 248 12 = some (.goto 4, 15, 16, .null) := by decide +kernel
theorem k248_15 : mm_at 248 15 = some (.iconst 0, 16, 0, .int (0)) := by decide +kernel
theorem k248_16 : mm_at 248 16 = some (.ireturn, 17, 0, .null) := by decide +kernel
theorem k249_0 : mm_at 249 0 = some (.iload_n 1, 1, 1, .null) := by decide +kernel
theorem k249_1 : mm_at 249 1 = some (.invokestatic 88, 4, 295, .null) := by decide +kernel
theorem k249_4 : mm_at 249 4 = some (.ifCond .ne 5, 7, 9, .null) := by decide +kernel
theorem k249_7 : mm_at 249 7 = some (.iconst (-1), 8, 0, .int (-1)) := by decide +kernel
theorem k249_8 : mm_at 249 8 = some (.ireturn, 9, 0, .null) := by decide +kernel
theorem k249_9 : mm_at 249 9 = some (.iload_n 2, 10, 2, .null) := by decide +kernel
theorem k249_10 : mm_at 249 10 = some (.iconst 0, 11, 0, .int (0)) := by decide +kernel
theorem k249_11 : mm_at 249 11 = some (.invokestatic 92, 14, 10002, .null) := by decide +kernel
theorem k249_14 : mm_at 249 14 = some (.istore_n 2, 15, 2, .null) := by decide +kernel
theorem k249_15 : mm_at 249 15 = some (.iload_n 3, 16, 3, .null) := by decide +kernel
theorem k249_16 : mm_at 249 16 = some (.aload_n 0, 17, 0, .null) := by decide +kernel
theorem k249_17 : mm_at 249 17 = some (.arraylength, 18, 0, .null) := by decide +kernel
theorem k249_18 : mm_at 249 18 = some (.invokestatic 38, 21, 10003, .null) := by decide +kernel
theorem k249_21 : mm_at 249 21 = some (.istore_n 3, 22, 3, .null) := by decide +kernel
theorem k249_22 : mm_at 249 22 = some (.iload_n 2, 23, 2, .null) := by decide +kernel
theorem k249_23 : mm_at 249 23 = some (.iload_n 3, 24, 3, .null) := by decide +kernel
theorem k249_24 : mm_at 249 24 = some (.if_icmp .lt 5, 27, 29, .null) := by decide +kernel
theorem k249_27 : mm_at 249 27 = some (.iconst (-1), 28, 0, .int (-1)) := by decide +kernel
theorem k249_28 : mm_at 249 28 = some (.ireturn, 29, 0, .null) := by decide +kernel
theorem k249_29 : mm_at 249 29 = some (.aload_n 0, 30, 0, .null) := by decide +kernel
theorem k249_30 : mm_at 249 30 = some (.iload_n 1, 31, 1, .null) := by decide +kernel
theorem k249_31 : mm_at 249 31 = some (.iload_n 2, 32, 2, .null) := by decide +kernel
theorem k249_32 : mm_at 249 32 = some (.iload_n 3, 33, 3, .null) := by decide +kernel
theorem k249_33 : mm_at 249 33 = some (.invokestatic 95, 36, 296, .null) := by decide +kernel
theorem k249_36 : mm_at 249 36 = some (.ireturn, 37, 0, .null) := by decide +kernel
theorem k250_0 : mm_at 250 0 = some (.iload_n 1, 1, 1, .null) := by decide +kernel
theorem k250_1 : mm_at 250 1 = some (.i2b, 2, 0, .null) := by decide +kernel
theorem k250_2 : mm_at 250 2 = some (.istore 4, 4, 4, .null) := by decide +kernel
theorem k250_4 : mm_at 250 4 = some (.iload_n 2, 5, 2, .null) := by decide +kernel
theorem k250_5 : mm_at 250 5 = some (.istore 5, 7, 5, .null) := by decide +kernel
theorem k250_7 : mm_at 250 7 = some (.iload 5, 9, 5, .null) := by decide +kernel
theorem k250_9 : mm_at 250 9 = some (.iload_n 3, 10, 3, .null) := by decide +kernel
theorem k250_10 : mm_at 250 10 = some (.if_icmp .ge 21, 13, 31, .null) := by decide +kernel
theorem k250_13 : mm_at 250 13 = some (.aload_n 0, 14, 0, .null) := by decide +kernel
theorem k250_14 : mm_at 250 14 = some (.iload 5, 16, 5, .null) := by decide +kernel
theorem k250_16 : mm_at 250 16 = some (.baload, 17, 0, .null) := by decide +kernel
theorem k250_17 : mm_at 250 17 = some (.iload 4, 19, 4, .null) := by decide +kernel
theorem k250_19 : mm_at 250 19 = some (.if_icmp .ne 6, 22, 25, .null) := by decide +kernel
theorem k250_22 : mm_at 250 22 = some (.iload 5, 24, 5, .null) := by decide +kernel
theorem k250_24 : mm_at 250 24 = some (.ireturn, 25, 0, .null) := by decide +kernel
theorem k250_25 : mm_at 250 25 = some (.iinc 5 1, 28, 5, .int (1)) := by decide +kernel
theorem k250_28 : mm_at 250 28 = some (.goto (-21), 31, 7, .null) := by decide +kernel
theorem k250_31 : mm_at 250 31 = some (.iconst (-1), 32, 0, .int (-1)) := by decide +kernel
theorem k250_32 : mm_at 250 32 = some (.ireturn, 33, 0, .null) := by decide +kernel
theorem k251_0 : mm_at 251 0 = some (.iload_n 0, 1, 0, .null) := by decide +kernel
theorem k251_1 : mm_at 251 1 = some (.iload_n 0, 2, 0, .null) := by decide +kernel
theorem k251_2 : mm_at 251 2 = some (.iconst 1, 3, 0, .int (1)) := by decide +kernel
theorem k251_3 : mm_at 251 3 = some (.iushr, 4, 0, .null) := by decide +kernel
theorem k251_4 : mm_at 251 4 = some (.ldc_w 265, 7, 0, .int (1431655765)) := by decide +kernel
theorem k251_7 : mm_at 251 7 = some (.iand, 8, 0, .null) := by decide +kernel
theorem k251_8 : mm_at 251 8 = some (.isub, 9, 0, .null) := by decide +kernel
theorem k251_9 : mm_at 251 9 = some (.istore_n 0, 10, 0, .null) := by decide +kernel
theorem k251_10 : mm_at 251 10 = some (.iload_n 0, 11, 0, .null) := by decide +kernel
theorem k251_11 : mm_at 251 11 = some (.ldc_w 266, 14, 0, .int (858993459)) := by decide +kernel
theorem k251_14 : mm_at 251 14 = some (.iand, 15, 0, .null) := by decide +kernel
theorem k251_15 : mm_at 251 15 = some (.iload_n 0, 16, 0, .null) := by decide +kernel
theorem k251_16 : mm_at 251 16 = some (.iconst 2, 17, 0, .int (2)) := by decide +kernel
theorem k251_17 : mm_at 251 17 = some (.iushr, 18, 0, .null) := by decide +kernel
theorem k251_18 : mm_at 251 18 = some (.ldc_w 266, 21, 0, .int (858993459)) := by decide +kernel
theorem k251_21 : mm_at 251 21 = some (.iand, 22, 0, .null) := by decide +kernel
theorem k251_22 : mm_at 251 22 = some (.iadd, 23, 0, .null) := by decide +kernel
theorem k251_23 : mm_at 251 23 = some (.istore_n 0, 24, 0, .null) := by decide +kernel
theorem k251_24 : mm_at 251 24 = some (.iload_n 0, 25, 0, .null) := by decide +kernel
theorem k251_25 : mm_at 251 25 = some (.iload_n 0, 26, 0, .null) := by decide +kernel
theorem k251_26 : mm_at 251 26 = some (.iconst 4, 27, 0, .int (4)) := by decide +kernel
theorem k251_27 : mm_at 251 27 = some (.iushr, 28, 0, .null) := by decide +kernel
theorem k251_28 : mm_at 251 28 = some (.iadd, 29, 0, .null) := by decide +kernel
theorem k251_29 : mm_at 251 29 = some (.ldc_w 267, 32, 0, .int (252645135)) := by decide +kernel
theorem k251_32 : mm_at 251 32 = some (.iand, 33, 0, .null) := by decide +kernel
theorem k251_33 : mm_at 251 33 = some (.istore_n 0, 34, 0, .null) := by decide +kernel
theorem k251_34 : mm_at 251 34 = some (.iload_n 0, 35, 0, .null) := by decide +kernel
theorem k251_35 : mm_at 251 35 = some (.iload_n 0, 36, 0, .null) := by decide +kernel
theorem k251_36 : mm_at 251 36 = some (.bipush 8, 38, 0, .int (8)) := by decide +kernel
theorem k251_38 : mm_at 251 38 = some (.iushr, 39, 0, .null) := by decide +kernel
theorem k251_39 : mm_at 251 39 = some (.iadd, 40, 0, .null) := by decide +kernel
theorem k251_40 : mm_at 251 40 = some (.istore_n 0, 41, 0, .null) := by decide +kernel
theorem k251_41 : mm_at 251 41 = some (.iload_n 0, 42, 0, .null) := by decide +kernel
theorem k251_42 : mm_at 251 42 = some (.iload_n 0, 43, 0, .null) := by decide +kernel
theorem k251_43 : mm_at 251 43 = some (.bipush 16, 45, 0, .int (16)) := by decide +kernel
theorem k251_45 : mm_at 251 45 = some (.iushr, 46, 0, .null) := by decide +kernel
theorem k251_46 : mm_at 251 46 = some (.iadd, 47, 0, .null) := by decide +kernel
theorem k251_47 : mm_at 251 47 = some (.istore_n 0, 48, 0, .null) := by decide +kernel
theorem k251_48 : mm_at 251 48 = some (.iload_n 0, 49, 0, .null) := by decide +kernel
theorem k251_49 : mm_at 251 49 = some (.bipush 63, 51, 0, .int (63)) := by decide +kernel
theorem k251_51 : mm_at 251 51 = some (.iand, 52, 0, .null) := by decide +kernel
theorem k251_52 : mm_at 251 52 = some (.ireturn, 53, 0, .null) := by decide +kernel
theorem k252_0 : mm_at 252 0 = some (.iconst 0, 1, 0, .int (0)) := by decide +kernel
theorem k252_1 : mm_at 252 1 = some (.istore_n 2, 2, 2, .null) := by decide +kernel
theorem k252_2 : mm_at 252 2 = some (.aload_n 0, 3, 0, .null) := by decide +kernel
theorem k252_3 : mm_at 252 3 = some (.arraylength, 4, 0, .null) := by decide +kernel
theorem k252_4 : mm_at 252 4 = some (.istore_n 3, 5, 3, .null) := by decide +kernel
theorem k252_5 : mm_at 252 5 = some (.iload_n 2, 6, 2, .null) := by decide +kernel
theorem k252_6 : mm_at 252 6 = some (.iload_n 3, 7, 3, .null) := by decide +kernel
theorem k252_7 : mm_at 252 7 = some (.if_icmp .ge 13, 10, 20, .null) := by decide +kernel
theorem k252_10 : mm_at 252 10 = some (.aload_n 0, 11, 0, .null) := by decide +kernel
theorem k252_11 : mm_at 252 11 = some (.iload_n 2, 12, 2, .null) := by decide +kernel
theorem k252_12 : mm_at 252 12 = some (.iload_n 1, 13, 1, .null) := by decide +kernel
theorem k252_13 : mm_at 252 13 = some (.iastore, 14, 0, .null) := by decide +kernel
theorem k252_14 : mm_at 252 14 = some (.iinc 2 1, 17, 2, .int (1)) := by decide +kernel
theorem k252_17 : mm_at 252 17 = some (.goto (-12), 20, 5, .null) := by decide +kernel
theorem k252_20 : mm_at 252 20 = some (.return_, 21, 0, .null) := by decide +kernel
