theorem k50_0 : mm_at 50 0 = some (.aload_n 1, 1, 1, .null) := by decide +kernel
theorem k50_1 : mm_at 50 1 = some (.getfield 9, 4, 404, .null) := by decide +kernel
theorem k50_4 : mm_at 50 4 = some (.iload_n 2, 5, 2, .null) := by decide +kernel
theorem k50_5 : mm_at 50 5 = some (.iaload, 6, 0, .null) := by decide +kernel
theorem k50_6 : mm_at 50 6 = some (.invokestatic 15, 9, 139, .null) := by decide +kernel
theorem k50_9 : mm_at 50 9 = some (.iconst 4, 10, 0, .int (4)) := by decide +kernel
theorem k50_10 : mm_at 50 10 = some (.if_icmp .lt 7, 13, 17, .null) := by decide +kernel
theorem k50_13 : mm_at 50 13 = some (.iconst 1, 14, 0, .int (1)) := by decide +kernel
theorem k50_14 : mm_at 50 14 = some (.goto 4, 17, 18, .null) := by decide +kernel
theorem k50_17 : mm_at 50 17 = some (.iconst 0, 18, 0, .int (0)) := by decide +kernel
theorem k50_18 : mm_at 50 18 = some (.istore 5, 20, 5, .null) := by decide +kernel
theorem k50_20 : mm_at 50 20 = some (.iload 5, 22, 5, .null) := by decide +kernel
theorem k50_22 : mm_at 50 22 = some (.ifCond .eq 7, 25, 29, .null) := by decide +kernel
theorem k50_25 : mm_at 50 25 = some (.iconst 1, 26, 0, .int (1)) := by decide +kernel
theorem k50_26 : mm_at 50 26 = some (.goto 12, 29, 38, .null) := by decide +kernel
theorem k50_29 : mm_at 50 29 = some (.aload_n 0, 30, 0, .null) := by decide +kernel
theorem k50_30 : mm_at 50 30 = some (.aload_n 1, 31, 1, .null) := by decide +kernel
theorem k50_31 : mm_at 50 31 = some (.iload_n 2, 32, 2, .null) := by decide +kernel
theorem k50_32 : mm_at 50 32 = some (.iload_n 3, 33, 3, .null) := by decide +kernel
theorem k50_33 : mm_at 50 33 = some (.iload 4, 35, 4, .null) := by decide +kernel
theorem k50_35 : mm_at 50 35 = some (.invokespecial 23, 38, 140, .null) := by decide +kernel
theorem k50_38 : mm_at 50 38 = some (.ireturn, 39, 0, .null) := by decide +kernel
theorem k51_0 : mm_at 51 0 = some (.aload_n 0, 1, 0, .null) := by decide +kernel
theorem k51_1 : mm_at 51 1 = some (.getfield 27, 4, 100, .null) := by decide +kernel
theorem k51_4 : mm_at 51 4 = some (.bipush 40, 6, 0, .int (40)) := by decide +kernel
theorem k51_6 : mm_at 51 6 = some (.invokevirtual 31, 9, 141, .null) := by decide +kernel
theorem k51_9 : mm_at 51 9 = some (.aload_n 0, 10, 0, .null) := by decide +kernel
theorem k51_10 : mm_at 51 10 = some (.iload_n 1, 11, 1, .null) := by decide +kernel
theorem k51_11 : mm_at 51 11 = some (.iload_n 2, 12, 2, .null) := by decide +kernel
theorem k51_12 : mm_at 51 12 = some (.iload_n 3, 13, 3, .null) := by decide +kernel
theorem k51_13 : mm_at 51 13 = some (.invokespecial 37, 16, 142, .null) := by decide +kernel
theorem k51_16 : mm_at 51 16 = some (.ineg, 17, 0, .null) := by decide +kernel
theorem k51_17 : mm_at 51 17 = some (.ireturn, 18, 0, .null) := by decide +kernel
theorem k52_0 : mm_at 52 0 = some (.aload_n 0, 1, 0, .null) := by decide +kernel
theorem k52_1 : mm_at 52 1 = some (.invokespecial 1, 4, 10001, .null) := by decide +kernel
theorem k52_4 : mm_at 52 4 = some (.aload_n 0, 5, 0, .null) := by decide +kernel
theorem k52_5 : mm_at 52 5 = some (.iload_n 1, 6, 1, .null) := by decide +kernel
theorem k52_6 : mm_at 52 6 = some (.iconst 0, 7, 0, .int (0)) := by decide +kernel
theorem k52_7 : mm_at 52 7 = some (.invokestatic 7, 10, 10002, .null) := by decide +kernel
theorem k52_10 : mm_at 52 10 = some (.newarray .int, 12, 0, .null) := by decide +kernel
theorem k52_12 : mm_at 52 12 = some (.putfield 13, 15, 700, .null) := by decide +kernel
theorem k52_15 : mm_at 52 15 = some (.aload_n 0, 16, 0, .null) := by decide +kernel
theorem k52_16 : mm_at 52 16 = some (.iload_n 2, 17, 2, .null) := by decide +kernel
theorem k52_17 : mm_at 52 17 = some (.putfield 19, 20, 701, .null) := by decide +kernel
theorem k52_20 : mm_at 52 20 = some (.return_, 21, 0, .null) := by decide +kernel
theorem k53_0 : mm_at 53 0 = some (.iload_n 1, 1, 1, .null) := by decide +kernel
theorem k53_1 : mm_at 53 1 = some (.ifCond .lt 15, 4, 16, .null) := by decide +kernel
theorem k53_4 : mm_at 53 4 = some (.iload_n 1, 5, 1, .null) := by decide +kernel
theorem k53_5 : mm_at 53 5 = some (.aload_n 0, 6, 0, .null) := by decide +kernel
theorem k53_6 : mm_at 53 6 = some (.getfield 23, 9, 702, .null) := by decide +kernel
theorem k53_9 : mm_at 53 9 = some (.if_icmp .ge 7, 12, 16, .null) := by decide +kernel
theorem k53_12 : mm_at 53 12 = some (.iconst 1, 13, 0, .int (1)) := by decide +kernel
theorem k53_13 : mm_at 53 13 = some (.goto 4, 16, 17, .null) := by decide +kernel
theorem k53_16 : mm_at 53 16 = some (.iconst 0, 17, 0, .int (0)) := by decide +kernel
theorem k53_17 : mm_at 53 17 = some (.ireturn, 18, 0, .null) := by decide +kernel
theorem k54_0 : mm_at 54 0 = some (.iload_n 1, 1, 1, .null) := by decide +kernel
theorem k54_1 : mm_at 54 1 = some (.ifCond .lt 21, 4, 22, .null) := by decide +kernel
theorem k54_4 : mm_at 54 4 = some (.iload_n 2, 5, 2, .null) := by decide +kernel
theorem k54_5 : mm_at 54 5 = some (.ifCond .lt 17, 8, 22, .null) := by decide +kernel
theorem k54_8 : mm_at 54 8 = some (.iload_n 1, 9, 1, .null) := by decide +kernel
theorem k54_9 : mm_at 54 9 = some (.aload_n 0, 10, 0, .null) := by decide +kernel
theorem k54_10 : mm_at 54 10 = some (.getfield 23, 13, 702, .null) := by decide +kernel
theorem k54_13 : mm_at 54 13 = some (.iload_n 2, 14, 2, .null) := by decide +kernel
theorem k54_14 : mm_at 54 14 = some (.isub, 15, 0, .null) := by decide +kernel
theorem k54_15 : mm_at 54 15 = some (.if_icmp .gt 7, 18, 22, .null) := by decide +kernel
theorem k54_18 : mm_at 54 18 = some (.iconst 1, 19, 0, .int (1)) := by decide +kernel
theorem k54_19 : mm_at 54 19 = some (.goto 4, 22, 23, .null) := by decide +kernel
theorem k54_22 : mm_at 54 22 = some (.iconst 0, 23, 0, .int (0)) := by decide +kernel
theorem k54_23 : mm_at 54 23 = some (.ireturn, 24, 0, .null) := by decide +kernel
theorem k55_0 : mm_at 55 0 = some (.aload_n 0, 1, 0, .null) := by decide +kernel
theorem k55_1 : mm_at 55 1 = some (.iload_n 1, 2, 1, .null) := by decide +kernel
theorem k55_2 : mm_at 55 2 = some (.invokevirtual 26, 5, 143, .null) := by decide +kernel
theorem k55_5 : mm_at 55 5 = some (.ifCond .eq 12, 8, 17, .null) := by decide +kernel
theorem k55_8 : mm_at 55 8 = some (.aload_n 0, 9, 0, .null) := by decide +kernel
theorem k55_9 : mm_at 55 9 = some (.getfield 13, 12, 700, .null) := by decide +kernel
theorem k55_12 : mm_at 55 12 = some (.iload_n 1, 13, 1, .null) := by decide +kernel
theorem k55_13 : mm_at 55 13 = some (.iaload, 14, 0, .null) := by decide +kernel
theorem k55_14 : mm_at 55 14 = some (.goto 4, 17, 18, .null) := by decide +kernel
theorem k55_17 : mm_at 55 17 = some (.iconst 0, 18, 0, .int (0)) := by decide +kernel
theorem k55_18 : mm_at 55 18 = some (.ireturn, 19, 0, .null) := by decide +kernel
theorem k56_0 : mm_at 56 0 = some (.aload_n 0, 1, 0, .null) := by decide +kernel
theorem k56_1 : mm_at 56 1 = some (.iload_n 1, 2, 1, .null) := by decide +kernel
theorem k56_2 : mm_at 56 2 = some (.invokevirtual 26, 5, 143, .null) := by decide +kernel
theorem k56_5 : mm_at 56 5 = some (.ifCond .eq 14, 8, 19, .null) := by decide +kernel
theorem k56_8 : mm_at 56 8 = some (.aload_n 0, 9, 0, .null) := by decide +kernel
theorem k56_9 : mm_at 56 9 = some (.getfield 13, 12, 700, .null) := by decide +kernel
theorem k56_12 : mm_at 56 12 = some (.iload_n 1, 13, 1, .null) := by decide +kernel
theorem k56_13 : mm_at 56 13 = some (.aload_n 0, 14, 0, .null) := by decide +kernel
theorem k56_14 : mm_at 56 14 = some (.iload_n 2, 15, 2, .null) := by decide +kernel
theorem k56_15 : mm_at 56 15 = some (.invokevirtual 30, 18, 144, .null) := by decide +kernel
theorem k56_18 : mm_at 56 18 = some (.iastore, 19, 0, .null) := by decide +kernel
theorem k56_19 : mm_at 56 19 = some (.return_, 20, 0, .null) := by decide +kernel
theorem k57_0 : mm_at 57 0 = some (.aload_n 0, 1, 0, .null) := by decide +kernel
theorem k57_1 : mm_at 57 1 = some (.getfield 23, 4, 702, .null) := by decide +kernel
theorem k57_4 : mm_at 57 4 = some (.aload_n 0, 5, 0, .null) := by decide +kernel
theorem k57_5 : mm_at 57 5 = some (.getfield 13, 8, 700, .null) := by decide +kernel
theorem k57_8 : mm_at 57 8 = some (.arraylength, 9, 0, .null) := by decide +kernel
theorem k57_9 : mm_at 57 9 = some (.if_icmp .ge 27, 12, 36, .null) := by decide +kernel
theorem k57_12 : mm_at 57 12 = some (.aload_n 0, 13, 0, .null) := by decide +kernel
theorem k57_13 : mm_at 57 13 = some (.getfield 13, 16, 700, .null) := by decide +kernel
theorem k57_16 : mm_at 57 16 = some (.aload_n 0, 17, 0, .null) := by decide +kernel
theorem k57_17 : mm_at 57 17 = some (.getfield 23, 20, 702, .null) := by decide +kernel
theorem k57_20 : mm_at 57 20 = some (.aload_n 0, 21, 0, .null) := by decide +kernel
theorem k57_21 : mm_at 57 21 = some (.iload_n 1, 22, 1, .null) := by decide +kernel
theorem k57_22 : mm_at 57 22 = some (.invokevirtual 30, 25, 144, .null) := by decide +kernel
theorem k57_25 : mm_at 57 25 = some (.iastore, 26, 0, .null) := by decide +kernel
theorem k57_26 : mm_at 57 26 = some (.aload_n 0, 27, 0, .null) := by decide +kernel
theorem k57_27 : mm_at 57 27 = some (.dup, 28, 0, .null) := by decide +kernel
theorem k57_28 : mm_at 57 28 = some (.getfield 23, 31, 702, .null) := by decide +kernel
theorem k57_31 : mm_at 57 31 = some (.iconst 1, 32, 0, .int (1)) := by decide +kernel
theorem k57_32 : mm_at 57 32 = some (.iadd, 33, 0, .null) := by decide +kernel
theorem k57_33 : mm_at 57 33 = some (.putfield 23, 36, 702, .null) := by decide +kernel
theorem k57_36 : mm_at 57 36 = some (.return_, 37, 0, .null) := by decide +kernel
theorem k58_0 : mm_at 58 0 = some (.iconst 0, 1, 0, .int (0)) := by decide +kernel
theorem k58_1 : mm_at 58 1 = some (.istore_n 2, 2, 2, .null) := by decide +kernel
theorem k58_2 : mm_at 58 2 = some (.iload_n 2, 3, 2, .null) := by decide +kernel
theorem k58_3 : mm_at 58 3 = some (.aload_n 0, 4, 0, .null) := by decide +kernel
theorem k58_4 : mm_at 58 4 = some (.getfield 23, 7, 702, .null) := by decide +kernel
theorem k58_7 : mm_at 58 7 = some (.if_icmp .ge 20, 10, 27, .null) := by decide +kernel
theorem k58_10 : mm_at 58 10 = some (.aload_n 0, 11, 0, .null) := by decide +kernel
theorem k58_11 : mm_at 58 11 = some (.getfield 13, 14, 700, .null) := by decide +kernel
theorem k58_14 : mm_at 58 14 = some (.iload_n 2, 15, 2, .null) := by decide +kernel
theorem k58_15 : mm_at 58 15 = some (.iaload, 16, 0, .null) := by decide +kernel
theorem k58_16 : mm_at 58 16 = some (.iload_n 1, 17, 1, .null) := by decide +kernel
theorem k58_17 : mm_at 58 17 = some (.if_icmp .ne 4, 20, 21, .null) := by decide +kernel
theorem k58_20 : mm_at 58 20 = some (.return_, 21, 0, .null) := by decide +kernel
theorem k58_21 : mm_at 58 21 = some (.iinc 2 1, 24, 2, .int (1)) := by decide +kernel
theorem k58_24 : mm_at 58 24 = some (.goto (-22), 27, 2, .null) := by decide +kernel
theorem k58_27 : mm_at 58 27 = some (.aload_n 0, 28, 0, .null) := by decide +kernel
theorem k58_28 : mm_at 58 28 = some (.iload_n 1, 29, 1, .null) := by decide +kernel
theorem k58_29 : mm_at 58 29 = some (.invokevirtual 34, 32, 145, .null) := by decide +kernel
theorem k58_32 : mm_at 58 32 = some (.return_, 33, 0, .null) := by decide +kernel
theorem k59_0 : mm_at 59 0 = some (.aload_n 0, 1, 0, .null) := by decide +kernel
theorem k59_1 : mm_at 59 1 = some (.iconst 0, 2, 0, .int (0)) := by decide +kernel
theorem k59_2 : mm_at 59 2 = some (.putfield 23, 5, 702, .null) := by decide +kernel
theorem k59_5 : mm_at 59 5 = some (.return_, 6, 0, .null) := by decide +kernel
theorem k60_0 : mm_at 60 0 = some (.aload_n 0, 1, 0, .null) := by decide +kernel
theorem k60_1 : mm_at 60 1 = some (.iload_n 1, 2, 1, .null) := by decide +kernel
theorem k60_2 : mm_at 60 2 = some (.putfield 19, 5, 701, .null) := by decide +kernel
theorem k60_5 : mm_at 60 5 = some (.aload_n 0, 6, 0, .null) := by decide +kernel
theorem k60_6 : mm_at 60 6 = some (.iconst 0, 7, 0, .int (0)) := by decide +kernel
theorem k60_7 : mm_at 60 7 = some (.iload_n 2, 8, 2, .null) := by decide +kernel
theorem k60_8 : mm_at 60 8 = some (.aload_n 0, 9, 0, .null) := by decide +kernel
theorem k60_9 : mm_at 60 9 = some (.getfield 13, 12, 700, .null) := by decide +kernel
theorem k60_12 : mm_at 60 12 = some (.arraylength, 13, 0, .null) := by decide +kernel
theorem k60_13 : mm_at 60 13 = some (.invokestatic 38, 16, 10003, .null) := by decide +kernel
theorem k60_16 : mm_at 60 16 = some (.invokestatic 7, 19, 10002, .null) := by decide +kernel
theorem k60_19 : mm_at 60 19 = some (.putfield 23, 22, 702, .null) := by decide +kernel
theorem k60_22 : mm_at 60 22 = some (.aload_n 0, 23, 0, .null) := by decide +kernel
theorem k60_23 : mm_at 60 23 = some (.getfield 13, 26, 700, .null) := by decide +kernel
theorem k60_26 : mm_at 60 26 = some (.iconst 0, 27, 0, .int (0)) := by decide +kernel
theorem k60_27 : mm_at 60 27 = some (.invokestatic 41, 30, 146, .null) := by decide +kernel
theorem k60_30 : mm_at 60 30 = some (.return_, 31, 0, .null) := by decide +kernel
theorem k61_0 : mm_at 61 0 = some (.aload_n 0, 1, 0, .null) := by decide +kernel
theorem k61_1 : mm_at 61 1 = some (.aload_n 1, 2, 1, .null) := by decide +kernel
theorem k61_2 : mm_at 61 2 = some (.getfield 19, 5, 701, .null) := by decide +kernel
theorem k61_5 : mm_at 61 5 = some (.putfield 19, 8, 701, .null) := by decide +kernel
theorem k61_8 : mm_at 61 8 = some (.aload_n 0, 9, 0, .null) := by decide +kernel
theorem k61_9 : mm_at 61 9 = some (.aload_n 1, 10, 1, .null) := by decide +kernel
theorem k61_10 : mm_at 61 10 = some (.getfield 23, 13, 702, .null) := by decide +kernel
theorem k61_13 : mm_at 61 13 = some (.aload_n 0, 14, 0, .null) := by decide +kernel
theorem k61_14 : mm_at 61 14 = some (.getfield 13, 17, 700, .null) := by decide +kernel
theorem k61_17 : mm_at 61 17 = some (.arraylength, 18, 0, .null) := by decide +kernel
theorem k61_18 : mm_at 61 18 = some (.invokestatic 38, 21, 10003, .null) := by decide +kernel
theorem k61_21 : mm_at 61 21 = some (.putfield 23, 24, 702, .null) := by decide +kernel
theorem k61_24 : mm_at 61 24 = some (.aload_n 1, 25, 1, .null) := by decide +kernel
theorem k61_25 : mm_at 61 25 = some (.getfield 13, 28, 700, .null) := by decide +kernel
theorem k61_28 : mm_at 61 28 = some (.iconst 0, 29, 0, .int (0)) := by decide +kernel
theorem k61_29 : mm_at 61 29 = some (.aload_n 0, 30, 0, .null) := by decide +kernel
theorem k61_30 : mm_at 61 30 = some (.getfield 13, 33, 700, .null) := by decide +kernel
theorem k61_33 : mm_at 61 33 = some (.iconst 0, 34, 0, .int (0)) := by decide +kernel
theorem k61_34 : mm_at 61 34 = some (.aload_n 0, 35, 0, .null) := by decide +kernel
theorem k61_35 : mm_at 61 35 = some (.getfield 23, 38, 702, .null) := by decide +kernel
theorem k61_38 : mm_at 61 38 = some (.invokestatic 47, 41, 10000, .null) := by decide +kernel
theorem k61_41 : mm_at 61 41 = some (.return_, 42, 0, .null) := by decide +kernel
theorem k62_0 : mm_at 62 0 = some (.aload_n 1, 1, 1, .null) := by decide +kernel
theorem k62_1 : mm_at 62 1 = some (.iload_n 2, 2, 2, .null) := by decide +kernel
theorem k62_2 : mm_at 62 2 = some (.iload 4, 4, 4, .null) := by decide +kernel
theorem k62_4 : mm_at 62 4 = some (.invokevirtual 53, 7, 147, .null) := by decide +kernel
theorem k62_7 : mm_at 62 7 = some (.ifCond .eq 28, 10, 35, .null) := by decide +kernel
theorem k62_10 : mm_at 62 10 = some (.aload_n 0, 11, 0, .null) := by decide +kernel
theorem k62_11 : mm_at 62 11 = some (.iload_n 3, 12, 3, .null) := by decide +kernel
theorem k62_12 : mm_at 62 12 = some (.iload 4, 14, 4, .null) := by decide +kernel
theorem k62_14 : mm_at 62 14 = some (.invokevirtual 53, 17, 147, .null) := by decide +kernel
theorem k62_17 : mm_at 62 17 = some (.ifCond .eq 18, 20, 35, .null) := by decide +kernel
theorem k62_20 : mm_at 62 20 = some (.aload_n 1, 21, 1, .null) := by decide +kernel
theorem k62_21 : mm_at 62 21 = some (.getfield 13, 24, 700, .null) := by decide +kernel
theorem k62_24 : mm_at 62 24 = some (.iload_n 2, 25, 2, .null) := by decide +kernel
theorem k62_25 : mm_at 62 25 = some (.aload_n 0, 26, 0, .null) := by decide +kernel
theorem k62_26 : mm_at 62 26 = some (.getfield 13, 29, 700, .null) := by decide +kernel
theorem k62_29 : mm_at 62 29 = some (.iload_n 3, 30, 3, .null) := by decide +kernel
theorem k62_30 : mm_at 62 30 = some (.iload 4, 32, 4, .null) := by decide +kernel
theorem k62_32 : mm_at 62 32 = some (.invokestatic 47, 35, 10000, .null) := by decide +kernel
theorem k62_35 : mm_at 62 35 = some (.return_, 36, 0, .null) := by decide +kernel
theorem k63_0 : mm_at 63 0 = some (.aload_n 0, 1, 0, .null) := by decide +kernel
theorem k63_1 : mm_at 63 1 = some (.getfield 19, 4, 701, .null) := by decide +kernel
theorem k63_4 : mm_at 63 4 = some (.bipush 8, 6, 0, .int (8)) := by decide +kernel
theorem k63_6 : mm_at 63 6 = some (.if_icmp .ne 6, 9, 12, .null) := by decide +kernel
theorem k63_9 : mm_at 63 9 = some (.iload_n 1, 10, 1, .null) := by decide +kernel
theorem k63_10 : mm_at 63 10 = some (.i2b, 11, 0, .null) := by decide +kernel
theorem k63_11 : mm_at 63 11 = some (.ireturn, 12, 0, .null) := by decide +kernel
theorem k63_12 : mm_at 63 12 = some (.aload_n 0, 13, 0, .null) := by decide +kernel
theorem k63_13 : mm_at 63 13 = some (.getfield 19, 16, 701, .null) := by decide +kernel
theorem k63_16 : mm_at 63 16 = some (.bipush 16, 18, 0, .int (16)) := by decide +kernel
theorem k63_18 : mm_at 63 18 = some (.if_icmp .ne 8, 21, 26, .null) := by decide +kernel
theorem k63_21 : mm_at 63 21 = some (.iload_n 1, 22, 1, .null) := by decide +kernel
theorem k63_22 : mm_at 63 22 = some (.i2s, 23, 0, .null) := by decide +kernel
theorem k63_23 : mm_at 63 23 = some (.goto 4, 26, 27, .null) := by decide +kernel
theorem k63_26 : mm_at 63 26 = some (.iload_n 1, 27, 1, .null) := by decide +kernel
theorem k63_27 : mm_at 63 27 = some (.ireturn, 28, 0, .null) := by decide +kernel
theorem k64_0 : mm_at 64 0 = some (.aload_n 0, 1, 0, .null) := by decide +kernel
theorem k64_1 : mm_at 64 1 = some (.aload_n 1, 2, 1, .null) := by decide +kernel
theorem k64_2 : mm_at 64 2 = some (.invokespecial 1, 5, 148, .null) := by decide +kernel
theorem k64_5 : mm_at 64 5 = some (.return_, 6, 0, .null) := by decide +kernel
theorem k65_0 : mm_at 65 0 = some (.iconst 0, 1, 0, .int (0)) := by decide +kernel
theorem k65_1 : mm_at 65 1 = some (.ireturn, 2, 0, .null) := by decide +kernel
theorem k66_0 : mm_at 66 0 = some (.aload_n 0, 1, 0, .null) := by decide +kernel
theorem k66_1 : mm_at 66 1 = some (.getfield 7, 4, 100, .null) := by decide +kernel
theorem k66_4 : mm_at 66 4 = some (.bipush 50, 6, 0, .int (50)) := by decide +kernel
theorem k66_6 : mm_at 66 6 = some (.invokevirtual 13, 9, 149, .null) := by decide +kernel
theorem k66_9 : mm_at 66 9 = some (.aload_n 0, 10, 0, .null) := by decide +kernel
theorem k66_10 : mm_at 66 10 = some (.iload_n 1, 11, 1, .null) := by decide +kernel
theorem k66_11 : mm_at 66 11 = some (.iload_n 2, 12, 2, .null) := by decide +kernel
theorem k66_12 : mm_at 66 12 = some (.iload_n 3, 13, 3, .null) := by decide +kernel
theorem k66_13 : mm_at 66 13 = some (.invokespecial 19, 16, 150, .null) := by decide +kernel
theorem k66_16 : mm_at 66 16 = some (.aload_n 0, 17, 0, .null) := by decide +kernel
theorem k66_17 : mm_at 66 17 = some (.iload_n 1, 18, 1, .null) := by decide +kernel
theorem k66_18 : mm_at 66 18 = some (.iload_n 2, 19, 2, .null) := by decide +kernel
theorem k66_19 : mm_at 66 19 = some (.iconst 2, 20, 0, .int (2)) := by decide +kernel
theorem k66_20 : mm_at 66 20 = some (.invokevirtual 23, 23, 151, .null) := by decide +kernel
theorem k66_23 : mm_at 66 23 = some (.isub, 24, 0, .null) := by decide +kernel
theorem k66_24 : mm_at 66 24 = some (.ireturn, 25, 0, .null) := by decide +kernel
theorem k67_0 : mm_at 67 0 = some (.aload_n 0, 1, 0, .null) := by decide +kernel
theorem k67_1 : mm_at 67 1 = some (.invokespecial 3, 4, 10001, .null) := by decide +kernel
theorem k67_4 : mm_at 67 4 = some (.aload_n 0, 5, 0, .null) := by decide +kernel
theorem k67_5 : mm_at 67 5 = some (.new 9, 8, 7, .null) := by decide +kernel
theorem k67_8 : mm_at 67 8 = some (.dup, 9, 0, .null) := by decide +kernel
theorem k67_9 : mm_at 67 9 = some (.bipush 50, 11, 0, .int (50)) := by decide +kernel
theorem k67_11 : mm_at 67 11 = some (.bipush 32, 13, 0, .int (32)) := by decide +kernel
theorem k67_13 : mm_at 67 13 = some (.invokespecial 11, 16, 152, .null) := by decide +kernel
theorem k67_16 : mm_at 67 16 = some (.putfield 14, 19, 900, .null) := by decide +kernel
theorem k67_19 : mm_at 67 19 = some (.aload_n 0, 20, 0, .null) := by decide +kernel
theorem k67_20 : mm_at 67 20 = some (.bipush 50, 22, 0, .int (50)) := by decide +kernel
theorem k67_22 : mm_at 67 22 = some (.newarray .int, 24, 0, .null) := by decide +kernel
theorem k67_24 : mm_at 67 24 = some (.putfield 20, 27, 901, .null) := by decide +kernel
theorem k67_27 : mm_at 67 27 = some (.iconst 0, 28, 0, .int (0)) := by decide +kernel
theorem k67_28 : mm_at 67 28 = some (.istore 4, 30, 4, .null) := by decide +kernel
theorem k67_30 : mm_at 67 30 = some (.iload 4, 32, 4, .null) := by decide +kernel
theorem k67_32 : mm_at 67 32 = some (.aload_n 1, 33, 1, .null) := by decide +kernel
theorem k67_33 : mm_at 67 33 = some (.arraylength, 34, 0, .null) := by decide +kernel
theorem k67_34 : mm_at 67 34 = some (.if_icmp .ge 20, 37, 54, .null) := by decide +kernel
theorem k67_37 : mm_at 67 37 = some (.aload_n 0, 38, 0, .null) := by decide +kernel
theorem k67_38 : mm_at 67 38 = some (.getfield 14, 41, 900, .null) := by decide +kernel
theorem k67_41 : mm_at 67 41 = some (.aload_n 1, 42, 1, .null) := by decide +kernel
theorem k67_42 : mm_at 67 42 = some (.iload 4, 44, 4, .null) := by decide +kernel
theorem k67_44 : mm_at 67 44 = some (.iaload, 45, 0, .null) := by decide +kernel
theorem k67_45 : mm_at 67 45 = some (.invokevirtual 24, 48, 153, .null) := by decide +kernel
theorem k67_48 : mm_at 67 48 = some (.iinc 4 1, 51, 4, .int (1)) := by decide +kernel
theorem k67_51 : mm_at 67 51 = some (.goto (-21), 54, 30, .null) := by decide +kernel
theorem k67_54 : mm_at 67 54 = some (.aload_n 0, 55, 0, .null) := by decide +kernel
theorem k67_55 : mm_at 67 55 = some (.iload_n 2, 56, 2, .null) := by decide +kernel
theorem k67_56 : mm_at 67 56 = some (.putfield 28, 59, 902, .null) := by decide +kernel
theorem k67_59 : mm_at 67 59 = some (.aload_n 0, 60, 0, .null) := by decide +kernel
theorem k67_60 : mm_at 67 60 = some (.iload_n 3, 61, 3, .null) := by decide +kernel
theorem k67_61 : mm_at 67 61 = some (.putfield 32, 64, 903, .null) := by decide +kernel
theorem k67_64 : mm_at 67 64 = some (.return_, 65, 0, .null) := by decide +kernel
theorem k68_0 : mm_at 68 0 = some (.iconst 0, 1, 0, .int (0)) := by decide +kernel
theorem k68_1 : mm_at 68 1 = some (.istore 4, 3, 4, .null) := by decide +kernel
theorem k68_3 : mm_at 68 3 = some (.iconst 0, 4, 0, .int (0)) := by decide +kernel
theorem k68_4 : mm_at 68 4 = some (.istore 5, 6, 5, .null) := by decide +kernel
theorem k68_6 : mm_at 68 6 = some (.iload 5, 8, 5, .null) := by decide +kernel
theorem k68_8 : mm_at 68 8 = some (.aload_n 0, 9, 0, .null) := by decide +kernel
theorem k68_9 : mm_at 68 9 = some (.getfield 14, 12, 900, .null) := by decide +kernel
theorem k68_12 : mm_at 68 12 = some (.getfield 35, 15, 702, .null) := by decide +kernel
theorem k68_15 : mm_at 68 15 = some (.if_icmp .ge 139, 18, 154, .null) := by decide +kernel
theorem k68_18 : mm_at 68 18 = some (.aload_n 0, 19, 0, .null) := by decide +kernel
theorem k68_19 : mm_at 68 19 = some (.getfield 14, 22, 900, .null) := by decide +kernel
theorem k68_22 : mm_at 68 22 = some (.iload 5, 24, 5, .null) := by decide +kernel
theorem k68_24 : mm_at 68 24 = some (.invokevirtual 38, 27, 154, .null) := by decide +kernel
theorem k68_27 : mm_at 68 27 = some (.istore 6, 29, 6, .null) := by decide +kernel
theorem k68_29 : mm_at 68 29 = some (.iload 6, 31, 6, .null) := by decide +kernel
theorem k68_31 : mm_at 68 31 = some (.bipush (-3), 33, 0, .int (-3)) := by decide +kernel
theorem k68_33 : mm_at 68 33 = some (.if_icmp .lt 31, 36, 64, .null) := by decide +kernel
theorem k68_36 : mm_at 68 36 = some (.iload 4, 38, 4, .null) := by decide +kernel
theorem k68_38 : mm_at 68 38 = some (.bipush 50, 40, 0, .int (50)) := by decide +kernel
theorem k68_40 : mm_at 68 40 = some (.if_icmp .ge 108, 43, 148, .null) := by decide +kernel
theorem k68_43 : mm_at 68 43 = some (.aload_n 0, 44, 0, .null) := by decide +kernel
theorem k68_44 : mm_at 68 44 = some (.getfield 20, 47, 901, .null) := by decide +kernel
theorem k68_47 : mm_at 68 47 = some (.iload 4, 49, 4, .null) := by decide +kernel
theorem k68_49 : mm_at 68 49 = some (.iload 6, 51, 6, .null) := by decide +kernel
theorem k68_51 : mm_at 68 51 = some (.iload_n 1, 52, 1, .null) := by decide +kernel
theorem k68_52 : mm_at 68 52 = some (.iload_n 2, 53, 2, .null) := by decide +kernel
theorem k68_53 : mm_at 68 53 = some (.iload_n 3, 54, 3, .null) := by decide +kernel
theorem k68_54 : mm_at 68 54 = some (.invokestatic 42, 57, 155, .null) := by decide +kernel
theorem k68_57 : mm_at 68 57 = some (.iastore, 58, 0, .null) := by decide +kernel
theorem k68_58 : mm_at 68 58 = some (.iinc 4 1, 61, 4, .int (1)) := by decide +kernel
theorem k68_61 : mm_at 68 61 = some (.goto 87, 64, 148, .null) := by decide +kernel
theorem k68_64 : mm_at 68 64 = some (.iload 6, 66, 6, .null) := by decide +kernel
theorem k68_66 : mm_at 68 66 = some (.bipush (-33), 68, 0, .int (-33)) := by decide +kernel
theorem k68_68 : mm_at 68 68 = some (.if_icmp .ne 40, 71, 108, .null) := by decide +kernel
theorem k68_71 : mm_at 68 71 = some (.iload 4, 73, 4, .null) := by decide +kernel
theorem k68_73 : mm_at 68 73 = some (.ifCond .le 75, 76, 148, .null) := by decide +kernel
theorem k68_76 : mm_at 68 76 = some (.aload_n 0, 77, 0, .null) := by decide +kernel
theorem k68_77 : mm_at 68 77 = some (.getfield 20, 80, 901, .null) := by decide +kernel
theorem k68_80 : mm_at 68 80 = some (.iload 4, 82, 4, .null) := by decide +kernel
theorem k68_82 : mm_at 68 82 = some (.iconst 1, 83, 0, .int (1)) := by decide +kernel
theorem k68_83 : mm_at 68 83 = some (.isub, 84, 0, .null) := by decide +kernel
theorem k68_84 : mm_at 68 84 = some (.aload_n 0, 85, 0, .null) := by decide +kernel
theorem k68_85 : mm_at 68 85 = some (.getfield 20, 88, 901, .null) := by decide +kernel
theorem k68_88 : mm_at 68 88 = some (.iload 4, 90, 4, .null) := by decide +kernel
theorem k68_90 : mm_at 68 90 = some (.iconst 1, 91, 0, .int (1)) := by decide +kernel
theorem k68_91 : mm_at 68 91 = some (.isub, 92, 0, .null) := by decide +kernel
theorem k68_92 : mm_at 68 92 = some (.iaload, 93, 0, .null) := by decide +kernel
theorem k68_93 : mm_at 68 93 = some (.ifCond .ne 7, 96, 100, .null) := by decide +kernel
theorem k68_96 : mm_at 68 96 = some (.iconst 1, 97, 0, .int (1)) := by decide +kernel
theorem k68_97 : mm_at 68 97 = some (.goto 4, 100, 101, .null) := by decide +kernel
theorem k68_100 : mm_at 68 100 = some (.iconst 0, 101, 0, .int (0)) := by decide +kernel
theorem k68_101 : mm_at 68 101 = some (.invokestatic 46, 104, 156, .null) := by decide +kernel
theorem k68_104 : mm_at 68 104 = some (.iastore, 105, 0, .null) := by decide +kernel
theorem k68_105 : mm_at 68 105 = some (.goto 43, 108, 148, .null) := by decide +kernel
theorem k68_108 : mm_at 68 108 = some (.iload 4, 110, 4, .null) := by decide +kernel
theorem k68_110 : mm_at 68 110 = some (.iconst 1, 111, 0, .int (1)) := by decide +kernel
theorem k68_111 : mm_at 68 111 = some (.if_icmp .le 37, 114, 148, .null) := by decide +kernel
theorem k68_114 : mm_at 68 114 = some (.iinc 4 (-1), 117, 4, .int (-1)) := by decide +kernel
theorem k68_117 : mm_at 68 117 = some (.aload_n 0, 118, 0, .null) := by decide +kernel
theorem k68_118 : mm_at 68 118 = some (.getfield 20, 121, 901, .null) := by decide +kernel
theorem k68_121 : mm_at 68 121 = some (.iload 4, 123, 4, .null) := by decide +kernel
theorem k68_123 : mm_at 68 123 = some (.iconst 1, 124, 0, .int (1)) := by decide +kernel
theorem k68_124 : mm_at 68 124 = some (.isub, 125, 0, .null) := by decide +kernel
theorem k68_125 : mm_at 68 125 = some (.iload 6, 127, 6, .null) := by decide +kernel
theorem k68_127 : mm_at 68 127 = some (.ineg, 128, 0, .null) := by decide +kernel
theorem k68_128 : mm_at 68 128 = some (.aload_n 0, 129, 0, .null) := by decide +kernel
theorem k68_129 : mm_at 68 129 = some (.getfield 20, 132, 901, .null) := by decide +kernel
theorem k68_132 : mm_at 68 132 = some (.iload 4, 134, 4, .null) := by decide +kernel
theorem k68_134 : mm_at 68 134 = some (.iconst 1, 135, 0, .int (1)) := by decide +kernel
theorem k68_135 : mm_at 68 135 = some (.isub, 136, 0, .null) := by decide +kernel
theorem k68_136 : mm_at 68 136 = some (.iaload, 137, 0, .null) := by decide +kernel
theorem k68_137 : mm_at 68 137 = some (.aload_n 0, 138, 0, .null) := by decide +kernel
theorem k68_138 : mm_at 68 138 = some (.getfield 20, 141, 901, .null) := by decide +kernel
theorem k68_141 : mm_at 68 141 = some (.iload 4, 143, 4, .null) := by decide +kernel
theorem k68_143 : mm_at 68 143 = some (.iaload, 144, 0, .null) := by decide +kernel
theorem k68_144 : mm_at 68 144 = some (.invokestatic 50, 147, 157, .null) := by decide +kernel
theorem k68_147 : mm_at 68 147 = some (.iastore, 148, 0, .null) := by decide +kernel
theorem k68_148 : mm_at 68 148 = some (.iinc 5 1, 151, 5, .int (1)) := by decide +kernel
theorem k68_151 : mm_at 68 151 = some (.goto (-145), 154, 6, .null) := by decide +kernel
theorem k68_154 : mm_at 68 154 = some (.aload_n 0, 155, 0, .null) := by decide +kernel
theorem k68_155 : mm_at 68 155 = some (.getfield 28, 158, 902, .null) := by decide +kernel
theorem k68_158 : mm_at 68 158 = some (.aload_n 0, 159, 0, .null) := by decide +kernel
theorem k68_159 : mm_at 68 159 = some (.getfield 32, 162, 903, .null) := by decide +kernel
theorem k68_162 : mm_at 68 162 = some (.aload_n 0, 163, 0, .null) := by decide +kernel
theorem k68_163 : mm_at 68 163 = some (.getfield 20, 166, 901, .null) := by decide +kernel
theorem k68_166 : mm_at 68 166 = some (.iconst 0, 167, 0, .int (0)) := by decide +kernel
theorem k68_167 : mm_at 68 167 = some (.iaload, 168, 0, .null) := by decide +kernel
theorem k68_168 : mm_at 68 168 = some (.invokestatic 54, 171, 10003, .null) := by decide +kernel
theorem k68_171 : mm_at 68 171 = some (.invokestatic 60, 174, 10002, .null) := by decide +kernel
theorem k68_174 : mm_at 68 174 = some (.ireturn, 175, 0, .null) := by decide +kernel
theorem k69_0 : mm_at 69 0 = some (.iload_n 0, 1, 0, .null) := by decide +kernel
theorem k69_1 : mm_at 69 1 = some (.tableswitch 33 (-3) (-1) #[31, 29, 27], 28, 0, .null) := by decide +kernel
theorem k69_28 : mm_at 69 28 = some (.iload_n 1, 29, 1, .null) := by decide +kernel
theorem k69_29 : mm_at 69 29 = some (.ireturn, 30, 0, .null) := by decide +kernel
theorem k69_30 : mm_at 69 30 = some (.iload_n 2, 31, 2, .null) := by decide +kernel
theorem k69_31 : mm_at 69 31 = some (.ireturn, 32, 0, .null) := by decide +kernel
theorem k69_32 : mm_at 69 32 = some (.iload_n 3, 33, 3, .null) := by decide +kernel
theorem k69_33 : mm_at 69 33 = some (.ireturn, 34, 0, .null) := by decide +kernel
theorem k69_34 : mm_at 69 34 = some (.iload_n 0, 35, 0, .null) := by decide +kernel
theorem k69_35 : mm_at 69 35 = some (.ireturn, 36, 0, .null) := by decide +kernel
theorem k70_0 : mm_at 70 0 = some (.iload_n 0, 1, 0, .null) := by decide +kernel
theorem k70_1 : mm_at 70 1 = some (.lookupswitch 201 #[(37, 189), (38, 106), (42, 173), (43, 165), (45, 169), (47, 177), (60, 123), (61, 137), (62, 151), (124, 91)], 92, 0, .null) := by decide +kernel
theorem k70_92 : mm_at 70 92 = some (.iload_n 1, 93, 1, .null) := by decide +kernel
theorem k70_93 : mm_at 70 93 = some (.iload_n 2, 94, 2, .null) := by decide +kernel
theorem k70_94 : mm_at 70 94 = some (.ior, 95, 0, .null) := by decide +kernel
theorem k70_95 : mm_at 70 95 = some (.ifCond .eq 7, 98, 102, .null) := by decide +kernel
theorem k70_98 : mm_at 70 98 = some (.iconst 1, 99, 0, .int (1)) := by decide +kernel
theorem k70_99 : mm_at 70 99 = some (.goto 4, 102, 103, .null) := by decide +kernel
theorem k70_102 : mm_at 70 102 = some (.iconst 0, 103, 0, .int (0)) := by decide +kernel
theorem k70_103 : mm_at 70 103 = some (.invokestatic 46, 106, 156, .null) := by decide +kernel
theorem k70_106 : mm_at 70 106 = some (.ireturn, 107, 0, .null) := by decide +kernel
theorem k70_107 : mm_at 70 107 = some (.iload_n 1, 108, 1, .null) := by decide +kernel
theorem k70_108 : mm_at 70 108 = some (.ifCond .eq 11, 111, 119, .null) := by decide +kernel
theorem k70_111 : mm_at 70 111 = some (.iload_n 2, 112, 2, .null) := by decide +kernel
theorem k70_112 : mm_at 70 112 = some (.ifCond .eq 7, 115, 119, .null) := by decide +kernel
theorem k70_115 : mm_at 70 115 = some (.iconst 1, 116, 0, .int (1)) := by decide +kernel
theorem k70_116 : mm_at 70 116 = some (.goto 4, 119, 120, .null) := by decide +kernel
theorem k70_119 : mm_at 70 119 = some (.iconst 0, 120, 0, .int (0)) := by decide +kernel
theorem k70_120 : mm_at 70 120 = some (.invokestatic 46, 123, 156, .null) := by decide +kernel
theorem k70_123 : mm_at 70 123 = some (.ireturn, 124, 0, .null) := by decide +kernel
theorem k70_124 : mm_at 70 124 = some (.iload_n 1, 125, 1, .null) := by decide +kernel
theorem k70_125 : mm_at 70 125 = some (.iload_n 2, 126, 2, .null) := by decide +kernel
theorem k70_126 : mm_at 70 126 = some (.if_icmp .ge 7, 129, 133, .null) := by decide +kernel
theorem k70_129 : mm_at 70 129 = some (.iconst 1, 130, 0, .int (1)) := by decide +kernel
theorem k70_130 : mm_at 70 130 = some (.goto 4, 133, 134, .null) := by decide +kernel
theorem k70_133 : mm_at 70 133 = some (.iconst 0, 134, 0, .int (0)) := by decide +kernel
theorem k70_134 : mm_at 70 134 = some (.invokestatic 46, 137, 156, .null) := by decide +kernel
theorem k70_137 : mm_at 70 137 = some (.ireturn, 138, 0, .null) := by decide +kernel
theorem k70_138 : mm_at 70 138 = some (.iload_n 1, 139, 1, .null) := by decide +kernel
theorem k70_139 : mm_at 70 139 = some (.iload_n 2, 140, 2, .null) := by decide +kernel
theorem k70_140 : mm_at 70 140 = some (.if_icmp .ne 7, 143, 147, .null) := by decide +kernel
theorem k70_143 : mm_at 70 143 = some (.iconst 1, 144, 0, .int (1)) := by decide +kernel
theorem k70_144 : mm_at 70 144 = some (.goto 4, 147, 148, .null) := by decide +kernel
theorem k70_147 : mm_at 70 147 = some (.iconst 0, 148, 0, .int (0)) := by decide +kernel
theorem k70_148 : mm_at 70 148 = some (.invokestatic 46, 151, 156, .null) := by decide +kernel
theorem k70_151 : mm_at 70 151 = some (.ireturn, 152, 0, .null) := by decide +kernel
theorem k70_152 : mm_at 70 152 = some (.iload_n 1, 153, 1, .null) := by decide +kernel
theorem k70_153 : mm_at 70 153 = some (.iload_n 2, 154, 2, .null) := by decide +kernel
theorem k70_154 : mm_at 70 154 = some (.if_icmp .le 7, 157, 161, .null) := by decide +kernel
theorem k70_157 : mm_at 70 157 = some (.iconst 1, 158, 0, .int (1)) := by decide +kernel
theorem k70_158 : mm_at 70 158 = some (.goto 4, 161, 162, .null) := by decide +kernel
theorem k70_161 : mm_at 70 161 = some (.iconst 0, 162, 0, .int (0)) := by decide +kernel
theorem k70_162 : mm_at 70 162 = some (.invokestatic 46, 165, 156, .null) := by decide +kernel
theorem k70_165 : mm_at 70 165 = some (.ireturn, 166, 0, .null) := by decide +kernel
theorem k70_166 : mm_at 70 166 = some (.iload_n 1, 167, 1, .null) := by decide +kernel
theorem k70_167 : mm_at 70 167 = some (.iload_n 2, 168, 2, .null) := by decide +kernel
theorem k70_168 : mm_at 70 168 = some (.iadd, 169, 0, .null) := by decide +kernel
theorem k70_169 : mm_at 70 169 = some (.ireturn, 170, 0, .null) := by decide +kernel
theorem k70_170 : mm_at 70 170 = some (.iload_n 1, 171, 1, .null) := by decide +kernel
theorem k70_171 : mm_at 70 171 = some (.iload_n 2, 172, 2, .null) := by decide +kernel
theorem k70_172 : mm_at 70 172 = some (.isub, 173, 0, .null) := by decide +kernel
theorem k70_173 : mm_at 70 173 = some (.ireturn, 174, 0, .null) := by decide +kernel
theorem k70_174 : mm_at 70 174 = some (.iload_n 1, 175, 1, .null) := by decide +kernel
theorem k70_175 : mm_at 70 175 = some (.iload_n 2, 176, 2, .null) := by decide +kernel
theorem k70_176 : mm_at 70 176 = some (.imul, 177, 0, .null) := by decide +kernel
theorem k70_177 : mm_at 70 177 = some (.ireturn, 178, 0, .null) := by decide +kernel
theorem k70_178 : mm_at 70 178 = some (.iload_n 2, 179, 2, .null) := by decide +kernel
theorem k70_179 : mm_at 70 179 = some (.ifCond .ne 7, 182, 186, .null) := by decide +kernel
theorem k70_182 : mm_at 70 182 = some (.iconst 0, 183, 0, .int (0)) := by decide +kernel
theorem k70_183 : mm_at 70 183 = some (.goto 6, 186, 189, .null) := by decide +kernel
theorem k70_186 : mm_at 70 186 = some (.iload_n 1, 187, 1, .null) := by decide +kernel
theorem k70_187 : mm_at 70 187 = some (.iload_n 2, 188, 2, .null) := by decide +kernel
theorem k70_188 : mm_at 70 188 = some (.idiv, 189, 0, .null) := by decide +kernel
theorem k70_189 : mm_at 70 189 = some (.ireturn, 190, 0, .null) := by decide +kernel
theorem k70_190 : mm_at 70 190 = some (.iload_n 2, 191, 2, .null) := by decide +kernel
theorem k70_191 : mm_at 70 191 = some (.ifCond .ne 7, 194, 198, .null) := by decide +kernel
theorem k70_194 : mm_at 70 194 = some (.iconst 0, 195, 0, .int (0)) := by decide +kernel
theorem k70_195 : mm_at 70 195 = some (.goto 6, 198, 201, .null) := by decide +kernel
theorem k70_198 : mm_at 70 198 = some (.iload_n 1, 199, 1, .null) := by decide +kernel
theorem k70_199 : mm_at 70 199 = some (.iload_n 2, 200, 2, .null) := by decide +kernel
theorem k70_200 : mm_at 70 200 = some (.irem, 201, 0, .null) := by decide +kernel
theorem k70_201 : mm_at 70 201 = some (.ireturn, 202, 0, .null) := by decide +kernel
theorem k70_202 : mm_at 70 202 = some (.iconst 0, 203, 0, .int (0)) := by decide +kernel
theorem k70_203 : mm_at 70 203 = some (.ireturn, 204, 0, .null) := by decide +kernel
theorem k71_0 : mm_at 71 0 = some (.iload_n 0, 1, 0, .null) := by decide +kernel
theorem k71_1 : mm_at 71 1 = some (.ifCond .eq 7, 4, 8, .null) := by decide +kernel
theorem k71_4 : mm_at 71 4 = some (.iconst 1, 5, 0, .int (1)) := by decide +kernel
theorem k71_5 : mm_at 71 5 = some (.goto 4, 8, 9, .null) := by decide +kernel
theorem k71_8 : mm_at 71 8 = some (.iconst 0, 9, 0, .int (0)) := by decide +kernel
theorem k71_9 : mm_at 71 9 = some (.ireturn, 10, 0, .null) := by decide +kernel
theorem k72_0 : mm_at 72 0 = some (.aload_n 0, 1, 0, .null) := by decide +kernel
theorem k72_1 : mm_at 72 1 = some (.aload_n 1, 2, 1, .null) := by decide +kernel
theorem k72_2 : mm_at 72 2 = some (.invokespecial 1, 5, 158, .null) := by decide +kernel
theorem k72_5 : mm_at 72 5 = some (.return_, 6, 0, .null) := by decide +kernel
theorem k73_0 : mm_at 73 0 = some (.iload_n 3, 1, 3, .null) := by decide +kernel
theorem k73_1 : mm_at 73 1 = some (.aload_n 1, 2, 1, .null) := by decide +kernel
theorem k73_2 : mm_at 73 2 = some (.getfield 7, 5, 403, .null) := by decide +kernel
theorem k73_5 : mm_at 73 5 = some (.iload_n 2, 6, 2, .null) := by decide +kernel
theorem k73_6 : mm_at 73 6 = some (.iaload, 7, 0, .null) := by decide +kernel
theorem k73_7 : mm_at 73 7 = some (.if_icmp .ne 7, 10, 14, .null) := by decide +kernel
theorem k73_10 : mm_at 73 10 = some (.iconst 0, 11, 0, .int (0)) := by decide +kernel
theorem k73_11 : mm_at 73 11 = some (.goto 12, 14, 23, .null) := by decide +kernel
theorem k73_14 : mm_at 73 14 = some (.aload_n 0, 15, 0, .null) := by decide +kernel
theorem k73_15 : mm_at 73 15 = some (.aload_n 1, 16, 1, .null) := by decide +kernel
theorem k73_16 : mm_at 73 16 = some (.iload_n 2, 17, 2, .null) := by decide +kernel
theorem k73_17 : mm_at 73 17 = some (.iload_n 3, 18, 3, .null) := by decide +kernel
theorem k73_18 : mm_at 73 18 = some (.iload 4, 20, 4, .null) := by decide +kernel
theorem k73_20 : mm_at 73 20 = some (.invokespecial 13, 23, 159, .null) := by decide +kernel
theorem k73_23 : mm_at 73 23 = some (.ireturn, 24, 0, .null) := by decide +kernel
theorem k74_0 : mm_at 74 0 = some (.aload_n 0, 1, 0, .null) := by decide +kernel
theorem k74_1 : mm_at 74 1 = some (.getfield 17, 4, 100, .null) := by decide +kernel
theorem k74_4 : mm_at 74 4 = some (.bipush 20, 6, 0, .int (20)) := by decide +kernel
theorem k74_6 : mm_at 74 6 = some (.invokevirtual 23, 9, 160, .null) := by decide +kernel
theorem k74_9 : mm_at 74 9 = some (.aload_n 0, 10, 0, .null) := by decide +kernel
theorem k74_10 : mm_at 74 10 = some (.iload_n 1, 11, 1, .null) := by decide +kernel
theorem k74_11 : mm_at 74 11 = some (.iload_n 2, 12, 2, .null) := by decide +kernel
theorem k74_12 : mm_at 74 12 = some (.iload_n 3, 13, 3, .null) := by decide +kernel
theorem k74_13 : mm_at 74 13 = some (.invokespecial 29, 16, 161, .null) := by decide +kernel
theorem k74_16 : mm_at 74 16 = some (.iconst 3, 17, 0, .int (3)) := by decide +kernel
theorem k74_17 : mm_at 74 17 = some (.imul, 18, 0, .null) := by decide +kernel
theorem k74_18 : mm_at 74 18 = some (.ireturn, 19, 0, .null) := by decide +kernel
theorem k75_0 : mm_at 75 0 = some (.aload_n 0, 1, 0, .null) := by decide +kernel
theorem k75_1 : mm_at 75 1 = some (.invokespecial 3, 4, 10001, .null) := by decide +kernel
theorem k75_4 : mm_at 75 4 = some (.aload_n 0, 5, 0, .null) := by decide +kernel
theorem k75_5 : mm_at 75 5 = some (.new 9, 8, 7, .null) := by decide +kernel
theorem k75_8 : mm_at 75 8 = some (.dup, 9, 0, .null) := by decide +kernel
theorem k75_9 : mm_at 75 9 = some (.bipush 40, 11, 0, .int (40)) := by decide +kernel
theorem k75_11 : mm_at 75 11 = some (.bipush 32, 13, 0, .int (32)) := by decide +kernel
theorem k75_13 : mm_at 75 13 = some (.invokespecial 11, 16, 162, .null) := by decide +kernel
theorem k75_16 : mm_at 75 16 = some (.putfield 14, 19, 1100, .null) := by decide +kernel
theorem k75_19 : mm_at 75 19 = some (.aload_n 0, 20, 0, .null) := by decide +kernel
theorem k75_20 : mm_at 75 20 = some (.bipush 7, 22, 0, .int (7)) := by decide +kernel
theorem k75_22 : mm_at 75 22 = some (.anewarray 18, 25, 101, .null) := by decide +kernel
theorem k75_25 : mm_at 75 25 = some (.dup, 26, 0, .null) := by decide +kernel
theorem k75_26 : mm_at 75 26 = some (.iconst 0, 27, 0, .int (0)) := by decide +kernel
theorem k75_27 : mm_at 75 27 = some (.new 18, 30, 1, .null) := by decide +kernel
theorem k75_30 : mm_at 75 30 = some (.dup, 31, 0, .null) := by decide +kernel
theorem k75_31 : mm_at 75 31 = some (.aload_n 0, 32, 0, .null) := by decide +kernel
theorem k75_32 : mm_at 75 32 = some (.getfield 14, 35, 1100, .null) := by decide +kernel
theorem k75_35 : mm_at 75 35 = some (.invokespecial 20, 38, 163, .null) := by decide +kernel
theorem k75_38 : mm_at 75 38 = some (.aastore, 39, 0, .null) := by decide +kernel
theorem k75_39 : mm_at 75 39 = some (.dup, 40, 0, .null) := by decide +kernel
theorem k75_40 : mm_at 75 40 = some (.iconst 1, 41, 0, .int (1)) := by decide +kernel
theorem k75_41 : mm_at 75 41 = some (.new 23, 44, 10, .null) := by decide +kernel
theorem k75_44 : mm_at 75 44 = some (.dup, 45, 0, .null) := by decide +kernel
theorem k75_45 : mm_at 75 45 = some (.aload_n 0, 46, 0, .null) := by decide +kernel
theorem k75_46 : mm_at 75 46 = some (.getfield 14, 49, 1100, .null) := by decide +kernel
theorem k75_49 : mm_at 75 49 = some (.invokespecial 25, 52, 164, .null) := by decide +kernel
theorem k75_52 : mm_at 75 52 = some (.aastore, 53, 0, .null) := by decide +kernel
theorem k75_53 : mm_at 75 53 = some (.dup, 54, 0, .null) := by decide +kernel
theorem k75_54 : mm_at 75 54 = some (.iconst 2, 55, 0, .int (2)) := by decide +kernel
theorem k75_55 : mm_at 75 55 = some (.new 26, 58, 3, .null) := by decide +kernel
theorem k75_58 : mm_at 75 58 = some (.dup, 59, 0, .null) := by decide +kernel
theorem k75_59 : mm_at 75 59 = some (.aload_n 0, 60, 0, .null) := by decide +kernel
theorem k75_60 : mm_at 75 60 = some (.getfield 14, 63, 1100, .null) := by decide +kernel
theorem k75_63 : mm_at 75 63 = some (.invokespecial 28, 66, 165, .null) := by decide +kernel
theorem k75_66 : mm_at 75 66 = some (.aastore, 67, 0, .null) := by decide +kernel
theorem k75_67 : mm_at 75 67 = some (.dup, 68, 0, .null) := by decide +kernel
theorem k75_68 : mm_at 75 68 = some (.iconst 3, 69, 0, .int (3)) := by decide +kernel
theorem k75_69 : mm_at 75 69 = some (.new 29, 72, 6, .null) := by decide +kernel
theorem k75_72 : mm_at 75 72 = some (.dup, 73, 0, .null) := by decide +kernel
theorem k75_73 : mm_at 75 73 = some (.aload_n 0, 74, 0, .null) := by decide +kernel
theorem k75_74 : mm_at 75 74 = some (.getfield 14, 77, 1100, .null) := by decide +kernel
theorem k75_77 : mm_at 75 77 = some (.invokespecial 31, 80, 166, .null) := by decide +kernel
theorem k75_80 : mm_at 75 80 = some (.aastore, 81, 0, .null) := by decide +kernel
theorem k75_81 : mm_at 75 81 = some (.dup, 82, 0, .null) := by decide +kernel
theorem k75_82 : mm_at 75 82 = some (.iconst 4, 83, 0, .int (4)) := by decide +kernel
theorem k75_83 : mm_at 75 83 = some (.new 32, 86, 8, .null) := by decide +kernel
theorem k75_86 : mm_at 75 86 = some (.dup, 87, 0, .null) := by decide +kernel
theorem k75_87 : mm_at 75 87 = some (.aload_n 0, 88, 0, .null) := by decide +kernel
theorem k75_88 : mm_at 75 88 = some (.getfield 14, 91, 1100, .null) := by decide +kernel
theorem k75_91 : mm_at 75 91 = some (.invokespecial 34, 94, 167, .null) := by decide +kernel
theorem k75_94 : mm_at 75 94 = some (.aastore, 95, 0, .null) := by decide +kernel
theorem k75_95 : mm_at 75 95 = some (.dup, 96, 0, .null) := by decide +kernel
theorem k75_96 : mm_at 75 96 = some (.iconst 5, 97, 0, .int (5)) := by decide +kernel
theorem k75_97 : mm_at 75 97 = some (.new 35, 100, 0, .null) := by decide +kernel
theorem k75_100 : mm_at 75 100 = some (.dup, 101, 0, .null) := by decide +kernel
theorem k75_101 : mm_at 75 101 = some (.aload_n 0, 102, 0, .null) := by decide +kernel
theorem k75_102 : mm_at 75 102 = some (.getfield 14, 105, 1100, .null) := by decide +kernel
theorem k75_105 : mm_at 75 105 = some (.invokespecial 37, 108, 168, .null) := by decide +kernel
theorem k75_108 : mm_at 75 108 = some (.aastore, 109, 0, .null) := by decide +kernel
theorem k75_109 : mm_at 75 109 = some (.dup, 110, 0, .null) := by decide +kernel
theorem k75_110 : mm_at 75 110 = some (.bipush 6, 112, 0, .int (6)) := by decide +kernel
theorem k75_112 : mm_at 75 112 = some (.new 38, 115, 2, .null) := by decide +kernel
theorem k75_115 : mm_at 75 115 = some (.dup, 116, 0, .null) := by decide +kernel
theorem k75_116 : mm_at 75 116 = some (.aload_n 0, 117, 0, .null) := by decide +kernel
theorem k75_117 : mm_at 75 117 = some (.getfield 14, 120, 1100, .null) := by decide +kernel
theorem k75_120 : mm_at 75 120 = some (.invokespecial 40, 123, 169, .null) := by decide +kernel
theorem k75_123 : mm_at 75 123 = some (.aastore, 124, 0, .null) := by decide +kernel
theorem k75_124 : mm_at 75 124 = some (.putfield 41, 127, 1101, .null) := by decide +kernel
theorem k75_127 : mm_at 75 127 = some (.aload_n 0, 128, 0, .null) := by decide +kernel
theorem k75_128 : mm_at 75 128 = some (.new 45, 131, 4, .null) := by decide +kernel
theorem k75_131 : mm_at 75 131 = some (.dup, 132, 0, .null) := by decide +kernel
theorem k75_132 : mm_at 75 132 = some (.aload_n 0, 133, 0, .null) := by decide +kernel
theorem k75_133 : mm_at 75 133 = some (.getfield 41, 136, 1101, .null) := by decide +kernel
theorem k75_136 : mm_at 75 136 = some (.invokespecial 47, 139, 170, .null) := by decide +kernel
theorem k75_139 : mm_at 75 139 = some (.putfield 50, 142, 1102, .null) := by decide +kernel
theorem k75_142 : mm_at 75 142 = some (.aload_n 0, 143, 0, .null) := by decide +kernel
theorem k75_143 : mm_at 75 143 = some (.new 45, 146, 4, .null) := by decide +kernel
theorem k75_146 : mm_at 75 146 = some (.dup, 147, 0, .null) := by decide +kernel
theorem k75_147 : mm_at 75 147 = some (.aload_n 0, 148, 0, .null) := by decide +kernel
theorem k75_148 : mm_at 75 148 = some (.getfield 41, 151, 1101, .null) := by decide +kernel
theorem k75_151 : mm_at 75 151 = some (.invokespecial 47, 154, 170, .null) := by decide +kernel
theorem k75_154 : mm_at 75 154 = some (.putfield 54, 157, 1103, .null) := by decide +kernel
theorem k75_157 : mm_at 75 157 = some (.aload_n 0, 158, 0, .null) := by decide +kernel
theorem k75_158 : mm_at 75 158 = some (.new 45, 161, 4, .null) := by decide +kernel
theorem k75_161 : mm_at 75 161 = some (.dup, 162, 0, .null) := by decide +kernel
theorem k75_162 : mm_at 75 162 = some (.aload_n 0, 163, 0, .null) := by decide +kernel
theorem k75_163 : mm_at 75 163 = some (.getfield 41, 166, 1101, .null) := by decide +kernel
theorem k75_166 : mm_at 75 166 = some (.invokespecial 47, 169, 170, .null) := by decide +kernel
theorem k75_169 : mm_at 75 169 = some (.putfield 57, 172, 1104, .null) := by decide +kernel
theorem k75_172 : mm_at 75 172 = some (.aload_n 0, 173, 0, .null) := by decide +kernel
theorem k75_173 : mm_at 75 173 = some (.new 60, 176, 5, .null) := by decide +kernel
theorem k75_176 : mm_at 75 176 = some (.dup, 177, 0, .null) := by decide +kernel
theorem k75_177 : mm_at 75 177 = some (.invokespecial 62, 180, 171, .null) := by decide +kernel
theorem k75_180 : mm_at 75 180 = some (.putfield 63, 183, 1105, .null) := by decide +kernel
theorem k75_183 : mm_at 75 183 = some (.aload_n 0, 184, 0, .null) := by decide +kernel
theorem k75_184 : mm_at 75 184 = some (.iconst 4, 185, 0, .int (4)) := by decide +kernel
theorem k75_185 : mm_at 75 185 = some (.anewarray 9, 188, 102, .null) := by decide +kernel
theorem k75_188 : mm_at 75 188 = some (.dup, 189, 0, .null) := by decide +kernel
theorem k75_189 : mm_at 75 189 = some (.iconst 0, 190, 0, .int (0)) := by decide +kernel
theorem k75_190 : mm_at 75 190 = some (.new 9, 193, 7, .null) := by decide +kernel
theorem k75_193 : mm_at 75 193 = some (.dup, 194, 0, .null) := by decide +kernel
theorem k75_194 : mm_at 75 194 = some (.bipush 40, 196, 0, .int (40)) := by decide +kernel
theorem k75_196 : mm_at 75 196 = some (.iconst 0, 197, 0, .int (0)) := by decide +kernel
theorem k75_197 : mm_at 75 197 = some (.invokespecial 11, 200, 162, .null) := by decide +kernel
theorem k75_200 : mm_at 75 200 = some (.aastore, 201, 0, .null) := by decide +kernel
theorem k75_201 : mm_at 75 201 = some (.dup, 202, 0, .null) := by decide +kernel
theorem k75_202 : mm_at 75 202 = some (.iconst 1, 203, 0, .int (1)) := by decide +kernel
theorem k75_203 : mm_at 75 203 = some (.new 9, 206, 7, .null) := by decide +kernel
theorem k75_206 : mm_at 75 206 = some (.dup, 207, 0, .null) := by decide +kernel
theorem k75_207 : mm_at 75 207 = some (.bipush 40, 209, 0, .int (40)) := by decide +kernel
theorem k75_209 : mm_at 75 209 = some (.iconst 0, 210, 0, .int (0)) := by decide +kernel
theorem k75_210 : mm_at 75 210 = some (.invokespecial 11, 213, 162, .null) := by decide +kernel
theorem k75_213 : mm_at 75 213 = some (.aastore, 214, 0, .null) := by decide +kernel
theorem k75_214 : mm_at 75 214 = some (.dup, 215, 0, .null) := by decide +kernel
theorem k75_215 : mm_at 75 215 = some (.iconst 2, 216, 0, .int (2)) := by decide +kernel
theorem k75_216 : mm_at 75 216 = some (.new 9, 219, 7, .null) := by decide +kernel
theorem k75_219 : mm_at 75 219 = some (.dup, 220, 0, .null) := by decide +kernel
theorem k75_220 : mm_at 75 220 = some (.bipush 40, 222, 0, .int (40)) := by decide +kernel
theorem k75_222 : mm_at 75 222 = some (.iconst 0, 223, 0, .int (0)) := by decide +kernel
theorem k75_223 : mm_at 75 223 = some (.invokespecial 11, 226, 162, .null) := by decide +kernel
theorem k75_226 : mm_at 75 226 = some (.aastore, 227, 0, .null) := by decide +kernel
theorem k75_227 : mm_at 75 227 = some (.dup, 228, 0, .null) := by decide +kernel
theorem k75_228 : mm_at 75 228 = some (.iconst 3, 229, 0, .int (3)) := by decide +kernel
theorem k75_229 : mm_at 75 229 = some (.new 9, 232, 7, .null) := by decide +kernel
theorem k75_232 : mm_at 75 232 = some (.dup, 233, 0, .null) := by decide +kernel
theorem k75_233 : mm_at 75 233 = some (.bipush 40, 235, 0, .int (40)) := by decide +kernel
theorem k75_235 : mm_at 75 235 = some (.iconst 0, 236, 0, .int (0)) := by decide +kernel
theorem k75_236 : mm_at 75 236 = some (.invokespecial 11, 239, 162, .null) := by decide +kernel
theorem k75_239 : mm_at 75 239 = some (.aastore, 240, 0, .null) := by decide +kernel
theorem k75_240 : mm_at 75 240 = some (.putfield 67, 243, 1106, .null) := by decide +kernel
theorem k75_243 : mm_at 75 243 = some (.aload_n 0, 244, 0, .null) := by decide +kernel
theorem k75_244 : mm_at 75 244 = some (.new 9, 247, 7, .null) := by decide +kernel
theorem k75_247 : mm_at 75 247 = some (.dup, 248, 0, .null) := by decide +kernel
theorem k75_248 : mm_at 75 248 = some (.bipush 20, 250, 0, .int (20)) := by decide +kernel
theorem k75_250 : mm_at 75 250 = some (.bipush 32, 252, 0, .int (32)) := by decide +kernel
theorem k75_252 : mm_at 75 252 = some (.invokespecial 11, 255, 162, .null) := by decide +kernel
theorem k75_255 : mm_at 75 255 = some (.putfield 71, 258, 1107, .null) := by decide +kernel
theorem k75_258 : mm_at 75 258 = some (.aload_n 0, 259, 0, .null) := by decide +kernel
theorem k75_259 : mm_at 75 259 = some (.bipush 6, 261, 0, .int (6)) := by decide +kernel
theorem k75_261 : mm_at 75 261 = some (.newarray .int, 263, 0, .null) := by decide +kernel
theorem k75_263 : mm_at 75 263 = some (.putfield 74, 266, 1108, .null) := by decide +kernel
theorem k75_266 : mm_at 75 266 = some (.return_, 267, 0, .null) := by decide +kernel
theorem k76_0 : mm_at 76 0 = some (.iload_n 1, 1, 1, .null) := by decide +kernel
theorem k76_1 : mm_at 76 1 = some (.invokestatic 78, 4, 172, .null) := by decide +kernel
theorem k76_4 : mm_at 76 4 = some (.ifCond .eq 10, 7, 14, .null) := by decide +kernel
theorem k76_7 : mm_at 76 7 = some (.iload_n 2, 8, 2, .null) := by decide +kernel
theorem k76_8 : mm_at 76 8 = some (.invokestatic 82, 11, 173, .null) := by decide +kernel
theorem k76_11 : mm_at 76 11 = some (.ifCond .ne 10, 14, 21, .null) := by decide +kernel
theorem k76_14 : mm_at 76 14 = some (.aload_n 0, 15, 0, .null) := by decide +kernel
theorem k76_15 : mm_at 76 15 = some (.ldc 85, 17, 0, .int (-1000000001)) := by decide +kernel
theorem k76_17 : mm_at 76 17 = some (.invokevirtual 86, 20, 174, .null) := by decide +kernel
theorem k76_20 : mm_at 76 20 = some (.ireturn, 21, 0, .null) := by decide +kernel
theorem k76_21 : mm_at 76 21 = some (.aload_n 0, 22, 0, .null) := by decide +kernel
theorem k76_22 : mm_at 76 22 = some (.getfield 50, 25, 1102, .null) := by decide +kernel
theorem k76_25 : mm_at 76 25 = some (.getfield 90, 28, 401, .null) := by decide +kernel
theorem k76_28 : mm_at 76 28 = some (.bipush 6, 30, 0, .int (6)) := by decide +kernel
theorem k76_30 : mm_at 76 30 = some (.if_icmp .lt 10, 33, 40, .null) := by decide +kernel
theorem k76_33 : mm_at 76 33 = some (.aload_n 0, 34, 0, .null) := by decide +kernel
theorem k76_34 : mm_at 76 34 = some (.ldc 94, 36, 0, .int (-1000000004)) := by decide +kernel
theorem k76_36 : mm_at 76 36 = some (.invokevirtual 86, 39, 174, .null) := by decide +kernel
theorem k76_39 : mm_at 76 39 = some (.ireturn, 40, 0, .null) := by decide +kernel
theorem k76_40 : mm_at 76 40 = some (.aload_n 0, 41, 0, .null) := by decide +kernel
theorem k76_41 : mm_at 76 41 = some (.getfield 50, 44, 1102, .null) := by decide +kernel
theorem k76_44 : mm_at 76 44 = some (.iload_n 1, 45, 1, .null) := by decide +kernel
theorem k76_45 : mm_at 76 45 = some (.iload_n 2, 46, 2, .null) := by decide +kernel
theorem k76_46 : mm_at 76 46 = some (.invokevirtual 95, 49, 175, .null) := by decide +kernel
theorem k76_49 : mm_at 76 49 = some (.ireturn, 50, 0, .null) := by decide +kernel
theorem k77_0 : mm_at 77 0 = some (.aload_n 0, 1, 0, .null) := by decide +kernel
theorem k77_1 : mm_at 77 1 = some (.iload_n 1, 2, 1, .null) := by decide +kernel
theorem k77_2 : mm_at 77 2 = some (.invokevirtual 99, 5, 176, .null) := by decide +kernel
theorem k77_5 : mm_at 77 5 = some (.ifCond .ne 10, 8, 15, .null) := by decide +kernel
theorem k77_8 : mm_at 77 8 = some (.aload_n 0, 9, 0, .null) := by decide +kernel
theorem k77_9 : mm_at 77 9 = some (.ldc 85, 11, 0, .int (-1000000001)) := by decide +kernel
theorem k77_11 : mm_at 77 11 = some (.invokevirtual 86, 14, 174, .null) := by decide +kernel
theorem k77_14 : mm_at 77 14 = some (.ireturn, 15, 0, .null) := by decide +kernel
theorem k77_15 : mm_at 77 15 = some (.iload_n 2, 16, 2, .null) := by decide +kernel
theorem k77_16 : mm_at 77 16 = some (.tableswitch 98 0 5 #[40, 50, 60, 70, 80, 89], 56, 0, .null) := by decide +kernel
theorem k77_56 : mm_at 77 56 = some (.aload_n 0, 57, 0, .null) := by decide +kernel
theorem k77_57 : mm_at 77 57 = some (.getfield 50, 60, 1102, .null) := by decide +kernel
theorem k77_60 : mm_at 77 60 = some (.getfield 102, 63, 402, .null) := by decide +kernel
theorem k77_63 : mm_at 77 63 = some (.iload_n 1, 64, 1, .null) := by decide +kernel
theorem k77_64 : mm_at 77 64 = some (.iaload, 65, 0, .null) := by decide +kernel
theorem k77_65 : mm_at 77 65 = some (.ireturn, 66, 0, .null) := by decide +kernel
theorem k77_66 : mm_at 77 66 = some (.aload_n 0, 67, 0, .null) := by decide +kernel
theorem k77_67 : mm_at 77 67 = some (.getfield 50, 70, 1102, .null) := by decide +kernel
theorem k77_70 : mm_at 77 70 = some (.getfield 105, 73, 403, .null) := by decide +kernel
theorem k77_73 : mm_at 77 73 = some (.iload_n 1, 74, 1, .null) := by decide +kernel
theorem k77_74 : mm_at 77 74 = some (.iaload, 75, 0, .null) := by decide +kernel
theorem k77_75 : mm_at 77 75 = some (.ireturn, 76, 0, .null) := by decide +kernel
theorem k77_76 : mm_at 77 76 = some (.aload_n 0, 77, 0, .null) := by decide +kernel
theorem k77_77 : mm_at 77 77 = some (.getfield 50, 80, 1102, .null) := by decide +kernel
theorem k77_80 : mm_at 77 80 = some (.getfield 108, 83, 404, .null) := by decide +kernel
theorem k77_83 : mm_at 77 83 = some (.iload_n 1, 84, 1, .null) := by decide +kernel
theorem k77_84 : mm_at 77 84 = some (.iaload, 85, 0, .null) := by decide +kernel
theorem k77_85 : mm_at 77 85 = some (.ireturn, 86, 0, .null) := by decide +kernel
theorem k77_86 : mm_at 77 86 = some (.aload_n 0, 87, 0, .null) := by decide +kernel
theorem k77_87 : mm_at 77 87 = some (.getfield 50, 90, 1102, .null) := by decide +kernel
theorem k77_90 : mm_at 77 90 = some (.getfield 111, 93, 405, .null) := by decide +kernel
theorem k77_93 : mm_at 77 93 = some (.iload_n 1, 94, 1, .null) := by decide +kernel
theorem k77_94 : mm_at 77 94 = some (.iaload, 95, 0, .null) := by decide +kernel
theorem k77_95 : mm_at 77 95 = some (.ireturn, 96, 0, .null) := by decide +kernel
theorem k77_96 : mm_at 77 96 = some (.aload_n 0, 97, 0, .null) := by decide +kernel
theorem k77_97 : mm_at 77 97 = some (.getfield 50, 100, 1102, .null) := by decide +kernel
theorem k77_100 : mm_at 77 100 = some (.iload_n 1, 101, 1, .null) := by decide +kernel
theorem k77_101 : mm_at 77 101 = some (.invokevirtual 114, 104, 177, .null) := by decide +kernel
theorem k77_104 : mm_at 77 104 = some (.ireturn, 105, 0, .null) := by decide +kernel
theorem k77_105 : mm_at 77 105 = some (.aload_n 0, 106, 0, .null) := by decide +kernel
theorem k77_106 : mm_at 77 106 = some (.getfield 50, 109, 1102, .null) := by decide +kernel
theorem k77_109 : mm_at 77 109 = some (.iload_n 1, 110, 1, .null) := by decide +kernel
theorem k77_110 : mm_at 77 110 = some (.invokevirtual 117, 113, 178, .null) := by decide +kernel
theorem k77_113 : mm_at 77 113 = some (.ireturn, 114, 0, .null) := by decide +kernel
theorem k77_114 : mm_at 77 114 = some (.aload_n 0, 115, 0, .null) := by decide +kernel
theorem k77_115 : mm_at 77 115 = some (.ldc 85, 117, 0, .int (-1000000001)) := by decide +kernel
theorem k77_117 : mm_at 77 117 = some (.invokevirtual 86, 120, 174, .null) := by decide +kernel
theorem k77_120 : mm_at 77 120 = some (.ireturn, 121, 0, .null) := by decide +kernel
theorem k78_0 : mm_at 78 0 = some (.aload_n 0, 1, 0, .null) := by decide +kernel
theorem k78_1 : mm_at 78 1 = some (.iload_n 1, 2, 1, .null) := by decide +kernel
theorem k78_2 : mm_at 78 2 = some (.invokevirtual 99, 5, 176, .null) := by decide +kernel
theorem k78_5 : mm_at 78 5 = some (.ifCond .eq 19, 8, 24, .null) := by decide +kernel
theorem k78_8 : mm_at 78 8 = some (.iload_n 2, 9, 2, .null) := by decide +kernel
theorem k78_9 : mm_at 78 9 = some (.iconst 0, 10, 0, .int (0)) := by decide +kernel
theorem k78_10 : mm_at 78 10 = some (.iconst 1, 11, 0, .int (1)) := by decide +kernel
theorem k78_11 : mm_at 78 11 = some (.invokestatic 120, 14, 179, .null) := by decide +kernel
theorem k78_14 : mm_at 78 14 = some (.ifCond .eq 10, 17, 24, .null) := by decide +kernel
theorem k78_17 : mm_at 78 17 = some (.iload_n 3, 18, 3, .null) := by decide +kernel
theorem k78_18 : mm_at 78 18 = some (.invokestatic 82, 21, 173, .null) := by decide +kernel
theorem k78_21 : mm_at 78 21 = some (.ifCond .ne 10, 24, 31, .null) := by decide +kernel
theorem k78_24 : mm_at 78 24 = some (.aload_n 0, 25, 0, .null) := by decide +kernel
theorem k78_25 : mm_at 78 25 = some (.ldc 85, 27, 0, .int (-1000000001)) := by decide +kernel
theorem k78_27 : mm_at 78 27 = some (.invokevirtual 86, 30, 174, .null) := by decide +kernel
theorem k78_30 : mm_at 78 30 = some (.ireturn, 31, 0, .null) := by decide +kernel
theorem k78_31 : mm_at 78 31 = some (.iload_n 2, 32, 2, .null) := by decide +kernel
theorem k78_32 : mm_at 78 32 = some (.ifCond .ne 13, 35, 45, .null) := by decide +kernel
theorem k78_35 : mm_at 78 35 = some (.aload_n 0, 36, 0, .null) := by decide +kernel
theorem k78_36 : mm_at 78 36 = some (.getfield 50, 39, 1102, .null) := by decide +kernel
theorem k78_39 : mm_at 78 39 = some (.getfield 108, 42, 404, .null) := by decide +kernel
theorem k78_42 : mm_at 78 42 = some (.goto 10, 45, 52, .null) := by decide +kernel
theorem k78_45 : mm_at 78 45 = some (.aload_n 0, 46, 0, .null) := by decide +kernel
theorem k78_46 : mm_at 78 46 = some (.getfield 50, 49, 1102, .null) := by decide +kernel
theorem k78_49 : mm_at 78 49 = some (.getfield 111, 52, 405, .null) := by decide +kernel
theorem k78_52 : mm_at 78 52 = some (.astore 4, 54, 4, .null) := by decide +kernel
theorem k78_54 : mm_at 78 54 = some (.aload 4, 56, 4, .null) := by decide +kernel
theorem k78_56 : mm_at 78 56 = some (.iload_n 1, 57, 1, .null) := by decide +kernel
theorem k78_57 : mm_at 78 57 = some (.iaload, 58, 0, .null) := by decide +kernel
theorem k78_58 : mm_at 78 58 = some (.istore 5, 60, 5, .null) := by decide +kernel
theorem k78_60 : mm_at 78 60 = some (.aload 4, 62, 4, .null) := by decide +kernel
theorem k78_62 : mm_at 78 62 = some (.iload_n 1, 63, 1, .null) := by decide +kernel
theorem k78_63 : mm_at 78 63 = some (.iload_n 3, 64, 3, .null) := by decide +kernel
theorem k78_64 : mm_at 78 64 = some (.iastore, 65, 0, .null) := by decide +kernel
theorem k78_65 : mm_at 78 65 = some (.iload 5, 67, 5, .null) := by decide +kernel
theorem k78_67 : mm_at 78 67 = some (.ireturn, 68, 0, .null) := by decide +kernel
theorem k79_0 : mm_at 79 0 = some (.aload_n 0, 1, 0, .null) := by decide +kernel
theorem k79_1 : mm_at 79 1 = some (.iload_n 1, 2, 1, .null) := by decide +kernel
theorem k79_2 : mm_at 79 2 = some (.invokevirtual 99, 5, 176, .null) := by decide +kernel
theorem k79_5 : mm_at 79 5 = some (.ifCond .eq 10, 8, 15, .null) := by decide +kernel
theorem k79_8 : mm_at 79 8 = some (.iload_n 2, 9, 2, .null) := by decide +kernel
theorem k79_9 : mm_at 79 9 = some (.invokestatic 78, 12, 172, .null) := by decide +kernel
theorem k79_12 : mm_at 79 12 = some (.ifCond .ne 10, 15, 22, .null) := by decide +kernel
theorem k79_15 : mm_at 79 15 = some (.aload_n 0, 16, 0, .null) := by decide +kernel
theorem k79_16 : mm_at 79 16 = some (.ldc 85, 18, 0, .int (-1000000001)) := by decide +kernel
theorem k79_18 : mm_at 79 18 = some (.invokevirtual 86, 21, 174, .null) := by decide +kernel
theorem k79_21 : mm_at 79 21 = some (.ireturn, 22, 0, .null) := by decide +kernel
theorem k79_22 : mm_at 79 22 = some (.aload_n 0, 23, 0, .null) := by decide +kernel
theorem k79_23 : mm_at 79 23 = some (.getfield 50, 26, 1102, .null) := by decide +kernel
theorem k79_26 : mm_at 79 26 = some (.getfield 102, 29, 402, .null) := by decide +kernel
theorem k79_29 : mm_at 79 29 = some (.iload_n 1, 30, 1, .null) := by decide +kernel
theorem k79_30 : mm_at 79 30 = some (.iaload, 31, 0, .null) := by decide +kernel
theorem k79_31 : mm_at 79 31 = some (.istore_n 3, 32, 3, .null) := by decide +kernel
theorem k79_32 : mm_at 79 32 = some (.aload_n 0, 33, 0, .null) := by decide +kernel
theorem k79_33 : mm_at 79 33 = some (.getfield 50, 36, 1102, .null) := by decide +kernel
theorem k79_36 : mm_at 79 36 = some (.getfield 102, 39, 402, .null) := by decide +kernel
theorem k79_39 : mm_at 79 39 = some (.iload_n 1, 40, 1, .null) := by decide +kernel
theorem k79_40 : mm_at 79 40 = some (.iload_n 2, 41, 2, .null) := by decide +kernel
theorem k79_41 : mm_at 79 41 = some (.bipush 10, 43, 0, .int (10)) := by decide +kernel
theorem k79_43 : mm_at 79 43 = some (.idiv, 44, 0, .null) := by decide +kernel
theorem k79_44 : mm_at 79 44 = some (.iastore, 45, 0, .null) := by decide +kernel
theorem k79_45 : mm_at 79 45 = some (.aload_n 0, 46, 0, .null) := by decide +kernel
theorem k79_46 : mm_at 79 46 = some (.getfield 50, 49, 1102, .null) := by decide +kernel
theorem k79_49 : mm_at 79 49 = some (.getfield 105, 52, 403, .null) := by decide +kernel
theorem k79_52 : mm_at 79 52 = some (.iload_n 1, 53, 1, .null) := by decide +kernel
theorem k79_53 : mm_at 79 53 = some (.iload_n 2, 54, 2, .null) := by decide +kernel
theorem k79_54 : mm_at 79 54 = some (.bipush 10, 56, 0, .int (10)) := by decide +kernel
theorem k79_56 : mm_at 79 56 = some (.irem, 57, 0, .null) := by decide +kernel
theorem k79_57 : mm_at 79 57 = some (.iastore, 58, 0, .null) := by decide +kernel
theorem k79_58 : mm_at 79 58 = some (.iload_n 3, 59, 3, .null) := by decide +kernel
theorem k79_59 : mm_at 79 59 = some (.ireturn, 60, 0, .null) := by decide +kernel
theorem k80_0 : mm_at 80 0 = some (.aload_n 0, 1, 0, .null) := by decide +kernel
theorem k80_1 : mm_at 80 1 = some (.iload_n 1, 2, 1, .null) := by decide +kernel
theorem k80_2 : mm_at 80 2 = some (.invokevirtual 99, 5, 176, .null) := by decide +kernel
theorem k80_5 : mm_at 80 5 = some (.ifCond .eq 13, 8, 18, .null) := by decide +kernel
theorem k80_8 : mm_at 80 8 = some (.iload_n 2, 9, 2, .null) := by decide +kernel
theorem k80_9 : mm_at 80 9 = some (.iconst 0, 10, 0, .int (0)) := by decide +kernel
theorem k80_10 : mm_at 80 10 = some (.bipush 6, 12, 0, .int (6)) := by decide +kernel
theorem k80_12 : mm_at 80 12 = some (.invokestatic 120, 15, 179, .null) := by decide +kernel
theorem k80_15 : mm_at 80 15 = some (.ifCond .ne 10, 18, 25, .null) := by decide +kernel
theorem k80_18 : mm_at 80 18 = some (.aload_n 0, 19, 0, .null) := by decide +kernel
theorem k80_19 : mm_at 80 19 = some (.ldc 85, 21, 0, .int (-1000000001)) := by decide +kernel
theorem k80_21 : mm_at 80 21 = some (.invokevirtual 86, 24, 174, .null) := by decide +kernel
theorem k80_24 : mm_at 80 24 = some (.ireturn, 25, 0, .null) := by decide +kernel
theorem k80_25 : mm_at 80 25 = some (.aload_n 0, 26, 0, .null) := by decide +kernel
theorem k80_26 : mm_at 80 26 = some (.getfield 50, 29, 1102, .null) := by decide +kernel
theorem k80_29 : mm_at 80 29 = some (.getfield 102, 32, 402, .null) := by decide +kernel
theorem k80_32 : mm_at 80 32 = some (.iload_n 1, 33, 1, .null) := by decide +kernel
theorem k80_33 : mm_at 80 33 = some (.iaload, 34, 0, .null) := by decide +kernel
theorem k80_34 : mm_at 80 34 = some (.iload_n 2, 35, 2, .null) := by decide +kernel
theorem k80_35 : mm_at 80 35 = some (.invokestatic 124, 38, 180, .null) := by decide +kernel
theorem k80_38 : mm_at 80 38 = some (.ifCond .eq 15, 41, 53, .null) := by decide +kernel
theorem k80_41 : mm_at 80 41 = some (.aload_n 0, 42, 0, .null) := by decide +kernel
theorem k80_42 : mm_at 80 42 = some (.getfield 50, 45, 1102, .null) := by decide +kernel
theorem k80_45 : mm_at 80 45 = some (.getfield 105, 48, 403, .null) := by decide +kernel
theorem k80_48 : mm_at 80 48 = some (.iload_n 1, 49, 1, .null) := by decide +kernel
theorem k80_49 : mm_at 80 49 = some (.iaload, 50, 0, .null) := by decide +kernel
theorem k80_50 : mm_at 80 50 = some (.goto 9, 53, 59, .null) := by decide +kernel
theorem k80_53 : mm_at 80 53 = some (.aload_n 0, 54, 0, .null) := by decide +kernel
theorem k80_54 : mm_at 80 54 = some (.ldc 128, 56, 0, .int (-1000000005)) := by decide +kernel
theorem k80_56 : mm_at 80 56 = some (.invokevirtual 86, 59, 174, .null) := by decide +kernel
theorem k80_59 : mm_at 80 59 = some (.ireturn, 60, 0, .null) := by decide +kernel
theorem k81_0 : mm_at 81 0 = some (.iload_n 1, 1, 1, .null) := by decide +kernel
theorem k81_1 : mm_at 81 1 = some (.invokestatic 129, 4, 181, .null) := by decide +kernel
theorem k81_4 : mm_at 81 4 = some (.ifCond .ne 10, 7, 14, .null) := by decide +kernel
theorem k81_7 : mm_at 81 7 = some (.aload_n 0, 8, 0, .null) := by decide +kernel
theorem k81_8 : mm_at 81 8 = some (.ldc 85, 10, 0, .int (-1000000001)) := by decide +kernel
theorem k81_10 : mm_at 81 10 = some (.invokevirtual 86, 13, 174, .null) := by decide +kernel
theorem k81_13 : mm_at 81 13 = some (.ireturn, 14, 0, .null) := by decide +kernel
theorem k81_14 : mm_at 81 14 = some (.aload_n 0, 15, 0, .null) := by decide +kernel
theorem k81_15 : mm_at 81 15 = some (.getfield 50, 18, 1102, .null) := by decide +kernel
theorem k81_18 : mm_at 81 18 = some (.getfield 132, 21, 407, .null) := by decide +kernel
theorem k81_21 : mm_at 81 21 = some (.bipush 6, 23, 0, .int (6)) := by decide +kernel
theorem k81_23 : mm_at 81 23 = some (.if_icmp .lt 10, 26, 33, .null) := by decide +kernel
theorem k81_26 : mm_at 81 26 = some (.aload_n 0, 27, 0, .null) := by decide +kernel
theorem k81_27 : mm_at 81 27 = some (.ldc 94, 29, 0, .int (-1000000004)) := by decide +kernel
theorem k81_29 : mm_at 81 29 = some (.invokevirtual 86, 32, 174, .null) := by decide +kernel
theorem k81_32 : mm_at 81 32 = some (.ireturn, 33, 0, .null) := by decide +kernel
theorem k81_33 : mm_at 81 33 = some (.aload_n 0, 34, 0, .null) := by decide +kernel
theorem k81_34 : mm_at 81 34 = some (.getfield 50, 37, 1102, .null) := by decide +kernel
theorem k81_37 : mm_at 81 37 = some (.iload_n 1, 38, 1, .null) := by decide +kernel
theorem k81_38 : mm_at 81 38 = some (.invokevirtual 135, 41, 182, .null) := by decide +kernel
theorem k81_41 : mm_at 81 41 = some (.ireturn, 42, 0, .null) := by decide +kernel
theorem k82_0 : mm_at 82 0 = some (.aload_n 0, 1, 0, .null) := by decide +kernel
theorem k82_1 : mm_at 82 1 = some (.iload_n 1, 2, 1, .null) := by decide +kernel
theorem k82_2 : mm_at 82 2 = some (.invokevirtual 138, 5, 183, .null) := by decide +kernel
theorem k82_5 : mm_at 82 5 = some (.ifCond .ne 10, 8, 15, .null) := by decide +kernel
theorem k82_8 : mm_at 82 8 = some (.aload_n 0, 9, 0, .null) := by decide +kernel
theorem k82_9 : mm_at 82 9 = some (.ldc 85, 11, 0, .int (-1000000001)) := by decide +kernel
theorem k82_11 : mm_at 82 11 = some (.invokevirtual 86, 14, 174, .null) := by decide +kernel
theorem k82_14 : mm_at 82 14 = some (.ireturn, 15, 0, .null) := by decide +kernel
theorem k82_15 : mm_at 82 15 = some (.iload_n 2, 16, 2, .null) := by decide +kernel
theorem k82_16 : mm_at 82 16 = some (.tableswitch 58 0 2 #[28, 38, 48], 44, 0, .null) := by decide +kernel
theorem k82_44 : mm_at 82 44 = some (.aload_n 0, 45, 0, .null) := by decide +kernel
theorem k82_45 : mm_at 82 45 = some (.getfield 50, 48, 1102, .null) := by decide +kernel
theorem k82_48 : mm_at 82 48 = some (.getfield 141, 51, 408, .null) := by decide +kernel
theorem k82_51 : mm_at 82 51 = some (.iload_n 1, 52, 1, .null) := by decide +kernel
theorem k82_52 : mm_at 82 52 = some (.iaload, 53, 0, .null) := by decide +kernel
theorem k82_53 : mm_at 82 53 = some (.ireturn, 54, 0, .null) := by decide +kernel
theorem k82_54 : mm_at 82 54 = some (.aload_n 0, 55, 0, .null) := by decide +kernel
theorem k82_55 : mm_at 82 55 = some (.getfield 50, 58, 1102, .null) := by decide +kernel
theorem k82_58 : mm_at 82 58 = some (.getfield 144, 61, 409, .null) := by decide +kernel
theorem k82_61 : mm_at 82 61 = some (.iload_n 1, 62, 1, .null) := by decide +kernel
theorem k82_62 : mm_at 82 62 = some (.iaload, 63, 0, .null) := by decide +kernel
theorem k82_63 : mm_at 82 63 = some (.ireturn, 64, 0, .null) := by decide +kernel
theorem k82_64 : mm_at 82 64 = some (.aload_n 0, 65, 0, .null) := by decide +kernel
theorem k82_65 : mm_at 82 65 = some (.getfield 50, 68, 1102, .null) := by decide +kernel
theorem k82_68 : mm_at 82 68 = some (.getfield 147, 71, 410, .null) := by decide +kernel
theorem k82_71 : mm_at 82 71 = some (.iload_n 1, 72, 1, .null) := by decide +kernel
theorem k82_72 : mm_at 82 72 = some (.iaload, 73, 0, .null) := by decide +kernel
theorem k82_73 : mm_at 82 73 = some (.ireturn, 74, 0, .null) := by decide +kernel
theorem k82_74 : mm_at 82 74 = some (.aload_n 0, 75, 0, .null) := by decide +kernel
theorem k82_75 : mm_at 82 75 = some (.ldc 85, 77, 0, .int (-1000000001)) := by decide +kernel
theorem k82_77 : mm_at 82 77 = some (.invokevirtual 86, 80, 174, .null) := by decide +kernel
theorem k82_80 : mm_at 82 80 = some (.ireturn, 81, 0, .null) := by decide +kernel
theorem k83_0 : mm_at 83 0 = some (.aload_n 0, 1, 0, .null) := by decide +kernel
theorem k83_1 : mm_at 83 1 = some (.iload_n 1, 2, 1, .null) := by decide +kernel
theorem k83_2 : mm_at 83 2 = some (.invokevirtual 138, 5, 183, .null) := by decide +kernel
theorem k83_5 : mm_at 83 5 = some (.ifCond .eq 12, 8, 17, .null) := by decide +kernel
theorem k83_8 : mm_at 83 8 = some (.iload_n 2, 9, 2, .null) := by decide +kernel
theorem k83_9 : mm_at 83 9 = some (.iconst 0, 10, 0, .int (0)) := by decide +kernel
theorem k83_10 : mm_at 83 10 = some (.iconst 1, 11, 0, .int (1)) := by decide +kernel
theorem k83_11 : mm_at 83 11 = some (.invokestatic 120, 14, 179, .null) := by decide +kernel
theorem k83_14 : mm_at 83 14 = some (.ifCond .ne 10, 17, 24, .null) := by decide +kernel
theorem k83_17 : mm_at 83 17 = some (.aload_n 0, 18, 0, .null) := by decide +kernel
theorem k83_18 : mm_at 83 18 = some (.ldc 85, 20, 0, .int (-1000000001)) := by decide +kernel
theorem k83_20 : mm_at 83 20 = some (.invokevirtual 86, 23, 174, .null) := by decide +kernel
theorem k83_23 : mm_at 83 23 = some (.ireturn, 24, 0, .null) := by decide +kernel
theorem k83_24 : mm_at 83 24 = some (.iload_n 2, 25, 2, .null) := by decide +kernel
theorem k83_25 : mm_at 83 25 = some (.ifCond .ne 13, 28, 38, .null) := by decide +kernel
theorem k83_28 : mm_at 83 28 = some (.iload_n 3, 29, 3, .null) := by decide +kernel
theorem k83_29 : mm_at 83 29 = some (.invokestatic 150, 32, 184, .null) := by decide +kernel
theorem k83_32 : mm_at 83 32 = some (.ifCond .ne 20, 35, 52, .null) := by decide +kernel
theorem k83_35 : mm_at 83 35 = some (.goto 10, 38, 45, .null) := by decide +kernel
theorem k83_38 : mm_at 83 38 = some (.iload_n 3, 39, 3, .null) := by decide +kernel
theorem k83_39 : mm_at 83 39 = some (.invokestatic 129, 42, 181, .null) := by decide +kernel
theorem k83_42 : mm_at 83 42 = some (.ifCond .ne 10, 45, 52, .null) := by decide +kernel
theorem k83_45 : mm_at 83 45 = some (.aload_n 0, 46, 0, .null) := by decide +kernel
theorem k83_46 : mm_at 83 46 = some (.ldc 85, 48, 0, .int (-1000000001)) := by decide +kernel
theorem k83_48 : mm_at 83 48 = some (.invokevirtual 86, 51, 174, .null) := by decide +kernel
theorem k83_51 : mm_at 83 51 = some (.ireturn, 52, 0, .null) := by decide +kernel
theorem k83_52 : mm_at 83 52 = some (.iload_n 2, 53, 2, .null) := by decide +kernel
theorem k83_53 : mm_at 83 53 = some (.ifCond .ne 13, 56, 66, .null) := by decide +kernel
theorem k83_56 : mm_at 83 56 = some (.aload_n 0, 57, 0, .null) := by decide +kernel
theorem k83_57 : mm_at 83 57 = some (.getfield 50, 60, 1102, .null) := by decide +kernel
theorem k83_60 : mm_at 83 60 = some (.getfield 141, 63, 408, .null) := by decide +kernel
theorem k83_63 : mm_at 83 63 = some (.goto 10, 66, 73, .null) := by decide +kernel
theorem k83_66 : mm_at 83 66 = some (.aload_n 0, 67, 0, .null) := by decide +kernel
theorem k83_67 : mm_at 83 67 = some (.getfield 50, 70, 1102, .null) := by decide +kernel
theorem k83_70 : mm_at 83 70 = some (.getfield 144, 73, 409, .null) := by decide +kernel
theorem k83_73 : mm_at 83 73 = some (.astore 4, 75, 4, .null) := by decide +kernel
theorem k83_75 : mm_at 83 75 = some (.aload 4, 77, 4, .null) := by decide +kernel
theorem k83_77 : mm_at 83 77 = some (.iload_n 1, 78, 1, .null) := by decide +kernel
theorem k83_78 : mm_at 83 78 = some (.iaload, 79, 0, .null) := by decide +kernel
theorem k83_79 : mm_at 83 79 = some (.istore 5, 81, 5, .null) := by decide +kernel
theorem k83_81 : mm_at 83 81 = some (.aload 4, 83, 4, .null) := by decide +kernel
theorem k83_83 : mm_at 83 83 = some (.iload_n 1, 84, 1, .null) := by decide +kernel
theorem k83_84 : mm_at 83 84 = some (.iload_n 3, 85, 3, .null) := by decide +kernel
theorem k83_85 : mm_at 83 85 = some (.iastore, 86, 0, .null) := by decide +kernel
theorem k83_86 : mm_at 83 86 = some (.iload 5, 88, 5, .null) := by decide +kernel
theorem k83_88 : mm_at 83 88 = some (.ireturn, 89, 0, .null) := by decide +kernel
theorem k84_0 : mm_at 84 0 = some (.aload_n 0, 1, 0, .null) := by decide +kernel
theorem k84_1 : mm_at 84 1 = some (.iload_n 1, 2, 1, .null) := by decide +kernel
theorem k84_2 : mm_at 84 2 = some (.invokevirtual 138, 5, 183, .null) := by decide +kernel
theorem k84_5 : mm_at 84 5 = some (.ifCond .eq 16, 8, 21, .null) := by decide +kernel
theorem k84_8 : mm_at 84 8 = some (.iload_n 2, 9, 2, .null) := by decide +kernel
theorem k84_9 : mm_at 84 9 = some (.iconst (-1), 10, 0, .int (-1)) := by decide +kernel
theorem k84_10 : mm_at 84 10 = some (.if_icmp .eq 18, 13, 28, .null) := by decide +kernel
theorem k84_13 : mm_at 84 13 = some (.aload_n 0, 14, 0, .null) := by decide +kernel
theorem k84_14 : mm_at 84 14 = some (.iload_n 2, 15, 2, .null) := by decide +kernel
theorem k84_15 : mm_at 84 15 = some (.invokevirtual 99, 18, 176, .null) := by decide +kernel
theorem k84_18 : mm_at 84 18 = some (.ifCond .ne 10, 21, 28, .null) := by decide +kernel
theorem k84_21 : mm_at 84 21 = some (.aload_n 0, 22, 0, .null) := by decide +kernel
theorem k84_22 : mm_at 84 22 = some (.ldc 85, 24, 0, .int (-1000000001)) := by decide +kernel
theorem k84_24 : mm_at 84 24 = some (.invokevirtual 86, 27, 174, .null) := by decide +kernel
theorem k84_27 : mm_at 84 27 = some (.ireturn, 28, 0, .null) := by decide +kernel
theorem k84_28 : mm_at 84 28 = some (.aload_n 0, 29, 0, .null) := by decide +kernel
theorem k84_29 : mm_at 84 29 = some (.getfield 50, 32, 1102, .null) := by decide +kernel
theorem k84_32 : mm_at 84 32 = some (.getfield 147, 35, 410, .null) := by decide +kernel
theorem k84_35 : mm_at 84 35 = some (.iload_n 1, 36, 1, .null) := by decide +kernel
theorem k84_36 : mm_at 84 36 = some (.iaload, 37, 0, .null) := by decide +kernel
theorem k84_37 : mm_at 84 37 = some (.istore_n 3, 38, 3, .null) := by decide +kernel
theorem k84_38 : mm_at 84 38 = some (.iload_n 2, 39, 2, .null) := by decide +kernel
theorem k84_39 : mm_at 84 39 = some (.iconst (-1), 40, 0, .int (-1)) := by decide +kernel
theorem k84_40 : mm_at 84 40 = some (.if_icmp .eq 26, 43, 66, .null) := by decide +kernel
theorem k84_43 : mm_at 84 43 = some (.iload_n 2, 44, 2, .null) := by decide +kernel
theorem k84_44 : mm_at 84 44 = some (.iload_n 3, 45, 3, .null) := by decide +kernel
theorem k84_45 : mm_at 84 45 = some (.if_icmp .eq 21, 48, 66, .null) := by decide +kernel
theorem k84_48 : mm_at 84 48 = some (.aload_n 0, 49, 0, .null) := by decide +kernel
theorem k84_49 : mm_at 84 49 = some (.getfield 50, 52, 1102, .null) := by decide +kernel
theorem k84_52 : mm_at 84 52 = some (.iload_n 2, 53, 2, .null) := by decide +kernel
theorem k84_53 : mm_at 84 53 = some (.invokevirtual 114, 56, 177, .null) := by decide +kernel
theorem k84_56 : mm_at 84 56 = some (.ifCond .lt 10, 59, 66, .null) := by decide +kernel
theorem k84_59 : mm_at 84 59 = some (.aload_n 0, 60, 0, .null) := by decide +kernel
theorem k84_60 : mm_at 84 60 = some (.ldc 153, 62, 0, .int (-1000000003)) := by decide +kernel
theorem k84_62 : mm_at 84 62 = some (.invokevirtual 86, 65, 174, .null) := by decide +kernel
theorem k84_65 : mm_at 84 65 = some (.ireturn, 66, 0, .null) := by decide +kernel
theorem k84_66 : mm_at 84 66 = some (.aload_n 0, 67, 0, .null) := by decide +kernel
theorem k84_67 : mm_at 84 67 = some (.getfield 50, 70, 1102, .null) := by decide +kernel
theorem k84_70 : mm_at 84 70 = some (.getfield 147, 73, 410, .null) := by decide +kernel
theorem k84_73 : mm_at 84 73 = some (.iload_n 1, 74, 1, .null) := by decide +kernel
theorem k84_74 : mm_at 84 74 = some (.iload_n 2, 75, 2, .null) := by decide +kernel
theorem k84_75 : mm_at 84 75 = some (.iastore, 76, 0, .null) := by decide +kernel
theorem k84_76 : mm_at 84 76 = some (.iload_n 3, 77, 3, .null) := by decide +kernel
theorem k84_77 : mm_at 84 77 = some (.ireturn, 78, 0, .null) := by decide +kernel
theorem k85_0 : mm_at 85 0 = some (.iload_n 3, 1, 3, .null) := by decide +kernel
theorem k85_1 : mm_at 85 1 = some (.iconst 1, 2, 0, .int (1)) := by decide +kernel
theorem k85_2 : mm_at 85 2 = some (.bipush 8, 4, 0, .int (8)) := by decide +kernel
theorem k85_4 : mm_at 85 4 = some (.invokestatic 120, 7, 179, .null) := by decide +kernel
theorem k85_7 : mm_at 85 7 = some (.ifCond .ne 10, 10, 17, .null) := by decide +kernel
theorem k85_10 : mm_at 85 10 = some (.aload_n 0, 11, 0, .null) := by decide +kernel
theorem k85_11 : mm_at 85 11 = some (.ldc 85, 13, 0, .int (-1000000001)) := by decide +kernel
theorem k85_13 : mm_at 85 13 = some (.invokevirtual 86, 16, 174, .null) := by decide +kernel
theorem k85_16 : mm_at 85 16 = some (.ireturn, 17, 0, .null) := by decide +kernel
theorem k85_17 : mm_at 85 17 = some (.aload_n 0, 18, 0, .null) := by decide +kernel
theorem k85_18 : mm_at 85 18 = some (.getfield 50, 21, 1102, .null) := by decide +kernel
theorem k85_21 : mm_at 85 21 = some (.getfield 154, 24, 413, .null) := by decide +kernel
theorem k85_24 : mm_at 85 24 = some (.getfield 157, 27, 702, .null) := by decide +kernel
theorem k85_27 : mm_at 85 27 = some (.iload_n 3, 28, 3, .null) := by decide +kernel
theorem k85_28 : mm_at 85 28 = some (.iadd, 29, 0, .null) := by decide +kernel
theorem k85_29 : mm_at 85 29 = some (.bipush 50, 31, 0, .int (50)) := by decide +kernel
theorem k85_31 : mm_at 85 31 = some (.if_icmp .le 10, 34, 41, .null) := by decide +kernel
theorem k85_34 : mm_at 85 34 = some (.aload_n 0, 35, 0, .null) := by decide +kernel
theorem k85_35 : mm_at 85 35 = some (.ldc 94, 37, 0, .int (-1000000004)) := by decide +kernel
theorem k85_37 : mm_at 85 37 = some (.invokevirtual 86, 40, 174, .null) := by decide +kernel
theorem k85_40 : mm_at 85 40 = some (.ireturn, 41, 0, .null) := by decide +kernel
theorem k85_41 : mm_at 85 41 = some (.iconst 0, 42, 0, .int (0)) := by decide +kernel
theorem k85_42 : mm_at 85 42 = some (.istore 4, 44, 4, .null) := by decide +kernel
theorem k85_44 : mm_at 85 44 = some (.iload 4, 46, 4, .null) := by decide +kernel
theorem k85_46 : mm_at 85 46 = some (.iload_n 3, 47, 3, .null) := by decide +kernel
theorem k85_47 : mm_at 85 47 = some (.if_icmp .ge 31, 50, 78, .null) := by decide +kernel
theorem k85_50 : mm_at 85 50 = some (.aload_n 0, 51, 0, .null) := by decide +kernel
theorem k85_51 : mm_at 85 51 = some (.getfield 50, 54, 1102, .null) := by decide +kernel
theorem k85_54 : mm_at 85 54 = some (.getfield 154, 57, 413, .null) := by decide +kernel
theorem k85_57 : mm_at 85 57 = some (.lload_n 1, 58, 1, .null) := by decide +kernel
theorem k85_58 : mm_at 85 58 = some (.bipush 8, 60, 0, .int (8)) := by decide +kernel
theorem k85_60 : mm_at 85 60 = some (.iload 4, 62, 4, .null) := by decide +kernel
theorem k85_62 : mm_at 85 62 = some (.imul, 63, 0, .null) := by decide +kernel
theorem k85_63 : mm_at 85 63 = some (.lushr, 64, 0, .null) := by decide +kernel
theorem k85_64 : mm_at 85 64 = some (.l2i, 65, 0, .null) := by decide +kernel
theorem k85_65 : mm_at 85 65 = some (.sipush 255, 68, 0, .int (255)) := by decide +kernel
theorem k85_68 : mm_at 85 68 = some (.iand, 69, 0, .null) := by decide +kernel
theorem k85_69 : mm_at 85 69 = some (.invokevirtual 160, 72, 185, .null) := by decide +kernel
theorem k85_72 : mm_at 85 72 = some (.iinc 4 1, 75, 4, .int (1)) := by decide +kernel
theorem k85_75 : mm_at 85 75 = some (.goto (-31), 78, 44, .null) := by decide +kernel
theorem k85_78 : mm_at 85 78 = some (.aload_n 0, 79, 0, .null) := by decide +kernel
theorem k85_79 : mm_at 85 79 = some (.getfield 50, 82, 1102, .null) := by decide +kernel
theorem k85_82 : mm_at 85 82 = some (.getfield 154, 85, 413, .null) := by decide +kernel
theorem k85_85 : mm_at 85 85 = some (.getfield 157, 88, 702, .null) := by decide +kernel
theorem k85_88 : mm_at 85 88 = some (.ireturn, 89, 0, .null) := by decide +kernel
theorem k86_0 : mm_at 86 0 = some (.iload_n 1, 1, 1, .null) := by decide +kernel
theorem k86_1 : mm_at 86 1 = some (.invokestatic 164, 4, 186, .null) := by decide +kernel
theorem k86_4 : mm_at 86 4 = some (.ifCond .ne 10, 7, 14, .null) := by decide +kernel
theorem k86_7 : mm_at 86 7 = some (.aload_n 0, 8, 0, .null) := by decide +kernel
theorem k86_8 : mm_at 86 8 = some (.ldc 85, 10, 0, .int (-1000000001)) := by decide +kernel
theorem k86_10 : mm_at 86 10 = some (.invokevirtual 86, 13, 174, .null) := by decide +kernel
theorem k86_13 : mm_at 86 13 = some (.ireturn, 14, 0, .null) := by decide +kernel
theorem k86_14 : mm_at 86 14 = some (.aload_n 0, 15, 0, .null) := by decide +kernel
theorem k86_15 : mm_at 86 15 = some (.getfield 63, 18, 1105, .null) := by decide +kernel
theorem k86_18 : mm_at 86 18 = some (.aload_n 0, 19, 0, .null) := by decide +kernel
theorem k86_19 : mm_at 86 19 = some (.getfield 50, 22, 1102, .null) := by decide +kernel
theorem k86_22 : mm_at 86 22 = some (.getfield 154, 25, 413, .null) := by decide +kernel
theorem k86_25 : mm_at 86 25 = some (.iload_n 1, 26, 1, .null) := by decide +kernel
theorem k86_26 : mm_at 86 26 = some (.ifCond .ne 8, 29, 34, .null) := by decide +kernel
theorem k86_29 : mm_at 86 29 = some (.ldc 167, 31, 0, .ref 1011) := by decide +kernel
theorem k86_31 : mm_at 86 31 = some (.goto 5, 34, 36, .null) := by decide +kernel
theorem k86_34 : mm_at 86 34 = some (.ldc 169, 36, 0, .ref 1012) := by decide +kernel
theorem k86_36 : mm_at 86 36 = some (.invokevirtual 171, 39, 187, .null) := by decide +kernel
theorem k86_39 : mm_at 86 39 = some (.istore_n 2, 40, 2, .null) := by decide +kernel
theorem k86_40 : mm_at 86 40 = some (.aload_n 0, 41, 0, .null) := by decide +kernel
theorem k86_41 : mm_at 86 41 = some (.getfield 50, 44, 1102, .null) := by decide +kernel
theorem k86_44 : mm_at 86 44 = some (.getfield 154, 47, 413, .null) := by decide +kernel
theorem k86_47 : mm_at 86 47 = some (.invokevirtual 175, 50, 188, .null) := by decide +kernel
theorem k86_50 : mm_at 86 50 = some (.iload_n 2, 51, 2, .null) := by decide +kernel
theorem k86_51 : mm_at 86 51 = some (.iconst (-1), 52, 0, .int (-1)) := by decide +kernel
theorem k86_52 : mm_at 86 52 = some (.if_icmp .eq 8, 55, 60, .null) := by decide +kernel
theorem k86_55 : mm_at 86 55 = some (.bipush (-10), 57, 0, .int (-10)) := by decide +kernel
theorem k86_57 : mm_at 86 57 = some (.iload_n 2, 58, 2, .null) := by decide +kernel
theorem k86_58 : mm_at 86 58 = some (.isub, 59, 0, .null) := by decide +kernel
theorem k86_59 : mm_at 86 59 = some (.ireturn, 60, 0, .null) := by decide +kernel
theorem k86_60 : mm_at 86 60 = some (.aload_n 0, 61, 0, .null) := by decide +kernel
theorem k86_61 : mm_at 86 61 = some (.iload_n 1, 62, 1, .null) := by decide +kernel
theorem k86_62 : mm_at 86 62 = some (.invokevirtual 178, 65, 189, .null) := by decide +kernel
theorem k86_65 : mm_at 86 65 = some (.getfield 182, 68, 900, .null) := by decide +kernel
theorem k86_68 : mm_at 86 68 = some (.aload_n 0, 69, 0, .null) := by decide +kernel
theorem k86_69 : mm_at 86 69 = some (.getfield 63, 72, 1105, .null) := by decide +kernel
theorem k86_72 : mm_at 86 72 = some (.getfield 187, 75, 500, .null) := by decide +kernel
theorem k86_75 : mm_at 86 75 = some (.invokevirtual 188, 78, 190, .null) := by decide +kernel
theorem k86_78 : mm_at 86 78 = some (.iconst 1, 79, 0, .int (1)) := by decide +kernel
theorem k86_79 : mm_at 86 79 = some (.ireturn, 80, 0, .null) := by decide +kernel
theorem k87_0 : mm_at 87 0 = some (.iload_n 1, 1, 1, .null) := by decide +kernel
theorem k87_1 : mm_at 87 1 = some (.invokestatic 164, 4, 186, .null) := by decide +kernel
theorem k87_4 : mm_at 87 4 = some (.ifCond .eq 18, 7, 22, .null) := by decide +kernel
theorem k87_7 : mm_at 87 7 = some (.aload_n 0, 8, 0, .null) := by decide +kernel
theorem k87_8 : mm_at 87 8 = some (.iload_n 1, 9, 1, .null) := by decide +kernel
theorem k87_9 : mm_at 87 9 = some (.invokevirtual 178, 12, 189, .null) := by decide +kernel
theorem k87_12 : mm_at 87 12 = some (.iload_n 2, 13, 2, .null) := by decide +kernel
theorem k87_13 : mm_at 87 13 = some (.iload_n 3, 14, 3, .null) := by decide +kernel
theorem k87_14 : mm_at 87 14 = some (.iload 4, 16, 4, .null) := by decide +kernel
theorem k87_16 : mm_at 87 16 = some (.invokevirtual 191, 19, 191, .null) := by decide +kernel
theorem k87_19 : mm_at 87 19 = some (.goto 9, 22, 28, .null) := by decide +kernel
theorem k87_22 : mm_at 87 22 = some (.aload_n 0, 23, 0, .null) := by decide +kernel
theorem k87_23 : mm_at 87 23 = some (.ldc 85, 25, 0, .int (-1000000001)) := by decide +kernel
theorem k87_25 : mm_at 87 25 = some (.invokevirtual 86, 28, 174, .null) := by decide +kernel
theorem k87_28 : mm_at 87 28 = some (.ireturn, 29, 0, .null) := by decide +kernel
theorem k88_0 : mm_at 88 0 = some (.iload_n 1, 1, 1, .null) := by decide +kernel
theorem k88_1 : mm_at 88 1 = some (.invokestatic 129, 4, 181, .null) := by decide +kernel
theorem k88_4 : mm_at 88 4 = some (.ifCond .ne 10, 7, 14, .null) := by decide +kernel
theorem k88_7 : mm_at 88 7 = some (.aload_n 0, 8, 0, .null) := by decide +kernel
theorem k88_8 : mm_at 88 8 = some (.ldc 85, 10, 0, .int (-1000000001)) := by decide +kernel
theorem k88_10 : mm_at 88 10 = some (.invokevirtual 86, 13, 174, .null) := by decide +kernel
theorem k88_13 : mm_at 88 13 = some (.ireturn, 14, 0, .null) := by decide +kernel
theorem k88_14 : mm_at 88 14 = some (.aload_n 0, 15, 0, .null) := by decide +kernel
theorem k88_15 : mm_at 88 15 = some (.getfield 50, 18, 1102, .null) := by decide +kernel
theorem k88_18 : mm_at 88 18 = some (.invokevirtual 195, 21, 192, .null) := by decide +kernel
theorem k88_21 : mm_at 88 21 = some (.iload_n 2, 22, 2, .null) := by decide +kernel
theorem k88_22 : mm_at 88 22 = some (.tableswitch 70 0 2 #[26, 36, 46], 48, 0, .null) := by decide +kernel
theorem k88_48 : mm_at 88 48 = some (.aload_n 0, 49, 0, .null) := by decide +kernel
theorem k88_49 : mm_at 88 49 = some (.getfield 50, 52, 1102, .null) := by decide +kernel
theorem k88_52 : mm_at 88 52 = some (.iconst 1, 53, 0, .int (1)) := by decide +kernel
theorem k88_53 : mm_at 88 53 = some (.iload_n 1, 54, 1, .null) := by decide +kernel
theorem k88_54 : mm_at 88 54 = some (.invokevirtual 198, 57, 193, .null) := by decide +kernel
theorem k88_57 : mm_at 88 57 = some (.ireturn, 58, 0, .null) := by decide +kernel
theorem k88_58 : mm_at 88 58 = some (.aload_n 0, 59, 0, .null) := by decide +kernel
theorem k88_59 : mm_at 88 59 = some (.getfield 50, 62, 1102, .null) := by decide +kernel
theorem k88_62 : mm_at 88 62 = some (.iconst (-1), 63, 0, .int (-1)) := by decide +kernel
theorem k88_63 : mm_at 88 63 = some (.iload_n 1, 64, 1, .null) := by decide +kernel
theorem k88_64 : mm_at 88 64 = some (.invokevirtual 198, 67, 193, .null) := by decide +kernel
theorem k88_67 : mm_at 88 67 = some (.ireturn, 68, 0, .null) := by decide +kernel
theorem k88_68 : mm_at 88 68 = some (.aload_n 0, 69, 0, .null) := by decide +kernel
theorem k88_69 : mm_at 88 69 = some (.getfield 50, 72, 1102, .null) := by decide +kernel
theorem k88_72 : mm_at 88 72 = some (.iload_n 1, 73, 1, .null) := by decide +kernel
theorem k88_73 : mm_at 88 73 = some (.aload_n 0, 74, 0, .null) := by decide +kernel
theorem k88_74 : mm_at 88 74 = some (.getfield 50, 77, 1102, .null) := by decide +kernel
theorem k88_77 : mm_at 88 77 = some (.invokevirtual 201, 80, 194, .null) := by decide +kernel
theorem k88_80 : mm_at 88 80 = some (.invokevirtual 205, 83, 195, .null) := by decide +kernel
theorem k88_83 : mm_at 88 83 = some (.ifCond .le 7, 86, 90, .null) := by decide +kernel
theorem k88_86 : mm_at 88 86 = some (.iconst 1, 87, 0, .int (1)) := by decide +kernel
theorem k88_87 : mm_at 88 87 = some (.goto 4, 90, 91, .null) := by decide +kernel
theorem k88_90 : mm_at 88 90 = some (.iconst 0, 91, 0, .int (0)) := by decide +kernel
theorem k88_91 : mm_at 88 91 = some (.ireturn, 92, 0, .null) := by decide +kernel
theorem k88_92 : mm_at 88 92 = some (.aload_n 0, 93, 0, .null) := by decide +kernel
theorem k88_93 : mm_at 88 93 = some (.ldc 85, 95, 0, .int (-1000000001)) := by decide +kernel
theorem k88_95 : mm_at 88 95 = some (.invokevirtual 86, 98, 174, .null) := by decide +kernel
theorem k88_98 : mm_at 88 98 = some (.ireturn, 99, 0, .null) := by decide +kernel
theorem k89_0 : mm_at 89 0 = some (.aload_n 0, 1, 0, .null) := by decide +kernel
theorem k89_1 : mm_at 89 1 = some (.iload_n 1, 2, 1, .null) := by decide +kernel
theorem k89_2 : mm_at 89 2 = some (.invokevirtual 99, 5, 176, .null) := by decide +kernel
theorem k89_5 : mm_at 89 5 = some (.ifCond .eq 10, 8, 15, .null) := by decide +kernel
theorem k89_8 : mm_at 89 8 = some (.iload_n 2, 9, 2, .null) := by decide +kernel
theorem k89_9 : mm_at 89 9 = some (.invokestatic 129, 12, 181, .null) := by decide +kernel
theorem k89_12 : mm_at 89 12 = some (.ifCond .ne 10, 15, 22, .null) := by decide +kernel
theorem k89_15 : mm_at 89 15 = some (.aload_n 0, 16, 0, .null) := by decide +kernel
theorem k89_16 : mm_at 89 16 = some (.ldc 85, 18, 0, .int (-1000000001)) := by decide +kernel
theorem k89_18 : mm_at 89 18 = some (.invokevirtual 86, 21, 174, .null) := by decide +kernel
theorem k89_21 : mm_at 89 21 = some (.ireturn, 22, 0, .null) := by decide +kernel
theorem k89_22 : mm_at 89 22 = some (.aload_n 0, 23, 0, .null) := by decide +kernel
theorem k89_23 : mm_at 89 23 = some (.getfield 50, 26, 1102, .null) := by decide +kernel
theorem k89_26 : mm_at 89 26 = some (.iload_n 1, 27, 1, .null) := by decide +kernel
theorem k89_27 : mm_at 89 27 = some (.iload_n 2, 28, 2, .null) := by decide +kernel
theorem k89_28 : mm_at 89 28 = some (.aload_n 0, 29, 0, .null) := by decide +kernel
theorem k89_29 : mm_at 89 29 = some (.getfield 50, 32, 1102, .null) := by decide +kernel
theorem k89_32 : mm_at 89 32 = some (.invokevirtual 201, 35, 194, .null) := by decide +kernel
theorem k89_35 : mm_at 89 35 = some (.invokevirtual 208, 38, 196, .null) := by decide +kernel
theorem k89_38 : mm_at 89 38 = some (.iconst 1, 39, 0, .int (1)) := by decide +kernel
theorem k89_39 : mm_at 89 39 = some (.iadd, 40, 0, .null) := by decide +kernel
theorem k89_40 : mm_at 89 40 = some (.ireturn, 41, 0, .null) := by decide +kernel
theorem k90_0 : mm_at 90 0 = some (.aload_n 0, 1, 0, .null) := by decide +kernel
theorem k90_1 : mm_at 90 1 = some (.getfield 50, 4, 1102, .null) := by decide +kernel
theorem k90_4 : mm_at 90 4 = some (.invokevirtual 211, 7, 197, .null) := by decide +kernel
theorem k90_7 : mm_at 90 7 = some (.aload_n 0, 8, 0, .null) := by decide +kernel
theorem k90_8 : mm_at 90 8 = some (.getfield 50, 11, 1102, .null) := by decide +kernel
theorem k90_11 : mm_at 90 11 = some (.invokevirtual 201, 14, 194, .null) := by decide +kernel
theorem k90_14 : mm_at 90 14 = some (.invokestatic 214, 17, 198, .null) := by decide +kernel
theorem k90_17 : mm_at 90 17 = some (.ireturn, 18, 0, .null) := by decide +kernel
theorem k91_0 : mm_at 91 0 = some (.iload_n 1, 1, 1, .null) := by decide +kernel
theorem k91_1 : mm_at 91 1 = some (.iconst 1, 2, 0, .int (1)) := by decide +kernel
theorem k91_2 : mm_at 91 2 = some (.bipush 60, 4, 0, .int (60)) := by decide +kernel
theorem k91_4 : mm_at 91 4 = some (.invokestatic 120, 7, 179, .null) := by decide +kernel
theorem k91_7 : mm_at 91 7 = some (.ifCond .ne 10, 10, 17, .null) := by decide +kernel
theorem k91_10 : mm_at 91 10 = some (.aload_n 0, 11, 0, .null) := by decide +kernel
theorem k91_11 : mm_at 91 11 = some (.ldc 85, 13, 0, .int (-1000000001)) := by decide +kernel
theorem k91_13 : mm_at 91 13 = some (.invokevirtual 86, 16, 174, .null) := by decide +kernel
theorem k91_16 : mm_at 91 16 = some (.ireturn, 17, 0, .null) := by decide +kernel
theorem k91_17 : mm_at 91 17 = some (.aload_n 0, 18, 0, .null) := by decide +kernel
theorem k91_18 : mm_at 91 18 = some (.getfield 50, 21, 1102, .null) := by decide +kernel
theorem k91_21 : mm_at 91 21 = some (.getfield 219, 24, 416, .null) := by decide +kernel
theorem k91_24 : mm_at 91 24 = some (.iload_n 1, 25, 1, .null) := by decide +kernel
theorem k91_25 : mm_at 91 25 = some (.iadd, 26, 0, .null) := by decide +kernel
theorem k91_26 : mm_at 91 26 = some (.sipush 9999, 29, 0, .int (9999)) := by decide +kernel
theorem k91_29 : mm_at 91 29 = some (.if_icmp .le 10, 32, 39, .null) := by decide +kernel
theorem k91_32 : mm_at 91 32 = some (.aload_n 0, 33, 0, .null) := by decide +kernel
theorem k91_33 : mm_at 91 33 = some (.ldc 153, 35, 0, .int (-1000000003)) := by decide +kernel
theorem k91_35 : mm_at 91 35 = some (.invokevirtual 86, 38, 174, .null) := by decide +kernel
theorem k91_38 : mm_at 91 38 = some (.ireturn, 39, 0, .null) := by decide +kernel
theorem k91_39 : mm_at 91 39 = some (.iconst 0, 40, 0, .int (0)) := by decide +kernel
theorem k91_40 : mm_at 91 40 = some (.istore_n 2, 41, 2, .null) := by decide +kernel
theorem k91_41 : mm_at 91 41 = some (.iload_n 2, 42, 2, .null) := by decide +kernel
theorem k91_42 : mm_at 91 42 = some (.iload_n 1, 43, 1, .null) := by decide +kernel
theorem k91_43 : mm_at 91 43 = some (.if_icmp .ge 16, 46, 59, .null) := by decide +kernel
theorem k91_46 : mm_at 91 46 = some (.aload_n 0, 47, 0, .null) := by decide +kernel
theorem k91_47 : mm_at 91 47 = some (.getfield 50, 50, 1102, .null) := by decide +kernel
theorem k91_50 : mm_at 91 50 = some (.invokevirtual 222, 53, 199, .null) := by decide +kernel
theorem k91_53 : mm_at 91 53 = some (.iinc 2 1, 56, 2, .int (1)) := by decide +kernel
theorem k91_56 : mm_at 91 56 = some (.goto (-15), 59, 41, .null) := by decide +kernel
theorem k91_59 : mm_at 91 59 = some (.aload_n 0, 60, 0, .null) := by decide +kernel
theorem k91_60 : mm_at 91 60 = some (.getfield 50, 63, 1102, .null) := by decide +kernel
theorem k91_63 : mm_at 91 63 = some (.getfield 225, 66, 415, .null) := by decide +kernel
theorem k91_66 : mm_at 91 66 = some (.ireturn, 67, 0, .null) := by decide +kernel
theorem k92_0 : mm_at 92 0 = some (.iload_n 1, 1, 1, .null) := by decide +kernel
theorem k92_1 : mm_at 92 1 = some (.iconst 1, 2, 0, .int (1)) := by decide +kernel
theorem k92_2 : mm_at 92 2 = some (.bipush 40, 4, 0, .int (40)) := by decide +kernel
theorem k92_4 : mm_at 92 4 = some (.invokestatic 120, 7, 179, .null) := by decide +kernel
theorem k92_7 : mm_at 92 7 = some (.ifCond .ne 10, 10, 17, .null) := by decide +kernel
theorem k92_10 : mm_at 92 10 = some (.aload_n 0, 11, 0, .null) := by decide +kernel
theorem k92_11 : mm_at 92 11 = some (.ldc 85, 13, 0, .int (-1000000001)) := by decide +kernel
theorem k92_13 : mm_at 92 13 = some (.invokevirtual 86, 16, 174, .null) := by decide +kernel
theorem k92_16 : mm_at 92 16 = some (.ireturn, 17, 0, .null) := by decide +kernel
theorem k92_17 : mm_at 92 17 = some (.aload_n 0, 18, 0, .null) := by decide +kernel
theorem k92_18 : mm_at 92 18 = some (.getfield 50, 21, 1102, .null) := by decide +kernel
theorem k92_21 : mm_at 92 21 = some (.getfield 219, 24, 416, .null) := by decide +kernel
theorem k92_24 : mm_at 92 24 = some (.iload_n 1, 25, 1, .null) := by decide +kernel
theorem k92_25 : mm_at 92 25 = some (.iadd, 26, 0, .null) := by decide +kernel
theorem k92_26 : mm_at 92 26 = some (.sipush 9999, 29, 0, .int (9999)) := by decide +kernel
theorem k92_29 : mm_at 92 29 = some (.if_icmp .le 10, 32, 39, .null) := by decide +kernel
theorem k92_32 : mm_at 92 32 = some (.aload_n 0, 33, 0, .null) := by decide +kernel
theorem k92_33 : mm_at 92 33 = some (.ldc 153, 35, 0, .int (-1000000003)) := by decide +kernel
theorem k92_35 : mm_at 92 35 = some (.invokevirtual 86, 38, 174, .null) := by decide +kernel
theorem k92_38 : mm_at 92 38 = some (.ireturn, 39, 0, .null) := by decide +kernel
theorem k92_39 : mm_at 92 39 = some (.iconst 0, 40, 0, .int (0)) := by decide +kernel
theorem k92_40 : mm_at 92 40 = some (.istore_n 2, 41, 2, .null) := by decide +kernel
theorem k92_41 : mm_at 92 41 = some (.iload_n 2, 42, 2, .null) := by decide +kernel
theorem k92_42 : mm_at 92 42 = some (.iload_n 1, 43, 1, .null) := by decide +kernel
theorem k92_43 : mm_at 92 43 = some (.if_icmp .ge 23, 46, 66, .null) := by decide +kernel
theorem k92_46 : mm_at 92 46 = some (.aload_n 0, 47, 0, .null) := by decide +kernel
theorem k92_47 : mm_at 92 47 = some (.getfield 50, 50, 1102, .null) := by decide +kernel
theorem k92_50 : mm_at 92 50 = some (.invokevirtual 228, 53, 200, .null) := by decide +kernel
theorem k92_53 : mm_at 92 53 = some (.aload_n 0, 54, 0, .null) := by decide +kernel
theorem k92_54 : mm_at 92 54 = some (.getfield 50, 57, 1102, .null) := by decide +kernel
theorem k92_57 : mm_at 92 57 = some (.invokevirtual 222, 60, 199, .null) := by decide +kernel
theorem k92_60 : mm_at 92 60 = some (.iinc 2 1, 63, 2, .int (1)) := by decide +kernel
theorem k92_63 : mm_at 92 63 = some (.goto (-22), 66, 41, .null) := by decide +kernel
theorem k92_66 : mm_at 92 66 = some (.aload_n 0, 67, 0, .null) := by decide +kernel
theorem k92_67 : mm_at 92 67 = some (.getfield 50, 70, 1102, .null) := by decide +kernel
theorem k92_70 : mm_at 92 70 = some (.getfield 225, 73, 415, .null) := by decide +kernel
theorem k92_73 : mm_at 92 73 = some (.ireturn, 74, 0, .null) := by decide +kernel
theorem k93_0 : mm_at 93 0 = some (.iload_n 1, 1, 1, .null) := by decide +kernel
theorem k93_1 : mm_at 93 1 = some (.iconst 0, 2, 0, .int (0)) := by decide +kernel
theorem k93_2 : mm_at 93 2 = some (.bipush 60, 4, 0, .int (60)) := by decide +kernel
theorem k93_4 : mm_at 93 4 = some (.invokestatic 120, 7, 179, .null) := by decide +kernel
theorem k93_7 : mm_at 93 7 = some (.ifCond .eq 16, 10, 23, .null) := by decide +kernel
theorem k93_10 : mm_at 93 10 = some (.iload_n 2, 11, 2, .null) := by decide +kernel
theorem k93_11 : mm_at 93 11 = some (.iconst (-1), 12, 0, .int (-1)) := by decide +kernel
theorem k93_12 : mm_at 93 12 = some (.if_icmp .eq 18, 15, 30, .null) := by decide +kernel
theorem k93_15 : mm_at 93 15 = some (.aload_n 0, 16, 0, .null) := by decide +kernel
theorem k93_16 : mm_at 93 16 = some (.iload_n 2, 17, 2, .null) := by decide +kernel
theorem k93_17 : mm_at 93 17 = some (.invokevirtual 138, 20, 183, .null) := by decide +kernel
theorem k93_20 : mm_at 93 20 = some (.ifCond .ne 10, 23, 30, .null) := by decide +kernel
theorem k93_23 : mm_at 93 23 = some (.aload_n 0, 24, 0, .null) := by decide +kernel
theorem k93_24 : mm_at 93 24 = some (.ldc 85, 26, 0, .int (-1000000001)) := by decide +kernel
theorem k93_26 : mm_at 93 26 = some (.invokevirtual 86, 29, 174, .null) := by decide +kernel
theorem k93_29 : mm_at 93 29 = some (.ireturn, 30, 0, .null) := by decide +kernel
theorem k93_30 : mm_at 93 30 = some (.aload_n 0, 31, 0, .null) := by decide +kernel
theorem k93_31 : mm_at 93 31 = some (.getfield 54, 34, 1103, .null) := by decide +kernel
theorem k93_34 : mm_at 93 34 = some (.aload_n 0, 35, 0, .null) := by decide +kernel
theorem k93_35 : mm_at 93 35 = some (.getfield 50, 38, 1102, .null) := by decide +kernel
theorem k93_38 : mm_at 93 38 = some (.invokevirtual 231, 41, 201, .null) := by decide +kernel
theorem k93_41 : mm_at 93 41 = some (.iconst 0, 42, 0, .int (0)) := by decide +kernel
theorem k93_42 : mm_at 93 42 = some (.istore_n 3, 43, 3, .null) := by decide +kernel
theorem k93_43 : mm_at 93 43 = some (.iload_n 3, 44, 3, .null) := by decide +kernel
theorem k93_44 : mm_at 93 44 = some (.iload_n 1, 45, 1, .null) := by decide +kernel
theorem k93_45 : mm_at 93 45 = some (.if_icmp .ge 16, 48, 61, .null) := by decide +kernel
theorem k93_48 : mm_at 93 48 = some (.aload_n 0, 49, 0, .null) := by decide +kernel
theorem k93_49 : mm_at 93 49 = some (.getfield 54, 52, 1103, .null) := by decide +kernel
theorem k93_52 : mm_at 93 52 = some (.invokevirtual 222, 55, 199, .null) := by decide +kernel
theorem k93_55 : mm_at 93 55 = some (.iinc 3 1, 58, 3, .int (1)) := by decide +kernel
theorem k93_58 : mm_at 93 58 = some (.goto (-15), 61, 43, .null) := by decide +kernel
theorem k93_61 : mm_at 93 61 = some (.iload_n 2, 62, 2, .null) := by decide +kernel
theorem k93_62 : mm_at 93 62 = some (.iconst (-1), 63, 0, .int (-1)) := by decide +kernel
theorem k93_63 : mm_at 93 63 = some (.if_icmp .ne 13, 66, 76, .null) := by decide +kernel
theorem k93_66 : mm_at 93 66 = some (.aload_n 0, 67, 0, .null) := by decide +kernel
theorem k93_67 : mm_at 93 67 = some (.getfield 54, 70, 1103, .null) := by decide +kernel
theorem k93_70 : mm_at 93 70 = some (.getfield 225, 73, 415, .null) := by decide +kernel
theorem k93_73 : mm_at 93 73 = some (.goto 12, 76, 85, .null) := by decide +kernel
theorem k93_76 : mm_at 93 76 = some (.aload_n 0, 77, 0, .null) := by decide +kernel
theorem k93_77 : mm_at 93 77 = some (.getfield 54, 80, 1103, .null) := by decide +kernel
theorem k93_80 : mm_at 93 80 = some (.getfield 147, 83, 410, .null) := by decide +kernel
theorem k93_83 : mm_at 93 83 = some (.iload_n 2, 84, 2, .null) := by decide +kernel
theorem k93_84 : mm_at 93 84 = some (.iaload, 85, 0, .null) := by decide +kernel
theorem k93_85 : mm_at 93 85 = some (.ireturn, 86, 0, .null) := by decide +kernel
theorem k94_0 : mm_at 94 0 = some (.iload_n 1, 1, 1, .null) := by decide +kernel
theorem k94_1 : mm_at 94 1 = some (.invokestatic 129, 4, 181, .null) := by decide +kernel
theorem k94_4 : mm_at 94 4 = some (.ifCond .ne 10, 7, 14, .null) := by decide +kernel
theorem k94_7 : mm_at 94 7 = some (.aload_n 0, 8, 0, .null) := by decide +kernel
theorem k94_8 : mm_at 94 8 = some (.ldc 85, 10, 0, .int (-1000000001)) := by decide +kernel
theorem k94_10 : mm_at 94 10 = some (.invokevirtual 86, 13, 174, .null) := by decide +kernel
theorem k94_13 : mm_at 94 13 = some (.ireturn, 14, 0, .null) := by decide +kernel
theorem k94_14 : mm_at 94 14 = some (.aload_n 0, 15, 0, .null) := by decide +kernel
theorem k94_15 : mm_at 94 15 = some (.getfield 54, 18, 1103, .null) := by decide +kernel
theorem k94_18 : mm_at 94 18 = some (.aload_n 0, 19, 0, .null) := by decide +kernel
theorem k94_19 : mm_at 94 19 = some (.getfield 50, 22, 1102, .null) := by decide +kernel
theorem k94_22 : mm_at 94 22 = some (.invokevirtual 231, 25, 201, .null) := by decide +kernel
theorem k94_25 : mm_at 94 25 = some (.iconst 0, 26, 0, .int (0)) := by decide +kernel
theorem k94_26 : mm_at 94 26 = some (.istore_n 2, 27, 2, .null) := by decide +kernel
theorem k94_27 : mm_at 94 27 = some (.iload_n 2, 28, 2, .null) := by decide +kernel
theorem k94_28 : mm_at 94 28 = some (.bipush 60, 30, 0, .int (60)) := by decide +kernel
theorem k94_30 : mm_at 94 30 = some (.if_icmp .gt 32, 33, 62, .null) := by decide +kernel
theorem k94_33 : mm_at 94 33 = some (.aload_n 0, 34, 0, .null) := by decide +kernel
theorem k94_34 : mm_at 94 34 = some (.getfield 54, 37, 1103, .null) := by decide +kernel
theorem k94_37 : mm_at 94 37 = some (.getfield 225, 40, 415, .null) := by decide +kernel
theorem k94_40 : mm_at 94 40 = some (.iload_n 1, 41, 1, .null) := by decide +kernel
theorem k94_41 : mm_at 94 41 = some (.invokestatic 234, 44, 202, .null) := by decide +kernel
theorem k94_44 : mm_at 94 44 = some (.ifCond .eq 5, 47, 49, .null) := by decide +kernel
theorem k94_47 : mm_at 94 47 = some (.iload_n 2, 48, 2, .null) := by decide +kernel
theorem k94_48 : mm_at 94 48 = some (.ireturn, 49, 0, .null) := by decide +kernel
theorem k94_49 : mm_at 94 49 = some (.aload_n 0, 50, 0, .null) := by decide +kernel
theorem k94_50 : mm_at 94 50 = some (.getfield 54, 53, 1103, .null) := by decide +kernel
theorem k94_53 : mm_at 94 53 = some (.invokevirtual 222, 56, 199, .null) := by decide +kernel
theorem k94_56 : mm_at 94 56 = some (.iinc 2 1, 59, 2, .int (1)) := by decide +kernel
theorem k94_59 : mm_at 94 59 = some (.goto (-32), 62, 27, .null) := by decide +kernel
theorem k94_62 : mm_at 94 62 = some (.aload_n 0, 63, 0, .null) := by decide +kernel
theorem k94_63 : mm_at 94 63 = some (.ldc 237, 65, 0, .int (-1000000002)) := by decide +kernel
theorem k94_65 : mm_at 94 65 = some (.invokevirtual 86, 68, 174, .null) := by decide +kernel
theorem k94_68 : mm_at 94 68 = some (.ireturn, 69, 0, .null) := by decide +kernel
theorem k95_0 : mm_at 95 0 = some (.iload_n 1, 1, 1, .null) := by decide +kernel
theorem k95_1 : mm_at 95 1 = some (.invokestatic 129, 4, 181, .null) := by decide +kernel
theorem k95_4 : mm_at 95 4 = some (.ifCond .ne 10, 7, 14, .null) := by decide +kernel
theorem k95_7 : mm_at 95 7 = some (.aload_n 0, 8, 0, .null) := by decide +kernel
theorem k95_8 : mm_at 95 8 = some (.ldc 85, 10, 0, .int (-1000000001)) := by decide +kernel
theorem k95_10 : mm_at 95 10 = some (.invokevirtual 86, 13, 174, .null) := by decide +kernel
theorem k95_13 : mm_at 95 13 = some (.ireturn, 14, 0, .null) := by decide +kernel
theorem k95_14 : mm_at 95 14 = some (.aload_n 0, 15, 0, .null) := by decide +kernel
theorem k95_15 : mm_at 95 15 = some (.getfield 54, 18, 1103, .null) := by decide +kernel
theorem k95_18 : mm_at 95 18 = some (.aload_n 0, 19, 0, .null) := by decide +kernel
theorem k95_19 : mm_at 95 19 = some (.getfield 50, 22, 1102, .null) := by decide +kernel
theorem k95_22 : mm_at 95 22 = some (.invokevirtual 231, 25, 201, .null) := by decide +kernel
theorem k95_25 : mm_at 95 25 = some (.aload_n 0, 26, 0, .null) := by decide +kernel
theorem k95_26 : mm_at 95 26 = some (.iconst 0, 27, 0, .int (0)) := by decide +kernel
theorem k95_27 : mm_at 95 27 = some (.iload_n 1, 28, 1, .null) := by decide +kernel
theorem k95_28 : mm_at 95 28 = some (.invokevirtual 238, 31, 203, .null) := by decide +kernel
theorem k95_31 : mm_at 95 31 = some (.istore_n 2, 32, 2, .null) := by decide +kernel
theorem k95_32 : mm_at 95 32 = some (.iconst 0, 33, 0, .int (0)) := by decide +kernel
theorem k95_33 : mm_at 95 33 = some (.istore_n 3, 34, 3, .null) := by decide +kernel
theorem k95_34 : mm_at 95 34 = some (.iconst 1, 35, 0, .int (1)) := by decide +kernel
theorem k95_35 : mm_at 95 35 = some (.istore 4, 37, 4, .null) := by decide +kernel
theorem k95_37 : mm_at 95 37 = some (.iload 4, 39, 4, .null) := by decide +kernel
theorem k95_39 : mm_at 95 39 = some (.iconst 1, 40, 0, .int (1)) := by decide +kernel
theorem k95_40 : mm_at 95 40 = some (.aload_n 0, 41, 0, .null) := by decide +kernel
theorem k95_41 : mm_at 95 41 = some (.getfield 50, 44, 1102, .null) := by decide +kernel
theorem k95_44 : mm_at 95 44 = some (.getfield 90, 47, 401, .null) := by decide +kernel
theorem k95_47 : mm_at 95 47 = some (.ishl, 48, 0, .null) := by decide +kernel
theorem k95_48 : mm_at 95 48 = some (.if_icmp .ge 51, 51, 99, .null) := by decide +kernel
theorem k95_51 : mm_at 95 51 = some (.iload_n 3, 52, 3, .null) := by decide +kernel
theorem k95_52 : mm_at 95 52 = some (.ifCond .eq 15, 55, 67, .null) := by decide +kernel
theorem k95_55 : mm_at 95 55 = some (.iload 4, 57, 4, .null) := by decide +kernel
theorem k95_57 : mm_at 95 57 = some (.invokestatic 214, 60, 198, .null) := by decide +kernel
theorem k95_60 : mm_at 95 60 = some (.iload_n 3, 61, 3, .null) := by decide +kernel
theorem k95_61 : mm_at 95 61 = some (.invokestatic 214, 64, 198, .null) := by decide +kernel
theorem k95_64 : mm_at 95 64 = some (.if_icmp .ge 7, 67, 71, .null) := by decide +kernel
theorem k95_67 : mm_at 95 67 = some (.iconst 1, 68, 0, .int (1)) := by decide +kernel
theorem k95_68 : mm_at 95 68 = some (.goto 4, 71, 72, .null) := by decide +kernel
theorem k95_71 : mm_at 95 71 = some (.iconst 0, 72, 0, .int (0)) := by decide +kernel
theorem k95_72 : mm_at 95 72 = some (.istore 5, 74, 5, .null) := by decide +kernel
theorem k95_74 : mm_at 95 74 = some (.iload 5, 76, 5, .null) := by decide +kernel
theorem k95_76 : mm_at 95 76 = some (.ifCond .eq 17, 79, 93, .null) := by decide +kernel
theorem k95_79 : mm_at 95 79 = some (.aload_n 0, 80, 0, .null) := by decide +kernel
theorem k95_80 : mm_at 95 80 = some (.iload 4, 82, 4, .null) := by decide +kernel
theorem k95_82 : mm_at 95 82 = some (.iload_n 1, 83, 1, .null) := by decide +kernel
theorem k95_83 : mm_at 95 83 = some (.invokevirtual 238, 86, 203, .null) := by decide +kernel
theorem k95_86 : mm_at 95 86 = some (.iload_n 2, 87, 2, .null) := by decide +kernel
theorem k95_87 : mm_at 95 87 = some (.if_icmp .eq 6, 90, 93, .null) := by decide +kernel
theorem k95_90 : mm_at 95 90 = some (.iload 4, 92, 4, .null) := by decide +kernel
theorem k95_92 : mm_at 95 92 = some (.istore_n 3, 93, 3, .null) := by decide +kernel
theorem k95_93 : mm_at 95 93 = some (.iinc 4 1, 96, 4, .int (1)) := by decide +kernel
theorem k95_96 : mm_at 95 96 = some (.goto (-59), 99, 37, .null) := by decide +kernel
theorem k95_99 : mm_at 95 99 = some (.iload_n 3, 100, 3, .null) := by decide +kernel
theorem k95_100 : mm_at 95 100 = some (.ifCond .ne 12, 103, 112, .null) := by decide +kernel
theorem k95_103 : mm_at 95 103 = some (.aload_n 0, 104, 0, .null) := by decide +kernel
theorem k95_104 : mm_at 95 104 = some (.ldc 237, 106, 0, .int (-1000000002)) := by decide +kernel
theorem k95_106 : mm_at 95 106 = some (.invokevirtual 86, 109, 174, .null) := by decide +kernel
theorem k95_109 : mm_at 95 109 = some (.goto 4, 112, 113, .null) := by decide +kernel
theorem k95_112 : mm_at 95 112 = some (.iload_n 3, 113, 3, .null) := by decide +kernel
theorem k95_113 : mm_at 95 113 = some (.ireturn, 114, 0, .null) := by decide +kernel
theorem k96_0 : mm_at 96 0 = some (.iload_n 1, 1, 1, .null) := by decide +kernel
theorem k96_1 : mm_at 96 1 = some (.invokestatic 129, 4, 181, .null) := by decide +kernel
theorem k96_4 : mm_at 96 4 = some (.ifCond .ne 10, 7, 14, .null) := by decide +kernel
theorem k96_7 : mm_at 96 7 = some (.aload_n 0, 8, 0, .null) := by decide +kernel
theorem k96_8 : mm_at 96 8 = some (.ldc 85, 10, 0, .int (-1000000001)) := by decide +kernel
theorem k96_10 : mm_at 96 10 = some (.invokevirtual 86, 13, 174, .null) := by decide +kernel
theorem k96_13 : mm_at 96 13 = some (.ireturn, 14, 0, .null) := by decide +kernel
theorem k96_14 : mm_at 96 14 = some (.aload_n 0, 15, 0, .null) := by decide +kernel
theorem k96_15 : mm_at 96 15 = some (.getfield 50, 18, 1102, .null) := by decide +kernel
theorem k96_18 : mm_at 96 18 = some (.invokevirtual 195, 21, 192, .null) := by decide +kernel
theorem k96_21 : mm_at 96 21 = some (.aload_n 0, 22, 0, .null) := by decide +kernel
theorem k96_22 : mm_at 96 22 = some (.getfield 50, 25, 1102, .null) := by decide +kernel
theorem k96_25 : mm_at 96 25 = some (.invokevirtual 201, 28, 194, .null) := by decide +kernel
theorem k96_28 : mm_at 96 28 = some (.istore_n 2, 29, 2, .null) := by decide +kernel
theorem k96_29 : mm_at 96 29 = some (.iconst 3, 30, 0, .int (3)) := by decide +kernel
theorem k96_30 : mm_at 96 30 = some (.istore_n 3, 31, 3, .null) := by decide +kernel
theorem k96_31 : mm_at 96 31 = some (.iconst 0, 32, 0, .int (0)) := by decide +kernel
theorem k96_32 : mm_at 96 32 = some (.istore 4, 34, 4, .null) := by decide +kernel
theorem k96_34 : mm_at 96 34 = some (.iload 4, 36, 4, .null) := by decide +kernel
theorem k96_36 : mm_at 96 36 = some (.iconst 1, 37, 0, .int (1)) := by decide +kernel
theorem k96_37 : mm_at 96 37 = some (.aload_n 0, 38, 0, .null) := by decide +kernel
theorem k96_38 : mm_at 96 38 = some (.getfield 50, 41, 1102, .null) := by decide +kernel
theorem k96_41 : mm_at 96 41 = some (.getfield 90, 44, 401, .null) := by decide +kernel
theorem k96_44 : mm_at 96 44 = some (.ishl, 45, 0, .null) := by decide +kernel
theorem k96_45 : mm_at 96 45 = some (.if_icmp .ge 66, 48, 111, .null) := by decide +kernel
theorem k96_48 : mm_at 96 48 = some (.iload_n 2, 49, 2, .null) := by decide +kernel
theorem k96_49 : mm_at 96 49 = some (.iload 4, 51, 4, .null) := by decide +kernel
theorem k96_51 : mm_at 96 51 = some (.invokestatic 241, 54, 204, .null) := by decide +kernel
theorem k96_54 : mm_at 96 54 = some (.istore 5, 56, 5, .null) := by decide +kernel
theorem k96_56 : mm_at 96 56 = some (.iload 4, 58, 4, .null) := by decide +kernel
theorem k96_58 : mm_at 96 58 = some (.invokestatic 214, 61, 198, .null) := by decide +kernel
theorem k96_61 : mm_at 96 61 = some (.aload_n 0, 62, 0, .null) := by decide +kernel
theorem k96_62 : mm_at 96 62 = some (.getfield 50, 65, 1102, .null) := by decide +kernel
theorem k96_65 : mm_at 96 65 = some (.getfield 132, 68, 407, .null) := by decide +kernel
theorem k96_68 : mm_at 96 68 = some (.if_icmp .gt 7, 71, 75, .null) := by decide +kernel
theorem k96_71 : mm_at 96 71 = some (.iconst 1, 72, 0, .int (1)) := by decide +kernel
theorem k96_72 : mm_at 96 72 = some (.goto 4, 75, 76, .null) := by decide +kernel
theorem k96_75 : mm_at 96 75 = some (.iconst 0, 76, 0, .int (0)) := by decide +kernel
theorem k96_76 : mm_at 96 76 = some (.istore 6, 78, 6, .null) := by decide +kernel
theorem k96_78 : mm_at 96 78 = some (.iload 6, 80, 6, .null) := by decide +kernel
theorem k96_80 : mm_at 96 80 = some (.ifCond .eq 25, 83, 105, .null) := by decide +kernel
theorem k96_83 : mm_at 96 83 = some (.iload 5, 85, 5, .null) := by decide +kernel
theorem k96_85 : mm_at 96 85 = some (.iload_n 3, 86, 3, .null) := by decide +kernel
theorem k96_86 : mm_at 96 86 = some (.if_icmp .ge 19, 89, 105, .null) := by decide +kernel
theorem k96_89 : mm_at 96 89 = some (.aload_n 0, 90, 0, .null) := by decide +kernel
theorem k96_90 : mm_at 96 90 = some (.getfield 50, 93, 1102, .null) := by decide +kernel
theorem k96_93 : mm_at 96 93 = some (.iload_n 1, 94, 1, .null) := by decide +kernel
theorem k96_94 : mm_at 96 94 = some (.iload 4, 96, 4, .null) := by decide +kernel
theorem k96_96 : mm_at 96 96 = some (.invokevirtual 205, 99, 195, .null) := by decide +kernel
theorem k96_99 : mm_at 96 99 = some (.ifCond .le 6, 102, 105, .null) := by decide +kernel
theorem k96_102 : mm_at 96 102 = some (.iload 5, 104, 5, .null) := by decide +kernel
theorem k96_104 : mm_at 96 104 = some (.istore_n 3, 105, 3, .null) := by decide +kernel
theorem k96_105 : mm_at 96 105 = some (.iinc 4 1, 108, 4, .int (1)) := by decide +kernel
theorem k96_108 : mm_at 96 108 = some (.goto (-74), 111, 34, .null) := by decide +kernel
theorem k96_111 : mm_at 96 111 = some (.iload_n 3, 112, 3, .null) := by decide +kernel
theorem k96_112 : mm_at 96 112 = some (.iconst 2, 113, 0, .int (2)) := by decide +kernel
theorem k96_113 : mm_at 96 113 = some (.if_icmp .le 12, 116, 125, .null) := by decide +kernel
theorem k96_116 : mm_at 96 116 = some (.aload_n 0, 117, 0, .null) := by decide +kernel
theorem k96_117 : mm_at 96 117 = some (.ldc 237, 119, 0, .int (-1000000002)) := by decide +kernel
theorem k96_119 : mm_at 96 119 = some (.invokevirtual 86, 122, 174, .null) := by decide +kernel
theorem k96_122 : mm_at 96 122 = some (.goto 4, 125, 126, .null) := by decide +kernel
theorem k96_125 : mm_at 96 125 = some (.iload_n 3, 126, 3, .null) := by decide +kernel
theorem k96_126 : mm_at 96 126 = some (.ireturn, 127, 0, .null) := by decide +kernel
theorem k97_0 : mm_at 97 0 = some (.aload_n 0, 1, 0, .null) := by decide +kernel
theorem k97_1 : mm_at 97 1 = some (.iload_n 1, 2, 1, .null) := by decide +kernel
theorem k97_2 : mm_at 97 2 = some (.invokevirtual 99, 5, 176, .null) := by decide +kernel
theorem k97_5 : mm_at 97 5 = some (.ifCond .ne 10, 8, 15, .null) := by decide +kernel
theorem k97_8 : mm_at 97 8 = some (.aload_n 0, 9, 0, .null) := by decide +kernel
theorem k97_9 : mm_at 97 9 = some (.ldc 85, 11, 0, .int (-1000000001)) := by decide +kernel
theorem k97_11 : mm_at 97 11 = some (.invokevirtual 86, 14, 174, .null) := by decide +kernel
theorem k97_14 : mm_at 97 14 = some (.ireturn, 15, 0, .null) := by decide +kernel
theorem k97_15 : mm_at 97 15 = some (.aload_n 0, 16, 0, .null) := by decide +kernel
theorem k97_16 : mm_at 97 16 = some (.getfield 50, 19, 1102, .null) := by decide +kernel
theorem k97_19 : mm_at 97 19 = some (.invokevirtual 201, 22, 194, .null) := by decide +kernel
theorem k97_22 : mm_at 97 22 = some (.istore_n 2, 23, 2, .null) := by decide +kernel
theorem k97_23 : mm_at 97 23 = some (.iload_n 2, 24, 2, .null) := by decide +kernel
theorem k97_24 : mm_at 97 24 = some (.iload_n 1, 25, 1, .null) := by decide +kernel
theorem k97_25 : mm_at 97 25 = some (.invokestatic 234, 28, 202, .null) := by decide +kernel
theorem k97_28 : mm_at 97 28 = some (.ifCond .ne 10, 31, 38, .null) := by decide +kernel
theorem k97_31 : mm_at 97 31 = some (.aload_n 0, 32, 0, .null) := by decide +kernel
theorem k97_32 : mm_at 97 32 = some (.ldc 153, 34, 0, .int (-1000000003)) := by decide +kernel
theorem k97_34 : mm_at 97 34 = some (.invokevirtual 86, 37, 174, .null) := by decide +kernel
theorem k97_37 : mm_at 97 37 = some (.ireturn, 38, 0, .null) := by decide +kernel
theorem k97_38 : mm_at 97 38 = some (.aload_n 0, 39, 0, .null) := by decide +kernel
theorem k97_39 : mm_at 97 39 = some (.getfield 50, 42, 1102, .null) := by decide +kernel
theorem k97_42 : mm_at 97 42 = some (.invokevirtual 195, 45, 192, .null) := by decide +kernel
theorem k97_45 : mm_at 97 45 = some (.aload_n 0, 46, 0, .null) := by decide +kernel
theorem k97_46 : mm_at 97 46 = some (.getfield 50, 49, 1102, .null) := by decide +kernel
theorem k97_49 : mm_at 97 49 = some (.iload_n 2, 50, 2, .null) := by decide +kernel
theorem k97_50 : mm_at 97 50 = some (.invokevirtual 244, 53, 205, .null) := by decide +kernel
theorem k97_53 : mm_at 97 53 = some (.istore_n 3, 54, 3, .null) := by decide +kernel
theorem k97_54 : mm_at 97 54 = some (.aload_n 0, 55, 0, .null) := by decide +kernel
theorem k97_55 : mm_at 97 55 = some (.getfield 50, 58, 1102, .null) := by decide +kernel
theorem k97_58 : mm_at 97 58 = some (.getfield 247, 61, 406, .null) := by decide +kernel
theorem k97_61 : mm_at 97 61 = some (.iload_n 1, 62, 1, .null) := by decide +kernel
theorem k97_62 : mm_at 97 62 = some (.iaload, 63, 0, .null) := by decide +kernel
theorem k97_63 : mm_at 97 63 = some (.istore 4, 65, 4, .null) := by decide +kernel
theorem k97_65 : mm_at 97 65 = some (.iload_n 2, 66, 2, .null) := by decide +kernel
theorem k97_66 : mm_at 97 66 = some (.iconst 1, 67, 0, .int (1)) := by decide +kernel
theorem k97_67 : mm_at 97 67 = some (.iload_n 1, 68, 1, .null) := by decide +kernel
theorem k97_68 : mm_at 97 68 = some (.ishl, 69, 0, .null) := by decide +kernel
theorem k97_69 : mm_at 97 69 = some (.iconst (-1), 70, 0, .int (-1)) := by decide +kernel
theorem k97_70 : mm_at 97 70 = some (.ixor, 71, 0, .null) := by decide +kernel
theorem k97_71 : mm_at 97 71 = some (.iand, 72, 0, .null) := by decide +kernel
theorem k97_72 : mm_at 97 72 = some (.istore 5, 74, 5, .null) := by decide +kernel
theorem k97_74 : mm_at 97 74 = some (.iconst 0, 75, 0, .int (0)) := by decide +kernel
theorem k97_75 : mm_at 97 75 = some (.istore 6, 77, 6, .null) := by decide +kernel
theorem k97_77 : mm_at 97 77 = some (.iconst 0, 78, 0, .int (0)) := by decide +kernel
theorem k97_78 : mm_at 97 78 = some (.istore 7, 80, 7, .null) := by decide +kernel
theorem k97_80 : mm_at 97 80 = some (.iload 7, 82, 7, .null) := by decide +kernel
theorem k97_82 : mm_at 97 82 = some (.iconst 1, 83, 0, .int (1)) := by decide +kernel
theorem k97_83 : mm_at 97 83 = some (.aload_n 0, 84, 0, .null) := by decide +kernel
theorem k97_84 : mm_at 97 84 = some (.getfield 50, 87, 1102, .null) := by decide +kernel
theorem k97_87 : mm_at 97 87 = some (.getfield 90, 90, 401, .null) := by decide +kernel
theorem k97_90 : mm_at 97 90 = some (.ishl, 91, 0, .null) := by decide +kernel
theorem k97_91 : mm_at 97 91 = some (.if_icmp .ge 52, 94, 143, .null) := by decide +kernel
theorem k97_94 : mm_at 97 94 = some (.aload_n 0, 95, 0, .null) := by decide +kernel
theorem k97_95 : mm_at 97 95 = some (.getfield 50, 98, 1102, .null) := by decide +kernel
theorem k97_98 : mm_at 97 98 = some (.iload 7, 100, 7, .null) := by decide +kernel
theorem k97_100 : mm_at 97 100 = some (.invokevirtual 244, 103, 205, .null) := by decide +kernel
theorem k97_103 : mm_at 97 103 = some (.istore 8, 105, 8, .null) := by decide +kernel
theorem k97_105 : mm_at 97 105 = some (.iload 7, 107, 7, .null) := by decide +kernel
theorem k97_107 : mm_at 97 107 = some (.iload 5, 109, 5, .null) := by decide +kernel
theorem k97_109 : mm_at 97 109 = some (.iconst (-1), 110, 0, .int (-1)) := by decide +kernel
theorem k97_110 : mm_at 97 110 = some (.ixor, 111, 0, .null) := by decide +kernel
theorem k97_111 : mm_at 97 111 = some (.iand, 112, 0, .null) := by decide +kernel
theorem k97_112 : mm_at 97 112 = some (.ifCond .ne 25, 115, 137, .null) := by decide +kernel
theorem k97_115 : mm_at 97 115 = some (.iconst 2, 116, 0, .int (2)) := by decide +kernel
theorem k97_116 : mm_at 97 116 = some (.iload 8, 118, 8, .null) := by decide +kernel
theorem k97_118 : mm_at 97 118 = some (.imul, 119, 0, .null) := by decide +kernel
theorem k97_119 : mm_at 97 119 = some (.iload_n 3, 120, 3, .null) := by decide +kernel
theorem k97_120 : mm_at 97 120 = some (.if_icmp .gt 17, 123, 137, .null) := by decide +kernel
theorem k97_123 : mm_at 97 123 = some (.iconst 2, 124, 0, .int (2)) := by decide +kernel
theorem k97_124 : mm_at 97 124 = some (.iload 8, 126, 8, .null) := by decide +kernel
theorem k97_126 : mm_at 97 126 = some (.iload 4, 128, 4, .null) := by decide +kernel
theorem k97_128 : mm_at 97 128 = some (.iadd, 129, 0, .null) := by decide +kernel
theorem k97_129 : mm_at 97 129 = some (.imul, 130, 0, .null) := by decide +kernel
theorem k97_130 : mm_at 97 130 = some (.iload_n 3, 131, 3, .null) := by decide +kernel
theorem k97_131 : mm_at 97 131 = some (.if_icmp .le 6, 134, 137, .null) := by decide +kernel
theorem k97_134 : mm_at 97 134 = some (.iinc 6 1, 137, 6, .int (1)) := by decide +kernel
theorem k97_137 : mm_at 97 137 = some (.iinc 7 1, 140, 7, .int (1)) := by decide +kernel
theorem k97_140 : mm_at 97 140 = some (.goto (-60), 143, 80, .null) := by decide +kernel
theorem k97_143 : mm_at 97 143 = some (.iload 6, 145, 6, .null) := by decide +kernel
theorem k97_145 : mm_at 97 145 = some (.ireturn, 146, 0, .null) := by decide +kernel
theorem k98_0 : mm_at 98 0 = some (.iload_n 1, 1, 1, .null) := by decide +kernel
theorem k98_1 : mm_at 98 1 = some (.invokestatic 250, 4, 206, .null) := by decide +kernel
theorem k98_4 : mm_at 98 4 = some (.ifCond .eq 12, 7, 16, .null) := by decide +kernel
theorem k98_7 : mm_at 98 7 = some (.iload_n 2, 8, 2, .null) := by decide +kernel
theorem k98_8 : mm_at 98 8 = some (.iconst 0, 9, 0, .int (0)) := by decide +kernel
theorem k98_9 : mm_at 98 9 = some (.iconst 1, 10, 0, .int (1)) := by decide +kernel
theorem k98_10 : mm_at 98 10 = some (.invokestatic 120, 13, 179, .null) := by decide +kernel
theorem k98_13 : mm_at 98 13 = some (.ifCond .ne 10, 16, 23, .null) := by decide +kernel
theorem k98_16 : mm_at 98 16 = some (.aload_n 0, 17, 0, .null) := by decide +kernel
theorem k98_17 : mm_at 98 17 = some (.ldc 85, 19, 0, .int (-1000000001)) := by decide +kernel
theorem k98_19 : mm_at 98 19 = some (.invokevirtual 86, 22, 174, .null) := by decide +kernel
theorem k98_22 : mm_at 98 22 = some (.ireturn, 23, 0, .null) := by decide +kernel
theorem k98_23 : mm_at 98 23 = some (.aload_n 0, 24, 0, .null) := by decide +kernel
theorem k98_24 : mm_at 98 24 = some (.getfield 67, 27, 1106, .null) := by decide +kernel
theorem k98_27 : mm_at 98 27 = some (.iload_n 1, 28, 1, .null) := by decide +kernel
theorem k98_28 : mm_at 98 28 = some (.aaload, 29, 0, .null) := by decide +kernel
theorem k98_29 : mm_at 98 29 = some (.astore_n 3, 30, 3, .null) := by decide +kernel
theorem k98_30 : mm_at 98 30 = some (.aload_n 3, 31, 3, .null) := by decide +kernel
theorem k98_31 : mm_at 98 31 = some (.getfield 253, 34, 701, .null) := by decide +kernel
theorem k98_34 : mm_at 98 34 = some (.ifCond .eq 12, 37, 46, .null) := by decide +kernel
theorem k98_37 : mm_at 98 37 = some (.aload_n 3, 38, 3, .null) := by decide +kernel
theorem k98_38 : mm_at 98 38 = some (.getfield 157, 41, 702, .null) := by decide +kernel
theorem k98_41 : mm_at 98 41 = some (.bipush 8, 43, 0, .int (8)) := by decide +kernel
theorem k98_43 : mm_at 98 43 = some (.if_icmp .le 10, 46, 53, .null) := by decide +kernel
theorem k98_46 : mm_at 98 46 = some (.aload_n 0, 47, 0, .null) := by decide +kernel
theorem k98_47 : mm_at 98 47 = some (.ldc 237, 49, 0, .int (-1000000002)) := by decide +kernel
theorem k98_49 : mm_at 98 49 = some (.invokevirtual 86, 52, 174, .null) := by decide +kernel
theorem k98_52 : mm_at 98 52 = some (.ireturn, 53, 0, .null) := by decide +kernel
theorem k98_53 : mm_at 98 53 = some (.aload_n 0, 54, 0, .null) := by decide +kernel
theorem k98_54 : mm_at 98 54 = some (.getfield 50, 57, 1102, .null) := by decide +kernel
theorem k98_57 : mm_at 98 57 = some (.invokevirtual 195, 60, 192, .null) := by decide +kernel
theorem k98_60 : mm_at 98 60 = some (.aload_n 0, 61, 0, .null) := by decide +kernel
theorem k98_61 : mm_at 98 61 = some (.getfield 50, 64, 1102, .null) := by decide +kernel
theorem k98_64 : mm_at 98 64 = some (.invokevirtual 201, 67, 194, .null) := by decide +kernel
theorem k98_67 : mm_at 98 67 = some (.invokestatic 214, 70, 198, .null) := by decide +kernel
theorem k98_70 : mm_at 98 70 = some (.istore 4, 72, 4, .null) := by decide +kernel
theorem k98_72 : mm_at 98 72 = some (.iconst 0, 73, 0, .int (0)) := by decide +kernel
theorem k98_73 : mm_at 98 73 = some (.istore 5, 75, 5, .null) := by decide +kernel
theorem k98_75 : mm_at 98 75 = some (.iconst 0, 76, 0, .int (0)) := by decide +kernel
theorem k98_76 : mm_at 98 76 = some (.istore 6, 78, 6, .null) := by decide +kernel
theorem k98_78 : mm_at 98 78 = some (.iload 6, 80, 6, .null) := by decide +kernel
theorem k98_80 : mm_at 98 80 = some (.iconst 1, 81, 0, .int (1)) := by decide +kernel
theorem k98_81 : mm_at 98 81 = some (.aload_n 0, 82, 0, .null) := by decide +kernel
theorem k98_82 : mm_at 98 82 = some (.getfield 50, 85, 1102, .null) := by decide +kernel
theorem k98_85 : mm_at 98 85 = some (.getfield 90, 88, 401, .null) := by decide +kernel
theorem k98_88 : mm_at 98 88 = some (.ishl, 89, 0, .null) := by decide +kernel
theorem k98_89 : mm_at 98 89 = some (.if_icmp .ge 40, 92, 129, .null) := by decide +kernel
theorem k98_92 : mm_at 98 92 = some (.iload 6, 94, 6, .null) := by decide +kernel
theorem k98_94 : mm_at 98 94 = some (.invokestatic 214, 97, 198, .null) := by decide +kernel
theorem k98_97 : mm_at 98 97 = some (.iload 4, 99, 4, .null) := by decide +kernel
theorem k98_99 : mm_at 98 99 = some (.if_icmp .ne 24, 102, 123, .null) := by decide +kernel
theorem k98_102 : mm_at 98 102 = some (.aload_n 0, 103, 0, .null) := by decide +kernel
theorem k98_103 : mm_at 98 103 = some (.aload_n 3, 104, 3, .null) := by decide +kernel
theorem k98_104 : mm_at 98 104 = some (.iload 6, 106, 6, .null) := by decide +kernel
theorem k98_106 : mm_at 98 106 = some (.invokevirtual 256, 109, 207, .null) := by decide +kernel
theorem k98_109 : mm_at 98 109 = some (.ifCond .eq 14, 112, 123, .null) := by decide +kernel
theorem k98_112 : mm_at 98 112 = some (.iload_n 2, 113, 2, .null) := by decide +kernel
theorem k98_113 : mm_at 98 113 = some (.iconst 1, 114, 0, .int (1)) := by decide +kernel
theorem k98_114 : mm_at 98 114 = some (.if_icmp .ne 6, 117, 120, .null) := by decide +kernel
theorem k98_117 : mm_at 98 117 = some (.iload 6, 119, 6, .null) := by decide +kernel
theorem k98_119 : mm_at 98 119 = some (.ireturn, 120, 0, .null) := by decide +kernel
theorem k98_120 : mm_at 98 120 = some (.iinc 5 1, 123, 5, .int (1)) := by decide +kernel
theorem k98_123 : mm_at 98 123 = some (.iinc 6 1, 126, 6, .int (1)) := by decide +kernel
theorem k98_126 : mm_at 98 126 = some (.goto (-48), 129, 78, .null) := by decide +kernel
theorem k98_129 : mm_at 98 129 = some (.iload_n 2, 130, 2, .null) := by decide +kernel
theorem k98_130 : mm_at 98 130 = some (.iconst 1, 131, 0, .int (1)) := by decide +kernel
theorem k98_131 : mm_at 98 131 = some (.if_icmp .ne 12, 134, 143, .null) := by decide +kernel
theorem k98_134 : mm_at 98 134 = some (.aload_n 0, 135, 0, .null) := by decide +kernel
theorem k98_135 : mm_at 98 135 = some (.ldc 237, 137, 0, .int (-1000000002)) := by decide +kernel
theorem k98_137 : mm_at 98 137 = some (.invokevirtual 86, 140, 174, .null) := by decide +kernel
theorem k98_140 : mm_at 98 140 = some (.goto 5, 143, 145, .null) := by decide +kernel
theorem k98_143 : mm_at 98 143 = some (.iload 5, 145, 5, .null) := by decide +kernel
theorem k98_145 : mm_at 98 145 = some (.ireturn, 146, 0, .null) := by decide +kernel
theorem k99_0 : mm_at 99 0 = some (.iload_n 1, 1, 1, .null) := by decide +kernel
theorem k99_1 : mm_at 99 1 = some (.iconst 0, 2, 0, .int (0)) := by decide +kernel
theorem k99_2 : mm_at 99 2 = some (.iconst 1, 3, 0, .int (1)) := by decide +kernel
theorem k99_3 : mm_at 99 3 = some (.invokestatic 120, 6, 179, .null) := by decide +kernel
theorem k99_6 : mm_at 99 6 = some (.ifCond .ne 10, 9, 16, .null) := by decide +kernel
theorem k99_9 : mm_at 99 9 = some (.aload_n 0, 10, 0, .null) := by decide +kernel
theorem k99_10 : mm_at 99 10 = some (.ldc 85, 12, 0, .int (-1000000001)) := by decide +kernel
theorem k99_12 : mm_at 99 12 = some (.invokevirtual 86, 15, 174, .null) := by decide +kernel
theorem k99_15 : mm_at 99 15 = some (.ireturn, 16, 0, .null) := by decide +kernel
theorem k99_16 : mm_at 99 16 = some (.aload_n 0, 17, 0, .null) := by decide +kernel
theorem k99_17 : mm_at 99 17 = some (.getfield 50, 20, 1102, .null) := by decide +kernel
theorem k99_20 : mm_at 99 20 = some (.invokevirtual 195, 23, 192, .null) := by decide +kernel
theorem k99_23 : mm_at 99 23 = some (.aload_n 0, 24, 0, .null) := by decide +kernel
theorem k99_24 : mm_at 99 24 = some (.getfield 50, 27, 1102, .null) := by decide +kernel
theorem k99_27 : mm_at 99 27 = some (.invokevirtual 201, 30, 194, .null) := by decide +kernel
theorem k99_30 : mm_at 99 30 = some (.invokestatic 214, 33, 198, .null) := by decide +kernel
theorem k99_33 : mm_at 99 33 = some (.istore_n 2, 34, 2, .null) := by decide +kernel
theorem k99_34 : mm_at 99 34 = some (.iconst 0, 35, 0, .int (0)) := by decide +kernel
theorem k99_35 : mm_at 99 35 = some (.istore_n 3, 36, 3, .null) := by decide +kernel
theorem k99_36 : mm_at 99 36 = some (.iconst 0, 37, 0, .int (0)) := by decide +kernel
theorem k99_37 : mm_at 99 37 = some (.istore 4, 39, 4, .null) := by decide +kernel
theorem k99_39 : mm_at 99 39 = some (.iconst 0, 40, 0, .int (0)) := by decide +kernel
theorem k99_40 : mm_at 99 40 = some (.istore 5, 42, 5, .null) := by decide +kernel
theorem k99_42 : mm_at 99 42 = some (.iload 5, 44, 5, .null) := by decide +kernel
theorem k99_44 : mm_at 99 44 = some (.bipush 8, 46, 0, .int (8)) := by decide +kernel
theorem k99_46 : mm_at 99 46 = some (.if_icmp .ge 32, 49, 78, .null) := by decide +kernel
theorem k99_49 : mm_at 99 49 = some (.aload_n 0, 50, 0, .null) := by decide +kernel
theorem k99_50 : mm_at 99 50 = some (.iload 5, 52, 5, .null) := by decide +kernel
theorem k99_52 : mm_at 99 52 = some (.iload_n 2, 53, 2, .null) := by decide +kernel
theorem k99_53 : mm_at 99 53 = some (.invokevirtual 260, 56, 208, .null) := by decide +kernel
theorem k99_56 : mm_at 99 56 = some (.istore 6, 58, 6, .null) := by decide +kernel
theorem k99_58 : mm_at 99 58 = some (.iload 6, 60, 6, .null) := by decide +kernel
theorem k99_60 : mm_at 99 60 = some (.iload 4, 62, 4, .null) := by decide +kernel
theorem k99_62 : mm_at 99 62 = some (.if_icmp .le 10, 65, 72, .null) := by decide +kernel
theorem k99_65 : mm_at 99 65 = some (.iload 6, 67, 6, .null) := by decide +kernel
theorem k99_67 : mm_at 99 67 = some (.istore 4, 69, 4, .null) := by decide +kernel
theorem k99_69 : mm_at 99 69 = some (.iload 5, 71, 5, .null) := by decide +kernel
theorem k99_71 : mm_at 99 71 = some (.istore_n 3, 72, 3, .null) := by decide +kernel
theorem k99_72 : mm_at 99 72 = some (.iinc 5 1, 75, 5, .int (1)) := by decide +kernel
theorem k99_75 : mm_at 99 75 = some (.goto (-33), 78, 42, .null) := by decide +kernel
theorem k99_78 : mm_at 99 78 = some (.iload_n 1, 79, 1, .null) := by decide +kernel
theorem k99_79 : mm_at 99 79 = some (.ifCond .ne 7, 82, 86, .null) := by decide +kernel
theorem k99_82 : mm_at 99 82 = some (.iload_n 3, 83, 3, .null) := by decide +kernel
theorem k99_83 : mm_at 99 83 = some (.goto 5, 86, 88, .null) := by decide +kernel
theorem k99_86 : mm_at 99 86 = some (.iload 4, 88, 4, .null) := by decide +kernel
theorem k99_88 : mm_at 99 88 = some (.ireturn, 89, 0, .null) := by decide +kernel
theorem k100_0 : mm_at 100 0 = some (.aload_n 0, 1, 0, .null) := by decide +kernel
theorem k100_1 : mm_at 100 1 = some (.iload_n 1, 2, 1, .null) := by decide +kernel
theorem k100_2 : mm_at 100 2 = some (.invokevirtual 138, 5, 183, .null) := by decide +kernel
theorem k100_5 : mm_at 100 5 = some (.ifCond .eq 11, 8, 16, .null) := by decide +kernel
theorem k100_8 : mm_at 100 8 = some (.aload_n 0, 9, 0, .null) := by decide +kernel
theorem k100_9 : mm_at 100 9 = some (.iload_n 2, 10, 2, .null) := by decide +kernel
theorem k100_10 : mm_at 100 10 = some (.invokevirtual 99, 13, 176, .null) := by decide +kernel
theorem k100_13 : mm_at 100 13 = some (.ifCond .ne 10, 16, 23, .null) := by decide +kernel
theorem k100_16 : mm_at 100 16 = some (.aload_n 0, 17, 0, .null) := by decide +kernel
theorem k100_17 : mm_at 100 17 = some (.ldc 85, 19, 0, .int (-1000000001)) := by decide +kernel
theorem k100_19 : mm_at 100 19 = some (.invokevirtual 86, 22, 174, .null) := by decide +kernel
theorem k100_22 : mm_at 100 22 = some (.ireturn, 23, 0, .null) := by decide +kernel
theorem k100_23 : mm_at 100 23 = some (.aload_n 0, 24, 0, .null) := by decide +kernel
theorem k100_24 : mm_at 100 24 = some (.getfield 54, 27, 1103, .null) := by decide +kernel
theorem k100_27 : mm_at 100 27 = some (.aload_n 0, 28, 0, .null) := by decide +kernel
theorem k100_28 : mm_at 100 28 = some (.getfield 50, 31, 1102, .null) := by decide +kernel
theorem k100_31 : mm_at 100 31 = some (.invokevirtual 231, 34, 201, .null) := by decide +kernel
theorem k100_34 : mm_at 100 34 = some (.iconst 0, 35, 0, .int (0)) := by decide +kernel
theorem k100_35 : mm_at 100 35 = some (.istore_n 3, 36, 3, .null) := by decide +kernel
theorem k100_36 : mm_at 100 36 = some (.iload_n 3, 37, 3, .null) := by decide +kernel
theorem k100_37 : mm_at 100 37 = some (.bipush 99, 39, 0, .int (99)) := by decide +kernel
theorem k100_39 : mm_at 100 39 = some (.if_icmp .gt 41, 42, 80, .null) := by decide +kernel
theorem k100_42 : mm_at 100 42 = some (.aload_n 0, 43, 0, .null) := by decide +kernel
theorem k100_43 : mm_at 100 43 = some (.getfield 54, 46, 1103, .null) := by decide +kernel
theorem k100_46 : mm_at 100 46 = some (.getfield 141, 49, 408, .null) := by decide +kernel
theorem k100_49 : mm_at 100 49 = some (.iload_n 1, 50, 1, .null) := by decide +kernel
theorem k100_50 : mm_at 100 50 = some (.iload_n 3, 51, 3, .null) := by decide +kernel
theorem k100_51 : mm_at 100 51 = some (.iastore, 52, 0, .null) := by decide +kernel
theorem k100_52 : mm_at 100 52 = some (.aload_n 0, 53, 0, .null) := by decide +kernel
theorem k100_53 : mm_at 100 53 = some (.getfield 54, 56, 1103, .null) := by decide +kernel
theorem k100_56 : mm_at 100 56 = some (.invokevirtual 211, 59, 197, .null) := by decide +kernel
theorem k100_59 : mm_at 100 59 = some (.aload_n 0, 60, 0, .null) := by decide +kernel
theorem k100_60 : mm_at 100 60 = some (.getfield 54, 63, 1103, .null) := by decide +kernel
theorem k100_63 : mm_at 100 63 = some (.getfield 147, 66, 410, .null) := by decide +kernel
theorem k100_66 : mm_at 100 66 = some (.iload_n 1, 67, 1, .null) := by decide +kernel
theorem k100_67 : mm_at 100 67 = some (.iaload, 68, 0, .null) := by decide +kernel
theorem k100_68 : mm_at 100 68 = some (.iload_n 2, 69, 2, .null) := by decide +kernel
theorem k100_69 : mm_at 100 69 = some (.if_icmp .ne 5, 72, 74, .null) := by decide +kernel
theorem k100_72 : mm_at 100 72 = some (.iload_n 3, 73, 3, .null) := by decide +kernel
theorem k100_73 : mm_at 100 73 = some (.ireturn, 74, 0, .null) := by decide +kernel
theorem k100_74 : mm_at 100 74 = some (.iinc 3 1, 77, 3, .int (1)) := by decide +kernel
theorem k100_77 : mm_at 100 77 = some (.goto (-41), 80, 36, .null) := by decide +kernel
theorem k100_80 : mm_at 100 80 = some (.aload_n 0, 81, 0, .null) := by decide +kernel
theorem k100_81 : mm_at 100 81 = some (.ldc 237, 83, 0, .int (-1000000002)) := by decide +kernel
theorem k100_83 : mm_at 100 83 = some (.invokevirtual 86, 86, 174, .null) := by decide +kernel
theorem k100_86 : mm_at 100 86 = some (.ireturn, 87, 0, .null) := by decide +kernel
theorem k101_0 : mm_at 101 0 = some (.aload_n 0, 1, 0, .null) := by decide +kernel
theorem k101_1 : mm_at 101 1 = some (.getfield 54, 4, 1103, .null) := by decide +kernel
theorem k101_4 : mm_at 101 4 = some (.aload_n 0, 5, 0, .null) := by decide +kernel
theorem k101_5 : mm_at 101 5 = some (.getfield 50, 8, 1102, .null) := by decide +kernel
theorem k101_8 : mm_at 101 8 = some (.invokevirtual 231, 11, 201, .null) := by decide +kernel
theorem k101_11 : mm_at 101 11 = some (.aload_n 0, 12, 0, .null) := by decide +kernel
theorem k101_12 : mm_at 101 12 = some (.getfield 54, 15, 1103, .null) := by decide +kernel
theorem k101_15 : mm_at 101 15 = some (.invokevirtual 211, 18, 197, .null) := by decide +kernel
theorem k101_18 : mm_at 101 18 = some (.iconst 0, 19, 0, .int (0)) := by decide +kernel
theorem k101_19 : mm_at 101 19 = some (.istore_n 1, 20, 1, .null) := by decide +kernel
theorem k101_20 : mm_at 101 20 = some (.iconst 0, 21, 0, .int (0)) := by decide +kernel
theorem k101_21 : mm_at 101 21 = some (.istore_n 2, 22, 2, .null) := by decide +kernel
theorem k101_22 : mm_at 101 22 = some (.iload_n 2, 23, 2, .null) := by decide +kernel
theorem k101_23 : mm_at 101 23 = some (.aload_n 0, 24, 0, .null) := by decide +kernel
theorem k101_24 : mm_at 101 24 = some (.getfield 54, 27, 1103, .null) := by decide +kernel
theorem k101_27 : mm_at 101 27 = some (.getfield 132, 30, 407, .null) := by decide +kernel
theorem k101_30 : mm_at 101 30 = some (.if_icmp .ge 28, 33, 58, .null) := by decide +kernel
theorem k101_33 : mm_at 101 33 = some (.aload_n 0, 34, 0, .null) := by decide +kernel
theorem k101_34 : mm_at 101 34 = some (.getfield 54, 37, 1103, .null) := by decide +kernel
theorem k101_37 : mm_at 101 37 = some (.getfield 147, 40, 410, .null) := by decide +kernel
theorem k101_40 : mm_at 101 40 = some (.iload_n 2, 41, 2, .null) := by decide +kernel
theorem k101_41 : mm_at 101 41 = some (.iaload, 42, 0, .null) := by decide +kernel
theorem k101_42 : mm_at 101 42 = some (.iconst (-1), 43, 0, .int (-1)) := by decide +kernel
theorem k101_43 : mm_at 101 43 = some (.if_icmp .ne 9, 46, 52, .null) := by decide +kernel
theorem k101_46 : mm_at 101 46 = some (.iload_n 1, 47, 1, .null) := by decide +kernel
theorem k101_47 : mm_at 101 47 = some (.iconst 1, 48, 0, .int (1)) := by decide +kernel
theorem k101_48 : mm_at 101 48 = some (.iload_n 2, 49, 2, .null) := by decide +kernel
theorem k101_49 : mm_at 101 49 = some (.ishl, 50, 0, .null) := by decide +kernel
theorem k101_50 : mm_at 101 50 = some (.ior, 51, 0, .null) := by decide +kernel
theorem k101_51 : mm_at 101 51 = some (.istore_n 1, 52, 1, .null) := by decide +kernel
theorem k101_52 : mm_at 101 52 = some (.iinc 2 1, 55, 2, .int (1)) := by decide +kernel
theorem k101_55 : mm_at 101 55 = some (.goto (-33), 58, 22, .null) := by decide +kernel
theorem k101_58 : mm_at 101 58 = some (.iload_n 1, 59, 1, .null) := by decide +kernel
theorem k101_59 : mm_at 101 59 = some (.ireturn, 60, 0, .null) := by decide +kernel
theorem k102_0 : mm_at 102 0 = some (.aload_n 0, 1, 0, .null) := by decide +kernel
theorem k102_1 : mm_at 102 1 = some (.getfield 50, 4, 1102, .null) := by decide +kernel
theorem k102_4 : mm_at 102 4 = some (.getfield 263, 7, 417, .null) := by decide +kernel
theorem k102_7 : mm_at 102 7 = some (.istore_n 2, 8, 2, .null) := by decide +kernel
theorem k102_8 : mm_at 102 8 = some (.aload_n 0, 9, 0, .null) := by decide +kernel
theorem k102_9 : mm_at 102 9 = some (.getfield 50, 12, 1102, .null) := by decide +kernel
theorem k102_12 : mm_at 102 12 = some (.iload_n 1, 13, 1, .null) := by decide +kernel
theorem k102_13 : mm_at 102 13 = some (.putfield 263, 16, 417, .null) := by decide +kernel
theorem k102_16 : mm_at 102 16 = some (.iload_n 2, 17, 2, .null) := by decide +kernel
theorem k102_17 : mm_at 102 17 = some (.ireturn, 18, 0, .null) := by decide +kernel
theorem k103_0 : mm_at 103 0 = some (.aload_n 0, 1, 0, .null) := by decide +kernel
theorem k103_1 : mm_at 103 1 = some (.iload_n 1, 2, 1, .null) := by decide +kernel
theorem k103_2 : mm_at 103 2 = some (.invokevirtual 99, 5, 176, .null) := by decide +kernel
theorem k103_5 : mm_at 103 5 = some (.ifCond .eq 12, 8, 17, .null) := by decide +kernel
theorem k103_8 : mm_at 103 8 = some (.iload_n 2, 9, 2, .null) := by decide +kernel
theorem k103_9 : mm_at 103 9 = some (.iconst 0, 10, 0, .int (0)) := by decide +kernel
theorem k103_10 : mm_at 103 10 = some (.iconst 3, 11, 0, .int (3)) := by decide +kernel
theorem k103_11 : mm_at 103 11 = some (.invokestatic 120, 14, 179, .null) := by decide +kernel
theorem k103_14 : mm_at 103 14 = some (.ifCond .ne 10, 17, 24, .null) := by decide +kernel
theorem k103_17 : mm_at 103 17 = some (.aload_n 0, 18, 0, .null) := by decide +kernel
theorem k103_18 : mm_at 103 18 = some (.ldc 85, 20, 0, .int (-1000000001)) := by decide +kernel
theorem k103_20 : mm_at 103 20 = some (.invokevirtual 86, 23, 174, .null) := by decide +kernel
theorem k103_23 : mm_at 103 23 = some (.ireturn, 24, 0, .null) := by decide +kernel
theorem k103_24 : mm_at 103 24 = some (.aload_n 0, 25, 0, .null) := by decide +kernel
theorem k103_25 : mm_at 103 25 = some (.getfield 14, 28, 1100, .null) := by decide +kernel
theorem k103_28 : mm_at 103 28 = some (.invokevirtual 175, 31, 188, .null) := by decide +kernel
theorem k103_31 : mm_at 103 31 = some (.aload_n 0, 32, 0, .null) := by decide +kernel
theorem k103_32 : mm_at 103 32 = some (.getfield 50, 35, 1102, .null) := by decide +kernel
theorem k103_35 : mm_at 103 35 = some (.iload_n 1, 36, 1, .null) := by decide +kernel
theorem k103_36 : mm_at 103 36 = some (.invokevirtual 266, 39, 209, .null) := by decide +kernel
theorem k103_39 : mm_at 103 39 = some (.astore 4, 41, 4, .null) := by decide +kernel
theorem k103_41 : mm_at 103 41 = some (.aload_n 0, 42, 0, .null) := by decide +kernel
theorem k103_42 : mm_at 103 42 = some (.getfield 50, 45, 1102, .null) := by decide +kernel
theorem k103_45 : mm_at 103 45 = some (.getfield 105, 48, 403, .null) := by decide +kernel
theorem k103_48 : mm_at 103 48 = some (.iload_n 1, 49, 1, .null) := by decide +kernel
theorem k103_49 : mm_at 103 49 = some (.iaload, 50, 0, .null) := by decide +kernel
theorem k103_50 : mm_at 103 50 = some (.istore 5, 52, 5, .null) := by decide +kernel
theorem k103_52 : mm_at 103 52 = some (.iload_n 2, 53, 2, .null) := by decide +kernel
theorem k103_53 : mm_at 103 53 = some (.tableswitch 57 0 2 #[27, 37, 47], 80, 0, .null) := by decide +kernel
theorem k103_80 : mm_at 103 80 = some (.aload 4, 82, 4, .null) := by decide +kernel
theorem k103_82 : mm_at 103 82 = some (.iload_n 1, 83, 1, .null) := by decide +kernel
theorem k103_83 : mm_at 103 83 = some (.iload 5, 85, 5, .null) := by decide +kernel
theorem k103_85 : mm_at 103 85 = some (.iload_n 3, 86, 3, .null) := by decide +kernel
theorem k103_86 : mm_at 103 86 = some (.invokevirtual 270, 89, 210, .null) := by decide +kernel
theorem k103_89 : mm_at 103 89 = some (.ireturn, 90, 0, .null) := by decide +kernel
theorem k103_90 : mm_at 103 90 = some (.aload 4, 92, 4, .null) := by decide +kernel
theorem k103_92 : mm_at 103 92 = some (.iload_n 1, 93, 1, .null) := by decide +kernel
theorem k103_93 : mm_at 103 93 = some (.iload 5, 95, 5, .null) := by decide +kernel
theorem k103_95 : mm_at 103 95 = some (.iload_n 3, 96, 3, .null) := by decide +kernel
theorem k103_96 : mm_at 103 96 = some (.invokevirtual 273, 99, 211, .null) := by decide +kernel
theorem k103_99 : mm_at 103 99 = some (.ireturn, 100, 0, .null) := by decide +kernel
theorem k103_100 : mm_at 103 100 = some (.aload 4, 102, 4, .null) := by decide +kernel
theorem k103_102 : mm_at 103 102 = some (.iload_n 1, 103, 1, .null) := by decide +kernel
theorem k103_103 : mm_at 103 103 = some (.iload 5, 105, 5, .null) := by decide +kernel
theorem k103_105 : mm_at 103 105 = some (.iload_n 3, 106, 3, .null) := by decide +kernel
theorem k103_106 : mm_at 103 106 = some (.invokevirtual 276, 109, 212, .null) := by decide +kernel
theorem k103_109 : mm_at 103 109 = some (.ireturn, 110, 0, .null) := by decide +kernel
theorem k103_110 : mm_at 103 110 = some (.aload 4, 112, 4, .null) := by decide +kernel
theorem k103_112 : mm_at 103 112 = some (.iload_n 1, 113, 1, .null) := by decide +kernel
theorem k103_113 : mm_at 103 113 = some (.iload 5, 115, 5, .null) := by decide +kernel
theorem k103_115 : mm_at 103 115 = some (.iload_n 3, 116, 3, .null) := by decide +kernel
theorem k103_116 : mm_at 103 116 = some (.invokevirtual 279, 119, 213, .null) := by decide +kernel
theorem k103_119 : mm_at 103 119 = some (.ireturn, 120, 0, .null) := by decide +kernel
theorem k104_0 : mm_at 104 0 = some (.aload_n 0, 1, 0, .null) := by decide +kernel
theorem k104_1 : mm_at 104 1 = some (.getfield 14, 4, 1100, .null) := by decide +kernel
theorem k104_4 : mm_at 104 4 = some (.iload_n 1, 5, 1, .null) := by decide +kernel
theorem k104_5 : mm_at 104 5 = some (.invokevirtual 282, 8, 214, .null) := by decide +kernel
theorem k104_8 : mm_at 104 8 = some (.ifCond .eq 14, 11, 22, .null) := by decide +kernel
theorem k104_11 : mm_at 104 11 = some (.aload_n 0, 12, 0, .null) := by decide +kernel
theorem k104_12 : mm_at 104 12 = some (.getfield 14, 15, 1100, .null) := by decide +kernel
theorem k104_15 : mm_at 104 15 = some (.iload_n 1, 16, 1, .null) := by decide +kernel
theorem k104_16 : mm_at 104 16 = some (.invokevirtual 285, 19, 215, .null) := by decide +kernel
theorem k104_19 : mm_at 104 19 = some (.goto 9, 22, 28, .null) := by decide +kernel
theorem k104_22 : mm_at 104 22 = some (.aload_n 0, 23, 0, .null) := by decide +kernel
theorem k104_23 : mm_at 104 23 = some (.ldc 237, 25, 0, .int (-1000000002)) := by decide +kernel
theorem k104_25 : mm_at 104 25 = some (.invokevirtual 86, 28, 174, .null) := by decide +kernel
theorem k104_28 : mm_at 104 28 = some (.ireturn, 29, 0, .null) := by decide +kernel
theorem k105_0 : mm_at 105 0 = some (.iload_n 1, 1, 1, .null) := by decide +kernel
theorem k105_1 : mm_at 105 1 = some (.invokestatic 250, 4, 206, .null) := by decide +kernel
theorem k105_4 : mm_at 105 4 = some (.ifCond .eq 10, 7, 14, .null) := by decide +kernel
theorem k105_7 : mm_at 105 7 = some (.iload_n 2, 8, 2, .null) := by decide +kernel
theorem k105_8 : mm_at 105 8 = some (.invokestatic 288, 11, 216, .null) := by decide +kernel
theorem k105_11 : mm_at 105 11 = some (.ifCond .ne 10, 14, 21, .null) := by decide +kernel
theorem k105_14 : mm_at 105 14 = some (.aload_n 0, 15, 0, .null) := by decide +kernel
theorem k105_15 : mm_at 105 15 = some (.ldc 85, 17, 0, .int (-1000000001)) := by decide +kernel
theorem k105_17 : mm_at 105 17 = some (.invokevirtual 86, 20, 174, .null) := by decide +kernel
theorem k105_20 : mm_at 105 20 = some (.ireturn, 21, 0, .null) := by decide +kernel
theorem k105_21 : mm_at 105 21 = some (.iload_n 2, 22, 2, .null) := by decide +kernel
theorem k105_22 : mm_at 105 22 = some (.ifCond .eq 14, 25, 36, .null) := by decide +kernel
theorem k105_25 : mm_at 105 25 = some (.iload_n 3, 26, 3, .null) := by decide +kernel
theorem k105_26 : mm_at 105 26 = some (.ifCond .ge 10, 29, 36, .null) := by decide +kernel
theorem k105_29 : mm_at 105 29 = some (.aload_n 0, 30, 0, .null) := by decide +kernel
theorem k105_30 : mm_at 105 30 = some (.ldc 153, 32, 0, .int (-1000000003)) := by decide +kernel
theorem k105_32 : mm_at 105 32 = some (.invokevirtual 86, 35, 174, .null) := by decide +kernel
theorem k105_35 : mm_at 105 35 = some (.ireturn, 36, 0, .null) := by decide +kernel
theorem k105_36 : mm_at 105 36 = some (.iload_n 2, 37, 2, .null) := by decide +kernel
theorem k105_37 : mm_at 105 37 = some (.ifCond .eq 16, 40, 53, .null) := by decide +kernel
theorem k105_40 : mm_at 105 40 = some (.iload_n 3, 41, 3, .null) := by decide +kernel
theorem k105_41 : mm_at 105 41 = some (.bipush 40, 43, 0, .int (40)) := by decide +kernel
theorem k105_43 : mm_at 105 43 = some (.if_icmp .le 10, 46, 53, .null) := by decide +kernel
theorem k105_46 : mm_at 105 46 = some (.aload_n 0, 47, 0, .null) := by decide +kernel
theorem k105_47 : mm_at 105 47 = some (.ldc 85, 49, 0, .int (-1000000001)) := by decide +kernel
theorem k105_49 : mm_at 105 49 = some (.invokevirtual 86, 52, 174, .null) := by decide +kernel
theorem k105_52 : mm_at 105 52 = some (.ireturn, 53, 0, .null) := by decide +kernel
theorem k105_53 : mm_at 105 53 = some (.aload_n 0, 54, 0, .null) := by decide +kernel
theorem k105_54 : mm_at 105 54 = some (.getfield 67, 57, 1106, .null) := by decide +kernel
theorem k105_57 : mm_at 105 57 = some (.iload_n 1, 58, 1, .null) := by decide +kernel
theorem k105_58 : mm_at 105 58 = some (.aaload, 59, 0, .null) := by decide +kernel
theorem k105_59 : mm_at 105 59 = some (.iload_n 2, 60, 2, .null) := by decide +kernel
theorem k105_60 : mm_at 105 60 = some (.iload_n 2, 61, 2, .null) := by decide +kernel
theorem k105_61 : mm_at 105 61 = some (.ifCond .ne 7, 64, 68, .null) := by decide +kernel
theorem k105_64 : mm_at 105 64 = some (.iconst 0, 65, 0, .int (0)) := by decide +kernel
theorem k105_65 : mm_at 105 65 = some (.goto 4, 68, 69, .null) := by decide +kernel
theorem k105_68 : mm_at 105 68 = some (.iload_n 3, 69, 3, .null) := by decide +kernel
theorem k105_69 : mm_at 105 69 = some (.invokevirtual 291, 72, 217, .null) := by decide +kernel
theorem k105_72 : mm_at 105 72 = some (.iconst 1, 73, 0, .int (1)) := by decide +kernel
theorem k105_73 : mm_at 105 73 = some (.ireturn, 74, 0, .null) := by decide +kernel
theorem k106_0 : mm_at 106 0 = some (.iload_n 1, 1, 1, .null) := by decide +kernel
theorem k106_1 : mm_at 106 1 = some (.invokestatic 250, 4, 206, .null) := by decide +kernel
theorem k106_4 : mm_at 106 4 = some (.ifCond .ne 10, 7, 14, .null) := by decide +kernel
theorem k106_7 : mm_at 106 7 = some (.aload_n 0, 8, 0, .null) := by decide +kernel
theorem k106_8 : mm_at 106 8 = some (.ldc 85, 10, 0, .int (-1000000001)) := by decide +kernel
theorem k106_10 : mm_at 106 10 = some (.invokevirtual 86, 13, 174, .null) := by decide +kernel
theorem k106_13 : mm_at 106 13 = some (.ireturn, 14, 0, .null) := by decide +kernel
theorem k106_14 : mm_at 106 14 = some (.aload_n 0, 15, 0, .null) := by decide +kernel
theorem k106_15 : mm_at 106 15 = some (.iload_n 1, 16, 1, .null) := by decide +kernel
theorem k106_16 : mm_at 106 16 = some (.invokevirtual 294, 19, 218, .null) := by decide +kernel
theorem k106_19 : mm_at 106 19 = some (.ifCond .eq 10, 22, 29, .null) := by decide +kernel
theorem k106_22 : mm_at 106 22 = some (.aload_n 0, 23, 0, .null) := by decide +kernel
theorem k106_23 : mm_at 106 23 = some (.ldc 237, 25, 0, .int (-1000000002)) := by decide +kernel
theorem k106_25 : mm_at 106 25 = some (.invokevirtual 86, 28, 174, .null) := by decide +kernel
theorem k106_28 : mm_at 106 28 = some (.ireturn, 29, 0, .null) := by decide +kernel
theorem k106_29 : mm_at 106 29 = some (.aload_n 0, 30, 0, .null) := by decide +kernel
theorem k106_30 : mm_at 106 30 = some (.getfield 67, 33, 1106, .null) := by decide +kernel
theorem k106_33 : mm_at 106 33 = some (.iload_n 1, 34, 1, .null) := by decide +kernel
theorem k106_34 : mm_at 106 34 = some (.aaload, 35, 0, .null) := by decide +kernel
theorem k106_35 : mm_at 106 35 = some (.iload_n 2, 36, 2, .null) := by decide +kernel
theorem k106_36 : mm_at 106 36 = some (.invokevirtual 282, 39, 214, .null) := by decide +kernel
theorem k106_39 : mm_at 106 39 = some (.ifCond .ne 10, 42, 49, .null) := by decide +kernel
theorem k106_42 : mm_at 106 42 = some (.aload_n 0, 43, 0, .null) := by decide +kernel
theorem k106_43 : mm_at 106 43 = some (.ldc 85, 45, 0, .int (-1000000001)) := by decide +kernel
theorem k106_45 : mm_at 106 45 = some (.invokevirtual 86, 48, 174, .null) := by decide +kernel
theorem k106_48 : mm_at 106 48 = some (.ireturn, 49, 0, .null) := by decide +kernel
theorem k106_49 : mm_at 106 49 = some (.aload_n 0, 50, 0, .null) := by decide +kernel
theorem k106_50 : mm_at 106 50 = some (.getfield 67, 53, 1106, .null) := by decide +kernel
theorem k106_53 : mm_at 106 53 = some (.iload_n 1, 54, 1, .null) := by decide +kernel
theorem k106_54 : mm_at 106 54 = some (.aaload, 55, 0, .null) := by decide +kernel
theorem k106_55 : mm_at 106 55 = some (.iload_n 2, 56, 2, .null) := by decide +kernel
theorem k106_56 : mm_at 106 56 = some (.iload_n 3, 57, 3, .null) := by decide +kernel
theorem k106_57 : mm_at 106 57 = some (.invokevirtual 297, 60, 219, .null) := by decide +kernel
theorem k106_60 : mm_at 106 60 = some (.iconst 1, 61, 0, .int (1)) := by decide +kernel
theorem k106_61 : mm_at 106 61 = some (.ireturn, 62, 0, .null) := by decide +kernel
theorem k107_0 : mm_at 107 0 = some (.iload_n 1, 1, 1, .null) := by decide +kernel
theorem k107_1 : mm_at 107 1 = some (.invokestatic 250, 4, 206, .null) := by decide +kernel
theorem k107_4 : mm_at 107 4 = some (.ifCond .eq 10, 7, 14, .null) := by decide +kernel
theorem k107_7 : mm_at 107 7 = some (.iload_n 3, 8, 3, .null) := by decide +kernel
theorem k107_8 : mm_at 107 8 = some (.invokestatic 250, 11, 206, .null) := by decide +kernel
theorem k107_11 : mm_at 107 11 = some (.ifCond .ne 10, 14, 21, .null) := by decide +kernel
theorem k107_14 : mm_at 107 14 = some (.aload_n 0, 15, 0, .null) := by decide +kernel
theorem k107_15 : mm_at 107 15 = some (.ldc 85, 17, 0, .int (-1000000001)) := by decide +kernel
theorem k107_17 : mm_at 107 17 = some (.invokevirtual 86, 20, 174, .null) := by decide +kernel
theorem k107_20 : mm_at 107 20 = some (.ireturn, 21, 0, .null) := by decide +kernel
theorem k107_21 : mm_at 107 21 = some (.aload_n 0, 22, 0, .null) := by decide +kernel
theorem k107_22 : mm_at 107 22 = some (.iload_n 1, 23, 1, .null) := by decide +kernel
theorem k107_23 : mm_at 107 23 = some (.invokevirtual 294, 26, 218, .null) := by decide +kernel
theorem k107_26 : mm_at 107 26 = some (.ifCond .ne 11, 29, 37, .null) := by decide +kernel
theorem k107_29 : mm_at 107 29 = some (.aload_n 0, 30, 0, .null) := by decide +kernel
theorem k107_30 : mm_at 107 30 = some (.iload_n 3, 31, 3, .null) := by decide +kernel
theorem k107_31 : mm_at 107 31 = some (.invokevirtual 294, 34, 218, .null) := by decide +kernel
theorem k107_34 : mm_at 107 34 = some (.ifCond .eq 10, 37, 44, .null) := by decide +kernel
theorem k107_37 : mm_at 107 37 = some (.aload_n 0, 38, 0, .null) := by decide +kernel
theorem k107_38 : mm_at 107 38 = some (.ldc 237, 40, 0, .int (-1000000002)) := by decide +kernel
theorem k107_40 : mm_at 107 40 = some (.invokevirtual 86, 43, 174, .null) := by decide +kernel
theorem k107_43 : mm_at 107 43 = some (.ireturn, 44, 0, .null) := by decide +kernel
theorem k107_44 : mm_at 107 44 = some (.aload_n 0, 45, 0, .null) := by decide +kernel
theorem k107_45 : mm_at 107 45 = some (.getfield 67, 48, 1106, .null) := by decide +kernel
theorem k107_48 : mm_at 107 48 = some (.iload_n 1, 49, 1, .null) := by decide +kernel
theorem k107_49 : mm_at 107 49 = some (.aaload, 50, 0, .null) := by decide +kernel
theorem k107_50 : mm_at 107 50 = some (.astore 6, 52, 6, .null) := by decide +kernel
theorem k107_52 : mm_at 107 52 = some (.aload_n 0, 53, 0, .null) := by decide +kernel
theorem k107_53 : mm_at 107 53 = some (.getfield 67, 56, 1106, .null) := by decide +kernel
theorem k107_56 : mm_at 107 56 = some (.iload_n 3, 57, 3, .null) := by decide +kernel
theorem k107_57 : mm_at 107 57 = some (.aaload, 58, 0, .null) := by decide +kernel
theorem k107_58 : mm_at 107 58 = some (.astore 7, 60, 7, .null) := by decide +kernel
theorem k107_60 : mm_at 107 60 = some (.aload 6, 62, 6, .null) := by decide +kernel
theorem k107_62 : mm_at 107 62 = some (.getfield 253, 65, 701, .null) := by decide +kernel
theorem k107_65 : mm_at 107 65 = some (.aload 7, 67, 7, .null) := by decide +kernel
theorem k107_67 : mm_at 107 67 = some (.getfield 253, 70, 701, .null) := by decide +kernel
theorem k107_70 : mm_at 107 70 = some (.if_icmp .eq 10, 73, 80, .null) := by decide +kernel
theorem k107_73 : mm_at 107 73 = some (.aload_n 0, 74, 0, .null) := by decide +kernel
theorem k107_74 : mm_at 107 74 = some (.ldc 128, 76, 0, .int (-1000000005)) := by decide +kernel
theorem k107_76 : mm_at 107 76 = some (.invokevirtual 86, 79, 174, .null) := by decide +kernel
theorem k107_79 : mm_at 107 79 = some (.ireturn, 80, 0, .null) := by decide +kernel
theorem k107_80 : mm_at 107 80 = some (.aload 6, 82, 6, .null) := by decide +kernel
theorem k107_82 : mm_at 107 82 = some (.iload_n 2, 83, 2, .null) := by decide +kernel
theorem k107_83 : mm_at 107 83 = some (.iload 5, 85, 5, .null) := by decide +kernel
theorem k107_85 : mm_at 107 85 = some (.invokevirtual 300, 88, 220, .null) := by decide +kernel
theorem k107_88 : mm_at 107 88 = some (.ifCond .eq 15, 91, 103, .null) := by decide +kernel
theorem k107_91 : mm_at 107 91 = some (.aload 7, 93, 7, .null) := by decide +kernel
theorem k107_93 : mm_at 107 93 = some (.iload 4, 95, 4, .null) := by decide +kernel
theorem k107_95 : mm_at 107 95 = some (.iload 5, 97, 5, .null) := by decide +kernel
theorem k107_97 : mm_at 107 97 = some (.invokevirtual 300, 100, 220, .null) := by decide +kernel
theorem k107_100 : mm_at 107 100 = some (.ifCond .ne 10, 103, 110, .null) := by decide +kernel
theorem k107_103 : mm_at 107 103 = some (.aload_n 0, 104, 0, .null) := by decide +kernel
theorem k107_104 : mm_at 107 104 = some (.ldc 85, 106, 0, .int (-1000000001)) := by decide +kernel
theorem k107_106 : mm_at 107 106 = some (.invokevirtual 86, 109, 174, .null) := by decide +kernel
theorem k107_109 : mm_at 107 109 = some (.ireturn, 110, 0, .null) := by decide +kernel
theorem k107_110 : mm_at 107 110 = some (.aload 7, 112, 7, .null) := by decide +kernel
theorem k107_112 : mm_at 107 112 = some (.aload 6, 114, 6, .null) := by decide +kernel
theorem k107_114 : mm_at 107 114 = some (.iload_n 2, 115, 2, .null) := by decide +kernel
theorem k107_115 : mm_at 107 115 = some (.iload 4, 117, 4, .null) := by decide +kernel
theorem k107_117 : mm_at 107 117 = some (.iload 5, 119, 5, .null) := by decide +kernel
theorem k107_119 : mm_at 107 119 = some (.invokevirtual 303, 122, 221, .null) := by decide +kernel
theorem k107_122 : mm_at 107 122 = some (.iload 5, 124, 5, .null) := by decide +kernel
theorem k107_124 : mm_at 107 124 = some (.ireturn, 125, 0, .null) := by decide +kernel
theorem k108_0 : mm_at 108 0 = some (.iload_n 1, 1, 1, .null) := by decide +kernel
theorem k108_1 : mm_at 108 1 = some (.invokestatic 250, 4, 206, .null) := by decide +kernel
theorem k108_4 : mm_at 108 4 = some (.ifCond .ne 10, 7, 14, .null) := by decide +kernel
theorem k108_7 : mm_at 108 7 = some (.aload_n 0, 8, 0, .null) := by decide +kernel
theorem k108_8 : mm_at 108 8 = some (.ldc 85, 10, 0, .int (-1000000001)) := by decide +kernel
theorem k108_10 : mm_at 108 10 = some (.invokevirtual 86, 13, 174, .null) := by decide +kernel
theorem k108_13 : mm_at 108 13 = some (.ireturn, 14, 0, .null) := by decide +kernel
theorem k108_14 : mm_at 108 14 = some (.aload_n 0, 15, 0, .null) := by decide +kernel
theorem k108_15 : mm_at 108 15 = some (.iload_n 1, 16, 1, .null) := by decide +kernel
theorem k108_16 : mm_at 108 16 = some (.invokevirtual 294, 19, 218, .null) := by decide +kernel
theorem k108_19 : mm_at 108 19 = some (.ifCond .eq 10, 22, 29, .null) := by decide +kernel
theorem k108_22 : mm_at 108 22 = some (.aload_n 0, 23, 0, .null) := by decide +kernel
theorem k108_23 : mm_at 108 23 = some (.ldc 237, 25, 0, .int (-1000000002)) := by decide +kernel
theorem k108_25 : mm_at 108 25 = some (.invokevirtual 86, 28, 174, .null) := by decide +kernel
theorem k108_28 : mm_at 108 28 = some (.ireturn, 29, 0, .null) := by decide +kernel
theorem k108_29 : mm_at 108 29 = some (.aload_n 0, 30, 0, .null) := by decide +kernel
theorem k108_30 : mm_at 108 30 = some (.getfield 67, 33, 1106, .null) := by decide +kernel
theorem k108_33 : mm_at 108 33 = some (.iload_n 1, 34, 1, .null) := by decide +kernel
theorem k108_34 : mm_at 108 34 = some (.aaload, 35, 0, .null) := by decide +kernel
theorem k108_35 : mm_at 108 35 = some (.astore_n 2, 36, 2, .null) := by decide +kernel
theorem k108_36 : mm_at 108 36 = some (.aload_n 2, 37, 2, .null) := by decide +kernel
theorem k108_37 : mm_at 108 37 = some (.getfield 157, 40, 702, .null) := by decide +kernel
theorem k108_40 : mm_at 108 40 = some (.aload_n 0, 41, 0, .null) := by decide +kernel
theorem k108_41 : mm_at 108 41 = some (.getfield 50, 44, 1102, .null) := by decide +kernel
theorem k108_44 : mm_at 108 44 = some (.getfield 132, 47, 407, .null) := by decide +kernel
theorem k108_47 : mm_at 108 47 = some (.invokestatic 307, 50, 10003, .null) := by decide +kernel
theorem k108_50 : mm_at 108 50 = some (.istore_n 3, 51, 3, .null) := by decide +kernel
theorem k108_51 : mm_at 108 51 = some (.iconst 0, 52, 0, .int (0)) := by decide +kernel
theorem k108_52 : mm_at 108 52 = some (.istore 4, 54, 4, .null) := by decide +kernel
theorem k108_54 : mm_at 108 54 = some (.iload 4, 56, 4, .null) := by decide +kernel
theorem k108_56 : mm_at 108 56 = some (.iload_n 3, 57, 3, .null) := by decide +kernel
theorem k108_57 : mm_at 108 57 = some (.if_icmp .ge 40, 60, 97, .null) := by decide +kernel
theorem k108_60 : mm_at 108 60 = some (.aload_n 2, 61, 2, .null) := by decide +kernel
theorem k108_61 : mm_at 108 61 = some (.iload 4, 63, 4, .null) := by decide +kernel
theorem k108_63 : mm_at 108 63 = some (.invokevirtual 285, 66, 215, .null) := by decide +kernel
theorem k108_66 : mm_at 108 66 = some (.invokestatic 150, 69, 184, .null) := by decide +kernel
theorem k108_69 : mm_at 108 69 = some (.ifCond .ne 6, 72, 75, .null) := by decide +kernel
theorem k108_72 : mm_at 108 72 = some (.iload 4, 74, 4, .null) := by decide +kernel
theorem k108_74 : mm_at 108 74 = some (.ireturn, 75, 0, .null) := by decide +kernel
theorem k108_75 : mm_at 108 75 = some (.aload_n 0, 76, 0, .null) := by decide +kernel
theorem k108_76 : mm_at 108 76 = some (.getfield 50, 79, 1102, .null) := by decide +kernel
theorem k108_79 : mm_at 108 79 = some (.getfield 141, 82, 408, .null) := by decide +kernel
theorem k108_82 : mm_at 108 82 = some (.iload 4, 84, 4, .null) := by decide +kernel
theorem k108_84 : mm_at 108 84 = some (.aload_n 2, 85, 2, .null) := by decide +kernel
theorem k108_85 : mm_at 108 85 = some (.iload 4, 87, 4, .null) := by decide +kernel
theorem k108_87 : mm_at 108 87 = some (.invokevirtual 285, 90, 215, .null) := by decide +kernel
theorem k108_90 : mm_at 108 90 = some (.iastore, 91, 0, .null) := by decide +kernel
theorem k108_91 : mm_at 108 91 = some (.iinc 4 1, 94, 4, .int (1)) := by decide +kernel
theorem k108_94 : mm_at 108 94 = some (.goto (-40), 97, 54, .null) := by decide +kernel
theorem k108_97 : mm_at 108 97 = some (.iload_n 3, 98, 3, .null) := by decide +kernel
theorem k108_98 : mm_at 108 98 = some (.ireturn, 99, 0, .null) := by decide +kernel
theorem k109_0 : mm_at 109 0 = some (.iload_n 1, 1, 1, .null) := by decide +kernel
theorem k109_1 : mm_at 109 1 = some (.invokestatic 250, 4, 206, .null) := by decide +kernel
theorem k109_4 : mm_at 109 4 = some (.ifCond .ne 10, 7, 14, .null) := by decide +kernel
theorem k109_7 : mm_at 109 7 = some (.aload_n 0, 8, 0, .null) := by decide +kernel
theorem k109_8 : mm_at 109 8 = some (.ldc 85, 10, 0, .int (-1000000001)) := by decide +kernel
theorem k109_10 : mm_at 109 10 = some (.invokevirtual 86, 13, 174, .null) := by decide +kernel
theorem k109_13 : mm_at 109 13 = some (.ireturn, 14, 0, .null) := by decide +kernel
theorem k109_14 : mm_at 109 14 = some (.aload_n 0, 15, 0, .null) := by decide +kernel
theorem k109_15 : mm_at 109 15 = some (.iload_n 1, 16, 1, .null) := by decide +kernel
theorem k109_16 : mm_at 109 16 = some (.invokevirtual 294, 19, 218, .null) := by decide +kernel
theorem k109_19 : mm_at 109 19 = some (.ifCond .eq 10, 22, 29, .null) := by decide +kernel
theorem k109_22 : mm_at 109 22 = some (.aload_n 0, 23, 0, .null) := by decide +kernel
theorem k109_23 : mm_at 109 23 = some (.ldc 237, 25, 0, .int (-1000000002)) := by decide +kernel
theorem k109_25 : mm_at 109 25 = some (.invokevirtual 86, 28, 174, .null) := by decide +kernel
theorem k109_28 : mm_at 109 28 = some (.ireturn, 29, 0, .null) := by decide +kernel
theorem k109_29 : mm_at 109 29 = some (.aload_n 0, 30, 0, .null) := by decide +kernel
theorem k109_30 : mm_at 109 30 = some (.getfield 67, 33, 1106, .null) := by decide +kernel
theorem k109_33 : mm_at 109 33 = some (.iload_n 1, 34, 1, .null) := by decide +kernel
theorem k109_34 : mm_at 109 34 = some (.aaload, 35, 0, .null) := by decide +kernel
theorem k109_35 : mm_at 109 35 = some (.astore_n 2, 36, 2, .null) := by decide +kernel
theorem k109_36 : mm_at 109 36 = some (.aload_n 2, 37, 2, .null) := by decide +kernel
theorem k109_37 : mm_at 109 37 = some (.getfield 157, 40, 702, .null) := by decide +kernel
theorem k109_40 : mm_at 109 40 = some (.aload_n 0, 41, 0, .null) := by decide +kernel
theorem k109_41 : mm_at 109 41 = some (.getfield 50, 44, 1102, .null) := by decide +kernel
theorem k109_44 : mm_at 109 44 = some (.getfield 132, 47, 407, .null) := by decide +kernel
theorem k109_47 : mm_at 109 47 = some (.invokestatic 307, 50, 10003, .null) := by decide +kernel
theorem k109_50 : mm_at 109 50 = some (.istore_n 3, 51, 3, .null) := by decide +kernel
theorem k109_51 : mm_at 109 51 = some (.iconst 0, 52, 0, .int (0)) := by decide +kernel
theorem k109_52 : mm_at 109 52 = some (.istore 4, 54, 4, .null) := by decide +kernel
theorem k109_54 : mm_at 109 54 = some (.iload 4, 56, 4, .null) := by decide +kernel
theorem k109_56 : mm_at 109 56 = some (.iload_n 3, 57, 3, .null) := by decide +kernel
theorem k109_57 : mm_at 109 57 = some (.if_icmp .ge 31, 60, 88, .null) := by decide +kernel
theorem k109_60 : mm_at 109 60 = some (.aload_n 2, 61, 2, .null) := by decide +kernel
theorem k109_61 : mm_at 109 61 = some (.iload 4, 63, 4, .null) := by decide +kernel
theorem k109_63 : mm_at 109 63 = some (.invokevirtual 285, 66, 215, .null) := by decide +kernel
theorem k109_66 : mm_at 109 66 = some (.aload_n 0, 67, 0, .null) := by decide +kernel
theorem k109_67 : mm_at 109 67 = some (.getfield 50, 70, 1102, .null) := by decide +kernel
theorem k109_70 : mm_at 109 70 = some (.getfield 147, 73, 410, .null) := by decide +kernel
theorem k109_73 : mm_at 109 73 = some (.iload 4, 75, 4, .null) := by decide +kernel
theorem k109_75 : mm_at 109 75 = some (.iaload, 76, 0, .null) := by decide +kernel
theorem k109_76 : mm_at 109 76 = some (.if_icmp .eq 6, 79, 82, .null) := by decide +kernel
theorem k109_79 : mm_at 109 79 = some (.iload 4, 81, 4, .null) := by decide +kernel
theorem k109_81 : mm_at 109 81 = some (.ireturn, 82, 0, .null) := by decide +kernel
theorem k109_82 : mm_at 109 82 = some (.iinc 4 1, 85, 4, .int (1)) := by decide +kernel
theorem k109_85 : mm_at 109 85 = some (.goto (-31), 88, 54, .null) := by decide +kernel
theorem k109_88 : mm_at 109 88 = some (.aload_n 2, 89, 2, .null) := by decide +kernel
theorem k109_89 : mm_at 109 89 = some (.getfield 157, 92, 702, .null) := by decide +kernel
theorem k109_92 : mm_at 109 92 = some (.aload_n 0, 93, 0, .null) := by decide +kernel
theorem k109_93 : mm_at 109 93 = some (.getfield 50, 96, 1102, .null) := by decide +kernel
theorem k109_96 : mm_at 109 96 = some (.getfield 132, 99, 407, .null) := by decide +kernel
theorem k109_99 : mm_at 109 99 = some (.if_icmp .ne 7, 102, 106, .null) := by decide +kernel
theorem k109_102 : mm_at 109 102 = some (.iconst (-1), 103, 0, .int (-1)) := by decide +kernel
theorem k109_103 : mm_at 109 103 = some (.goto 4, 106, 107, .null) := by decide +kernel
theorem k109_106 : mm_at 109 106 = some (.iload_n 3, 107, 3, .null) := by decide +kernel
theorem k109_107 : mm_at 109 107 = some (.ireturn, 108, 0, .null) := by decide +kernel
theorem k110_0 : mm_at 110 0 = some (.aload_n 0, 1, 0, .null) := by decide +kernel
theorem k110_1 : mm_at 110 1 = some (.getfield 57, 4, 1104, .null) := by decide +kernel
theorem k110_4 : mm_at 110 4 = some (.aload_n 0, 5, 0, .null) := by decide +kernel
theorem k110_5 : mm_at 110 5 = some (.getfield 50, 8, 1102, .null) := by decide +kernel
theorem k110_8 : mm_at 110 8 = some (.invokevirtual 231, 11, 201, .null) := by decide +kernel
theorem k110_11 : mm_at 110 11 = some (.aload_n 0, 12, 0, .null) := by decide +kernel
theorem k110_12 : mm_at 110 12 = some (.dup, 13, 0, .null) := by decide +kernel
theorem k110_13 : mm_at 110 13 = some (.getfield 312, 16, 1109, .null) := by decide +kernel
theorem k110_16 : mm_at 110 16 = some (.iconst 1, 17, 0, .int (1)) := by decide +kernel
theorem k110_17 : mm_at 110 17 = some (.iadd, 18, 0, .null) := by decide +kernel
theorem k110_18 : mm_at 110 18 = some (.putfield 312, 21, 1109, .null) := by decide +kernel
theorem k110_21 : mm_at 110 21 = some (.aload_n 0, 22, 0, .null) := by decide +kernel
theorem k110_22 : mm_at 110 22 = some (.getfield 312, 25, 1109, .null) := by decide +kernel
theorem k110_25 : mm_at 110 25 = some (.ireturn, 26, 0, .null) := by decide +kernel
theorem k111_0 : mm_at 111 0 = some (.aload_n 0, 1, 0, .null) := by decide +kernel
theorem k111_1 : mm_at 111 1 = some (.getfield 312, 4, 1109, .null) := by decide +kernel
theorem k111_4 : mm_at 111 4 = some (.ifCond .ne 10, 7, 14, .null) := by decide +kernel
theorem k111_7 : mm_at 111 7 = some (.aload_n 0, 8, 0, .null) := by decide +kernel
theorem k111_8 : mm_at 111 8 = some (.ldc 237, 10, 0, .int (-1000000002)) := by decide +kernel
theorem k111_10 : mm_at 111 10 = some (.invokevirtual 86, 13, 174, .null) := by decide +kernel
theorem k111_13 : mm_at 111 13 = some (.ireturn, 14, 0, .null) := by decide +kernel
theorem k111_14 : mm_at 111 14 = some (.aload_n 0, 15, 0, .null) := by decide +kernel
theorem k111_15 : mm_at 111 15 = some (.getfield 50, 18, 1102, .null) := by decide +kernel
theorem k111_18 : mm_at 111 18 = some (.aload_n 0, 19, 0, .null) := by decide +kernel
theorem k111_19 : mm_at 111 19 = some (.getfield 57, 22, 1104, .null) := by decide +kernel
theorem k111_22 : mm_at 111 22 = some (.invokevirtual 231, 25, 201, .null) := by decide +kernel
theorem k111_25 : mm_at 111 25 = some (.aload_n 0, 26, 0, .null) := by decide +kernel
theorem k111_26 : mm_at 111 26 = some (.getfield 50, 29, 1102, .null) := by decide +kernel
theorem k111_29 : mm_at 111 29 = some (.getfield 219, 32, 416, .null) := by decide +kernel
theorem k111_32 : mm_at 111 32 = some (.ireturn, 33, 0, .null) := by decide +kernel
theorem k112_0 : mm_at 112 0 = some (.aload_n 0, 1, 0, .null) := by decide +kernel
theorem k112_1 : mm_at 112 1 = some (.getfield 50, 4, 1102, .null) := by decide +kernel
theorem k112_4 : mm_at 112 4 = some (.getfield 315, 7, 414, .null) := by decide +kernel
theorem k112_7 : mm_at 112 7 = some (.getfield 157, 10, 702, .null) := by decide +kernel
theorem k112_10 : mm_at 112 10 = some (.bipush 20, 12, 0, .int (20)) := by decide +kernel
theorem k112_12 : mm_at 112 12 = some (.if_icmp .lt 10, 15, 22, .null) := by decide +kernel
theorem k112_15 : mm_at 112 15 = some (.aload_n 0, 16, 0, .null) := by decide +kernel
theorem k112_16 : mm_at 112 16 = some (.ldc 94, 18, 0, .int (-1000000004)) := by decide +kernel
theorem k112_18 : mm_at 112 18 = some (.invokevirtual 86, 21, 174, .null) := by decide +kernel
theorem k112_21 : mm_at 112 21 = some (.ireturn, 22, 0, .null) := by decide +kernel
theorem k112_22 : mm_at 112 22 = some (.aload_n 0, 23, 0, .null) := by decide +kernel
theorem k112_23 : mm_at 112 23 = some (.getfield 50, 26, 1102, .null) := by decide +kernel
theorem k112_26 : mm_at 112 26 = some (.getfield 315, 29, 414, .null) := by decide +kernel
theorem k112_29 : mm_at 112 29 = some (.iload_n 1, 30, 1, .null) := by decide +kernel
theorem k112_30 : mm_at 112 30 = some (.invokevirtual 160, 33, 185, .null) := by decide +kernel
theorem k112_33 : mm_at 112 33 = some (.aload_n 0, 34, 0, .null) := by decide +kernel
theorem k112_34 : mm_at 112 34 = some (.getfield 50, 37, 1102, .null) := by decide +kernel
theorem k112_37 : mm_at 112 37 = some (.getfield 315, 40, 414, .null) := by decide +kernel
theorem k112_40 : mm_at 112 40 = some (.getfield 157, 43, 702, .null) := by decide +kernel
theorem k112_43 : mm_at 112 43 = some (.ireturn, 44, 0, .null) := by decide +kernel
theorem k113_0 : mm_at 113 0 = some (.aload_n 0, 1, 0, .null) := by decide +kernel
theorem k113_1 : mm_at 113 1 = some (.getfield 54, 4, 1103, .null) := by decide +kernel
theorem k113_4 : mm_at 113 4 = some (.aload_n 0, 5, 0, .null) := by decide +kernel
theorem k113_5 : mm_at 113 5 = some (.getfield 50, 8, 1102, .null) := by decide +kernel
theorem k113_8 : mm_at 113 8 = some (.invokevirtual 231, 11, 201, .null) := by decide +kernel
theorem k113_11 : mm_at 113 11 = some (.aload_n 0, 12, 0, .null) := by decide +kernel
theorem k113_12 : mm_at 113 12 = some (.getfield 50, 15, 1102, .null) := by decide +kernel
theorem k113_15 : mm_at 113 15 = some (.getfield 315, 18, 414, .null) := by decide +kernel
theorem k113_18 : mm_at 113 18 = some (.invokevirtual 175, 21, 188, .null) := by decide +kernel
theorem k113_21 : mm_at 113 21 = some (.iconst 0, 22, 0, .int (0)) := by decide +kernel
theorem k113_22 : mm_at 113 22 = some (.istore_n 1, 23, 1, .null) := by decide +kernel
theorem k113_23 : mm_at 113 23 = some (.iload_n 1, 24, 1, .null) := by decide +kernel
theorem k113_24 : mm_at 113 24 = some (.aload_n 0, 25, 0, .null) := by decide +kernel
theorem k113_25 : mm_at 113 25 = some (.getfield 54, 28, 1103, .null) := by decide +kernel
theorem k113_28 : mm_at 113 28 = some (.getfield 315, 31, 414, .null) := by decide +kernel
theorem k113_31 : mm_at 113 31 = some (.getfield 157, 34, 702, .null) := by decide +kernel
theorem k113_34 : mm_at 113 34 = some (.if_icmp .ge 41, 37, 75, .null) := by decide +kernel
theorem k113_37 : mm_at 113 37 = some (.aload_n 0, 38, 0, .null) := by decide +kernel
theorem k113_38 : mm_at 113 38 = some (.getfield 54, 41, 1103, .null) := by decide +kernel
theorem k113_41 : mm_at 113 41 = some (.invokevirtual 222, 44, 199, .null) := by decide +kernel
theorem k113_44 : mm_at 113 44 = some (.aload_n 0, 45, 0, .null) := by decide +kernel
theorem k113_45 : mm_at 113 45 = some (.getfield 54, 48, 1103, .null) := by decide +kernel
theorem k113_48 : mm_at 113 48 = some (.getfield 225, 51, 415, .null) := by decide +kernel
theorem k113_51 : mm_at 113 51 = some (.aload_n 0, 52, 0, .null) := by decide +kernel
theorem k113_52 : mm_at 113 52 = some (.getfield 54, 55, 1103, .null) := by decide +kernel
theorem k113_55 : mm_at 113 55 = some (.getfield 315, 58, 414, .null) := by decide +kernel
theorem k113_58 : mm_at 113 58 = some (.iload_n 1, 59, 1, .null) := by decide +kernel
theorem k113_59 : mm_at 113 59 = some (.invokevirtual 285, 62, 215, .null) := by decide +kernel
theorem k113_62 : mm_at 113 62 = some (.if_icmp .eq 7, 65, 69, .null) := by decide +kernel
theorem k113_65 : mm_at 113 65 = some (.iconst 1, 66, 0, .int (1)) := by decide +kernel
theorem k113_66 : mm_at 113 66 = some (.iload_n 1, 67, 1, .null) := by decide +kernel
theorem k113_67 : mm_at 113 67 = some (.iadd, 68, 0, .null) := by decide +kernel
theorem k113_68 : mm_at 113 68 = some (.ireturn, 69, 0, .null) := by decide +kernel
theorem k113_69 : mm_at 113 69 = some (.iinc 1 1, 72, 1, .int (1)) := by decide +kernel
theorem k113_72 : mm_at 113 72 = some (.goto (-49), 75, 23, .null) := by decide +kernel
theorem k113_75 : mm_at 113 75 = some (.iconst 0, 76, 0, .int (0)) := by decide +kernel
theorem k113_76 : mm_at 113 76 = some (.ireturn, 77, 0, .null) := by decide +kernel
theorem k114_0 : mm_at 114 0 = some (.iload_n 1, 1, 1, .null) := by decide +kernel
theorem k114_1 : mm_at 114 1 = some (.tableswitch 158 0 9 #[55, 63, 71, 79, 87, 98, 120, 131, 142, 150], 56, 0, .null) := by decide +kernel
theorem k114_56 : mm_at 114 56 = some (.aload_n 0, 57, 0, .null) := by decide +kernel
theorem k114_57 : mm_at 114 57 = some (.getfield 50, 60, 1102, .null) := by decide +kernel
theorem k114_60 : mm_at 114 60 = some (.getfield 90, 63, 401, .null) := by decide +kernel
theorem k114_63 : mm_at 114 63 = some (.ireturn, 64, 0, .null) := by decide +kernel
theorem k114_64 : mm_at 114 64 = some (.aload_n 0, 65, 0, .null) := by decide +kernel
theorem k114_65 : mm_at 114 65 = some (.getfield 50, 68, 1102, .null) := by decide +kernel
theorem k114_68 : mm_at 114 68 = some (.getfield 132, 71, 407, .null) := by decide +kernel
theorem k114_71 : mm_at 114 71 = some (.ireturn, 72, 0, .null) := by decide +kernel
theorem k114_72 : mm_at 114 72 = some (.aload_n 0, 73, 0, .null) := by decide +kernel
theorem k114_73 : mm_at 114 73 = some (.getfield 50, 76, 1102, .null) := by decide +kernel
theorem k114_76 : mm_at 114 76 = some (.getfield 219, 79, 416, .null) := by decide +kernel
theorem k114_79 : mm_at 114 79 = some (.ireturn, 80, 0, .null) := by decide +kernel
theorem k114_80 : mm_at 114 80 = some (.aload_n 0, 81, 0, .null) := by decide +kernel
theorem k114_81 : mm_at 114 81 = some (.getfield 50, 84, 1102, .null) := by decide +kernel
theorem k114_84 : mm_at 114 84 = some (.getfield 225, 87, 415, .null) := by decide +kernel
theorem k114_87 : mm_at 114 87 = some (.ireturn, 88, 0, .null) := by decide +kernel
theorem k114_88 : mm_at 114 88 = some (.aload_n 0, 89, 0, .null) := by decide +kernel
theorem k114_89 : mm_at 114 89 = some (.getfield 50, 92, 1102, .null) := by decide +kernel
theorem k114_92 : mm_at 114 92 = some (.invokevirtual 201, 95, 194, .null) := by decide +kernel
theorem k114_95 : mm_at 114 95 = some (.invokestatic 214, 98, 198, .null) := by decide +kernel
theorem k114_98 : mm_at 114 98 = some (.ireturn, 99, 0, .null) := by decide +kernel
theorem k114_99 : mm_at 114 99 = some (.aload_n 0, 100, 0, .null) := by decide +kernel
theorem k114_100 : mm_at 114 100 = some (.getfield 50, 103, 1102, .null) := by decide +kernel
theorem k114_103 : mm_at 114 103 = some (.invokevirtual 195, 106, 192, .null) := by decide +kernel
theorem k114_106 : mm_at 114 106 = some (.aload_n 0, 107, 0, .null) := by decide +kernel
theorem k114_107 : mm_at 114 107 = some (.getfield 50, 110, 1102, .null) := by decide +kernel
theorem k114_110 : mm_at 114 110 = some (.aload_n 0, 111, 0, .null) := by decide +kernel
theorem k114_111 : mm_at 114 111 = some (.getfield 50, 114, 1102, .null) := by decide +kernel
theorem k114_114 : mm_at 114 114 = some (.invokevirtual 201, 117, 194, .null) := by decide +kernel
theorem k114_117 : mm_at 114 117 = some (.invokevirtual 244, 120, 205, .null) := by decide +kernel
theorem k114_120 : mm_at 114 120 = some (.ireturn, 121, 0, .null) := by decide +kernel
