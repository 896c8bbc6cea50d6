theorem k114_121 : mm_at 114 121 = some (.aload_n 0, 122, 0, .null) := by decide +kernel
theorem k114_122 : mm_at 114 122 = some (.getfield 50, 125, 1102, .null) := by decide +kernel
theorem k114_125 : mm_at 114 125 = some (.getfield 154, 128, 413, .null) := by decide +kernel
theorem k114_128 : mm_at 114 128 = some (.getfield 157, 131, 702, .null) := by decide +kernel
theorem k114_131 : mm_at 114 131 = some (.ireturn, 132, 0, .null) := by decide +kernel
theorem k114_132 : mm_at 114 132 = some (.aload_n 0, 133, 0, .null) := by decide +kernel
theorem k114_133 : mm_at 114 133 = some (.getfield 50, 136, 1102, .null) := by decide +kernel
theorem k114_136 : mm_at 114 136 = some (.getfield 315, 139, 414, .null) := by decide +kernel
theorem k114_139 : mm_at 114 139 = some (.getfield 157, 142, 702, .null) := by decide +kernel
theorem k114_142 : mm_at 114 142 = some (.ireturn, 143, 0, .null) := by decide +kernel
theorem k114_143 : mm_at 114 143 = some (.aload_n 0, 144, 0, .null) := by decide +kernel
theorem k114_144 : mm_at 114 144 = some (.getfield 14, 147, 1100, .null) := by decide +kernel
theorem k114_147 : mm_at 114 147 = some (.getfield 157, 150, 702, .null) := by decide +kernel
theorem k114_150 : mm_at 114 150 = some (.ireturn, 151, 0, .null) := by decide +kernel
theorem k114_151 : mm_at 114 151 = some (.aload_n 0, 152, 0, .null) := by decide +kernel
theorem k114_152 : mm_at 114 152 = some (.getfield 50, 155, 1102, .null) := by decide +kernel
theorem k114_155 : mm_at 114 155 = some (.getfield 263, 158, 417, .null) := by decide +kernel
theorem k114_158 : mm_at 114 158 = some (.ireturn, 159, 0, .null) := by decide +kernel
theorem k114_159 : mm_at 114 159 = some (.aload_n 0, 160, 0, .null) := by decide +kernel
theorem k114_160 : mm_at 114 160 = some (.ldc 85, 162, 0, .int (-1000000001)) := by decide +kernel
theorem k114_162 : mm_at 114 162 = some (.invokevirtual 86, 165, 174, .null) := by decide +kernel
theorem k114_165 : mm_at 114 165 = some (.ireturn, 166, 0, .null) := by decide +kernel
theorem k115_0 : mm_at 115 0 = some (.iload_n 1, 1, 1, .null) := by decide +kernel
theorem k115_1 : mm_at 115 1 = some (.iconst 1, 2, 0, .int (1)) := by decide +kernel
theorem k115_2 : mm_at 115 2 = some (.iconst 5, 3, 0, .int (5)) := by decide +kernel
theorem k115_3 : mm_at 115 3 = some (.invokestatic 120, 6, 179, .null) := by decide +kernel
theorem k115_6 : mm_at 115 6 = some (.ifCond .eq 12, 9, 18, .null) := by decide +kernel
theorem k115_9 : mm_at 115 9 = some (.aload_n 0, 10, 0, .null) := by decide +kernel
theorem k115_10 : mm_at 115 10 = some (.getfield 74, 13, 1108, .null) := by decide +kernel
theorem k115_13 : mm_at 115 13 = some (.iload_n 1, 14, 1, .null) := by decide +kernel
theorem k115_14 : mm_at 115 14 = some (.iaload, 15, 0, .null) := by decide +kernel
theorem k115_15 : mm_at 115 15 = some (.goto 9, 18, 24, .null) := by decide +kernel
theorem k115_18 : mm_at 115 18 = some (.aload_n 0, 19, 0, .null) := by decide +kernel
theorem k115_19 : mm_at 115 19 = some (.ldc 85, 21, 0, .int (-1000000001)) := by decide +kernel
theorem k115_21 : mm_at 115 21 = some (.invokevirtual 86, 24, 174, .null) := by decide +kernel
theorem k115_24 : mm_at 115 24 = some (.ireturn, 25, 0, .null) := by decide +kernel
theorem k116_0 : mm_at 116 0 = some (.ldc_w 318, 3, 0, .int (-1000000000)) := by decide +kernel
theorem k116_3 : mm_at 116 3 = some (.iload_n 1, 4, 1, .null) := by decide +kernel
theorem k116_4 : mm_at 116 4 = some (.isub, 5, 0, .null) := by decide +kernel
theorem k116_5 : mm_at 116 5 = some (.istore_n 2, 6, 2, .null) := by decide +kernel
theorem k116_6 : mm_at 116 6 = some (.iload_n 2, 7, 2, .null) := by decide +kernel
theorem k116_7 : mm_at 116 7 = some (.iconst 1, 8, 0, .int (1)) := by decide +kernel
theorem k116_8 : mm_at 116 8 = some (.iconst 5, 9, 0, .int (5)) := by decide +kernel
theorem k116_9 : mm_at 116 9 = some (.invokestatic 120, 12, 179, .null) := by decide +kernel
theorem k116_12 : mm_at 116 12 = some (.ifCond .eq 13, 15, 25, .null) := by decide +kernel
theorem k116_15 : mm_at 116 15 = some (.aload_n 0, 16, 0, .null) := by decide +kernel
theorem k116_16 : mm_at 116 16 = some (.getfield 74, 19, 1108, .null) := by decide +kernel
theorem k116_19 : mm_at 116 19 = some (.iload_n 2, 20, 2, .null) := by decide +kernel
theorem k116_20 : mm_at 116 20 = some (.dup2, 21, 0, .null) := by decide +kernel
theorem k116_21 : mm_at 116 21 = some (.iaload, 22, 0, .null) := by decide +kernel
theorem k116_22 : mm_at 116 22 = some (.iconst 1, 23, 0, .int (1)) := by decide +kernel
theorem k116_23 : mm_at 116 23 = some (.iadd, 24, 0, .null) := by decide +kernel
theorem k116_24 : mm_at 116 24 = some (.iastore, 25, 0, .null) := by decide +kernel
theorem k116_25 : mm_at 116 25 = some (.iload_n 1, 26, 1, .null) := by decide +kernel
theorem k116_26 : mm_at 116 26 = some (.ireturn, 27, 0, .null) := by decide +kernel
theorem k117_0 : mm_at 117 0 = some (.iload_n 0, 1, 0, .null) := by decide +kernel
theorem k117_1 : mm_at 117 1 = some (.iload_n 1, 2, 1, .null) := by decide +kernel
theorem k117_2 : mm_at 117 2 = some (.if_icmp .lt 12, 5, 14, .null) := by decide +kernel
theorem k117_5 : mm_at 117 5 = some (.iload_n 0, 6, 0, .null) := by decide +kernel
theorem k117_6 : mm_at 117 6 = some (.iload_n 2, 7, 2, .null) := by decide +kernel
theorem k117_7 : mm_at 117 7 = some (.if_icmp .gt 7, 10, 14, .null) := by decide +kernel
theorem k117_10 : mm_at 117 10 = some (.iconst 1, 11, 0, .int (1)) := by decide +kernel
theorem k117_11 : mm_at 117 11 = some (.goto 4, 14, 15, .null) := by decide +kernel
theorem k117_14 : mm_at 117 14 = some (.iconst 0, 15, 0, .int (0)) := by decide +kernel
theorem k117_15 : mm_at 117 15 = some (.ireturn, 16, 0, .null) := by decide +kernel
theorem k118_0 : mm_at 118 0 = some (.iload_n 0, 1, 0, .null) := by decide +kernel
theorem k118_1 : mm_at 118 1 = some (.iconst 0, 2, 0, .int (0)) := by decide +kernel
theorem k118_2 : mm_at 118 2 = some (.bipush 7, 4, 0, .int (7)) := by decide +kernel
theorem k118_4 : mm_at 118 4 = some (.invokestatic 120, 7, 179, .null) := by decide +kernel
theorem k118_7 : mm_at 118 7 = some (.ireturn, 8, 0, .null) := by decide +kernel
theorem k119_0 : mm_at 119 0 = some (.iload_n 0, 1, 0, .null) := by decide +kernel
theorem k119_1 : mm_at 119 1 = some (.iconst 0, 2, 0, .int (0)) := by decide +kernel
theorem k119_2 : mm_at 119 2 = some (.sipush 255, 5, 0, .int (255)) := by decide +kernel
theorem k119_5 : mm_at 119 5 = some (.invokestatic 120, 8, 179, .null) := by decide +kernel
theorem k119_8 : mm_at 119 8 = some (.ireturn, 9, 0, .null) := by decide +kernel
theorem k120_0 : mm_at 120 0 = some (.iload_n 0, 1, 0, .null) := by decide +kernel
theorem k120_1 : mm_at 120 1 = some (.iconst 0, 2, 0, .int (0)) := by decide +kernel
theorem k120_2 : mm_at 120 2 = some (.bipush 99, 4, 0, .int (99)) := by decide +kernel
theorem k120_4 : mm_at 120 4 = some (.invokestatic 120, 7, 179, .null) := by decide +kernel
theorem k120_7 : mm_at 120 7 = some (.ireturn, 8, 0, .null) := by decide +kernel
theorem k121_0 : mm_at 121 0 = some (.iload_n 0, 1, 0, .null) := by decide +kernel
theorem k121_1 : mm_at 121 1 = some (.iconst 0, 2, 0, .int (0)) := by decide +kernel
theorem k121_2 : mm_at 121 2 = some (.bipush 69, 4, 0, .int (69)) := by decide +kernel
theorem k121_4 : mm_at 121 4 = some (.invokestatic 120, 7, 179, .null) := by decide +kernel
theorem k121_7 : mm_at 121 7 = some (.ireturn, 8, 0, .null) := by decide +kernel
theorem k122_0 : mm_at 122 0 = some (.iload_n 0, 1, 0, .null) := by decide +kernel
theorem k122_1 : mm_at 122 1 = some (.iconst 0, 2, 0, .int (0)) := by decide +kernel
theorem k122_2 : mm_at 122 2 = some (.iconst 1, 3, 0, .int (1)) := by decide +kernel
theorem k122_3 : mm_at 122 3 = some (.invokestatic 120, 6, 179, .null) := by decide +kernel
theorem k122_6 : mm_at 122 6 = some (.ireturn, 7, 0, .null) := by decide +kernel
theorem k123_0 : mm_at 123 0 = some (.iload_n 0, 1, 0, .null) := by decide +kernel
theorem k123_1 : mm_at 123 1 = some (.iconst 0, 2, 0, .int (0)) := by decide +kernel
theorem k123_2 : mm_at 123 2 = some (.iconst 3, 3, 0, .int (3)) := by decide +kernel
theorem k123_3 : mm_at 123 3 = some (.invokestatic 120, 6, 179, .null) := by decide +kernel
theorem k123_6 : mm_at 123 6 = some (.ireturn, 7, 0, .null) := by decide +kernel
theorem k124_0 : mm_at 124 0 = some (.iload_n 0, 1, 0, .null) := by decide +kernel
theorem k124_1 : mm_at 124 1 = some (.ifCond .eq 21, 4, 22, .null) := by decide +kernel
theorem k124_4 : mm_at 124 4 = some (.iload_n 0, 5, 0, .null) := by decide +kernel
theorem k124_5 : mm_at 124 5 = some (.bipush 8, 7, 0, .int (8)) := by decide +kernel
theorem k124_7 : mm_at 124 7 = some (.if_icmp .eq 15, 10, 22, .null) := by decide +kernel
theorem k124_10 : mm_at 124 10 = some (.iload_n 0, 11, 0, .null) := by decide +kernel
theorem k124_11 : mm_at 124 11 = some (.bipush 16, 13, 0, .int (16)) := by decide +kernel
theorem k124_13 : mm_at 124 13 = some (.if_icmp .eq 9, 16, 22, .null) := by decide +kernel
theorem k124_16 : mm_at 124 16 = some (.iload_n 0, 17, 0, .null) := by decide +kernel
theorem k124_17 : mm_at 124 17 = some (.bipush 32, 19, 0, .int (32)) := by decide +kernel
theorem k124_19 : mm_at 124 19 = some (.if_icmp .ne 7, 22, 26, .null) := by decide +kernel
theorem k124_22 : mm_at 124 22 = some (.iconst 1, 23, 0, .int (1)) := by decide +kernel
theorem k124_23 : mm_at 124 23 = some (.goto 4, 26, 27, .null) := by decide +kernel
theorem k124_26 : mm_at 124 26 = some (.iconst 0, 27, 0, .int (0)) := by decide +kernel
theorem k124_27 : mm_at 124 27 = some (.ireturn, 28, 0, .null) := by decide +kernel
theorem k125_0 : mm_at 125 0 = some (.iload_n 0, 1, 0, .null) := by decide +kernel
theorem k125_1 : mm_at 125 1 = some (.iload_n 1, 2, 1, .null) := by decide +kernel
theorem k125_2 : mm_at 125 2 = some (.ishr, 3, 0, .null) := by decide +kernel
theorem k125_3 : mm_at 125 3 = some (.iconst 1, 4, 0, .int (1)) := by decide +kernel
theorem k125_4 : mm_at 125 4 = some (.iand, 5, 0, .null) := by decide +kernel
theorem k125_5 : mm_at 125 5 = some (.iconst 1, 6, 0, .int (1)) := by decide +kernel
theorem k125_6 : mm_at 125 6 = some (.if_icmp .ne 7, 9, 13, .null) := by decide +kernel
theorem k125_9 : mm_at 125 9 = some (.iconst 1, 10, 0, .int (1)) := by decide +kernel
theorem k125_10 : mm_at 125 10 = some (.goto 4, 13, 14, .null) := by decide +kernel
theorem k125_13 : mm_at 125 13 = some (.iconst 0, 14, 0, .int (0)) := by decide +kernel
theorem k125_14 : mm_at 125 14 = some (.ireturn, 15, 0, .null) := by decide +kernel
theorem k126_0 : mm_at 126 0 = some (.iload_n 1, 1, 1, .null) := by decide +kernel
theorem k126_1 : mm_at 126 1 = some (.iconst 0, 2, 0, .int (0)) := by decide +kernel
theorem k126_2 : mm_at 126 2 = some (.aload_n 0, 3, 0, .null) := by decide +kernel
theorem k126_3 : mm_at 126 3 = some (.getfield 50, 6, 1102, .null) := by decide +kernel
theorem k126_6 : mm_at 126 6 = some (.getfield 90, 9, 401, .null) := by decide +kernel
theorem k126_9 : mm_at 126 9 = some (.iconst 1, 10, 0, .int (1)) := by decide +kernel
theorem k126_10 : mm_at 126 10 = some (.isub, 11, 0, .null) := by decide +kernel
theorem k126_11 : mm_at 126 11 = some (.invokestatic 120, 14, 179, .null) := by decide +kernel
theorem k126_14 : mm_at 126 14 = some (.ireturn, 15, 0, .null) := by decide +kernel
theorem k127_0 : mm_at 127 0 = some (.iload_n 1, 1, 1, .null) := by decide +kernel
theorem k127_1 : mm_at 127 1 = some (.iconst 0, 2, 0, .int (0)) := by decide +kernel
theorem k127_2 : mm_at 127 2 = some (.aload_n 0, 3, 0, .null) := by decide +kernel
theorem k127_3 : mm_at 127 3 = some (.getfield 50, 6, 1102, .null) := by decide +kernel
theorem k127_6 : mm_at 127 6 = some (.getfield 132, 9, 407, .null) := by decide +kernel
theorem k127_9 : mm_at 127 9 = some (.iconst 1, 10, 0, .int (1)) := by decide +kernel
theorem k127_10 : mm_at 127 10 = some (.isub, 11, 0, .null) := by decide +kernel
theorem k127_11 : mm_at 127 11 = some (.invokestatic 120, 14, 179, .null) := by decide +kernel
theorem k127_14 : mm_at 127 14 = some (.ireturn, 15, 0, .null) := by decide +kernel
theorem k128_0 : mm_at 128 0 = some (.aload_n 0, 1, 0, .null) := by decide +kernel
theorem k128_1 : mm_at 128 1 = some (.getfield 67, 4, 1106, .null) := by decide +kernel
theorem k128_4 : mm_at 128 4 = some (.iload_n 1, 5, 1, .null) := by decide +kernel
theorem k128_5 : mm_at 128 5 = some (.aaload, 6, 0, .null) := by decide +kernel
theorem k128_6 : mm_at 128 6 = some (.getfield 253, 9, 701, .null) := by decide +kernel
theorem k128_9 : mm_at 128 9 = some (.ifCond .ne 7, 12, 16, .null) := by decide +kernel
theorem k128_12 : mm_at 128 12 = some (.iconst 1, 13, 0, .int (1)) := by decide +kernel
theorem k128_13 : mm_at 128 13 = some (.goto 4, 16, 17, .null) := by decide +kernel
theorem k128_16 : mm_at 128 16 = some (.iconst 0, 17, 0, .int (0)) := by decide +kernel
theorem k128_17 : mm_at 128 17 = some (.ireturn, 18, 0, .null) := by decide +kernel
theorem k129_0 : mm_at 129 0 = some (.iload_n 0, 1, 0, .null) := by decide +kernel
theorem k129_1 : mm_at 129 1 = some (.istore_n 2, 2, 2, .null) := by decide +kernel
theorem k129_2 : mm_at 129 2 = some (.iconst 0, 3, 0, .int (0)) := by decide +kernel
theorem k129_3 : mm_at 129 3 = some (.istore_n 3, 4, 3, .null) := by decide +kernel
theorem k129_4 : mm_at 129 4 = some (.iload_n 3, 5, 3, .null) := by decide +kernel
theorem k129_5 : mm_at 129 5 = some (.bipush 7, 7, 0, .int (7)) := by decide +kernel
theorem k129_7 : mm_at 129 7 = some (.if_icmp .ge 32, 10, 39, .null) := by decide +kernel
theorem k129_10 : mm_at 129 10 = some (.iload_n 2, 11, 2, .null) := by decide +kernel
theorem k129_11 : mm_at 129 11 = some (.iconst 0, 12, 0, .int (0)) := by decide +kernel
theorem k129_12 : mm_at 129 12 = some (.bipush 6, 14, 0, .int (6)) := by decide +kernel
theorem k129_14 : mm_at 129 14 = some (.invokestatic 120, 17, 179, .null) := by decide +kernel
theorem k129_17 : mm_at 129 17 = some (.ifCond .eq 22, 20, 39, .null) := by decide +kernel
theorem k129_20 : mm_at 129 20 = some (.iload_n 2, 21, 2, .null) := by decide +kernel
theorem k129_21 : mm_at 129 21 = some (.iload_n 1, 22, 1, .null) := by decide +kernel
theorem k129_22 : mm_at 129 22 = some (.if_icmp .ne 5, 25, 27, .null) := by decide +kernel
theorem k129_25 : mm_at 129 25 = some (.iconst 1, 26, 0, .int (1)) := by decide +kernel
theorem k129_26 : mm_at 129 26 = some (.ireturn, 27, 0, .null) := by decide +kernel
theorem k129_27 : mm_at 129 27 = some (.getstatic 319, 30, 0, .ref 1003) := by decide +kernel
theorem k129_30 : mm_at 129 30 = some (.iload_n 2, 31, 2, .null) := by decide +kernel
theorem k129_31 : mm_at 129 31 = some (.iaload, 32, 0, .null) := by decide +kernel
theorem k129_32 : mm_at 129 32 = some (.istore_n 2, 33, 2, .null) := by decide +kernel
theorem k129_33 : mm_at 129 33 = some (.iinc 3 1, 36, 3, .int (1)) := by decide +kernel
theorem k129_36 : mm_at 129 36 = some (.goto (-32), 39, 4, .null) := by decide +kernel
theorem k129_39 : mm_at 129 39 = some (.iconst 0, 40, 0, .int (0)) := by decide +kernel
theorem k129_40 : mm_at 129 40 = some (.ireturn, 41, 0, .null) := by decide +kernel
theorem k130_0 : mm_at 130 0 = some (.iload_n 1, 1, 1, .null) := by decide +kernel
theorem k130_1 : mm_at 130 1 = some (.ifCond .ne 13, 4, 14, .null) := by decide +kernel
theorem k130_4 : mm_at 130 4 = some (.aload_n 0, 5, 0, .null) := by decide +kernel
theorem k130_5 : mm_at 130 5 = some (.getfield 50, 8, 1102, .null) := by decide +kernel
theorem k130_8 : mm_at 130 8 = some (.getfield 322, 11, 411, .null) := by decide +kernel
theorem k130_11 : mm_at 130 11 = some (.goto 10, 14, 21, .null) := by decide +kernel
theorem k130_14 : mm_at 130 14 = some (.aload_n 0, 15, 0, .null) := by decide +kernel
theorem k130_15 : mm_at 130 15 = some (.getfield 50, 18, 1102, .null) := by decide +kernel
theorem k130_18 : mm_at 130 18 = some (.getfield 326, 21, 412, .null) := by decide +kernel
theorem k130_21 : mm_at 130 21 = some (.areturn, 22, 0, .null) := by decide +kernel
theorem k131_0 : mm_at 131 0 = some (.aload_n 0, 1, 0, .null) := by decide +kernel
theorem k131_1 : mm_at 131 1 = some (.iload_n 1, 2, 1, .null) := by decide +kernel
theorem k131_2 : mm_at 131 2 = some (.iload_n 2, 3, 2, .null) := by decide +kernel
theorem k131_3 : mm_at 131 3 = some (.invokevirtual 329, 6, 222, .null) := by decide +kernel
theorem k131_6 : mm_at 131 6 = some (.aload_n 0, 7, 0, .null) := by decide +kernel
theorem k131_7 : mm_at 131 7 = some (.getfield 54, 10, 1103, .null) := by decide +kernel
theorem k131_10 : mm_at 131 10 = some (.invokevirtual 195, 13, 192, .null) := by decide +kernel
theorem k131_13 : mm_at 131 13 = some (.aload_n 0, 14, 0, .null) := by decide +kernel
theorem k131_14 : mm_at 131 14 = some (.getfield 54, 17, 1103, .null) := by decide +kernel
theorem k131_17 : mm_at 131 17 = some (.iload_n 2, 18, 2, .null) := by decide +kernel
theorem k131_18 : mm_at 131 18 = some (.aload_n 0, 19, 0, .null) := by decide +kernel
theorem k131_19 : mm_at 131 19 = some (.getfield 54, 22, 1103, .null) := by decide +kernel
theorem k131_22 : mm_at 131 22 = some (.invokevirtual 201, 25, 194, .null) := by decide +kernel
theorem k131_25 : mm_at 131 25 = some (.invokevirtual 205, 28, 195, .null) := by decide +kernel
theorem k131_28 : mm_at 131 28 = some (.ifCond .le 7, 31, 35, .null) := by decide +kernel
theorem k131_31 : mm_at 131 31 = some (.iconst 1, 32, 0, .int (1)) := by decide +kernel
theorem k131_32 : mm_at 131 32 = some (.goto 4, 35, 36, .null) := by decide +kernel
theorem k131_35 : mm_at 131 35 = some (.iconst 0, 36, 0, .int (0)) := by decide +kernel
theorem k131_36 : mm_at 131 36 = some (.istore_n 3, 37, 3, .null) := by decide +kernel
theorem k131_37 : mm_at 131 37 = some (.aload_n 0, 38, 0, .null) := by decide +kernel
theorem k131_38 : mm_at 131 38 = some (.iload_n 1, 39, 1, .null) := by decide +kernel
theorem k131_39 : mm_at 131 39 = some (.iload_n 2, 40, 2, .null) := by decide +kernel
theorem k131_40 : mm_at 131 40 = some (.invokevirtual 329, 43, 222, .null) := by decide +kernel
theorem k131_43 : mm_at 131 43 = some (.iload_n 3, 44, 3, .null) := by decide +kernel
theorem k131_44 : mm_at 131 44 = some (.ireturn, 45, 0, .null) := by decide +kernel
theorem k132_0 : mm_at 132 0 = some (.iconst 0, 1, 0, .int (0)) := by decide +kernel
theorem k132_1 : mm_at 132 1 = some (.istore_n 3, 2, 3, .null) := by decide +kernel
theorem k132_2 : mm_at 132 2 = some (.iload_n 3, 3, 3, .null) := by decide +kernel
theorem k132_3 : mm_at 132 3 = some (.aload_n 0, 4, 0, .null) := by decide +kernel
theorem k132_4 : mm_at 132 4 = some (.getfield 54, 7, 1103, .null) := by decide +kernel
theorem k132_7 : mm_at 132 7 = some (.getfield 90, 10, 401, .null) := by decide +kernel
theorem k132_10 : mm_at 132 10 = some (.if_icmp .ge 32, 13, 42, .null) := by decide +kernel
theorem k132_13 : mm_at 132 13 = some (.iload_n 1, 14, 1, .null) := by decide +kernel
theorem k132_14 : mm_at 132 14 = some (.iload_n 3, 15, 3, .null) := by decide +kernel
theorem k132_15 : mm_at 132 15 = some (.invokestatic 234, 18, 202, .null) := by decide +kernel
theorem k132_18 : mm_at 132 18 = some (.ifCond .eq 18, 21, 36, .null) := by decide +kernel
theorem k132_21 : mm_at 132 21 = some (.aload_n 0, 22, 0, .null) := by decide +kernel
theorem k132_22 : mm_at 132 22 = some (.getfield 54, 25, 1103, .null) := by decide +kernel
theorem k132_25 : mm_at 132 25 = some (.getfield 111, 28, 405, .null) := by decide +kernel
theorem k132_28 : mm_at 132 28 = some (.iload_n 3, 29, 3, .null) := by decide +kernel
theorem k132_29 : mm_at 132 29 = some (.dup2, 30, 0, .null) := by decide +kernel
theorem k132_30 : mm_at 132 30 = some (.iaload, 31, 0, .null) := by decide +kernel
theorem k132_31 : mm_at 132 31 = some (.iconst 1, 32, 0, .int (1)) := by decide +kernel
theorem k132_32 : mm_at 132 32 = some (.iload_n 2, 33, 2, .null) := by decide +kernel
theorem k132_33 : mm_at 132 33 = some (.ishl, 34, 0, .null) := by decide +kernel
theorem k132_34 : mm_at 132 34 = some (.ixor, 35, 0, .null) := by decide +kernel
theorem k132_35 : mm_at 132 35 = some (.iastore, 36, 0, .null) := by decide +kernel
theorem k132_36 : mm_at 132 36 = some (.iinc 3 1, 39, 3, .int (1)) := by decide +kernel
theorem k132_39 : mm_at 132 39 = some (.goto (-37), 42, 2, .null) := by decide +kernel
theorem k132_42 : mm_at 132 42 = some (.return_, 43, 0, .null) := by decide +kernel
theorem k133_0 : mm_at 133 0 = some (.iload_n 0, 1, 0, .null) := by decide +kernel
theorem k133_1 : mm_at 133 1 = some (.iload_n 1, 2, 1, .null) := by decide +kernel
theorem k133_2 : mm_at 133 2 = some (.iconst (-1), 3, 0, .int (-1)) := by decide +kernel
theorem k133_3 : mm_at 133 3 = some (.ixor, 4, 0, .null) := by decide +kernel
theorem k133_4 : mm_at 133 4 = some (.iand, 5, 0, .null) := by decide +kernel
theorem k133_5 : mm_at 133 5 = some (.invokestatic 214, 8, 198, .null) := by decide +kernel
theorem k133_8 : mm_at 133 8 = some (.iload_n 1, 9, 1, .null) := by decide +kernel
theorem k133_9 : mm_at 133 9 = some (.iload_n 0, 10, 0, .null) := by decide +kernel
theorem k133_10 : mm_at 133 10 = some (.iconst (-1), 11, 0, .int (-1)) := by decide +kernel
theorem k133_11 : mm_at 133 11 = some (.ixor, 12, 0, .null) := by decide +kernel
theorem k133_12 : mm_at 133 12 = some (.iand, 13, 0, .null) := by decide +kernel
theorem k133_13 : mm_at 133 13 = some (.invokestatic 214, 16, 198, .null) := by decide +kernel
theorem k133_16 : mm_at 133 16 = some (.invokestatic 332, 19, 10002, .null) := by decide +kernel
theorem k133_19 : mm_at 133 19 = some (.ireturn, 20, 0, .null) := by decide +kernel
theorem k134_0 : mm_at 134 0 = some (.iconst 0, 1, 0, .int (0)) := by decide +kernel
theorem k134_1 : mm_at 134 1 = some (.istore_n 3, 2, 3, .null) := by decide +kernel
theorem k134_2 : mm_at 134 2 = some (.iload_n 3, 3, 3, .null) := by decide +kernel
theorem k134_3 : mm_at 134 3 = some (.aload_n 1, 4, 1, .null) := by decide +kernel
theorem k134_4 : mm_at 134 4 = some (.getfield 157, 7, 702, .null) := by decide +kernel
theorem k134_7 : mm_at 134 7 = some (.if_icmp .ge 28, 10, 35, .null) := by decide +kernel
theorem k134_10 : mm_at 134 10 = some (.aload_n 0, 11, 0, .null) := by decide +kernel
theorem k134_11 : mm_at 134 11 = some (.getfield 50, 14, 1102, .null) := by decide +kernel
theorem k134_14 : mm_at 134 14 = some (.iload_n 3, 15, 3, .null) := by decide +kernel
theorem k134_15 : mm_at 134 15 = some (.iload_n 2, 16, 2, .null) := by decide +kernel
theorem k134_16 : mm_at 134 16 = some (.invokevirtual 205, 19, 195, .null) := by decide +kernel
theorem k134_19 : mm_at 134 19 = some (.aload_n 1, 20, 1, .null) := by decide +kernel
theorem k134_20 : mm_at 134 20 = some (.iload_n 3, 21, 3, .null) := by decide +kernel
theorem k134_21 : mm_at 134 21 = some (.invokevirtual 285, 24, 215, .null) := by decide +kernel
theorem k134_24 : mm_at 134 24 = some (.if_icmp .eq 5, 27, 29, .null) := by decide +kernel
theorem k134_27 : mm_at 134 27 = some (.iconst 0, 28, 0, .int (0)) := by decide +kernel
theorem k134_28 : mm_at 134 28 = some (.ireturn, 29, 0, .null) := by decide +kernel
theorem k134_29 : mm_at 134 29 = some (.iinc 3 1, 32, 3, .int (1)) := by decide +kernel
theorem k134_32 : mm_at 134 32 = some (.goto (-30), 35, 2, .null) := by decide +kernel
theorem k134_35 : mm_at 134 35 = some (.iconst 1, 36, 0, .int (1)) := by decide +kernel
theorem k134_36 : mm_at 134 36 = some (.ireturn, 37, 0, .null) := by decide +kernel
theorem k135_0 : mm_at 135 0 = some (.aload_n 0, 1, 0, .null) := by decide +kernel
theorem k135_1 : mm_at 135 1 = some (.getfield 71, 4, 1107, .null) := by decide +kernel
theorem k135_4 : mm_at 135 4 = some (.invokevirtual 175, 7, 188, .null) := by decide +kernel
theorem k135_7 : mm_at 135 7 = some (.iconst 0, 8, 0, .int (0)) := by decide +kernel
theorem k135_8 : mm_at 135 8 = some (.istore_n 3, 9, 3, .null) := by decide +kernel
theorem k135_9 : mm_at 135 9 = some (.iload_n 3, 10, 3, .null) := by decide +kernel
theorem k135_10 : mm_at 135 10 = some (.iconst 1, 11, 0, .int (1)) := by decide +kernel
theorem k135_11 : mm_at 135 11 = some (.aload_n 0, 12, 0, .null) := by decide +kernel
theorem k135_12 : mm_at 135 12 = some (.getfield 50, 15, 1102, .null) := by decide +kernel
theorem k135_15 : mm_at 135 15 = some (.getfield 90, 18, 401, .null) := by decide +kernel
theorem k135_18 : mm_at 135 18 = some (.ishl, 19, 0, .null) := by decide +kernel
theorem k135_19 : mm_at 135 19 = some (.if_icmp .ge 33, 22, 52, .null) := by decide +kernel
theorem k135_22 : mm_at 135 22 = some (.iload_n 3, 23, 3, .null) := by decide +kernel
theorem k135_23 : mm_at 135 23 = some (.invokestatic 214, 26, 198, .null) := by decide +kernel
theorem k135_26 : mm_at 135 26 = some (.iload_n 2, 27, 2, .null) := by decide +kernel
theorem k135_27 : mm_at 135 27 = some (.if_icmp .ne 19, 30, 46, .null) := by decide +kernel
theorem k135_30 : mm_at 135 30 = some (.aload_n 0, 31, 0, .null) := by decide +kernel
theorem k135_31 : mm_at 135 31 = some (.getfield 71, 34, 1107, .null) := by decide +kernel
theorem k135_34 : mm_at 135 34 = some (.aload_n 0, 35, 0, .null) := by decide +kernel
theorem k135_35 : mm_at 135 35 = some (.getfield 50, 38, 1102, .null) := by decide +kernel
theorem k135_38 : mm_at 135 38 = some (.iload_n 1, 39, 1, .null) := by decide +kernel
theorem k135_39 : mm_at 135 39 = some (.iload_n 3, 40, 3, .null) := by decide +kernel
theorem k135_40 : mm_at 135 40 = some (.invokevirtual 205, 43, 195, .null) := by decide +kernel
theorem k135_43 : mm_at 135 43 = some (.invokevirtual 335, 46, 223, .null) := by decide +kernel
theorem k135_46 : mm_at 135 46 = some (.iinc 3 1, 49, 3, .int (1)) := by decide +kernel
theorem k135_49 : mm_at 135 49 = some (.goto (-40), 52, 9, .null) := by decide +kernel
theorem k135_52 : mm_at 135 52 = some (.aload_n 0, 53, 0, .null) := by decide +kernel
theorem k135_53 : mm_at 135 53 = some (.getfield 71, 56, 1107, .null) := by decide +kernel
theorem k135_56 : mm_at 135 56 = some (.getfield 157, 59, 702, .null) := by decide +kernel
theorem k135_59 : mm_at 135 59 = some (.ireturn, 60, 0, .null) := by decide +kernel
theorem k136_0 : mm_at 136 0 = some (.aload_n 0, 1, 0, .null) := by decide +kernel
theorem k136_1 : mm_at 136 1 = some (.invokespecial 3, 4, 10001, .null) := by decide +kernel
theorem k136_4 : mm_at 136 4 = some (.aload_n 0, 5, 0, .null) := by decide +kernel
theorem k136_5 : mm_at 136 5 = some (.sipush 321, 8, 0, .int (321)) := by decide +kernel
theorem k136_8 : mm_at 136 8 = some (.newarray .int, 10, 0, .null) := by decide +kernel
theorem k136_10 : mm_at 136 10 = some (.putfield 9, 13, 1200, .null) := by decide +kernel
theorem k136_13 : mm_at 136 13 = some (.aload_n 0, 14, 0, .null) := by decide +kernel
theorem k136_14 : mm_at 136 14 = some (.sipush 321, 17, 0, .int (321)) := by decide +kernel
theorem k136_17 : mm_at 136 17 = some (.newarray .int, 19, 0, .null) := by decide +kernel
theorem k136_19 : mm_at 136 19 = some (.putfield 13, 22, 1201, .null) := by decide +kernel
theorem k136_22 : mm_at 136 22 = some (.aload_n 0, 23, 0, .null) := by decide +kernel
theorem k136_23 : mm_at 136 23 = some (.sipush 321, 26, 0, .int (321)) := by decide +kernel
theorem k136_26 : mm_at 136 26 = some (.newarray .int, 28, 0, .null) := by decide +kernel
theorem k136_28 : mm_at 136 28 = some (.putfield 16, 31, 1202, .null) := by decide +kernel
theorem k136_31 : mm_at 136 31 = some (.aload_n 0, 32, 0, .null) := by decide +kernel
theorem k136_32 : mm_at 136 32 = some (.bipush 6, 34, 0, .int (6)) := by decide +kernel
theorem k136_34 : mm_at 136 34 = some (.newarray .int, 36, 0, .null) := by decide +kernel
theorem k136_36 : mm_at 136 36 = some (.putfield 19, 39, 1204, .null) := by decide +kernel
theorem k136_39 : mm_at 136 39 = some (.aload_n 0, 40, 0, .null) := by decide +kernel
theorem k136_40 : mm_at 136 40 = some (.bipush 50, 42, 0, .int (50)) := by decide +kernel
theorem k136_42 : mm_at 136 42 = some (.newarray .int, 44, 0, .null) := by decide +kernel
theorem k136_44 : mm_at 136 44 = some (.putfield 22, 47, 1205, .null) := by decide +kernel
theorem k136_47 : mm_at 136 47 = some (.aload_n 0, 48, 0, .null) := by decide +kernel
theorem k136_48 : mm_at 136 48 = some (.bipush 50, 50, 0, .int (50)) := by decide +kernel
theorem k136_50 : mm_at 136 50 = some (.newarray .int, 52, 0, .null) := by decide +kernel
theorem k136_52 : mm_at 136 52 = some (.putfield 25, 55, 1206, .null) := by decide +kernel
theorem k136_55 : mm_at 136 55 = some (.aload_n 0, 56, 0, .null) := by decide +kernel
theorem k136_56 : mm_at 136 56 = some (.iconst 3, 57, 0, .int (3)) := by decide +kernel
theorem k136_57 : mm_at 136 57 = some (.newarray .int, 59, 0, .null) := by decide +kernel
theorem k136_59 : mm_at 136 59 = some (.putfield 28, 62, 1207, .null) := by decide +kernel
theorem k136_62 : mm_at 136 62 = some (.aload_n 0, 63, 0, .null) := by decide +kernel
theorem k136_63 : mm_at 136 63 = some (.bipush 50, 65, 0, .int (50)) := by decide +kernel
theorem k136_65 : mm_at 136 65 = some (.newarray .int, 67, 0, .null) := by decide +kernel
theorem k136_67 : mm_at 136 67 = some (.putfield 31, 70, 1208, .null) := by decide +kernel
theorem k136_70 : mm_at 136 70 = some (.aload_n 0, 71, 0, .null) := by decide +kernel
theorem k136_71 : mm_at 136 71 = some (.bipush 40, 73, 0, .int (40)) := by decide +kernel
theorem k136_73 : mm_at 136 73 = some (.newarray .int, 75, 0, .null) := by decide +kernel
theorem k136_75 : mm_at 136 75 = some (.putfield 34, 78, 1214, .null) := by decide +kernel
theorem k136_78 : mm_at 136 78 = some (.aload_n 0, 79, 0, .null) := by decide +kernel
theorem k136_79 : mm_at 136 79 = some (.iconst 4, 80, 0, .int (4)) := by decide +kernel
theorem k136_80 : mm_at 136 80 = some (.newarray .int, 82, 0, .null) := by decide +kernel
theorem k136_82 : mm_at 136 82 = some (.putfield 37, 85, 1216, .null) := by decide +kernel
theorem k136_85 : mm_at 136 85 = some (.aload_n 0, 86, 0, .null) := by decide +kernel
theorem k136_86 : mm_at 136 86 = some (.iconst 4, 87, 0, .int (4)) := by decide +kernel
theorem k136_87 : mm_at 136 87 = some (.newarray .int, 89, 0, .null) := by decide +kernel
theorem k136_89 : mm_at 136 89 = some (.putfield 40, 92, 1217, .null) := by decide +kernel
theorem k136_92 : mm_at 136 92 = some (.aload_n 0, 93, 0, .null) := by decide +kernel
theorem k136_93 : mm_at 136 93 = some (.sipush 160, 96, 0, .int (160)) := by decide +kernel
theorem k136_96 : mm_at 136 96 = some (.newarray .int, 98, 0, .null) := by decide +kernel
theorem k136_98 : mm_at 136 98 = some (.putfield 43, 101, 1218, .null) := by decide +kernel
theorem k136_101 : mm_at 136 101 = some (.aload_n 0, 102, 0, .null) := by decide +kernel
theorem k136_102 : mm_at 136 102 = some (.getfield 9, 105, 1200, .null) := by decide +kernel
theorem k136_105 : mm_at 136 105 = some (.iconst 1, 106, 0, .int (1)) := by decide +kernel
theorem k136_106 : mm_at 136 106 = some (.iconst 1, 107, 0, .int (1)) := by decide +kernel
theorem k136_107 : mm_at 136 107 = some (.iastore, 108, 0, .null) := by decide +kernel
theorem k136_108 : mm_at 136 108 = some (.return_, 109, 0, .null) := by decide +kernel
theorem k137_0 : mm_at 137 0 = some (.aload_n 0, 1, 0, .null) := by decide +kernel
theorem k137_1 : mm_at 137 1 = some (.getfield 19, 4, 1204, .null) := by decide +kernel
theorem k137_4 : mm_at 137 4 = some (.ldc 46, 6, 0, .int (-1000000000)) := by decide +kernel
theorem k137_6 : mm_at 137 6 = some (.iload_n 1, 7, 1, .null) := by decide +kernel
theorem k137_7 : mm_at 137 7 = some (.isub, 8, 0, .null) := by decide +kernel
theorem k137_8 : mm_at 137 8 = some (.dup2, 9, 0, .null) := by decide +kernel
theorem k137_9 : mm_at 137 9 = some (.iaload, 10, 0, .null) := by decide +kernel
theorem k137_10 : mm_at 137 10 = some (.iconst 1, 11, 0, .int (1)) := by decide +kernel
theorem k137_11 : mm_at 137 11 = some (.iadd, 12, 0, .null) := by decide +kernel
theorem k137_12 : mm_at 137 12 = some (.iastore, 13, 0, .null) := by decide +kernel
theorem k137_13 : mm_at 137 13 = some (.iload_n 1, 14, 1, .null) := by decide +kernel
theorem k137_14 : mm_at 137 14 = some (.ireturn, 15, 0, .null) := by decide +kernel
theorem k138_0 : mm_at 138 0 = some (.iload_n 0, 1, 0, .null) := by decide +kernel
theorem k138_1 : mm_at 138 1 = some (.iload_n 1, 2, 1, .null) := by decide +kernel
theorem k138_2 : mm_at 138 2 = some (.if_icmp .lt 12, 5, 14, .null) := by decide +kernel
theorem k138_5 : mm_at 138 5 = some (.iload_n 0, 6, 0, .null) := by decide +kernel
theorem k138_6 : mm_at 138 6 = some (.iload_n 2, 7, 2, .null) := by decide +kernel
theorem k138_7 : mm_at 138 7 = some (.if_icmp .gt 7, 10, 14, .null) := by decide +kernel
theorem k138_10 : mm_at 138 10 = some (.iconst 1, 11, 0, .int (1)) := by decide +kernel
theorem k138_11 : mm_at 138 11 = some (.goto 4, 14, 15, .null) := by decide +kernel
theorem k138_14 : mm_at 138 14 = some (.iconst 0, 15, 0, .int (0)) := by decide +kernel
theorem k138_15 : mm_at 138 15 = some (.ireturn, 16, 0, .null) := by decide +kernel
theorem k139_0 : mm_at 139 0 = some (.iload_n 0, 1, 0, .null) := by decide +kernel
theorem k139_1 : mm_at 139 1 = some (.iload_n 1, 2, 1, .null) := by decide +kernel
theorem k139_2 : mm_at 139 2 = some (.if_icmp .ge 7, 5, 9, .null) := by decide +kernel
theorem k139_5 : mm_at 139 5 = some (.iload_n 1, 6, 1, .null) := by decide +kernel
theorem k139_6 : mm_at 139 6 = some (.goto 13, 9, 19, .null) := by decide +kernel
theorem k139_9 : mm_at 139 9 = some (.iload_n 0, 10, 0, .null) := by decide +kernel
theorem k139_10 : mm_at 139 10 = some (.iload_n 2, 11, 2, .null) := by decide +kernel
theorem k139_11 : mm_at 139 11 = some (.if_icmp .le 7, 14, 18, .null) := by decide +kernel
theorem k139_14 : mm_at 139 14 = some (.iload_n 2, 15, 2, .null) := by decide +kernel
theorem k139_15 : mm_at 139 15 = some (.goto 4, 18, 19, .null) := by decide +kernel
theorem k139_18 : mm_at 139 18 = some (.iload_n 0, 19, 0, .null) := by decide +kernel
theorem k139_19 : mm_at 139 19 = some (.ireturn, 20, 0, .null) := by decide +kernel
theorem k140_0 : mm_at 140 0 = some (.iconst 0, 1, 0, .int (0)) := by decide +kernel
theorem k140_1 : mm_at 140 1 = some (.istore_n 2, 2, 2, .null) := by decide +kernel
theorem k140_2 : mm_at 140 2 = some (.iload_n 2, 3, 2, .null) := by decide +kernel
theorem k140_3 : mm_at 140 3 = some (.sipush 321, 6, 0, .int (321)) := by decide +kernel
theorem k140_6 : mm_at 140 6 = some (.if_icmp .ge 15, 9, 21, .null) := by decide +kernel
theorem k140_9 : mm_at 140 9 = some (.aload_n 1, 10, 1, .null) := by decide +kernel
theorem k140_10 : mm_at 140 10 = some (.iload_n 2, 11, 2, .null) := by decide +kernel
theorem k140_11 : mm_at 140 11 = some (.aload_n 0, 12, 0, .null) := by decide +kernel
theorem k140_12 : mm_at 140 12 = some (.iload_n 2, 13, 2, .null) := by decide +kernel
theorem k140_13 : mm_at 140 13 = some (.iaload, 14, 0, .null) := by decide +kernel
theorem k140_14 : mm_at 140 14 = some (.iastore, 15, 0, .null) := by decide +kernel
theorem k140_15 : mm_at 140 15 = some (.iinc 2 1, 18, 2, .int (1)) := by decide +kernel
theorem k140_18 : mm_at 140 18 = some (.goto (-16), 21, 2, .null) := by decide +kernel
theorem k140_21 : mm_at 140 21 = some (.return_, 22, 0, .null) := by decide +kernel
theorem k141_0 : mm_at 141 0 = some (.iconst 0, 1, 0, .int (0)) := by decide +kernel
theorem k141_1 : mm_at 141 1 = some (.istore_n 1, 2, 1, .null) := by decide +kernel
theorem k141_2 : mm_at 141 2 = some (.iload_n 0, 3, 0, .null) := by decide +kernel
theorem k141_3 : mm_at 141 3 = some (.istore_n 2, 4, 2, .null) := by decide +kernel
theorem k141_4 : mm_at 141 4 = some (.iload_n 2, 5, 2, .null) := by decide +kernel
theorem k141_5 : mm_at 141 5 = some (.ifCond .eq 15, 8, 20, .null) := by decide +kernel
theorem k141_8 : mm_at 141 8 = some (.iinc 1 1, 11, 1, .int (1)) := by decide +kernel
theorem k141_11 : mm_at 141 11 = some (.iload_n 2, 12, 2, .null) := by decide +kernel
theorem k141_12 : mm_at 141 12 = some (.iload_n 2, 13, 2, .null) := by decide +kernel
theorem k141_13 : mm_at 141 13 = some (.iconst 1, 14, 0, .int (1)) := by decide +kernel
theorem k141_14 : mm_at 141 14 = some (.isub, 15, 0, .null) := by decide +kernel
theorem k141_15 : mm_at 141 15 = some (.iand, 16, 0, .null) := by decide +kernel
theorem k141_16 : mm_at 141 16 = some (.istore_n 2, 17, 2, .null) := by decide +kernel
theorem k141_17 : mm_at 141 17 = some (.goto (-13), 20, 4, .null) := by decide +kernel
theorem k141_20 : mm_at 141 20 = some (.iload_n 1, 21, 1, .null) := by decide +kernel
theorem k141_21 : mm_at 141 21 = some (.ireturn, 22, 0, .null) := by decide +kernel
theorem k142_0 : mm_at 142 0 = some (.iload_n 1, 1, 1, .null) := by decide +kernel
theorem k142_1 : mm_at 142 1 = some (.iconst 0, 2, 0, .int (0)) := by decide +kernel
theorem k142_2 : mm_at 142 2 = some (.aload_n 0, 3, 0, .null) := by decide +kernel
theorem k142_3 : mm_at 142 3 = some (.getfield 9, 6, 1200, .null) := by decide +kernel
theorem k142_6 : mm_at 142 6 = some (.iconst 2, 7, 0, .int (2)) := by decide +kernel
theorem k142_7 : mm_at 142 7 = some (.iaload, 8, 0, .null) := by decide +kernel
theorem k142_8 : mm_at 142 8 = some (.iconst 1, 9, 0, .int (1)) := by decide +kernel
theorem k142_9 : mm_at 142 9 = some (.isub, 10, 0, .null) := by decide +kernel
theorem k142_10 : mm_at 142 10 = some (.invokestatic 47, 13, 224, .null) := by decide +kernel
theorem k142_13 : mm_at 142 13 = some (.ireturn, 14, 0, .null) := by decide +kernel
theorem k143_0 : mm_at 143 0 = some (.iload_n 1, 1, 1, .null) := by decide +kernel
theorem k143_1 : mm_at 143 1 = some (.iconst 0, 2, 0, .int (0)) := by decide +kernel
theorem k143_2 : mm_at 143 2 = some (.aload_n 0, 3, 0, .null) := by decide +kernel
theorem k143_3 : mm_at 143 3 = some (.getfield 9, 6, 1200, .null) := by decide +kernel
theorem k143_6 : mm_at 143 6 = some (.iconst 3, 7, 0, .int (3)) := by decide +kernel
theorem k143_7 : mm_at 143 7 = some (.iaload, 8, 0, .null) := by decide +kernel
theorem k143_8 : mm_at 143 8 = some (.iconst 1, 9, 0, .int (1)) := by decide +kernel
theorem k143_9 : mm_at 143 9 = some (.isub, 10, 0, .null) := by decide +kernel
theorem k143_10 : mm_at 143 10 = some (.invokestatic 47, 13, 224, .null) := by decide +kernel
theorem k143_13 : mm_at 143 13 = some (.ireturn, 14, 0, .null) := by decide +kernel
theorem k144_0 : mm_at 144 0 = some (.iload_n 0, 1, 0, .null) := by decide +kernel
theorem k144_1 : mm_at 144 1 = some (.iconst 0, 2, 0, .int (0)) := by decide +kernel
theorem k144_2 : mm_at 144 2 = some (.bipush 7, 4, 0, .int (7)) := by decide +kernel
theorem k144_4 : mm_at 144 4 = some (.invokestatic 47, 7, 224, .null) := by decide +kernel
theorem k144_7 : mm_at 144 7 = some (.ireturn, 8, 0, .null) := by decide +kernel
theorem k145_0 : mm_at 145 0 = some (.aload_n 0, 1, 0, .null) := by decide +kernel
theorem k145_1 : mm_at 145 1 = some (.getfield 9, 4, 1200, .null) := by decide +kernel
theorem k145_4 : mm_at 145 4 = some (.iload_n 1, 5, 1, .null) := by decide +kernel
theorem k145_5 : mm_at 145 5 = some (.iaload, 6, 0, .null) := by decide +kernel
theorem k145_6 : mm_at 145 6 = some (.istore_n 3, 7, 3, .null) := by decide +kernel
theorem k145_7 : mm_at 145 7 = some (.aload_n 0, 8, 0, .null) := by decide +kernel
theorem k145_8 : mm_at 145 8 = some (.getfield 9, 11, 1200, .null) := by decide +kernel
theorem k145_11 : mm_at 145 11 = some (.iload_n 1, 12, 1, .null) := by decide +kernel
theorem k145_12 : mm_at 145 12 = some (.iload_n 2, 13, 2, .null) := by decide +kernel
theorem k145_13 : mm_at 145 13 = some (.iastore, 14, 0, .null) := by decide +kernel
theorem k145_14 : mm_at 145 14 = some (.iload_n 3, 15, 3, .null) := by decide +kernel
theorem k145_15 : mm_at 145 15 = some (.ireturn, 16, 0, .null) := by decide +kernel
theorem k146_0 : mm_at 146 0 = some (.aload_n 0, 1, 0, .null) := by decide +kernel
theorem k146_1 : mm_at 146 1 = some (.getfield 9, 4, 1200, .null) := by decide +kernel
theorem k146_4 : mm_at 146 4 = some (.bipush 7, 6, 0, .int (7)) := by decide +kernel
theorem k146_6 : mm_at 146 6 = some (.iconst 4, 7, 0, .int (4)) := by decide +kernel
theorem k146_7 : mm_at 146 7 = some (.iload_n 1, 8, 1, .null) := by decide +kernel
theorem k146_8 : mm_at 146 8 = some (.imul, 9, 0, .null) := by decide +kernel
theorem k146_9 : mm_at 146 9 = some (.iadd, 10, 0, .null) := by decide +kernel
theorem k146_10 : mm_at 146 10 = some (.iload_n 2, 11, 2, .null) := by decide +kernel
theorem k146_11 : mm_at 146 11 = some (.iadd, 12, 0, .null) := by decide +kernel
theorem k146_12 : mm_at 146 12 = some (.iaload, 13, 0, .null) := by decide +kernel
theorem k146_13 : mm_at 146 13 = some (.ireturn, 14, 0, .null) := by decide +kernel
theorem k147_0 : mm_at 147 0 = some (.aload_n 0, 1, 0, .null) := by decide +kernel
theorem k147_1 : mm_at 147 1 = some (.getfield 9, 4, 1200, .null) := by decide +kernel
theorem k147_4 : mm_at 147 4 = some (.bipush 31, 6, 0, .int (31)) := by decide +kernel
theorem k147_6 : mm_at 147 6 = some (.iconst 3, 7, 0, .int (3)) := by decide +kernel
theorem k147_7 : mm_at 147 7 = some (.iload_n 1, 8, 1, .null) := by decide +kernel
theorem k147_8 : mm_at 147 8 = some (.imul, 9, 0, .null) := by decide +kernel
theorem k147_9 : mm_at 147 9 = some (.iadd, 10, 0, .null) := by decide +kernel
theorem k147_10 : mm_at 147 10 = some (.iload_n 2, 11, 2, .null) := by decide +kernel
theorem k147_11 : mm_at 147 11 = some (.iadd, 12, 0, .null) := by decide +kernel
theorem k147_12 : mm_at 147 12 = some (.iaload, 13, 0, .null) := by decide +kernel
theorem k147_13 : mm_at 147 13 = some (.ireturn, 14, 0, .null) := by decide +kernel
theorem k148_0 : mm_at 148 0 = some (.aload_n 0, 1, 0, .null) := by decide +kernel
theorem k148_1 : mm_at 148 1 = some (.getfield 9, 4, 1200, .null) := by decide +kernel
theorem k148_4 : mm_at 148 4 = some (.bipush 31, 6, 0, .int (31)) := by decide +kernel
theorem k148_6 : mm_at 148 6 = some (.iconst 3, 7, 0, .int (3)) := by decide +kernel
theorem k148_7 : mm_at 148 7 = some (.iload_n 1, 8, 1, .null) := by decide +kernel
theorem k148_8 : mm_at 148 8 = some (.imul, 9, 0, .null) := by decide +kernel
theorem k148_9 : mm_at 148 9 = some (.iadd, 10, 0, .null) := by decide +kernel
theorem k148_10 : mm_at 148 10 = some (.iload_n 2, 11, 2, .null) := by decide +kernel
theorem k148_11 : mm_at 148 11 = some (.iadd, 12, 0, .null) := by decide +kernel
theorem k148_12 : mm_at 148 12 = some (.iload_n 3, 13, 3, .null) := by decide +kernel
theorem k148_13 : mm_at 148 13 = some (.iastore, 14, 0, .null) := by decide +kernel
theorem k148_14 : mm_at 148 14 = some (.return_, 15, 0, .null) := by decide +kernel
theorem k149_0 : mm_at 149 0 = some (.iconst 0, 1, 0, .int (0)) := by decide +kernel
theorem k149_1 : mm_at 149 1 = some (.istore_n 2, 2, 2, .null) := by decide +kernel
theorem k149_2 : mm_at 149 2 = some (.iload_n 2, 3, 2, .null) := by decide +kernel
theorem k149_3 : mm_at 149 3 = some (.aload_n 0, 4, 0, .null) := by decide +kernel
theorem k149_4 : mm_at 149 4 = some (.getfield 9, 7, 1200, .null) := by decide +kernel
theorem k149_7 : mm_at 149 7 = some (.iconst 3, 8, 0, .int (3)) := by decide +kernel
theorem k149_8 : mm_at 149 8 = some (.iaload, 9, 0, .null) := by decide +kernel
theorem k149_9 : mm_at 149 9 = some (.if_icmp .ge 21, 12, 30, .null) := by decide +kernel
theorem k149_12 : mm_at 149 12 = some (.aload_n 0, 13, 0, .null) := by decide +kernel
theorem k149_13 : mm_at 149 13 = some (.iload_n 2, 14, 2, .null) := by decide +kernel
theorem k149_14 : mm_at 149 14 = some (.iconst 2, 15, 0, .int (2)) := by decide +kernel
theorem k149_15 : mm_at 149 15 = some (.invokevirtual 51, 18, 225, .null) := by decide +kernel
theorem k149_18 : mm_at 149 18 = some (.iload_n 1, 19, 1, .null) := by decide +kernel
theorem k149_19 : mm_at 149 19 = some (.if_icmp .ne 5, 22, 24, .null) := by decide +kernel
theorem k149_22 : mm_at 149 22 = some (.iload_n 2, 23, 2, .null) := by decide +kernel
theorem k149_23 : mm_at 149 23 = some (.ireturn, 24, 0, .null) := by decide +kernel
theorem k149_24 : mm_at 149 24 = some (.iinc 2 1, 27, 2, .int (1)) := by decide +kernel
theorem k149_27 : mm_at 149 27 = some (.goto (-25), 30, 2, .null) := by decide +kernel
theorem k149_30 : mm_at 149 30 = some (.iconst (-1), 31, 0, .int (-1)) := by decide +kernel
theorem k149_31 : mm_at 149 31 = some (.ireturn, 32, 0, .null) := by decide +kernel
theorem k150_0 : mm_at 150 0 = some (.iconst 0, 1, 0, .int (0)) := by decide +kernel
theorem k150_1 : mm_at 150 1 = some (.istore_n 1, 2, 1, .null) := by decide +kernel
theorem k150_2 : mm_at 150 2 = some (.iconst 0, 3, 0, .int (0)) := by decide +kernel
theorem k150_3 : mm_at 150 3 = some (.istore_n 2, 4, 2, .null) := by decide +kernel
theorem k150_4 : mm_at 150 4 = some (.iload_n 2, 5, 2, .null) := by decide +kernel
theorem k150_5 : mm_at 150 5 = some (.aload_n 0, 6, 0, .null) := by decide +kernel
theorem k150_6 : mm_at 150 6 = some (.getfield 9, 9, 1200, .null) := by decide +kernel
theorem k150_9 : mm_at 150 9 = some (.iconst 3, 10, 0, .int (3)) := by decide +kernel
theorem k150_10 : mm_at 150 10 = some (.iaload, 11, 0, .null) := by decide +kernel
theorem k150_11 : mm_at 150 11 = some (.if_icmp .ge 33, 14, 44, .null) := by decide +kernel
theorem k150_14 : mm_at 150 14 = some (.iload_n 1, 15, 1, .null) := by decide +kernel
theorem k150_15 : mm_at 150 15 = some (.aload_n 0, 16, 0, .null) := by decide +kernel
theorem k150_16 : mm_at 150 16 = some (.iload_n 2, 17, 2, .null) := by decide +kernel
theorem k150_17 : mm_at 150 17 = some (.iconst 2, 18, 0, .int (2)) := by decide +kernel
theorem k150_18 : mm_at 150 18 = some (.invokevirtual 51, 21, 225, .null) := by decide +kernel
theorem k150_21 : mm_at 150 21 = some (.ifCond .lt 14, 24, 35, .null) := by decide +kernel
theorem k150_24 : mm_at 150 24 = some (.iconst 1, 25, 0, .int (1)) := by decide +kernel
theorem k150_25 : mm_at 150 25 = some (.aload_n 0, 26, 0, .null) := by decide +kernel
theorem k150_26 : mm_at 150 26 = some (.iload_n 2, 27, 2, .null) := by decide +kernel
theorem k150_27 : mm_at 150 27 = some (.iconst 2, 28, 0, .int (2)) := by decide +kernel
theorem k150_28 : mm_at 150 28 = some (.invokevirtual 51, 31, 225, .null) := by decide +kernel
theorem k150_31 : mm_at 150 31 = some (.ishl, 32, 0, .null) := by decide +kernel
theorem k150_32 : mm_at 150 32 = some (.goto 4, 35, 36, .null) := by decide +kernel
theorem k150_35 : mm_at 150 35 = some (.iconst 0, 36, 0, .int (0)) := by decide +kernel
theorem k150_36 : mm_at 150 36 = some (.ior, 37, 0, .null) := by decide +kernel
theorem k150_37 : mm_at 150 37 = some (.istore_n 1, 38, 1, .null) := by decide +kernel
theorem k150_38 : mm_at 150 38 = some (.iinc 2 1, 41, 2, .int (1)) := by decide +kernel
theorem k150_41 : mm_at 150 41 = some (.goto (-37), 44, 4, .null) := by decide +kernel
theorem k150_44 : mm_at 150 44 = some (.iload_n 1, 45, 1, .null) := by decide +kernel
theorem k150_45 : mm_at 150 45 = some (.ireturn, 46, 0, .null) := by decide +kernel
theorem k151_0 : mm_at 151 0 = some (.aload_n 0, 1, 0, .null) := by decide +kernel
theorem k151_1 : mm_at 151 1 = some (.iload_n 1, 2, 1, .null) := by decide +kernel
theorem k151_2 : mm_at 151 2 = some (.iconst 2, 3, 0, .int (2)) := by decide +kernel
theorem k151_3 : mm_at 151 3 = some (.invokevirtual 55, 6, 226, .null) := by decide +kernel
theorem k151_6 : mm_at 151 6 = some (.aload_n 0, 7, 0, .null) := by decide +kernel
theorem k151_7 : mm_at 151 7 = some (.iload_n 1, 8, 1, .null) := by decide +kernel
theorem k151_8 : mm_at 151 8 = some (.iconst 3, 9, 0, .int (3)) := by decide +kernel
theorem k151_9 : mm_at 151 9 = some (.invokevirtual 55, 12, 226, .null) := by decide +kernel
theorem k151_12 : mm_at 151 12 = some (.ixor, 13, 0, .null) := by decide +kernel
theorem k151_13 : mm_at 151 13 = some (.iload_n 2, 14, 2, .null) := by decide +kernel
theorem k151_14 : mm_at 151 14 = some (.ishr, 15, 0, .null) := by decide +kernel
theorem k151_15 : mm_at 151 15 = some (.iconst 1, 16, 0, .int (1)) := by decide +kernel
theorem k151_16 : mm_at 151 16 = some (.iand, 17, 0, .null) := by decide +kernel
theorem k151_17 : mm_at 151 17 = some (.iconst 1, 18, 0, .int (1)) := by decide +kernel
theorem k151_18 : mm_at 151 18 = some (.if_icmp .ne 7, 21, 25, .null) := by decide +kernel
theorem k151_21 : mm_at 151 21 = some (.iconst 1, 22, 0, .int (1)) := by decide +kernel
theorem k151_22 : mm_at 151 22 = some (.goto 4, 25, 26, .null) := by decide +kernel
theorem k151_25 : mm_at 151 25 = some (.iconst 0, 26, 0, .int (0)) := by decide +kernel
theorem k151_26 : mm_at 151 26 = some (.ireturn, 27, 0, .null) := by decide +kernel
theorem k152_0 : mm_at 152 0 = some (.aload_n 0, 1, 0, .null) := by decide +kernel
theorem k152_1 : mm_at 152 1 = some (.iload_n 1, 2, 1, .null) := by decide +kernel
theorem k152_2 : mm_at 152 2 = some (.iload_n 2, 3, 2, .null) := by decide +kernel
theorem k152_3 : mm_at 152 3 = some (.invokevirtual 58, 6, 227, .null) := by decide +kernel
theorem k152_6 : mm_at 152 6 = some (.ifCond .eq 7, 9, 13, .null) := by decide +kernel
theorem k152_9 : mm_at 152 9 = some (.iconst 1, 10, 0, .int (1)) := by decide +kernel
theorem k152_10 : mm_at 152 10 = some (.goto 4, 13, 14, .null) := by decide +kernel
theorem k152_13 : mm_at 152 13 = some (.iconst (-1), 14, 0, .int (-1)) := by decide +kernel
theorem k152_14 : mm_at 152 14 = some (.ireturn, 15, 0, .null) := by decide +kernel
theorem k153_0 : mm_at 153 0 = some (.aload_n 0, 1, 0, .null) := by decide +kernel
theorem k153_1 : mm_at 153 1 = some (.iload_n 1, 2, 1, .null) := by decide +kernel
theorem k153_2 : mm_at 153 2 = some (.iconst 2, 3, 0, .int (2)) := by decide +kernel
theorem k153_3 : mm_at 153 3 = some (.invokevirtual 55, 6, 226, .null) := by decide +kernel
theorem k153_6 : mm_at 153 6 = some (.invokestatic 62, 9, 228, .null) := by decide +kernel
theorem k153_9 : mm_at 153 9 = some (.iconst 4, 10, 0, .int (4)) := by decide +kernel
theorem k153_10 : mm_at 153 10 = some (.if_icmp .lt 7, 13, 17, .null) := by decide +kernel
theorem k153_13 : mm_at 153 13 = some (.iconst 1, 14, 0, .int (1)) := by decide +kernel
theorem k153_14 : mm_at 153 14 = some (.goto 9, 17, 23, .null) := by decide +kernel
theorem k153_17 : mm_at 153 17 = some (.aload_n 0, 18, 0, .null) := by decide +kernel
theorem k153_18 : mm_at 153 18 = some (.iload_n 1, 19, 1, .null) := by decide +kernel
theorem k153_19 : mm_at 153 19 = some (.iload_n 2, 20, 2, .null) := by decide +kernel
theorem k153_20 : mm_at 153 20 = some (.invokevirtual 66, 23, 229, .null) := by decide +kernel
theorem k153_23 : mm_at 153 23 = some (.ireturn, 24, 0, .null) := by decide +kernel
theorem k154_0 : mm_at 154 0 = some (.iload_n 3, 1, 3, .null) := by decide +kernel
theorem k154_1 : mm_at 154 1 = some (.iload_n 1, 2, 1, .null) := by decide +kernel
theorem k154_2 : mm_at 154 2 = some (.ishr, 3, 0, .null) := by decide +kernel
theorem k154_3 : mm_at 154 3 = some (.iconst 1, 4, 0, .int (1)) := by decide +kernel
theorem k154_4 : mm_at 154 4 = some (.iand, 5, 0, .null) := by decide +kernel
theorem k154_5 : mm_at 154 5 = some (.ifCond .ne 5, 8, 10, .null) := by decide +kernel
theorem k154_8 : mm_at 154 8 = some (.iconst 0, 9, 0, .int (0)) := by decide +kernel
theorem k154_9 : mm_at 154 9 = some (.ireturn, 10, 0, .null) := by decide +kernel
theorem k154_10 : mm_at 154 10 = some (.iload_n 1, 11, 1, .null) := by decide +kernel
theorem k154_11 : mm_at 154 11 = some (.iconst 1, 12, 0, .int (1)) := by decide +kernel
theorem k154_12 : mm_at 154 12 = some (.iadd, 13, 0, .null) := by decide +kernel
theorem k154_13 : mm_at 154 13 = some (.aload_n 0, 14, 0, .null) := by decide +kernel
theorem k154_14 : mm_at 154 14 = some (.getfield 9, 17, 1200, .null) := by decide +kernel
theorem k154_17 : mm_at 154 17 = some (.iconst 2, 18, 0, .int (2)) := by decide +kernel
theorem k154_18 : mm_at 154 18 = some (.iaload, 19, 0, .null) := by decide +kernel
theorem k154_19 : mm_at 154 19 = some (.irem, 20, 0, .null) := by decide +kernel
theorem k154_20 : mm_at 154 20 = some (.istore 4, 22, 4, .null) := by decide +kernel
theorem k154_22 : mm_at 154 22 = some (.aload_n 0, 23, 0, .null) := by decide +kernel
theorem k154_23 : mm_at 154 23 = some (.iload_n 1, 24, 1, .null) := by decide +kernel
theorem k154_24 : mm_at 154 24 = some (.iconst 0, 25, 0, .int (0)) := by decide +kernel
theorem k154_25 : mm_at 154 25 = some (.invokevirtual 55, 28, 226, .null) := by decide +kernel
theorem k154_28 : mm_at 154 28 = some (.tableswitch 100 1 6 #[40, 63, 85, 61, 63, 92], 68, 0, .null) := by decide +kernel
theorem k154_68 : mm_at 154 68 = some (.aload_n 0, 69, 0, .null) := by decide +kernel
theorem k154_69 : mm_at 154 69 = some (.iload_n 1, 70, 1, .null) := by decide +kernel
theorem k154_70 : mm_at 154 70 = some (.iconst 1, 71, 0, .int (1)) := by decide +kernel
theorem k154_71 : mm_at 154 71 = some (.invokevirtual 55, 74, 226, .null) := by decide +kernel
theorem k154_74 : mm_at 154 74 = some (.iload_n 2, 75, 2, .null) := by decide +kernel
theorem k154_75 : mm_at 154 75 = some (.if_icmp .ne 7, 78, 82, .null) := by decide +kernel
theorem k154_78 : mm_at 154 78 = some (.iconst 0, 79, 0, .int (0)) := by decide +kernel
theorem k154_79 : mm_at 154 79 = some (.goto 9, 82, 88, .null) := by decide +kernel
theorem k154_82 : mm_at 154 82 = some (.aload_n 0, 83, 0, .null) := by decide +kernel
theorem k154_83 : mm_at 154 83 = some (.iload_n 1, 84, 1, .null) := by decide +kernel
theorem k154_84 : mm_at 154 84 = some (.iload_n 2, 85, 2, .null) := by decide +kernel
theorem k154_85 : mm_at 154 85 = some (.invokevirtual 66, 88, 229, .null) := by decide +kernel
theorem k154_88 : mm_at 154 88 = some (.ireturn, 89, 0, .null) := by decide +kernel
theorem k154_89 : mm_at 154 89 = some (.iconst 0, 90, 0, .int (0)) := by decide +kernel
theorem k154_90 : mm_at 154 90 = some (.ireturn, 91, 0, .null) := by decide +kernel
theorem k154_91 : mm_at 154 91 = some (.aload_n 0, 92, 0, .null) := by decide +kernel
theorem k154_92 : mm_at 154 92 = some (.iload_n 3, 93, 3, .null) := by decide +kernel
theorem k154_93 : mm_at 154 93 = some (.iload 4, 95, 4, .null) := by decide +kernel
theorem k154_95 : mm_at 154 95 = some (.ishr, 96, 0, .null) := by decide +kernel
theorem k154_96 : mm_at 154 96 = some (.iconst 1, 97, 0, .int (1)) := by decide +kernel
theorem k154_97 : mm_at 154 97 = some (.iand, 98, 0, .null) := by decide +kernel
theorem k154_98 : mm_at 154 98 = some (.iconst 1, 99, 0, .int (1)) := by decide +kernel
theorem k154_99 : mm_at 154 99 = some (.if_icmp .ne 8, 102, 107, .null) := by decide +kernel
theorem k154_102 : mm_at 154 102 = some (.iload 4, 104, 4, .null) := by decide +kernel
theorem k154_104 : mm_at 154 104 = some (.goto 4, 107, 108, .null) := by decide +kernel
theorem k154_107 : mm_at 154 107 = some (.iload_n 1, 108, 1, .null) := by decide +kernel
theorem k154_108 : mm_at 154 108 = some (.iload_n 2, 109, 2, .null) := by decide +kernel
theorem k154_109 : mm_at 154 109 = some (.invokevirtual 66, 112, 229, .null) := by decide +kernel
theorem k154_112 : mm_at 154 112 = some (.ireturn, 113, 0, .null) := by decide +kernel
theorem k154_113 : mm_at 154 113 = some (.aload_n 0, 114, 0, .null) := by decide +kernel
theorem k154_114 : mm_at 154 114 = some (.iload_n 1, 115, 1, .null) := by decide +kernel
theorem k154_115 : mm_at 154 115 = some (.iload_n 2, 116, 2, .null) := by decide +kernel
theorem k154_116 : mm_at 154 116 = some (.invokevirtual 69, 119, 230, .null) := by decide +kernel
theorem k154_119 : mm_at 154 119 = some (.ireturn, 120, 0, .null) := by decide +kernel
theorem k154_120 : mm_at 154 120 = some (.aload_n 0, 121, 0, .null) := by decide +kernel
theorem k154_121 : mm_at 154 121 = some (.iload_n 1, 122, 1, .null) := by decide +kernel
theorem k154_122 : mm_at 154 122 = some (.iload_n 2, 123, 2, .null) := by decide +kernel
theorem k154_123 : mm_at 154 123 = some (.invokevirtual 69, 126, 230, .null) := by decide +kernel
theorem k154_126 : mm_at 154 126 = some (.ineg, 127, 0, .null) := by decide +kernel
theorem k154_127 : mm_at 154 127 = some (.ireturn, 128, 0, .null) := by decide +kernel
theorem k154_128 : mm_at 154 128 = some (.aload_n 0, 129, 0, .null) := by decide +kernel
theorem k154_129 : mm_at 154 129 = some (.iload_n 1, 130, 1, .null) := by decide +kernel
theorem k154_130 : mm_at 154 130 = some (.iload_n 2, 131, 2, .null) := by decide +kernel
theorem k154_131 : mm_at 154 131 = some (.invokevirtual 66, 134, 229, .null) := by decide +kernel
theorem k154_134 : mm_at 154 134 = some (.ireturn, 135, 0, .null) := by decide +kernel
theorem k155_0 : mm_at 155 0 = some (.aload_n 0, 1, 0, .null) := by decide +kernel
theorem k155_1 : mm_at 155 1 = some (.iconst 0, 2, 0, .int (0)) := by decide +kernel
theorem k155_2 : mm_at 155 2 = some (.aload_n 0, 3, 0, .null) := by decide +kernel
theorem k155_3 : mm_at 155 3 = some (.iload_n 1, 4, 1, .null) := by decide +kernel
theorem k155_4 : mm_at 155 4 = some (.iconst 2, 5, 0, .int (2)) := by decide +kernel
theorem k155_5 : mm_at 155 5 = some (.invokevirtual 55, 8, 226, .null) := by decide +kernel
theorem k155_8 : mm_at 155 8 = some (.invokestatic 62, 11, 228, .null) := by decide +kernel
theorem k155_11 : mm_at 155 11 = some (.aload_n 0, 12, 0, .null) := by decide +kernel
theorem k155_12 : mm_at 155 12 = some (.iload_n 1, 13, 1, .null) := by decide +kernel
theorem k155_13 : mm_at 155 13 = some (.iconst 3, 14, 0, .int (3)) := by decide +kernel
theorem k155_14 : mm_at 155 14 = some (.invokevirtual 55, 17, 226, .null) := by decide +kernel
theorem k155_17 : mm_at 155 17 = some (.invokestatic 62, 20, 228, .null) := by decide +kernel
theorem k155_20 : mm_at 155 20 = some (.aload_n 0, 21, 0, .null) := by decide +kernel
theorem k155_21 : mm_at 155 21 = some (.getfield 9, 24, 1200, .null) := by decide +kernel
theorem k155_24 : mm_at 155 24 = some (.iconst 0, 25, 0, .int (0)) := by decide +kernel
theorem k155_25 : mm_at 155 25 = some (.iaload, 26, 0, .null) := by decide +kernel
theorem k155_26 : mm_at 155 26 = some (.invokevirtual 72, 29, 231, .null) := by decide +kernel
theorem k155_29 : mm_at 155 29 = some (.istore_n 2, 30, 2, .null) := by decide +kernel
theorem k155_30 : mm_at 155 30 = some (.aload_n 0, 31, 0, .null) := by decide +kernel
theorem k155_31 : mm_at 155 31 = some (.iload_n 1, 32, 1, .null) := by decide +kernel
theorem k155_32 : mm_at 155 32 = some (.iconst 0, 33, 0, .int (0)) := by decide +kernel
theorem k155_33 : mm_at 155 33 = some (.invokevirtual 55, 36, 226, .null) := by decide +kernel
theorem k155_36 : mm_at 155 36 = some (.lookupswitch 43 #[(5, 28), (6, 39)], 64, 0, .null) := by decide +kernel
theorem k155_64 : mm_at 155 64 = some (.iload_n 2, 65, 2, .null) := by decide +kernel
theorem k155_65 : mm_at 155 65 = some (.aload_n 0, 66, 0, .null) := by decide +kernel
theorem k155_66 : mm_at 155 66 = some (.iload_n 1, 67, 1, .null) := by decide +kernel
theorem k155_67 : mm_at 155 67 = some (.iconst 1, 68, 0, .int (1)) := by decide +kernel
theorem k155_68 : mm_at 155 68 = some (.invokevirtual 55, 71, 226, .null) := by decide +kernel
theorem k155_71 : mm_at 155 71 = some (.iconst 3, 72, 0, .int (3)) := by decide +kernel
theorem k155_72 : mm_at 155 72 = some (.idiv, 73, 0, .null) := by decide +kernel
theorem k155_73 : mm_at 155 73 = some (.iadd, 74, 0, .null) := by decide +kernel
theorem k155_74 : mm_at 155 74 = some (.ireturn, 75, 0, .null) := by decide +kernel
theorem k155_75 : mm_at 155 75 = some (.iconst 2, 76, 0, .int (2)) := by decide +kernel
theorem k155_76 : mm_at 155 76 = some (.iload_n 2, 77, 2, .null) := by decide +kernel
theorem k155_77 : mm_at 155 77 = some (.imul, 78, 0, .null) := by decide +kernel
theorem k155_78 : mm_at 155 78 = some (.ireturn, 79, 0, .null) := by decide +kernel
theorem k155_79 : mm_at 155 79 = some (.iload_n 2, 80, 2, .null) := by decide +kernel
theorem k155_80 : mm_at 155 80 = some (.ireturn, 81, 0, .null) := by decide +kernel
theorem k156_0 : mm_at 156 0 = some (.iconst 0, 1, 0, .int (0)) := by decide +kernel
theorem k156_1 : mm_at 156 1 = some (.istore 4, 3, 4, .null) := by decide +kernel
theorem k156_3 : mm_at 156 3 = some (.iconst 0, 4, 0, .int (0)) := by decide +kernel
theorem k156_4 : mm_at 156 4 = some (.istore 5, 6, 5, .null) := by decide +kernel
theorem k156_6 : mm_at 156 6 = some (.iload 5, 8, 5, .null) := by decide +kernel
theorem k156_8 : mm_at 156 8 = some (.aload_n 0, 9, 0, .null) := by decide +kernel
theorem k156_9 : mm_at 156 9 = some (.getfield 9, 12, 1200, .null) := by decide +kernel
theorem k156_12 : mm_at 156 12 = some (.iconst 2, 13, 0, .int (2)) := by decide +kernel
theorem k156_13 : mm_at 156 13 = some (.iaload, 14, 0, .null) := by decide +kernel
theorem k156_14 : mm_at 156 14 = some (.if_icmp .ge 46, 17, 60, .null) := by decide +kernel
theorem k156_17 : mm_at 156 17 = some (.iload 4, 19, 4, .null) := by decide +kernel
theorem k156_19 : mm_at 156 19 = some (.iload_n 2, 20, 2, .null) := by decide +kernel
theorem k156_20 : mm_at 156 20 = some (.iload 5, 22, 5, .null) := by decide +kernel
theorem k156_22 : mm_at 156 22 = some (.ishr, 23, 0, .null) := by decide +kernel
theorem k156_23 : mm_at 156 23 = some (.iconst 1, 24, 0, .int (1)) := by decide +kernel
theorem k156_24 : mm_at 156 24 = some (.iand, 25, 0, .null) := by decide +kernel
theorem k156_25 : mm_at 156 25 = some (.iconst 1, 26, 0, .int (1)) := by decide +kernel
theorem k156_26 : mm_at 156 26 = some (.if_icmp .ne 24, 29, 50, .null) := by decide +kernel
theorem k156_29 : mm_at 156 29 = some (.aload_n 0, 30, 0, .null) := by decide +kernel
theorem k156_30 : mm_at 156 30 = some (.iload 5, 32, 5, .null) := by decide +kernel
theorem k156_32 : mm_at 156 32 = some (.iload_n 1, 33, 1, .null) := by decide +kernel
theorem k156_33 : mm_at 156 33 = some (.iload_n 2, 34, 2, .null) := by decide +kernel
theorem k156_34 : mm_at 156 34 = some (.invokevirtual 76, 37, 232, .null) := by decide +kernel
theorem k156_37 : mm_at 156 37 = some (.iload_n 3, 38, 3, .null) := by decide +kernel
theorem k156_38 : mm_at 156 38 = some (.if_icmp .ne 12, 41, 50, .null) := by decide +kernel
theorem k156_41 : mm_at 156 41 = some (.aload_n 0, 42, 0, .null) := by decide +kernel
theorem k156_42 : mm_at 156 42 = some (.iload 5, 44, 5, .null) := by decide +kernel
theorem k156_44 : mm_at 156 44 = some (.invokevirtual 80, 47, 233, .null) := by decide +kernel
theorem k156_47 : mm_at 156 47 = some (.goto 4, 50, 51, .null) := by decide +kernel
theorem k156_50 : mm_at 156 50 = some (.iconst 0, 51, 0, .int (0)) := by decide +kernel
theorem k156_51 : mm_at 156 51 = some (.iadd, 52, 0, .null) := by decide +kernel
theorem k156_52 : mm_at 156 52 = some (.istore 4, 54, 4, .null) := by decide +kernel
theorem k156_54 : mm_at 156 54 = some (.iinc 5 1, 57, 5, .int (1)) := by decide +kernel
theorem k156_57 : mm_at 156 57 = some (.goto (-51), 60, 6, .null) := by decide +kernel
theorem k156_60 : mm_at 156 60 = some (.iload 4, 62, 4, .null) := by decide +kernel
theorem k156_62 : mm_at 156 62 = some (.ireturn, 63, 0, .null) := by decide +kernel
theorem k157_0 : mm_at 157 0 = some (.aload_n 0, 1, 0, .null) := by decide +kernel
theorem k157_1 : mm_at 157 1 = some (.iload_n 1, 2, 1, .null) := by decide +kernel
theorem k157_2 : mm_at 157 2 = some (.iload_n 2, 3, 2, .null) := by decide +kernel
theorem k157_3 : mm_at 157 3 = some (.iconst 1, 4, 0, .int (1)) := by decide +kernel
theorem k157_4 : mm_at 157 4 = some (.invokevirtual 83, 7, 234, .null) := by decide +kernel
theorem k157_7 : mm_at 157 7 = some (.aload_n 0, 8, 0, .null) := by decide +kernel
theorem k157_8 : mm_at 157 8 = some (.iload_n 1, 9, 1, .null) := by decide +kernel
theorem k157_9 : mm_at 157 9 = some (.iload_n 2, 10, 2, .null) := by decide +kernel
theorem k157_10 : mm_at 157 10 = some (.iconst (-1), 11, 0, .int (-1)) := by decide +kernel
theorem k157_11 : mm_at 157 11 = some (.invokevirtual 83, 14, 234, .null) := by decide +kernel
theorem k157_14 : mm_at 157 14 = some (.isub, 15, 0, .null) := by decide +kernel
theorem k157_15 : mm_at 157 15 = some (.ireturn, 16, 0, .null) := by decide +kernel
theorem k158_0 : mm_at 158 0 = some (.aload_n 0, 1, 0, .null) := by decide +kernel
theorem k158_1 : mm_at 158 1 = some (.iload_n 1, 2, 1, .null) := by decide +kernel
theorem k158_2 : mm_at 158 2 = some (.aload_n 0, 3, 0, .null) := by decide +kernel
theorem k158_3 : mm_at 158 3 = some (.invokevirtual 86, 6, 235, .null) := by decide +kernel
theorem k158_6 : mm_at 158 6 = some (.invokevirtual 90, 9, 236, .null) := by decide +kernel
theorem k158_9 : mm_at 158 9 = some (.ifCond .le 7, 12, 16, .null) := by decide +kernel
theorem k158_12 : mm_at 158 12 = some (.iconst 1, 13, 0, .int (1)) := by decide +kernel
theorem k158_13 : mm_at 158 13 = some (.goto 4, 16, 17, .null) := by decide +kernel
theorem k158_16 : mm_at 158 16 = some (.iconst 0, 17, 0, .int (0)) := by decide +kernel
theorem k158_17 : mm_at 158 17 = some (.ireturn, 18, 0, .null) := by decide +kernel
theorem k159_0 : mm_at 159 0 = some (.iload_n 0, 1, 0, .null) := by decide +kernel
theorem k159_1 : mm_at 159 1 = some (.iconst 0, 2, 0, .int (0)) := by decide +kernel
theorem k159_2 : mm_at 159 2 = some (.bipush 69, 4, 0, .int (69)) := by decide +kernel
theorem k159_4 : mm_at 159 4 = some (.invokestatic 47, 7, 224, .null) := by decide +kernel
theorem k159_7 : mm_at 159 7 = some (.ireturn, 8, 0, .null) := by decide +kernel
theorem k160_0 : mm_at 160 0 = some (.iload_n 1, 1, 1, .null) := by decide +kernel
theorem k160_1 : mm_at 160 1 = some (.invokestatic 93, 4, 237, .null) := by decide +kernel
theorem k160_4 : mm_at 160 4 = some (.ifCond .eq 14, 7, 18, .null) := by decide +kernel
theorem k160_7 : mm_at 160 7 = some (.iload_n 2, 8, 2, .null) := by decide +kernel
theorem k160_8 : mm_at 160 8 = some (.iconst 0, 9, 0, .int (0)) := by decide +kernel
theorem k160_9 : mm_at 160 9 = some (.sipush 255, 12, 0, .int (255)) := by decide +kernel
theorem k160_12 : mm_at 160 12 = some (.invokestatic 47, 15, 224, .null) := by decide +kernel
theorem k160_15 : mm_at 160 15 = some (.ifCond .ne 10, 18, 25, .null) := by decide +kernel
theorem k160_18 : mm_at 160 18 = some (.aload_n 0, 19, 0, .null) := by decide +kernel
theorem k160_19 : mm_at 160 19 = some (.ldc 97, 21, 0, .int (-1000000001)) := by decide +kernel
theorem k160_21 : mm_at 160 21 = some (.invokevirtual 98, 24, 238, .null) := by decide +kernel
theorem k160_24 : mm_at 160 24 = some (.ireturn, 25, 0, .null) := by decide +kernel
theorem k160_25 : mm_at 160 25 = some (.aload_n 0, 26, 0, .null) := by decide +kernel
theorem k160_26 : mm_at 160 26 = some (.getfield 9, 29, 1200, .null) := by decide +kernel
theorem k160_29 : mm_at 160 29 = some (.iconst 2, 30, 0, .int (2)) := by decide +kernel
theorem k160_30 : mm_at 160 30 = some (.iaload, 31, 0, .null) := by decide +kernel
theorem k160_31 : mm_at 160 31 = some (.istore_n 3, 32, 3, .null) := by decide +kernel
theorem k160_32 : mm_at 160 32 = some (.iload_n 3, 33, 3, .null) := by decide +kernel
theorem k160_33 : mm_at 160 33 = some (.bipush 6, 35, 0, .int (6)) := by decide +kernel
theorem k160_35 : mm_at 160 35 = some (.if_icmp .ne 10, 38, 45, .null) := by decide +kernel
theorem k160_38 : mm_at 160 38 = some (.aload_n 0, 39, 0, .null) := by decide +kernel
theorem k160_39 : mm_at 160 39 = some (.ldc 101, 41, 0, .int (-1000000004)) := by decide +kernel
theorem k160_41 : mm_at 160 41 = some (.invokevirtual 98, 44, 238, .null) := by decide +kernel
theorem k160_44 : mm_at 160 44 = some (.ireturn, 45, 0, .null) := by decide +kernel
theorem k160_45 : mm_at 160 45 = some (.aload_n 0, 46, 0, .null) := by decide +kernel
theorem k160_46 : mm_at 160 46 = some (.getfield 9, 49, 1200, .null) := by decide +kernel
theorem k160_49 : mm_at 160 49 = some (.iconst 2, 50, 0, .int (2)) := by decide +kernel
theorem k160_50 : mm_at 160 50 = some (.dup2, 51, 0, .null) := by decide +kernel
theorem k160_51 : mm_at 160 51 = some (.iaload, 52, 0, .null) := by decide +kernel
theorem k160_52 : mm_at 160 52 = some (.iconst 1, 53, 0, .int (1)) := by decide +kernel
theorem k160_53 : mm_at 160 53 = some (.iadd, 54, 0, .null) := by decide +kernel
theorem k160_54 : mm_at 160 54 = some (.iastore, 55, 0, .null) := by decide +kernel
theorem k160_55 : mm_at 160 55 = some (.aload_n 0, 56, 0, .null) := by decide +kernel
theorem k160_56 : mm_at 160 56 = some (.getfield 9, 59, 1200, .null) := by decide +kernel
theorem k160_59 : mm_at 160 59 = some (.bipush 7, 61, 0, .int (7)) := by decide +kernel
theorem k160_61 : mm_at 160 61 = some (.iconst 4, 62, 0, .int (4)) := by decide +kernel
theorem k160_62 : mm_at 160 62 = some (.iload_n 3, 63, 3, .null) := by decide +kernel
theorem k160_63 : mm_at 160 63 = some (.imul, 64, 0, .null) := by decide +kernel
theorem k160_64 : mm_at 160 64 = some (.iadd, 65, 0, .null) := by decide +kernel
theorem k160_65 : mm_at 160 65 = some (.iload_n 1, 66, 1, .null) := by decide +kernel
theorem k160_66 : mm_at 160 66 = some (.bipush 10, 68, 0, .int (10)) := by decide +kernel
theorem k160_68 : mm_at 160 68 = some (.idiv, 69, 0, .null) := by decide +kernel
theorem k160_69 : mm_at 160 69 = some (.iastore, 70, 0, .null) := by decide +kernel
theorem k160_70 : mm_at 160 70 = some (.aload_n 0, 71, 0, .null) := by decide +kernel
theorem k160_71 : mm_at 160 71 = some (.getfield 9, 74, 1200, .null) := by decide +kernel
theorem k160_74 : mm_at 160 74 = some (.bipush 7, 76, 0, .int (7)) := by decide +kernel
theorem k160_76 : mm_at 160 76 = some (.iconst 4, 77, 0, .int (4)) := by decide +kernel
theorem k160_77 : mm_at 160 77 = some (.iload_n 3, 78, 3, .null) := by decide +kernel
theorem k160_78 : mm_at 160 78 = some (.imul, 79, 0, .null) := by decide +kernel
theorem k160_79 : mm_at 160 79 = some (.iadd, 80, 0, .null) := by decide +kernel
theorem k160_80 : mm_at 160 80 = some (.iconst 1, 81, 0, .int (1)) := by decide +kernel
theorem k160_81 : mm_at 160 81 = some (.iadd, 82, 0, .null) := by decide +kernel
theorem k160_82 : mm_at 160 82 = some (.iload_n 1, 83, 1, .null) := by decide +kernel
theorem k160_83 : mm_at 160 83 = some (.bipush 10, 85, 0, .int (10)) := by decide +kernel
theorem k160_85 : mm_at 160 85 = some (.irem, 86, 0, .null) := by decide +kernel
theorem k160_86 : mm_at 160 86 = some (.iastore, 87, 0, .null) := by decide +kernel
theorem k160_87 : mm_at 160 87 = some (.aload_n 0, 88, 0, .null) := by decide +kernel
theorem k160_88 : mm_at 160 88 = some (.getfield 9, 91, 1200, .null) := by decide +kernel
theorem k160_91 : mm_at 160 91 = some (.bipush 7, 93, 0, .int (7)) := by decide +kernel
theorem k160_93 : mm_at 160 93 = some (.iconst 4, 94, 0, .int (4)) := by decide +kernel
theorem k160_94 : mm_at 160 94 = some (.iload_n 3, 95, 3, .null) := by decide +kernel
theorem k160_95 : mm_at 160 95 = some (.imul, 96, 0, .null) := by decide +kernel
theorem k160_96 : mm_at 160 96 = some (.iadd, 97, 0, .null) := by decide +kernel
theorem k160_97 : mm_at 160 97 = some (.iconst 2, 98, 0, .int (2)) := by decide +kernel
theorem k160_98 : mm_at 160 98 = some (.iadd, 99, 0, .null) := by decide +kernel
theorem k160_99 : mm_at 160 99 = some (.iload_n 2, 100, 2, .null) := by decide +kernel
theorem k160_100 : mm_at 160 100 = some (.iastore, 101, 0, .null) := by decide +kernel
theorem k160_101 : mm_at 160 101 = some (.aload_n 0, 102, 0, .null) := by decide +kernel
theorem k160_102 : mm_at 160 102 = some (.getfield 9, 105, 1200, .null) := by decide +kernel
theorem k160_105 : mm_at 160 105 = some (.bipush 7, 107, 0, .int (7)) := by decide +kernel
theorem k160_107 : mm_at 160 107 = some (.iconst 4, 108, 0, .int (4)) := by decide +kernel
theorem k160_108 : mm_at 160 108 = some (.iload_n 3, 109, 3, .null) := by decide +kernel
theorem k160_109 : mm_at 160 109 = some (.imul, 110, 0, .null) := by decide +kernel
theorem k160_110 : mm_at 160 110 = some (.iadd, 111, 0, .null) := by decide +kernel
theorem k160_111 : mm_at 160 111 = some (.iconst 3, 112, 0, .int (3)) := by decide +kernel
theorem k160_112 : mm_at 160 112 = some (.iadd, 113, 0, .null) := by decide +kernel
theorem k160_113 : mm_at 160 113 = some (.iconst 0, 114, 0, .int (0)) := by decide +kernel
theorem k160_114 : mm_at 160 114 = some (.iastore, 115, 0, .null) := by decide +kernel
theorem k160_115 : mm_at 160 115 = some (.iload_n 3, 116, 3, .null) := by decide +kernel
theorem k160_116 : mm_at 160 116 = some (.ireturn, 117, 0, .null) := by decide +kernel
theorem k161_0 : mm_at 161 0 = some (.aload_n 0, 1, 0, .null) := by decide +kernel
theorem k161_1 : mm_at 161 1 = some (.iload_n 1, 2, 1, .null) := by decide +kernel
theorem k161_2 : mm_at 161 2 = some (.invokevirtual 102, 5, 239, .null) := by decide +kernel
theorem k161_5 : mm_at 161 5 = some (.ifCond .eq 12, 8, 17, .null) := by decide +kernel
theorem k161_8 : mm_at 161 8 = some (.iload_n 2, 9, 2, .null) := by decide +kernel
theorem k161_9 : mm_at 161 9 = some (.iconst 0, 10, 0, .int (0)) := by decide +kernel
theorem k161_10 : mm_at 161 10 = some (.iconst 5, 11, 0, .int (5)) := by decide +kernel
theorem k161_11 : mm_at 161 11 = some (.invokestatic 47, 14, 224, .null) := by decide +kernel
theorem k161_14 : mm_at 161 14 = some (.ifCond .ne 10, 17, 24, .null) := by decide +kernel
theorem k161_17 : mm_at 161 17 = some (.aload_n 0, 18, 0, .null) := by decide +kernel
theorem k161_18 : mm_at 161 18 = some (.ldc 97, 20, 0, .int (-1000000001)) := by decide +kernel
theorem k161_20 : mm_at 161 20 = some (.invokevirtual 98, 23, 238, .null) := by decide +kernel
theorem k161_23 : mm_at 161 23 = some (.ireturn, 24, 0, .null) := by decide +kernel
theorem k161_24 : mm_at 161 24 = some (.iload_n 2, 25, 2, .null) := by decide +kernel
theorem k161_25 : mm_at 161 25 = some (.iconst 4, 26, 0, .int (4)) := by decide +kernel
theorem k161_26 : mm_at 161 26 = some (.if_icmp .ge 12, 29, 38, .null) := by decide +kernel
theorem k161_29 : mm_at 161 29 = some (.aload_n 0, 30, 0, .null) := by decide +kernel
theorem k161_30 : mm_at 161 30 = some (.iload_n 1, 31, 1, .null) := by decide +kernel
theorem k161_31 : mm_at 161 31 = some (.iload_n 2, 32, 2, .null) := by decide +kernel
theorem k161_32 : mm_at 161 32 = some (.invokevirtual 55, 35, 226, .null) := by decide +kernel
theorem k161_35 : mm_at 161 35 = some (.goto 21, 38, 56, .null) := by decide +kernel
theorem k161_38 : mm_at 161 38 = some (.iload_n 2, 39, 2, .null) := by decide +kernel
theorem k161_39 : mm_at 161 39 = some (.iconst 4, 40, 0, .int (4)) := by decide +kernel
theorem k161_40 : mm_at 161 40 = some (.if_icmp .ne 11, 43, 51, .null) := by decide +kernel
theorem k161_43 : mm_at 161 43 = some (.aload_n 0, 44, 0, .null) := by decide +kernel
theorem k161_44 : mm_at 161 44 = some (.iload_n 1, 45, 1, .null) := by decide +kernel
theorem k161_45 : mm_at 161 45 = some (.invokevirtual 105, 48, 240, .null) := by decide +kernel
theorem k161_48 : mm_at 161 48 = some (.goto 8, 51, 56, .null) := by decide +kernel
theorem k161_51 : mm_at 161 51 = some (.aload_n 0, 52, 0, .null) := by decide +kernel
theorem k161_52 : mm_at 161 52 = some (.iload_n 1, 53, 1, .null) := by decide +kernel
theorem k161_53 : mm_at 161 53 = some (.invokevirtual 80, 56, 233, .null) := by decide +kernel
theorem k161_56 : mm_at 161 56 = some (.ireturn, 57, 0, .null) := by decide +kernel
theorem k162_0 : mm_at 162 0 = some (.aload_n 0, 1, 0, .null) := by decide +kernel
theorem k162_1 : mm_at 162 1 = some (.iload_n 1, 2, 1, .null) := by decide +kernel
theorem k162_2 : mm_at 162 2 = some (.invokevirtual 102, 5, 239, .null) := by decide +kernel
theorem k162_5 : mm_at 162 5 = some (.ifCond .eq 41, 8, 46, .null) := by decide +kernel
theorem k162_8 : mm_at 162 8 = some (.iload_n 2, 9, 2, .null) := by decide +kernel
theorem k162_9 : mm_at 162 9 = some (.iconst 0, 10, 0, .int (0)) := by decide +kernel
theorem k162_10 : mm_at 162 10 = some (.iconst 1, 11, 0, .int (1)) := by decide +kernel
theorem k162_11 : mm_at 162 11 = some (.invokestatic 47, 14, 224, .null) := by decide +kernel
theorem k162_14 : mm_at 162 14 = some (.ifCond .eq 32, 17, 46, .null) := by decide +kernel
theorem k162_17 : mm_at 162 17 = some (.iload_n 3, 18, 3, .null) := by decide +kernel
theorem k162_18 : mm_at 162 18 = some (.iconst 0, 19, 0, .int (0)) := by decide +kernel
theorem k162_19 : mm_at 162 19 = some (.sipush 255, 22, 0, .int (255)) := by decide +kernel
theorem k162_22 : mm_at 162 22 = some (.invokestatic 47, 25, 224, .null) := by decide +kernel
theorem k162_25 : mm_at 162 25 = some (.ifCond .eq 21, 28, 46, .null) := by decide +kernel
theorem k162_28 : mm_at 162 28 = some (.aload_n 0, 29, 0, .null) := by decide +kernel
theorem k162_29 : mm_at 162 29 = some (.bipush 7, 31, 0, .int (7)) := by decide +kernel
theorem k162_31 : mm_at 162 31 = some (.iconst 4, 32, 0, .int (4)) := by decide +kernel
theorem k162_32 : mm_at 162 32 = some (.iload_n 1, 33, 1, .null) := by decide +kernel
theorem k162_33 : mm_at 162 33 = some (.imul, 34, 0, .null) := by decide +kernel
theorem k162_34 : mm_at 162 34 = some (.iadd, 35, 0, .null) := by decide +kernel
theorem k162_35 : mm_at 162 35 = some (.iconst 2, 36, 0, .int (2)) := by decide +kernel
theorem k162_36 : mm_at 162 36 = some (.iadd, 37, 0, .null) := by decide +kernel
theorem k162_37 : mm_at 162 37 = some (.iload_n 2, 38, 2, .null) := by decide +kernel
theorem k162_38 : mm_at 162 38 = some (.iadd, 39, 0, .null) := by decide +kernel
theorem k162_39 : mm_at 162 39 = some (.iload_n 3, 40, 3, .null) := by decide +kernel
theorem k162_40 : mm_at 162 40 = some (.invokevirtual 108, 43, 241, .null) := by decide +kernel
theorem k162_43 : mm_at 162 43 = some (.goto 9, 46, 52, .null) := by decide +kernel
theorem k162_46 : mm_at 162 46 = some (.aload_n 0, 47, 0, .null) := by decide +kernel
theorem k162_47 : mm_at 162 47 = some (.ldc 97, 49, 0, .int (-1000000001)) := by decide +kernel
theorem k162_49 : mm_at 162 49 = some (.invokevirtual 98, 52, 238, .null) := by decide +kernel
theorem k162_52 : mm_at 162 52 = some (.ireturn, 53, 0, .null) := by decide +kernel
theorem k163_0 : mm_at 163 0 = some (.aload_n 0, 1, 0, .null) := by decide +kernel
theorem k163_1 : mm_at 163 1 = some (.iload_n 1, 2, 1, .null) := by decide +kernel
theorem k163_2 : mm_at 163 2 = some (.invokevirtual 102, 5, 239, .null) := by decide +kernel
theorem k163_5 : mm_at 163 5 = some (.ifCond .eq 10, 8, 15, .null) := by decide +kernel
theorem k163_8 : mm_at 163 8 = some (.iload_n 2, 9, 2, .null) := by decide +kernel
theorem k163_9 : mm_at 163 9 = some (.invokestatic 93, 12, 237, .null) := by decide +kernel
theorem k163_12 : mm_at 163 12 = some (.ifCond .ne 10, 15, 22, .null) := by decide +kernel
theorem k163_15 : mm_at 163 15 = some (.aload_n 0, 16, 0, .null) := by decide +kernel
theorem k163_16 : mm_at 163 16 = some (.ldc 97, 18, 0, .int (-1000000001)) := by decide +kernel
theorem k163_18 : mm_at 163 18 = some (.invokevirtual 98, 21, 238, .null) := by decide +kernel
theorem k163_21 : mm_at 163 21 = some (.ireturn, 22, 0, .null) := by decide +kernel
theorem k163_22 : mm_at 163 22 = some (.aload_n 0, 23, 0, .null) := by decide +kernel
theorem k163_23 : mm_at 163 23 = some (.getfield 9, 26, 1200, .null) := by decide +kernel
theorem k163_26 : mm_at 163 26 = some (.bipush 7, 28, 0, .int (7)) := by decide +kernel
theorem k163_28 : mm_at 163 28 = some (.iconst 4, 29, 0, .int (4)) := by decide +kernel
theorem k163_29 : mm_at 163 29 = some (.iload_n 1, 30, 1, .null) := by decide +kernel
theorem k163_30 : mm_at 163 30 = some (.imul, 31, 0, .null) := by decide +kernel
theorem k163_31 : mm_at 163 31 = some (.iadd, 32, 0, .null) := by decide +kernel
theorem k163_32 : mm_at 163 32 = some (.iconst 1, 33, 0, .int (1)) := by decide +kernel
theorem k163_33 : mm_at 163 33 = some (.iadd, 34, 0, .null) := by decide +kernel
theorem k163_34 : mm_at 163 34 = some (.iload_n 2, 35, 2, .null) := by decide +kernel
theorem k163_35 : mm_at 163 35 = some (.bipush 10, 37, 0, .int (10)) := by decide +kernel
theorem k163_37 : mm_at 163 37 = some (.irem, 38, 0, .null) := by decide +kernel
theorem k163_38 : mm_at 163 38 = some (.iastore, 39, 0, .null) := by decide +kernel
theorem k163_39 : mm_at 163 39 = some (.aload_n 0, 40, 0, .null) := by decide +kernel
theorem k163_40 : mm_at 163 40 = some (.bipush 7, 42, 0, .int (7)) := by decide +kernel
theorem k163_42 : mm_at 163 42 = some (.iconst 4, 43, 0, .int (4)) := by decide +kernel
theorem k163_43 : mm_at 163 43 = some (.iload_n 1, 44, 1, .null) := by decide +kernel
theorem k163_44 : mm_at 163 44 = some (.imul, 45, 0, .null) := by decide +kernel
theorem k163_45 : mm_at 163 45 = some (.iadd, 46, 0, .null) := by decide +kernel
theorem k163_46 : mm_at 163 46 = some (.iload_n 2, 47, 2, .null) := by decide +kernel
theorem k163_47 : mm_at 163 47 = some (.bipush 10, 49, 0, .int (10)) := by decide +kernel
theorem k163_49 : mm_at 163 49 = some (.idiv, 50, 0, .null) := by decide +kernel
theorem k163_50 : mm_at 163 50 = some (.invokevirtual 108, 53, 241, .null) := by decide +kernel
theorem k163_53 : mm_at 163 53 = some (.ireturn, 54, 0, .null) := by decide +kernel
theorem k164_0 : mm_at 164 0 = some (.iload_n 1, 1, 1, .null) := by decide +kernel
theorem k164_1 : mm_at 164 1 = some (.ifCond .eq 39, 4, 40, .null) := by decide +kernel
theorem k164_4 : mm_at 164 4 = some (.iload_n 0, 5, 0, .null) := by decide +kernel
theorem k164_5 : mm_at 164 5 = some (.iload_n 1, 6, 1, .null) := by decide +kernel
theorem k164_6 : mm_at 164 6 = some (.if_icmp .eq 34, 9, 40, .null) := by decide +kernel
theorem k164_9 : mm_at 164 9 = some (.iload_n 1, 10, 1, .null) := by decide +kernel
theorem k164_10 : mm_at 164 10 = some (.iconst 1, 11, 0, .int (1)) := by decide +kernel
theorem k164_11 : mm_at 164 11 = some (.if_icmp .ne 8, 14, 19, .null) := by decide +kernel
theorem k164_14 : mm_at 164 14 = some (.iload_n 0, 15, 0, .null) := by decide +kernel
theorem k164_15 : mm_at 164 15 = some (.iconst 4, 16, 0, .int (4)) := by decide +kernel
theorem k164_16 : mm_at 164 16 = some (.if_icmp .eq 24, 19, 40, .null) := by decide +kernel
theorem k164_19 : mm_at 164 19 = some (.iload_n 1, 20, 1, .null) := by decide +kernel
theorem k164_20 : mm_at 164 20 = some (.iconst 2, 21, 0, .int (2)) := by decide +kernel
theorem k164_21 : mm_at 164 21 = some (.if_icmp .ne 8, 24, 29, .null) := by decide +kernel
theorem k164_24 : mm_at 164 24 = some (.iload_n 0, 25, 0, .null) := by decide +kernel
theorem k164_25 : mm_at 164 25 = some (.iconst 5, 26, 0, .int (5)) := by decide +kernel
theorem k164_26 : mm_at 164 26 = some (.if_icmp .eq 14, 29, 40, .null) := by decide +kernel
theorem k164_29 : mm_at 164 29 = some (.iload_n 1, 30, 1, .null) := by decide +kernel
theorem k164_30 : mm_at 164 30 = some (.iconst 3, 31, 0, .int (3)) := by decide +kernel
theorem k164_31 : mm_at 164 31 = some (.if_icmp .ne 13, 34, 44, .null) := by decide +kernel
theorem k164_34 : mm_at 164 34 = some (.iload_n 0, 35, 0, .null) := by decide +kernel
theorem k164_35 : mm_at 164 35 = some (.bipush 6, 37, 0, .int (6)) := by decide +kernel
theorem k164_37 : mm_at 164 37 = some (.if_icmp .ne 7, 40, 44, .null) := by decide +kernel
theorem k164_40 : mm_at 164 40 = some (.iconst 1, 41, 0, .int (1)) := by decide +kernel
theorem k164_41 : mm_at 164 41 = some (.goto 4, 44, 45, .null) := by decide +kernel
theorem k164_44 : mm_at 164 44 = some (.iconst 0, 45, 0, .int (0)) := by decide +kernel
theorem k164_45 : mm_at 164 45 = some (.ireturn, 46, 0, .null) := by decide +kernel
theorem k165_0 : mm_at 165 0 = some (.aload_n 0, 1, 0, .null) := by decide +kernel
theorem k165_1 : mm_at 165 1 = some (.iload_n 1, 2, 1, .null) := by decide +kernel
theorem k165_2 : mm_at 165 2 = some (.invokevirtual 102, 5, 239, .null) := by decide +kernel
theorem k165_5 : mm_at 165 5 = some (.ifCond .eq 13, 8, 18, .null) := by decide +kernel
theorem k165_8 : mm_at 165 8 = some (.iload_n 2, 9, 2, .null) := by decide +kernel
theorem k165_9 : mm_at 165 9 = some (.iconst 0, 10, 0, .int (0)) := by decide +kernel
theorem k165_10 : mm_at 165 10 = some (.bipush 6, 12, 0, .int (6)) := by decide +kernel
theorem k165_12 : mm_at 165 12 = some (.invokestatic 47, 15, 224, .null) := by decide +kernel
theorem k165_15 : mm_at 165 15 = some (.ifCond .ne 10, 18, 25, .null) := by decide +kernel
theorem k165_18 : mm_at 165 18 = some (.aload_n 0, 19, 0, .null) := by decide +kernel
theorem k165_19 : mm_at 165 19 = some (.ldc 97, 21, 0, .int (-1000000001)) := by decide +kernel
theorem k165_21 : mm_at 165 21 = some (.invokevirtual 98, 24, 238, .null) := by decide +kernel
theorem k165_24 : mm_at 165 24 = some (.ireturn, 25, 0, .null) := by decide +kernel
theorem k165_25 : mm_at 165 25 = some (.aload_n 0, 26, 0, .null) := by decide +kernel
theorem k165_26 : mm_at 165 26 = some (.iload_n 1, 27, 1, .null) := by decide +kernel
theorem k165_27 : mm_at 165 27 = some (.iconst 0, 28, 0, .int (0)) := by decide +kernel
theorem k165_28 : mm_at 165 28 = some (.invokevirtual 55, 31, 226, .null) := by decide +kernel
theorem k165_31 : mm_at 165 31 = some (.iload_n 2, 32, 2, .null) := by decide +kernel
theorem k165_32 : mm_at 165 32 = some (.invokestatic 111, 35, 242, .null) := by decide +kernel
theorem k165_35 : mm_at 165 35 = some (.ifCond .eq 12, 38, 47, .null) := by decide +kernel
theorem k165_38 : mm_at 165 38 = some (.aload_n 0, 39, 0, .null) := by decide +kernel
theorem k165_39 : mm_at 165 39 = some (.iload_n 1, 40, 1, .null) := by decide +kernel
theorem k165_40 : mm_at 165 40 = some (.iconst 1, 41, 0, .int (1)) := by decide +kernel
theorem k165_41 : mm_at 165 41 = some (.invokevirtual 55, 44, 226, .null) := by decide +kernel
theorem k165_44 : mm_at 165 44 = some (.goto 9, 47, 53, .null) := by decide +kernel
theorem k165_47 : mm_at 165 47 = some (.aload_n 0, 48, 0, .null) := by decide +kernel
theorem k165_48 : mm_at 165 48 = some (.ldc 114, 50, 0, .int (-1000000005)) := by decide +kernel
theorem k165_50 : mm_at 165 50 = some (.invokevirtual 98, 53, 238, .null) := by decide +kernel
theorem k165_53 : mm_at 165 53 = some (.ireturn, 54, 0, .null) := by decide +kernel
theorem k166_0 : mm_at 166 0 = some (.iload_n 1, 1, 1, .null) := by decide +kernel
theorem k166_1 : mm_at 166 1 = some (.invokestatic 115, 4, 243, .null) := by decide +kernel
theorem k166_4 : mm_at 166 4 = some (.ifCond .ne 10, 7, 14, .null) := by decide +kernel
theorem k166_7 : mm_at 166 7 = some (.aload_n 0, 8, 0, .null) := by decide +kernel
theorem k166_8 : mm_at 166 8 = some (.ldc 97, 10, 0, .int (-1000000001)) := by decide +kernel
theorem k166_10 : mm_at 166 10 = some (.invokevirtual 98, 13, 238, .null) := by decide +kernel
theorem k166_13 : mm_at 166 13 = some (.ireturn, 14, 0, .null) := by decide +kernel
theorem k166_14 : mm_at 166 14 = some (.aload_n 0, 15, 0, .null) := by decide +kernel
theorem k166_15 : mm_at 166 15 = some (.getfield 9, 18, 1200, .null) := by decide +kernel
theorem k166_18 : mm_at 166 18 = some (.iconst 3, 19, 0, .int (3)) := by decide +kernel
theorem k166_19 : mm_at 166 19 = some (.iaload, 20, 0, .null) := by decide +kernel
theorem k166_20 : mm_at 166 20 = some (.istore_n 2, 21, 2, .null) := by decide +kernel
theorem k166_21 : mm_at 166 21 = some (.iload_n 2, 22, 2, .null) := by decide +kernel
theorem k166_22 : mm_at 166 22 = some (.bipush 6, 24, 0, .int (6)) := by decide +kernel
theorem k166_24 : mm_at 166 24 = some (.if_icmp .ne 10, 27, 34, .null) := by decide +kernel
theorem k166_27 : mm_at 166 27 = some (.aload_n 0, 28, 0, .null) := by decide +kernel
theorem k166_28 : mm_at 166 28 = some (.ldc 101, 30, 0, .int (-1000000004)) := by decide +kernel
theorem k166_30 : mm_at 166 30 = some (.invokevirtual 98, 33, 238, .null) := by decide +kernel
theorem k166_33 : mm_at 166 33 = some (.ireturn, 34, 0, .null) := by decide +kernel
theorem k166_34 : mm_at 166 34 = some (.aload_n 0, 35, 0, .null) := by decide +kernel
theorem k166_35 : mm_at 166 35 = some (.getfield 9, 38, 1200, .null) := by decide +kernel
theorem k166_38 : mm_at 166 38 = some (.iconst 3, 39, 0, .int (3)) := by decide +kernel
theorem k166_39 : mm_at 166 39 = some (.dup2, 40, 0, .null) := by decide +kernel
theorem k166_40 : mm_at 166 40 = some (.iaload, 41, 0, .null) := by decide +kernel
theorem k166_41 : mm_at 166 41 = some (.iconst 1, 42, 0, .int (1)) := by decide +kernel
theorem k166_42 : mm_at 166 42 = some (.iadd, 43, 0, .null) := by decide +kernel
theorem k166_43 : mm_at 166 43 = some (.iastore, 44, 0, .null) := by decide +kernel
theorem k166_44 : mm_at 166 44 = some (.aload_n 0, 45, 0, .null) := by decide +kernel
theorem k166_45 : mm_at 166 45 = some (.iload_n 2, 46, 2, .null) := by decide +kernel
theorem k166_46 : mm_at 166 46 = some (.iconst 0, 47, 0, .int (0)) := by decide +kernel
theorem k166_47 : mm_at 166 47 = some (.bipush 10, 49, 0, .int (10)) := by decide +kernel
theorem k166_49 : mm_at 166 49 = some (.invokevirtual 118, 52, 244, .null) := by decide +kernel
theorem k166_52 : mm_at 166 52 = some (.aload_n 0, 53, 0, .null) := by decide +kernel
theorem k166_53 : mm_at 166 53 = some (.iload_n 2, 54, 2, .null) := by decide +kernel
theorem k166_54 : mm_at 166 54 = some (.iconst 1, 55, 0, .int (1)) := by decide +kernel
theorem k166_55 : mm_at 166 55 = some (.iload_n 1, 56, 1, .null) := by decide +kernel
theorem k166_56 : mm_at 166 56 = some (.invokevirtual 118, 59, 244, .null) := by decide +kernel
theorem k166_59 : mm_at 166 59 = some (.aload_n 0, 60, 0, .null) := by decide +kernel
theorem k166_60 : mm_at 166 60 = some (.iload_n 2, 61, 2, .null) := by decide +kernel
theorem k166_61 : mm_at 166 61 = some (.iconst 2, 62, 0, .int (2)) := by decide +kernel
theorem k166_62 : mm_at 166 62 = some (.iconst (-1), 63, 0, .int (-1)) := by decide +kernel
theorem k166_63 : mm_at 166 63 = some (.invokevirtual 118, 66, 244, .null) := by decide +kernel
theorem k166_66 : mm_at 166 66 = some (.iload_n 2, 67, 2, .null) := by decide +kernel
theorem k166_67 : mm_at 166 67 = some (.ireturn, 68, 0, .null) := by decide +kernel
theorem k167_0 : mm_at 167 0 = some (.aload_n 0, 1, 0, .null) := by decide +kernel
theorem k167_1 : mm_at 167 1 = some (.iload_n 1, 2, 1, .null) := by decide +kernel
theorem k167_2 : mm_at 167 2 = some (.invokevirtual 122, 5, 245, .null) := by decide +kernel
theorem k167_5 : mm_at 167 5 = some (.ifCond .eq 21, 8, 26, .null) := by decide +kernel
theorem k167_8 : mm_at 167 8 = some (.iload_n 2, 9, 2, .null) := by decide +kernel
theorem k167_9 : mm_at 167 9 = some (.iconst 0, 10, 0, .int (0)) := by decide +kernel
theorem k167_10 : mm_at 167 10 = some (.iconst 2, 11, 0, .int (2)) := by decide +kernel
theorem k167_11 : mm_at 167 11 = some (.invokestatic 47, 14, 224, .null) := by decide +kernel
theorem k167_14 : mm_at 167 14 = some (.ifCond .eq 12, 17, 26, .null) := by decide +kernel
theorem k167_17 : mm_at 167 17 = some (.aload_n 0, 18, 0, .null) := by decide +kernel
theorem k167_18 : mm_at 167 18 = some (.iload_n 1, 19, 1, .null) := by decide +kernel
theorem k167_19 : mm_at 167 19 = some (.iload_n 2, 20, 2, .null) := by decide +kernel
theorem k167_20 : mm_at 167 20 = some (.invokevirtual 51, 23, 225, .null) := by decide +kernel
theorem k167_23 : mm_at 167 23 = some (.goto 9, 26, 32, .null) := by decide +kernel
theorem k167_26 : mm_at 167 26 = some (.aload_n 0, 27, 0, .null) := by decide +kernel
theorem k167_27 : mm_at 167 27 = some (.ldc 97, 29, 0, .int (-1000000001)) := by decide +kernel
theorem k167_29 : mm_at 167 29 = some (.invokevirtual 98, 32, 238, .null) := by decide +kernel
theorem k167_32 : mm_at 167 32 = some (.ireturn, 33, 0, .null) := by decide +kernel
theorem k168_0 : mm_at 168 0 = some (.aload_n 0, 1, 0, .null) := by decide +kernel
theorem k168_1 : mm_at 168 1 = some (.iload_n 1, 2, 1, .null) := by decide +kernel
theorem k168_2 : mm_at 168 2 = some (.invokevirtual 122, 5, 245, .null) := by decide +kernel
theorem k168_5 : mm_at 168 5 = some (.ifCond .eq 35, 8, 40, .null) := by decide +kernel
theorem k168_8 : mm_at 168 8 = some (.iload_n 2, 9, 2, .null) := by decide +kernel
theorem k168_9 : mm_at 168 9 = some (.iconst 0, 10, 0, .int (0)) := by decide +kernel
theorem k168_10 : mm_at 168 10 = some (.iconst 1, 11, 0, .int (1)) := by decide +kernel
theorem k168_11 : mm_at 168 11 = some (.invokestatic 47, 14, 224, .null) := by decide +kernel
theorem k168_14 : mm_at 168 14 = some (.ifCond .eq 26, 17, 40, .null) := by decide +kernel
theorem k168_17 : mm_at 168 17 = some (.iload_n 3, 18, 3, .null) := by decide +kernel
theorem k168_18 : mm_at 168 18 = some (.iconst 0, 19, 0, .int (0)) := by decide +kernel
theorem k168_19 : mm_at 168 19 = some (.iload_n 2, 20, 2, .null) := by decide +kernel
theorem k168_20 : mm_at 168 20 = some (.ifCond .ne 8, 23, 28, .null) := by decide +kernel
theorem k168_23 : mm_at 168 23 = some (.bipush 99, 25, 0, .int (99)) := by decide +kernel
theorem k168_25 : mm_at 168 25 = some (.goto 5, 28, 30, .null) := by decide +kernel
theorem k168_28 : mm_at 168 28 = some (.bipush 7, 30, 0, .int (7)) := by decide +kernel
theorem k168_30 : mm_at 168 30 = some (.invokestatic 47, 33, 224, .null) := by decide +kernel
theorem k168_33 : mm_at 168 33 = some (.ifCond .eq 7, 36, 40, .null) := by decide +kernel
theorem k168_36 : mm_at 168 36 = some (.iconst 1, 37, 0, .int (1)) := by decide +kernel
theorem k168_37 : mm_at 168 37 = some (.goto 4, 40, 41, .null) := by decide +kernel
theorem k168_40 : mm_at 168 40 = some (.iconst 0, 41, 0, .int (0)) := by decide +kernel
theorem k168_41 : mm_at 168 41 = some (.istore 4, 43, 4, .null) := by decide +kernel
theorem k168_43 : mm_at 168 43 = some (.iload 4, 45, 4, .null) := by decide +kernel
theorem k168_45 : mm_at 168 45 = some (.ifCond .eq 19, 48, 64, .null) := by decide +kernel
theorem k168_48 : mm_at 168 48 = some (.aload_n 0, 49, 0, .null) := by decide +kernel
theorem k168_49 : mm_at 168 49 = some (.bipush 31, 51, 0, .int (31)) := by decide +kernel
theorem k168_51 : mm_at 168 51 = some (.iconst 3, 52, 0, .int (3)) := by decide +kernel
theorem k168_52 : mm_at 168 52 = some (.iload_n 1, 53, 1, .null) := by decide +kernel
theorem k168_53 : mm_at 168 53 = some (.imul, 54, 0, .null) := by decide +kernel
theorem k168_54 : mm_at 168 54 = some (.iadd, 55, 0, .null) := by decide +kernel
theorem k168_55 : mm_at 168 55 = some (.iload_n 2, 56, 2, .null) := by decide +kernel
theorem k168_56 : mm_at 168 56 = some (.iadd, 57, 0, .null) := by decide +kernel
theorem k168_57 : mm_at 168 57 = some (.iload_n 3, 58, 3, .null) := by decide +kernel
theorem k168_58 : mm_at 168 58 = some (.invokevirtual 108, 61, 241, .null) := by decide +kernel
theorem k168_61 : mm_at 168 61 = some (.goto 9, 64, 70, .null) := by decide +kernel
theorem k168_64 : mm_at 168 64 = some (.aload_n 0, 65, 0, .null) := by decide +kernel
theorem k168_65 : mm_at 168 65 = some (.ldc 97, 67, 0, .int (-1000000001)) := by decide +kernel
theorem k168_67 : mm_at 168 67 = some (.invokevirtual 98, 70, 238, .null) := by decide +kernel
theorem k168_70 : mm_at 168 70 = some (.ireturn, 71, 0, .null) := by decide +kernel
theorem k169_0 : mm_at 169 0 = some (.aload_n 0, 1, 0, .null) := by decide +kernel
theorem k169_1 : mm_at 169 1 = some (.iload_n 1, 2, 1, .null) := by decide +kernel
theorem k169_2 : mm_at 169 2 = some (.invokevirtual 122, 5, 245, .null) := by decide +kernel
theorem k169_5 : mm_at 169 5 = some (.ifCond .eq 16, 8, 21, .null) := by decide +kernel
theorem k169_8 : mm_at 169 8 = some (.iload_n 2, 9, 2, .null) := by decide +kernel
theorem k169_9 : mm_at 169 9 = some (.iconst (-1), 10, 0, .int (-1)) := by decide +kernel
theorem k169_10 : mm_at 169 10 = some (.if_icmp .eq 18, 13, 28, .null) := by decide +kernel
theorem k169_13 : mm_at 169 13 = some (.aload_n 0, 14, 0, .null) := by decide +kernel
theorem k169_14 : mm_at 169 14 = some (.iload_n 2, 15, 2, .null) := by decide +kernel
theorem k169_15 : mm_at 169 15 = some (.invokevirtual 102, 18, 239, .null) := by decide +kernel
theorem k169_18 : mm_at 169 18 = some (.ifCond .ne 10, 21, 28, .null) := by decide +kernel
theorem k169_21 : mm_at 169 21 = some (.aload_n 0, 22, 0, .null) := by decide +kernel
theorem k169_22 : mm_at 169 22 = some (.ldc 97, 24, 0, .int (-1000000001)) := by decide +kernel
theorem k169_24 : mm_at 169 24 = some (.invokevirtual 98, 27, 238, .null) := by decide +kernel
theorem k169_27 : mm_at 169 27 = some (.ireturn, 28, 0, .null) := by decide +kernel
theorem k169_28 : mm_at 169 28 = some (.iload_n 2, 29, 2, .null) := by decide +kernel
theorem k169_29 : mm_at 169 29 = some (.iconst (-1), 30, 0, .int (-1)) := by decide +kernel
theorem k169_30 : mm_at 169 30 = some (.if_icmp .ne 7, 33, 37, .null) := by decide +kernel
theorem k169_33 : mm_at 169 33 = some (.iconst (-1), 34, 0, .int (-1)) := by decide +kernel
theorem k169_34 : mm_at 169 34 = some (.goto 8, 37, 42, .null) := by decide +kernel
theorem k169_37 : mm_at 169 37 = some (.aload_n 0, 38, 0, .null) := by decide +kernel
theorem k169_38 : mm_at 169 38 = some (.iload_n 2, 39, 2, .null) := by decide +kernel
theorem k169_39 : mm_at 169 39 = some (.invokevirtual 105, 42, 240, .null) := by decide +kernel
theorem k169_42 : mm_at 169 42 = some (.istore_n 3, 43, 3, .null) := by decide +kernel
theorem k169_43 : mm_at 169 43 = some (.iload_n 3, 44, 3, .null) := by decide +kernel
theorem k169_44 : mm_at 169 44 = some (.ifCond .lt 17, 47, 61, .null) := by decide +kernel
theorem k169_47 : mm_at 169 47 = some (.iload_n 3, 48, 3, .null) := by decide +kernel
theorem k169_48 : mm_at 169 48 = some (.iload_n 1, 49, 1, .null) := by decide +kernel
theorem k169_49 : mm_at 169 49 = some (.if_icmp .eq 12, 52, 61, .null) := by decide +kernel
theorem k169_52 : mm_at 169 52 = some (.aload_n 0, 53, 0, .null) := by decide +kernel
theorem k169_53 : mm_at 169 53 = some (.ldc 125, 55, 0, .int (-1000000003)) := by decide +kernel
theorem k169_55 : mm_at 169 55 = some (.invokevirtual 98, 58, 238, .null) := by decide +kernel
theorem k169_58 : mm_at 169 58 = some (.goto 16, 61, 74, .null) := by decide +kernel
theorem k169_61 : mm_at 169 61 = some (.aload_n 0, 62, 0, .null) := by decide +kernel
theorem k169_62 : mm_at 169 62 = some (.bipush 31, 64, 0, .int (31)) := by decide +kernel
theorem k169_64 : mm_at 169 64 = some (.iconst 3, 65, 0, .int (3)) := by decide +kernel
theorem k169_65 : mm_at 169 65 = some (.iload_n 1, 66, 1, .null) := by decide +kernel
theorem k169_66 : mm_at 169 66 = some (.imul, 67, 0, .null) := by decide +kernel
theorem k169_67 : mm_at 169 67 = some (.iadd, 68, 0, .null) := by decide +kernel
theorem k169_68 : mm_at 169 68 = some (.iconst 2, 69, 0, .int (2)) := by decide +kernel
theorem k169_69 : mm_at 169 69 = some (.iadd, 70, 0, .null) := by decide +kernel
theorem k169_70 : mm_at 169 70 = some (.iload_n 2, 71, 2, .null) := by decide +kernel
theorem k169_71 : mm_at 169 71 = some (.invokevirtual 108, 74, 241, .null) := by decide +kernel
theorem k169_74 : mm_at 169 74 = some (.ireturn, 75, 0, .null) := by decide +kernel
theorem k170_0 : mm_at 170 0 = some (.iload_n 3, 1, 3, .null) := by decide +kernel
theorem k170_1 : mm_at 170 1 = some (.iconst 1, 2, 0, .int (1)) := by decide +kernel
theorem k170_2 : mm_at 170 2 = some (.bipush 8, 4, 0, .int (8)) := by decide +kernel
theorem k170_4 : mm_at 170 4 = some (.invokestatic 47, 7, 224, .null) := by decide +kernel
theorem k170_7 : mm_at 170 7 = some (.ifCond .ne 10, 10, 17, .null) := by decide +kernel
theorem k170_10 : mm_at 170 10 = some (.aload_n 0, 11, 0, .null) := by decide +kernel
theorem k170_11 : mm_at 170 11 = some (.ldc 97, 13, 0, .int (-1000000001)) := by decide +kernel
theorem k170_13 : mm_at 170 13 = some (.invokevirtual 98, 16, 238, .null) := by decide +kernel
theorem k170_16 : mm_at 170 16 = some (.ireturn, 17, 0, .null) := by decide +kernel
theorem k170_17 : mm_at 170 17 = some (.aload_n 0, 18, 0, .null) := by decide +kernel
theorem k170_18 : mm_at 170 18 = some (.getfield 9, 21, 1200, .null) := by decide +kernel
theorem k170_21 : mm_at 170 21 = some (.iconst 5, 22, 0, .int (5)) := by decide +kernel
theorem k170_22 : mm_at 170 22 = some (.iaload, 23, 0, .null) := by decide +kernel
theorem k170_23 : mm_at 170 23 = some (.iload_n 3, 24, 3, .null) := by decide +kernel
theorem k170_24 : mm_at 170 24 = some (.iadd, 25, 0, .null) := by decide +kernel
theorem k170_25 : mm_at 170 25 = some (.bipush 50, 27, 0, .int (50)) := by decide +kernel
theorem k170_27 : mm_at 170 27 = some (.if_icmp .le 10, 30, 37, .null) := by decide +kernel
theorem k170_30 : mm_at 170 30 = some (.aload_n 0, 31, 0, .null) := by decide +kernel
theorem k170_31 : mm_at 170 31 = some (.ldc 101, 33, 0, .int (-1000000004)) := by decide +kernel
theorem k170_33 : mm_at 170 33 = some (.invokevirtual 98, 36, 238, .null) := by decide +kernel
theorem k170_36 : mm_at 170 36 = some (.ireturn, 37, 0, .null) := by decide +kernel
theorem k170_37 : mm_at 170 37 = some (.iconst 0, 38, 0, .int (0)) := by decide +kernel
theorem k170_38 : mm_at 170 38 = some (.istore 4, 40, 4, .null) := by decide +kernel
theorem k170_40 : mm_at 170 40 = some (.iload 4, 42, 4, .null) := by decide +kernel
theorem k170_42 : mm_at 170 42 = some (.iload_n 3, 43, 3, .null) := by decide +kernel
theorem k170_43 : mm_at 170 43 = some (.if_icmp .ge 45, 46, 88, .null) := by decide +kernel
theorem k170_46 : mm_at 170 46 = some (.aload_n 0, 47, 0, .null) := by decide +kernel
theorem k170_47 : mm_at 170 47 = some (.getfield 9, 50, 1200, .null) := by decide +kernel
theorem k170_50 : mm_at 170 50 = some (.bipush 49, 52, 0, .int (49)) := by decide +kernel
theorem k170_52 : mm_at 170 52 = some (.aload_n 0, 53, 0, .null) := by decide +kernel
theorem k170_53 : mm_at 170 53 = some (.getfield 9, 56, 1200, .null) := by decide +kernel
theorem k170_56 : mm_at 170 56 = some (.iconst 5, 57, 0, .int (5)) := by decide +kernel
theorem k170_57 : mm_at 170 57 = some (.iaload, 58, 0, .null) := by decide +kernel
theorem k170_58 : mm_at 170 58 = some (.iadd, 59, 0, .null) := by decide +kernel
theorem k170_59 : mm_at 170 59 = some (.lload_n 1, 60, 1, .null) := by decide +kernel
theorem k170_60 : mm_at 170 60 = some (.bipush 8, 62, 0, .int (8)) := by decide +kernel
theorem k170_62 : mm_at 170 62 = some (.iload 4, 64, 4, .null) := by decide +kernel
theorem k170_64 : mm_at 170 64 = some (.imul, 65, 0, .null) := by decide +kernel
theorem k170_65 : mm_at 170 65 = some (.lshr, 66, 0, .null) := by decide +kernel
theorem k170_66 : mm_at 170 66 = some (.ldc2_w 126, 69, 0, .long (255)) := by decide +kernel
theorem k170_69 : mm_at 170 69 = some (.land, 70, 0, .null) := by decide +kernel
theorem k170_70 : mm_at 170 70 = some (.l2i, 71, 0, .null) := by decide +kernel
theorem k170_71 : mm_at 170 71 = some (.iastore, 72, 0, .null) := by decide +kernel
theorem k170_72 : mm_at 170 72 = some (.aload_n 0, 73, 0, .null) := by decide +kernel
theorem k170_73 : mm_at 170 73 = some (.getfield 9, 76, 1200, .null) := by decide +kernel
theorem k170_76 : mm_at 170 76 = some (.iconst 5, 77, 0, .int (5)) := by decide +kernel
theorem k170_77 : mm_at 170 77 = some (.dup2, 78, 0, .null) := by decide +kernel
theorem k170_78 : mm_at 170 78 = some (.iaload, 79, 0, .null) := by decide +kernel
theorem k170_79 : mm_at 170 79 = some (.iconst 1, 80, 0, .int (1)) := by decide +kernel
theorem k170_80 : mm_at 170 80 = some (.iadd, 81, 0, .null) := by decide +kernel
theorem k170_81 : mm_at 170 81 = some (.iastore, 82, 0, .null) := by decide +kernel
theorem k170_82 : mm_at 170 82 = some (.iinc 4 1, 85, 4, .int (1)) := by decide +kernel
theorem k170_85 : mm_at 170 85 = some (.goto (-45), 88, 40, .null) := by decide +kernel
theorem k170_88 : mm_at 170 88 = some (.aload_n 0, 89, 0, .null) := by decide +kernel
theorem k170_89 : mm_at 170 89 = some (.getfield 9, 92, 1200, .null) := by decide +kernel
theorem k170_92 : mm_at 170 92 = some (.iconst 5, 93, 0, .int (5)) := by decide +kernel
theorem k170_93 : mm_at 170 93 = some (.iaload, 94, 0, .null) := by decide +kernel
theorem k170_94 : mm_at 170 94 = some (.ireturn, 95, 0, .null) := by decide +kernel
theorem k171_0 : mm_at 171 0 = some (.aload_n 0, 1, 0, .null) := by decide +kernel
theorem k171_1 : mm_at 171 1 = some (.getfield 128, 4, 1210, .null) := by decide +kernel
theorem k171_4 : mm_at 171 4 = some (.aload_n 0, 5, 0, .null) := by decide +kernel
theorem k171_5 : mm_at 171 5 = some (.getfield 9, 8, 1200, .null) := by decide +kernel
theorem k171_8 : mm_at 171 8 = some (.iconst 5, 9, 0, .int (5)) := by decide +kernel
theorem k171_9 : mm_at 171 9 = some (.iaload, 10, 0, .null) := by decide +kernel
theorem k171_10 : mm_at 171 10 = some (.if_icmp .ge 18, 13, 28, .null) := by decide +kernel
theorem k171_13 : mm_at 171 13 = some (.aload_n 0, 14, 0, .null) := by decide +kernel
theorem k171_14 : mm_at 171 14 = some (.getfield 9, 17, 1200, .null) := by decide +kernel
theorem k171_17 : mm_at 171 17 = some (.bipush 49, 19, 0, .int (49)) := by decide +kernel
theorem k171_19 : mm_at 171 19 = some (.aload_n 0, 20, 0, .null) := by decide +kernel
theorem k171_20 : mm_at 171 20 = some (.getfield 128, 23, 1210, .null) := by decide +kernel
theorem k171_23 : mm_at 171 23 = some (.iadd, 24, 0, .null) := by decide +kernel
theorem k171_24 : mm_at 171 24 = some (.iaload, 25, 0, .null) := by decide +kernel
theorem k171_25 : mm_at 171 25 = some (.goto 4, 28, 29, .null) := by decide +kernel
theorem k171_28 : mm_at 171 28 = some (.iconst (-1), 29, 0, .int (-1)) := by decide +kernel
theorem k171_29 : mm_at 171 29 = some (.ireturn, 30, 0, .null) := by decide +kernel
theorem k172_0 : mm_at 172 0 = some (.aload_n 0, 1, 0, .null) := by decide +kernel
theorem k172_1 : mm_at 172 1 = some (.getfield 132, 4, 1209, .null) := by decide +kernel
theorem k172_4 : mm_at 172 4 = some (.aload_n 0, 5, 0, .null) := by decide +kernel
theorem k172_5 : mm_at 172 5 = some (.getfield 22, 8, 1205, .null) := by decide +kernel
theorem k172_8 : mm_at 172 8 = some (.arraylength, 9, 0, .null) := by decide +kernel
theorem k172_9 : mm_at 172 9 = some (.if_icmp .ge 33, 12, 42, .null) := by decide +kernel
theorem k172_12 : mm_at 172 12 = some (.aload_n 0, 13, 0, .null) := by decide +kernel
theorem k172_13 : mm_at 172 13 = some (.getfield 22, 16, 1205, .null) := by decide +kernel
theorem k172_16 : mm_at 172 16 = some (.aload_n 0, 17, 0, .null) := by decide +kernel
theorem k172_17 : mm_at 172 17 = some (.getfield 132, 20, 1209, .null) := by decide +kernel
theorem k172_20 : mm_at 172 20 = some (.iload_n 1, 21, 1, .null) := by decide +kernel
theorem k172_21 : mm_at 172 21 = some (.iastore, 22, 0, .null) := by decide +kernel
theorem k172_22 : mm_at 172 22 = some (.aload_n 0, 23, 0, .null) := by decide +kernel
theorem k172_23 : mm_at 172 23 = some (.getfield 25, 26, 1206, .null) := by decide +kernel
theorem k172_26 : mm_at 172 26 = some (.aload_n 0, 27, 0, .null) := by decide +kernel
theorem k172_27 : mm_at 172 27 = some (.getfield 132, 30, 1209, .null) := by decide +kernel
theorem k172_30 : mm_at 172 30 = some (.iload_n 2, 31, 2, .null) := by decide +kernel
theorem k172_31 : mm_at 172 31 = some (.iastore, 32, 0, .null) := by decide +kernel
theorem k172_32 : mm_at 172 32 = some (.aload_n 0, 33, 0, .null) := by decide +kernel
theorem k172_33 : mm_at 172 33 = some (.dup, 34, 0, .null) := by decide +kernel
theorem k172_34 : mm_at 172 34 = some (.getfield 132, 37, 1209, .null) := by decide +kernel
theorem k172_37 : mm_at 172 37 = some (.iconst 1, 38, 0, .int (1)) := by decide +kernel
theorem k172_38 : mm_at 172 38 = some (.iadd, 39, 0, .null) := by decide +kernel
theorem k172_39 : mm_at 172 39 = some (.putfield 132, 42, 1209, .null) := by decide +kernel
theorem k172_42 : mm_at 172 42 = some (.return_, 43, 0, .null) := by decide +kernel
theorem k173_0 : mm_at 173 0 = some (.iload_n 1, 1, 1, .null) := by decide +kernel
theorem k173_1 : mm_at 173 1 = some (.tableswitch 162 99 118 #[95, 162, 162, 162, 162, 128, 162, 162, 95, 162, 162, 128, 162, 162, 162, 162, 95, 162, 162, 128], 96, 0, .null) := by decide +kernel
theorem k173_96 : mm_at 173 96 = some (.aload_n 0, 97, 0, .null) := by decide +kernel
theorem k173_97 : mm_at 173 97 = some (.getfield 135, 100, 1213, .null) := by decide +kernel
theorem k173_100 : mm_at 173 100 = some (.ifCond .eq 7, 103, 107, .null) := by decide +kernel
theorem k173_103 : mm_at 173 103 = some (.iconst (-1), 104, 0, .int (-1)) := by decide +kernel
theorem k173_104 : mm_at 173 104 = some (.goto 24, 107, 128, .null) := by decide +kernel
theorem k173_107 : mm_at 173 107 = some (.iload_n 1, 108, 1, .null) := by decide +kernel
theorem k173_108 : mm_at 173 108 = some (.bipush 107, 110, 0, .int (107)) := by decide +kernel
theorem k173_110 : mm_at 173 110 = some (.if_icmp .ne 7, 113, 117, .null) := by decide +kernel
theorem k173_113 : mm_at 173 113 = some (.iconst 0, 114, 0, .int (0)) := by decide +kernel
theorem k173_114 : mm_at 173 114 = some (.goto 14, 117, 128, .null) := by decide +kernel
theorem k173_117 : mm_at 173 117 = some (.iload_n 1, 118, 1, .null) := by decide +kernel
theorem k173_118 : mm_at 173 118 = some (.bipush 99, 120, 0, .int (99)) := by decide +kernel
theorem k173_120 : mm_at 173 120 = some (.if_icmp .ne 7, 123, 127, .null) := by decide +kernel
theorem k173_123 : mm_at 173 123 = some (.iconst 1, 124, 0, .int (1)) := by decide +kernel
theorem k173_124 : mm_at 173 124 = some (.goto 4, 127, 128, .null) := by decide +kernel
theorem k173_127 : mm_at 173 127 = some (.iconst 2, 128, 0, .int (2)) := by decide +kernel
theorem k173_128 : mm_at 173 128 = some (.ireturn, 129, 0, .null) := by decide +kernel
theorem k173_129 : mm_at 173 129 = some (.aload_n 0, 130, 0, .null) := by decide +kernel
theorem k173_130 : mm_at 173 130 = some (.getfield 135, 133, 1213, .null) := by decide +kernel
theorem k173_133 : mm_at 173 133 = some (.iconst 1, 134, 0, .int (1)) := by decide +kernel
theorem k173_134 : mm_at 173 134 = some (.if_icmp .eq 7, 137, 141, .null) := by decide +kernel
theorem k173_137 : mm_at 173 137 = some (.iconst (-1), 138, 0, .int (-1)) := by decide +kernel
theorem k173_138 : mm_at 173 138 = some (.goto 24, 141, 162, .null) := by decide +kernel
theorem k173_141 : mm_at 173 141 = some (.iload_n 1, 142, 1, .null) := by decide +kernel
theorem k173_142 : mm_at 173 142 = some (.bipush 104, 144, 0, .int (104)) := by decide +kernel
theorem k173_144 : mm_at 173 144 = some (.if_icmp .ne 7, 147, 151, .null) := by decide +kernel
theorem k173_147 : mm_at 173 147 = some (.iconst 0, 148, 0, .int (0)) := by decide +kernel
theorem k173_148 : mm_at 173 148 = some (.goto 14, 151, 162, .null) := by decide +kernel
theorem k173_151 : mm_at 173 151 = some (.iload_n 1, 152, 1, .null) := by decide +kernel
theorem k173_152 : mm_at 173 152 = some (.bipush 110, 154, 0, .int (110)) := by decide +kernel
theorem k173_154 : mm_at 173 154 = some (.if_icmp .ne 7, 157, 161, .null) := by decide +kernel
theorem k173_157 : mm_at 173 157 = some (.iconst 1, 158, 0, .int (1)) := by decide +kernel
theorem k173_158 : mm_at 173 158 = some (.goto 4, 161, 162, .null) := by decide +kernel
theorem k173_161 : mm_at 173 161 = some (.iconst 2, 162, 0, .int (2)) := by decide +kernel
theorem k173_162 : mm_at 173 162 = some (.ireturn, 163, 0, .null) := by decide +kernel
theorem k173_163 : mm_at 173 163 = some (.iconst (-1), 164, 0, .int (-1)) := by decide +kernel
theorem k173_164 : mm_at 173 164 = some (.ireturn, 165, 0, .null) := by decide +kernel
theorem k174_0 : mm_at 174 0 = some (.iconst 0, 1, 0, .int (0)) := by decide +kernel
theorem k174_1 : mm_at 174 1 = some (.istore_n 1, 2, 1, .null) := by decide +kernel
theorem k174_2 : mm_at 174 2 = some (.iconst 0, 3, 0, .int (0)) := by decide +kernel
theorem k174_3 : mm_at 174 3 = some (.istore_n 2, 4, 2, .null) := by decide +kernel
theorem k174_4 : mm_at 174 4 = some (.iload_n 2, 5, 2, .null) := by decide +kernel
theorem k174_5 : mm_at 174 5 = some (.iconst 4, 6, 0, .int (4)) := by decide +kernel
theorem k174_6 : mm_at 174 6 = some (.if_icmp .ge 46, 9, 52, .null) := by decide +kernel
theorem k174_9 : mm_at 174 9 = some (.aload_n 0, 10, 0, .null) := by decide +kernel
theorem k174_10 : mm_at 174 10 = some (.invokevirtual 138, 13, 246, .null) := by decide +kernel
theorem k174_13 : mm_at 174 13 = some (.bipush 48, 15, 0, .int (48)) := by decide +kernel
theorem k174_15 : mm_at 174 15 = some (.bipush 57, 17, 0, .int (57)) := by decide +kernel
theorem k174_17 : mm_at 174 17 = some (.invokestatic 47, 20, 224, .null) := by decide +kernel
theorem k174_20 : mm_at 174 20 = some (.ifCond .eq 32, 23, 52, .null) := by decide +kernel
theorem k174_23 : mm_at 174 23 = some (.bipush 10, 25, 0, .int (10)) := by decide +kernel
theorem k174_25 : mm_at 174 25 = some (.iload_n 1, 26, 1, .null) := by decide +kernel
theorem k174_26 : mm_at 174 26 = some (.imul, 27, 0, .null) := by decide +kernel
theorem k174_27 : mm_at 174 27 = some (.aload_n 0, 28, 0, .null) := by decide +kernel
theorem k174_28 : mm_at 174 28 = some (.invokevirtual 138, 31, 246, .null) := by decide +kernel
theorem k174_31 : mm_at 174 31 = some (.iadd, 32, 0, .null) := by decide +kernel
theorem k174_32 : mm_at 174 32 = some (.bipush 48, 34, 0, .int (48)) := by decide +kernel
theorem k174_34 : mm_at 174 34 = some (.isub, 35, 0, .null) := by decide +kernel
theorem k174_35 : mm_at 174 35 = some (.istore_n 1, 36, 1, .null) := by decide +kernel
theorem k174_36 : mm_at 174 36 = some (.aload_n 0, 37, 0, .null) := by decide +kernel
theorem k174_37 : mm_at 174 37 = some (.dup, 38, 0, .null) := by decide +kernel
theorem k174_38 : mm_at 174 38 = some (.getfield 128, 41, 1210, .null) := by decide +kernel
theorem k174_41 : mm_at 174 41 = some (.iconst 1, 42, 0, .int (1)) := by decide +kernel
theorem k174_42 : mm_at 174 42 = some (.iadd, 43, 0, .null) := by decide +kernel
theorem k174_43 : mm_at 174 43 = some (.putfield 128, 46, 1210, .null) := by decide +kernel
theorem k174_46 : mm_at 174 46 = some (.iinc 2 1, 49, 2, .int (1)) := by decide +kernel
theorem k174_49 : mm_at 174 49 = some (.goto (-45), 52, 4, .null) := by decide +kernel
theorem k174_52 : mm_at 174 52 = some (.aload_n 0, 53, 0, .null) := by decide +kernel
theorem k174_53 : mm_at 174 53 = some (.iload_n 2, 54, 2, .null) := by decide +kernel
theorem k174_54 : mm_at 174 54 = some (.ifCond .ne 7, 57, 61, .null) := by decide +kernel
theorem k174_57 : mm_at 174 57 = some (.iconst 1, 58, 0, .int (1)) := by decide +kernel
theorem k174_58 : mm_at 174 58 = some (.goto 4, 61, 62, .null) := by decide +kernel
theorem k174_61 : mm_at 174 61 = some (.iconst 0, 62, 0, .int (0)) := by decide +kernel
theorem k174_62 : mm_at 174 62 = some (.putfield 141, 65, 1212, .null) := by decide +kernel
theorem k174_65 : mm_at 174 65 = some (.aload_n 0, 66, 0, .null) := by decide +kernel
theorem k174_66 : mm_at 174 66 = some (.iconst 1, 67, 0, .int (1)) := by decide +kernel
theorem k174_67 : mm_at 174 67 = some (.iload_n 1, 68, 1, .null) := by decide +kernel
theorem k174_68 : mm_at 174 68 = some (.invokevirtual 145, 71, 247, .null) := by decide +kernel
theorem k174_71 : mm_at 174 71 = some (.return_, 72, 0, .null) := by decide +kernel
theorem k175_0 : mm_at 175 0 = some (.aload_n 0, 1, 0, .null) := by decide +kernel
theorem k175_1 : mm_at 175 1 = some (.getfield 149, 4, 1211, .null) := by decide +kernel
theorem k175_4 : mm_at 175 4 = some (.iconst 5, 5, 0, .int (5)) := by decide +kernel
theorem k175_5 : mm_at 175 5 = some (.if_icmp .ne 9, 8, 14, .null) := by decide +kernel
theorem k175_8 : mm_at 175 8 = some (.aload_n 0, 9, 0, .null) := by decide +kernel
theorem k175_9 : mm_at 175 9 = some (.iconst 1, 10, 0, .int (1)) := by decide +kernel
theorem k175_10 : mm_at 175 10 = some (.putfield 141, 13, 1212, .null) := by decide +kernel
theorem k175_13 : mm_at 175 13 = some (.return_, 14, 0, .null) := by decide +kernel
theorem k175_14 : mm_at 175 14 = some (.aload_n 0, 15, 0, .null) := by decide +kernel
theorem k175_15 : mm_at 175 15 = some (.dup, 16, 0, .null) := by decide +kernel
theorem k175_16 : mm_at 175 16 = some (.getfield 149, 19, 1211, .null) := by decide +kernel
theorem k175_19 : mm_at 175 19 = some (.iconst 1, 20, 0, .int (1)) := by decide +kernel
theorem k175_20 : mm_at 175 20 = some (.iadd, 21, 0, .null) := by decide +kernel
theorem k175_21 : mm_at 175 21 = some (.putfield 149, 24, 1211, .null) := by decide +kernel
theorem k175_24 : mm_at 175 24 = some (.aload_n 0, 25, 0, .null) := by decide +kernel
theorem k175_25 : mm_at 175 25 = some (.dup, 26, 0, .null) := by decide +kernel
theorem k175_26 : mm_at 175 26 = some (.getfield 128, 29, 1210, .null) := by decide +kernel
theorem k175_29 : mm_at 175 29 = some (.iconst 1, 30, 0, .int (1)) := by decide +kernel
theorem k175_30 : mm_at 175 30 = some (.iadd, 31, 0, .null) := by decide +kernel
theorem k175_31 : mm_at 175 31 = some (.putfield 128, 34, 1210, .null) := by decide +kernel
theorem k175_34 : mm_at 175 34 = some (.iload_n 1, 35, 1, .null) := by decide +kernel
theorem k175_35 : mm_at 175 35 = some (.bipush 33, 37, 0, .int (33)) := by decide +kernel
theorem k175_37 : mm_at 175 37 = some (.if_icmp .ne 16, 40, 53, .null) := by decide +kernel
theorem k175_40 : mm_at 175 40 = some (.aload_n 0, 41, 0, .null) := by decide +kernel
theorem k175_41 : mm_at 175 41 = some (.invokevirtual 152, 44, 248, .null) := by decide +kernel
theorem k175_44 : mm_at 175 44 = some (.aload_n 0, 45, 0, .null) := by decide +kernel
theorem k175_45 : mm_at 175 45 = some (.iconst 3, 46, 0, .int (3)) := by decide +kernel
theorem k175_46 : mm_at 175 46 = some (.iconst 0, 47, 0, .int (0)) := by decide +kernel
theorem k175_47 : mm_at 175 47 = some (.invokevirtual 145, 50, 247, .null) := by decide +kernel
theorem k175_50 : mm_at 175 50 = some (.goto 53, 53, 103, .null) := by decide +kernel
theorem k175_53 : mm_at 175 53 = some (.aload_n 0, 54, 0, .null) := by decide +kernel
theorem k175_54 : mm_at 175 54 = some (.invokevirtual 155, 57, 249, .null) := by decide +kernel
theorem k175_57 : mm_at 175 57 = some (.aload_n 0, 58, 0, .null) := by decide +kernel
theorem k175_58 : mm_at 175 58 = some (.aload_n 0, 59, 0, .null) := by decide +kernel
theorem k175_59 : mm_at 175 59 = some (.getfield 141, 62, 1212, .null) := by decide +kernel
theorem k175_62 : mm_at 175 62 = some (.ifCond .ne 12, 65, 74, .null) := by decide +kernel
theorem k175_65 : mm_at 175 65 = some (.aload_n 0, 66, 0, .null) := by decide +kernel
theorem k175_66 : mm_at 175 66 = some (.invokevirtual 138, 69, 246, .null) := by decide +kernel
theorem k175_69 : mm_at 175 69 = some (.bipush 41, 71, 0, .int (41)) := by decide +kernel
theorem k175_71 : mm_at 175 71 = some (.if_icmp .eq 7, 74, 78, .null) := by decide +kernel
theorem k175_74 : mm_at 175 74 = some (.iconst 1, 75, 0, .int (1)) := by decide +kernel
theorem k175_75 : mm_at 175 75 = some (.goto 4, 78, 79, .null) := by decide +kernel
theorem k175_78 : mm_at 175 78 = some (.iconst 0, 79, 0, .int (0)) := by decide +kernel
theorem k175_79 : mm_at 175 79 = some (.putfield 141, 82, 1212, .null) := by decide +kernel
theorem k175_82 : mm_at 175 82 = some (.aload_n 0, 83, 0, .null) := by decide +kernel
theorem k175_83 : mm_at 175 83 = some (.dup, 84, 0, .null) := by decide +kernel
theorem k175_84 : mm_at 175 84 = some (.getfield 128, 87, 1210, .null) := by decide +kernel
theorem k175_87 : mm_at 175 87 = some (.aload_n 0, 88, 0, .null) := by decide +kernel
theorem k175_88 : mm_at 175 88 = some (.getfield 141, 91, 1212, .null) := by decide +kernel
theorem k175_91 : mm_at 175 91 = some (.ifCond .eq 7, 94, 98, .null) := by decide +kernel
theorem k175_94 : mm_at 175 94 = some (.iconst 0, 95, 0, .int (0)) := by decide +kernel
theorem k175_95 : mm_at 175 95 = some (.goto 4, 98, 99, .null) := by decide +kernel
theorem k175_98 : mm_at 175 98 = some (.iconst 1, 99, 0, .int (1)) := by decide +kernel
theorem k175_99 : mm_at 175 99 = some (.iadd, 100, 0, .null) := by decide +kernel
theorem k175_100 : mm_at 175 100 = some (.putfield 128, 103, 1210, .null) := by decide +kernel
theorem k175_103 : mm_at 175 103 = some (.aload_n 0, 104, 0, .null) := by decide +kernel
theorem k175_104 : mm_at 175 104 = some (.dup, 105, 0, .null) := by decide +kernel
theorem k175_105 : mm_at 175 105 = some (.getfield 149, 108, 1211, .null) := by decide +kernel
theorem k175_108 : mm_at 175 108 = some (.iconst 1, 109, 0, .int (1)) := by decide +kernel
theorem k175_109 : mm_at 175 109 = some (.isub, 110, 0, .null) := by decide +kernel
theorem k175_110 : mm_at 175 110 = some (.putfield 149, 113, 1211, .null) := by decide +kernel
theorem k175_113 : mm_at 175 113 = some (.return_, 114, 0, .null) := by decide +kernel
theorem k176_0 : mm_at 176 0 = some (.aload_n 0, 1, 0, .null) := by decide +kernel
theorem k176_1 : mm_at 176 1 = some (.invokevirtual 138, 4, 246, .null) := by decide +kernel
theorem k176_4 : mm_at 176 4 = some (.istore_n 1, 5, 1, .null) := by decide +kernel
theorem k176_5 : mm_at 176 5 = some (.aload_n 0, 6, 0, .null) := by decide +kernel
theorem k176_6 : mm_at 176 6 = some (.iload_n 1, 7, 1, .null) := by decide +kernel
theorem k176_7 : mm_at 176 7 = some (.invokevirtual 158, 10, 250, .null) := by decide +kernel
theorem k176_10 : mm_at 176 10 = some (.istore_n 2, 11, 2, .null) := by decide +kernel
theorem k176_11 : mm_at 176 11 = some (.iload_n 2, 12, 2, .null) := by decide +kernel
theorem k176_12 : mm_at 176 12 = some (.ifCond .lt 22, 15, 34, .null) := by decide +kernel
theorem k176_15 : mm_at 176 15 = some (.aload_n 0, 16, 0, .null) := by decide +kernel
theorem k176_16 : mm_at 176 16 = some (.dup, 17, 0, .null) := by decide +kernel
theorem k176_17 : mm_at 176 17 = some (.getfield 128, 20, 1210, .null) := by decide +kernel
theorem k176_20 : mm_at 176 20 = some (.iconst 1, 21, 0, .int (1)) := by decide +kernel
theorem k176_21 : mm_at 176 21 = some (.iadd, 22, 0, .null) := by decide +kernel
theorem k176_22 : mm_at 176 22 = some (.putfield 128, 25, 1210, .null) := by decide +kernel
theorem k176_25 : mm_at 176 25 = some (.aload_n 0, 26, 0, .null) := by decide +kernel
theorem k176_26 : mm_at 176 26 = some (.iconst 2, 27, 0, .int (2)) := by decide +kernel
theorem k176_27 : mm_at 176 27 = some (.iload_n 2, 28, 2, .null) := by decide +kernel
theorem k176_28 : mm_at 176 28 = some (.invokevirtual 145, 31, 247, .null) := by decide +kernel
theorem k176_31 : mm_at 176 31 = some (.goto 27, 34, 58, .null) := by decide +kernel
theorem k176_34 : mm_at 176 34 = some (.iload_n 1, 35, 1, .null) := by decide +kernel
theorem k176_35 : mm_at 176 35 = some (.bipush 33, 37, 0, .int (33)) := by decide +kernel
theorem k176_37 : mm_at 176 37 = some (.if_icmp .eq 9, 40, 46, .null) := by decide +kernel
theorem k176_40 : mm_at 176 40 = some (.iload_n 1, 41, 1, .null) := by decide +kernel
theorem k176_41 : mm_at 176 41 = some (.bipush 40, 43, 0, .int (40)) := by decide +kernel
theorem k176_43 : mm_at 176 43 = some (.if_icmp .ne 11, 46, 54, .null) := by decide +kernel
theorem k176_46 : mm_at 176 46 = some (.aload_n 0, 47, 0, .null) := by decide +kernel
theorem k176_47 : mm_at 176 47 = some (.iload_n 1, 48, 1, .null) := by decide +kernel
theorem k176_48 : mm_at 176 48 = some (.invokevirtual 161, 51, 251, .null) := by decide +kernel
theorem k176_51 : mm_at 176 51 = some (.goto 7, 54, 58, .null) := by decide +kernel
theorem k176_54 : mm_at 176 54 = some (.aload_n 0, 55, 0, .null) := by decide +kernel
theorem k176_55 : mm_at 176 55 = some (.invokevirtual 165, 58, 252, .null) := by decide +kernel
theorem k176_58 : mm_at 176 58 = some (.return_, 59, 0, .null) := by decide +kernel
theorem k177_0 : mm_at 177 0 = some (.aload_n 0, 1, 0, .null) := by decide +kernel
theorem k177_1 : mm_at 177 1 = some (.invokevirtual 152, 4, 248, .null) := by decide +kernel
theorem k177_4 : mm_at 177 4 = some (.aload_n 0, 5, 0, .null) := by decide +kernel
theorem k177_5 : mm_at 177 5 = some (.getfield 141, 8, 1212, .null) := by decide +kernel
theorem k177_8 : mm_at 177 8 = some (.ifCond .ne 58, 11, 66, .null) := by decide +kernel
theorem k177_11 : mm_at 177 11 = some (.aload_n 0, 12, 0, .null) := by decide +kernel
theorem k177_12 : mm_at 177 12 = some (.invokevirtual 138, 15, 246, .null) := by decide +kernel
theorem k177_15 : mm_at 177 15 = some (.bipush 42, 17, 0, .int (42)) := by decide +kernel
theorem k177_17 : mm_at 177 17 = some (.if_icmp .eq 21, 20, 38, .null) := by decide +kernel
theorem k177_20 : mm_at 177 20 = some (.aload_n 0, 21, 0, .null) := by decide +kernel
theorem k177_21 : mm_at 177 21 = some (.invokevirtual 138, 24, 246, .null) := by decide +kernel
theorem k177_24 : mm_at 177 24 = some (.bipush 47, 26, 0, .int (47)) := by decide +kernel
theorem k177_26 : mm_at 177 26 = some (.if_icmp .eq 12, 29, 38, .null) := by decide +kernel
theorem k177_29 : mm_at 177 29 = some (.aload_n 0, 30, 0, .null) := by decide +kernel
theorem k177_30 : mm_at 177 30 = some (.invokevirtual 138, 33, 246, .null) := by decide +kernel
theorem k177_33 : mm_at 177 33 = some (.bipush 37, 35, 0, .int (37)) := by decide +kernel
theorem k177_35 : mm_at 177 35 = some (.if_icmp .ne 31, 38, 66, .null) := by decide +kernel
theorem k177_38 : mm_at 177 38 = some (.aload_n 0, 39, 0, .null) := by decide +kernel
theorem k177_39 : mm_at 177 39 = some (.invokevirtual 138, 42, 246, .null) := by decide +kernel
theorem k177_42 : mm_at 177 42 = some (.istore_n 1, 43, 1, .null) := by decide +kernel
theorem k177_43 : mm_at 177 43 = some (.aload_n 0, 44, 0, .null) := by decide +kernel
theorem k177_44 : mm_at 177 44 = some (.dup, 45, 0, .null) := by decide +kernel
theorem k177_45 : mm_at 177 45 = some (.getfield 128, 48, 1210, .null) := by decide +kernel
theorem k177_48 : mm_at 177 48 = some (.iconst 1, 49, 0, .int (1)) := by decide +kernel
theorem k177_49 : mm_at 177 49 = some (.iadd, 50, 0, .null) := by decide +kernel
theorem k177_50 : mm_at 177 50 = some (.putfield 128, 53, 1210, .null) := by decide +kernel
theorem k177_53 : mm_at 177 53 = some (.aload_n 0, 54, 0, .null) := by decide +kernel
theorem k177_54 : mm_at 177 54 = some (.invokevirtual 152, 57, 248, .null) := by decide +kernel
theorem k177_57 : mm_at 177 57 = some (.aload_n 0, 58, 0, .null) := by decide +kernel
theorem k177_58 : mm_at 177 58 = some (.iload_n 1, 59, 1, .null) := by decide +kernel
theorem k177_59 : mm_at 177 59 = some (.iconst 0, 60, 0, .int (0)) := by decide +kernel
theorem k177_60 : mm_at 177 60 = some (.invokevirtual 145, 63, 247, .null) := by decide +kernel
theorem k177_63 : mm_at 177 63 = some (.goto (-59), 66, 4, .null) := by decide +kernel
theorem k177_66 : mm_at 177 66 = some (.return_, 67, 0, .null) := by decide +kernel
theorem k178_0 : mm_at 178 0 = some (.aload_n 0, 1, 0, .null) := by decide +kernel
theorem k178_1 : mm_at 178 1 = some (.invokevirtual 168, 4, 253, .null) := by decide +kernel
theorem k178_4 : mm_at 178 4 = some (.aload_n 0, 5, 0, .null) := by decide +kernel
theorem k178_5 : mm_at 178 5 = some (.getfield 141, 8, 1212, .null) := by decide +kernel
theorem k178_8 : mm_at 178 8 = some (.ifCond .ne 49, 11, 57, .null) := by decide +kernel
theorem k178_11 : mm_at 178 11 = some (.aload_n 0, 12, 0, .null) := by decide +kernel
theorem k178_12 : mm_at 178 12 = some (.invokevirtual 138, 15, 246, .null) := by decide +kernel
theorem k178_15 : mm_at 178 15 = some (.bipush 43, 17, 0, .int (43)) := by decide +kernel
theorem k178_17 : mm_at 178 17 = some (.if_icmp .eq 12, 20, 29, .null) := by decide +kernel
theorem k178_20 : mm_at 178 20 = some (.aload_n 0, 21, 0, .null) := by decide +kernel
theorem k178_21 : mm_at 178 21 = some (.invokevirtual 138, 24, 246, .null) := by decide +kernel
theorem k178_24 : mm_at 178 24 = some (.bipush 45, 26, 0, .int (45)) := by decide +kernel
theorem k178_26 : mm_at 178 26 = some (.if_icmp .ne 31, 29, 57, .null) := by decide +kernel
theorem k178_29 : mm_at 178 29 = some (.aload_n 0, 30, 0, .null) := by decide +kernel
theorem k178_30 : mm_at 178 30 = some (.invokevirtual 138, 33, 246, .null) := by decide +kernel
theorem k178_33 : mm_at 178 33 = some (.istore_n 1, 34, 1, .null) := by decide +kernel
theorem k178_34 : mm_at 178 34 = some (.aload_n 0, 35, 0, .null) := by decide +kernel
theorem k178_35 : mm_at 178 35 = some (.dup, 36, 0, .null) := by decide +kernel
theorem k178_36 : mm_at 178 36 = some (.getfield 128, 39, 1210, .null) := by decide +kernel
theorem k178_39 : mm_at 178 39 = some (.iconst 1, 40, 0, .int (1)) := by decide +kernel
theorem k178_40 : mm_at 178 40 = some (.iadd, 41, 0, .null) := by decide +kernel
theorem k178_41 : mm_at 178 41 = some (.putfield 128, 44, 1210, .null) := by decide +kernel
theorem k178_44 : mm_at 178 44 = some (.aload_n 0, 45, 0, .null) := by decide +kernel
theorem k178_45 : mm_at 178 45 = some (.invokevirtual 168, 48, 253, .null) := by decide +kernel
theorem k178_48 : mm_at 178 48 = some (.aload_n 0, 49, 0, .null) := by decide +kernel
theorem k178_49 : mm_at 178 49 = some (.iload_n 1, 50, 1, .null) := by decide +kernel
theorem k178_50 : mm_at 178 50 = some (.iconst 0, 51, 0, .int (0)) := by decide +kernel
theorem k178_51 : mm_at 178 51 = some (.invokevirtual 145, 54, 247, .null) := by decide +kernel
theorem k178_54 : mm_at 178 54 = some (.goto (-50), 57, 4, .null) := by decide +kernel
theorem k178_57 : mm_at 178 57 = some (.return_, 58, 0, .null) := by decide +kernel
theorem k179_0 : mm_at 179 0 = some (.aload_n 0, 1, 0, .null) := by decide +kernel
theorem k179_1 : mm_at 179 1 = some (.invokevirtual 171, 4, 254, .null) := by decide +kernel
theorem k179_4 : mm_at 179 4 = some (.aload_n 0, 5, 0, .null) := by decide +kernel
theorem k179_5 : mm_at 179 5 = some (.invokevirtual 138, 8, 246, .null) := by decide +kernel
theorem k179_8 : mm_at 179 8 = some (.istore_n 1, 9, 1, .null) := by decide +kernel
theorem k179_9 : mm_at 179 9 = some (.aload_n 0, 10, 0, .null) := by decide +kernel
theorem k179_10 : mm_at 179 10 = some (.getfield 141, 13, 1212, .null) := by decide +kernel
theorem k179_13 : mm_at 179 13 = some (.ifCond .ne 41, 16, 54, .null) := by decide +kernel
theorem k179_16 : mm_at 179 16 = some (.iload_n 1, 17, 1, .null) := by decide +kernel
theorem k179_17 : mm_at 179 17 = some (.bipush 60, 19, 0, .int (60)) := by decide +kernel
theorem k179_19 : mm_at 179 19 = some (.if_icmp .eq 15, 22, 34, .null) := by decide +kernel
theorem k179_22 : mm_at 179 22 = some (.iload_n 1, 23, 1, .null) := by decide +kernel
theorem k179_23 : mm_at 179 23 = some (.bipush 61, 25, 0, .int (61)) := by decide +kernel
theorem k179_25 : mm_at 179 25 = some (.if_icmp .eq 9, 28, 34, .null) := by decide +kernel
theorem k179_28 : mm_at 179 28 = some (.iload_n 1, 29, 1, .null) := by decide +kernel
theorem k179_29 : mm_at 179 29 = some (.bipush 62, 31, 0, .int (62)) := by decide +kernel
theorem k179_31 : mm_at 179 31 = some (.if_icmp .ne 23, 34, 54, .null) := by decide +kernel
theorem k179_34 : mm_at 179 34 = some (.aload_n 0, 35, 0, .null) := by decide +kernel
theorem k179_35 : mm_at 179 35 = some (.dup, 36, 0, .null) := by decide +kernel
theorem k179_36 : mm_at 179 36 = some (.getfield 128, 39, 1210, .null) := by decide +kernel
theorem k179_39 : mm_at 179 39 = some (.iconst 1, 40, 0, .int (1)) := by decide +kernel
theorem k179_40 : mm_at 179 40 = some (.iadd, 41, 0, .null) := by decide +kernel
theorem k179_41 : mm_at 179 41 = some (.putfield 128, 44, 1210, .null) := by decide +kernel
theorem k179_44 : mm_at 179 44 = some (.aload_n 0, 45, 0, .null) := by decide +kernel
theorem k179_45 : mm_at 179 45 = some (.invokevirtual 171, 48, 254, .null) := by decide +kernel
theorem k179_48 : mm_at 179 48 = some (.aload_n 0, 49, 0, .null) := by decide +kernel
theorem k179_49 : mm_at 179 49 = some (.iload_n 1, 50, 1, .null) := by decide +kernel
theorem k179_50 : mm_at 179 50 = some (.iconst 0, 51, 0, .int (0)) := by decide +kernel
theorem k179_51 : mm_at 179 51 = some (.invokevirtual 145, 54, 247, .null) := by decide +kernel
theorem k179_54 : mm_at 179 54 = some (.return_, 55, 0, .null) := by decide +kernel
theorem k180_0 : mm_at 180 0 = some (.aload_n 0, 1, 0, .null) := by decide +kernel
theorem k180_1 : mm_at 180 1 = some (.invokevirtual 174, 4, 255, .null) := by decide +kernel
theorem k180_4 : mm_at 180 4 = some (.aload_n 0, 5, 0, .null) := by decide +kernel
theorem k180_5 : mm_at 180 5 = some (.getfield 141, 8, 1212, .null) := by decide +kernel
theorem k180_8 : mm_at 180 8 = some (.ifCond .ne 36, 11, 44, .null) := by decide +kernel
theorem k180_11 : mm_at 180 11 = some (.aload_n 0, 12, 0, .null) := by decide +kernel
theorem k180_12 : mm_at 180 12 = some (.invokevirtual 138, 15, 246, .null) := by decide +kernel
theorem k180_15 : mm_at 180 15 = some (.bipush 38, 17, 0, .int (38)) := by decide +kernel
theorem k180_17 : mm_at 180 17 = some (.if_icmp .ne 27, 20, 44, .null) := by decide +kernel
theorem k180_20 : mm_at 180 20 = some (.aload_n 0, 21, 0, .null) := by decide +kernel
theorem k180_21 : mm_at 180 21 = some (.dup, 22, 0, .null) := by decide +kernel
theorem k180_22 : mm_at 180 22 = some (.getfield 128, 25, 1210, .null) := by decide +kernel
theorem k180_25 : mm_at 180 25 = some (.iconst 1, 26, 0, .int (1)) := by decide +kernel
theorem k180_26 : mm_at 180 26 = some (.iadd, 27, 0, .null) := by decide +kernel
theorem k180_27 : mm_at 180 27 = some (.putfield 128, 30, 1210, .null) := by decide +kernel
theorem k180_30 : mm_at 180 30 = some (.aload_n 0, 31, 0, .null) := by decide +kernel
theorem k180_31 : mm_at 180 31 = some (.invokevirtual 174, 34, 255, .null) := by decide +kernel
theorem k180_34 : mm_at 180 34 = some (.aload_n 0, 35, 0, .null) := by decide +kernel
theorem k180_35 : mm_at 180 35 = some (.bipush 38, 37, 0, .int (38)) := by decide +kernel
theorem k180_37 : mm_at 180 37 = some (.iconst 0, 38, 0, .int (0)) := by decide +kernel
theorem k180_38 : mm_at 180 38 = some (.invokevirtual 145, 41, 247, .null) := by decide +kernel
theorem k180_41 : mm_at 180 41 = some (.goto (-37), 44, 4, .null) := by decide +kernel
theorem k180_44 : mm_at 180 44 = some (.return_, 45, 0, .null) := by decide +kernel
theorem k181_0 : mm_at 181 0 = some (.aload_n 0, 1, 0, .null) := by decide +kernel
theorem k181_1 : mm_at 181 1 = some (.invokevirtual 177, 4, 256, .null) := by decide +kernel
theorem k181_4 : mm_at 181 4 = some (.aload_n 0, 5, 0, .null) := by decide +kernel
theorem k181_5 : mm_at 181 5 = some (.getfield 141, 8, 1212, .null) := by decide +kernel
theorem k181_8 : mm_at 181 8 = some (.ifCond .ne 36, 11, 44, .null) := by decide +kernel
theorem k181_11 : mm_at 181 11 = some (.aload_n 0, 12, 0, .null) := by decide +kernel
theorem k181_12 : mm_at 181 12 = some (.invokevirtual 138, 15, 246, .null) := by decide +kernel
theorem k181_15 : mm_at 181 15 = some (.bipush 124, 17, 0, .int (124)) := by decide +kernel
theorem k181_17 : mm_at 181 17 = some (.if_icmp .ne 27, 20, 44, .null) := by decide +kernel
theorem k181_20 : mm_at 181 20 = some (.aload_n 0, 21, 0, .null) := by decide +kernel
theorem k181_21 : mm_at 181 21 = some (.dup, 22, 0, .null) := by decide +kernel
theorem k181_22 : mm_at 181 22 = some (.getfield 128, 25, 1210, .null) := by decide +kernel
theorem k181_25 : mm_at 181 25 = some (.iconst 1, 26, 0, .int (1)) := by decide +kernel
theorem k181_26 : mm_at 181 26 = some (.iadd, 27, 0, .null) := by decide +kernel
theorem k181_27 : mm_at 181 27 = some (.putfield 128, 30, 1210, .null) := by decide +kernel
theorem k181_30 : mm_at 181 30 = some (.aload_n 0, 31, 0, .null) := by decide +kernel
theorem k181_31 : mm_at 181 31 = some (.invokevirtual 177, 34, 256, .null) := by decide +kernel
theorem k181_34 : mm_at 181 34 = some (.aload_n 0, 35, 0, .null) := by decide +kernel
theorem k181_35 : mm_at 181 35 = some (.bipush 124, 37, 0, .int (124)) := by decide +kernel
theorem k181_37 : mm_at 181 37 = some (.iconst 0, 38, 0, .int (0)) := by decide +kernel
theorem k181_38 : mm_at 181 38 = some (.invokevirtual 145, 41, 247, .null) := by decide +kernel
theorem k181_41 : mm_at 181 41 = some (.goto (-37), 44, 4, .null) := by decide +kernel
theorem k181_44 : mm_at 181 44 = some (.return_, 45, 0, .null) := by decide +kernel
theorem k182_0 : mm_at 182 0 = some (.iload_n 1, 1, 1, .null) := by decide +kernel
theorem k182_1 : mm_at 182 1 = some (.iconst 0, 2, 0, .int (0)) := by decide +kernel
theorem k182_2 : mm_at 182 2 = some (.iconst 1, 3, 0, .int (1)) := by decide +kernel
theorem k182_3 : mm_at 182 3 = some (.invokestatic 47, 6, 224, .null) := by decide +kernel
theorem k182_6 : mm_at 182 6 = some (.ifCond .ne 10, 9, 16, .null) := by decide +kernel
theorem k182_9 : mm_at 182 9 = some (.aload_n 0, 10, 0, .null) := by decide +kernel
theorem k182_10 : mm_at 182 10 = some (.ldc 97, 12, 0, .int (-1000000001)) := by decide +kernel
theorem k182_12 : mm_at 182 12 = some (.invokevirtual 98, 15, 238, .null) := by decide +kernel
theorem k182_15 : mm_at 182 15 = some (.ireturn, 16, 0, .null) := by decide +kernel
theorem k182_16 : mm_at 182 16 = some (.aload_n 0, 17, 0, .null) := by decide +kernel
theorem k182_17 : mm_at 182 17 = some (.iload_n 1, 18, 1, .null) := by decide +kernel
theorem k182_18 : mm_at 182 18 = some (.putfield 135, 21, 1213, .null) := by decide +kernel
theorem k182_21 : mm_at 182 21 = some (.aload_n 0, 22, 0, .null) := by decide +kernel
theorem k182_22 : mm_at 182 22 = some (.iconst 0, 23, 0, .int (0)) := by decide +kernel
theorem k182_23 : mm_at 182 23 = some (.putfield 132, 26, 1209, .null) := by decide +kernel
theorem k182_26 : mm_at 182 26 = some (.aload_n 0, 27, 0, .null) := by decide +kernel
theorem k182_27 : mm_at 182 27 = some (.iconst 0, 28, 0, .int (0)) := by decide +kernel
theorem k182_28 : mm_at 182 28 = some (.putfield 128, 31, 1210, .null) := by decide +kernel
theorem k182_31 : mm_at 182 31 = some (.aload_n 0, 32, 0, .null) := by decide +kernel
theorem k182_32 : mm_at 182 32 = some (.iconst 0, 33, 0, .int (0)) := by decide +kernel
theorem k182_33 : mm_at 182 33 = some (.putfield 149, 36, 1211, .null) := by decide +kernel
theorem k182_36 : mm_at 182 36 = some (.aload_n 0, 37, 0, .null) := by decide +kernel
theorem k182_37 : mm_at 182 37 = some (.iconst 0, 38, 0, .int (0)) := by decide +kernel
theorem k182_38 : mm_at 182 38 = some (.putfield 141, 41, 1212, .null) := by decide +kernel
theorem k182_41 : mm_at 182 41 = some (.aload_n 0, 42, 0, .null) := by decide +kernel
theorem k182_42 : mm_at 182 42 = some (.invokevirtual 155, 45, 249, .null) := by decide +kernel
theorem k182_45 : mm_at 182 45 = some (.aload_n 0, 46, 0, .null) := by decide +kernel
theorem k182_46 : mm_at 182 46 = some (.aload_n 0, 47, 0, .null) := by decide +kernel
theorem k182_47 : mm_at 182 47 = some (.getfield 141, 50, 1212, .null) := by decide +kernel
theorem k182_50 : mm_at 182 50 = some (.ifCond .ne 16, 53, 66, .null) := by decide +kernel
theorem k182_53 : mm_at 182 53 = some (.aload_n 0, 54, 0, .null) := by decide +kernel
theorem k182_54 : mm_at 182 54 = some (.getfield 128, 57, 1210, .null) := by decide +kernel
theorem k182_57 : mm_at 182 57 = some (.aload_n 0, 58, 0, .null) := by decide +kernel
theorem k182_58 : mm_at 182 58 = some (.getfield 9, 61, 1200, .null) := by decide +kernel
theorem k182_61 : mm_at 182 61 = some (.iconst 5, 62, 0, .int (5)) := by decide +kernel
theorem k182_62 : mm_at 182 62 = some (.iaload, 63, 0, .null) := by decide +kernel
theorem k182_63 : mm_at 182 63 = some (.if_icmp .ge 7, 66, 70, .null) := by decide +kernel
theorem k182_66 : mm_at 182 66 = some (.iconst 1, 67, 0, .int (1)) := by decide +kernel
theorem k182_67 : mm_at 182 67 = some (.goto 4, 70, 71, .null) := by decide +kernel
theorem k182_70 : mm_at 182 70 = some (.iconst 0, 71, 0, .int (0)) := by decide +kernel
theorem k182_71 : mm_at 182 71 = some (.putfield 141, 74, 1212, .null) := by decide +kernel
theorem k182_74 : mm_at 182 74 = some (.aload_n 0, 75, 0, .null) := by decide +kernel
theorem k182_75 : mm_at 182 75 = some (.getfield 9, 78, 1200, .null) := by decide +kernel
theorem k182_78 : mm_at 182 78 = some (.iconst 5, 79, 0, .int (5)) := by decide +kernel
theorem k182_79 : mm_at 182 79 = some (.iconst 0, 80, 0, .int (0)) := by decide +kernel
theorem k182_80 : mm_at 182 80 = some (.iastore, 81, 0, .null) := by decide +kernel
theorem k182_81 : mm_at 182 81 = some (.aload_n 0, 82, 0, .null) := by decide +kernel
theorem k182_82 : mm_at 182 82 = some (.getfield 141, 85, 1212, .null) := by decide +kernel
theorem k182_85 : mm_at 182 85 = some (.ifCond .eq 11, 88, 96, .null) := by decide +kernel
theorem k182_88 : mm_at 182 88 = some (.bipush (-10), 90, 0, .int (-10)) := by decide +kernel
theorem k182_90 : mm_at 182 90 = some (.aload_n 0, 91, 0, .null) := by decide +kernel
theorem k182_91 : mm_at 182 91 = some (.getfield 128, 94, 1210, .null) := by decide +kernel
theorem k182_94 : mm_at 182 94 = some (.isub, 95, 0, .null) := by decide +kernel
theorem k182_95 : mm_at 182 95 = some (.ireturn, 96, 0, .null) := by decide +kernel
theorem k182_96 : mm_at 182 96 = some (.bipush 119, 98, 0, .int (119)) := by decide +kernel
theorem k182_98 : mm_at 182 98 = some (.bipush 101, 100, 0, .int (101)) := by decide +kernel
theorem k182_100 : mm_at 182 100 = some (.iload_n 1, 101, 1, .null) := by decide +kernel
theorem k182_101 : mm_at 182 101 = some (.imul, 102, 0, .null) := by decide +kernel
theorem k182_102 : mm_at 182 102 = some (.iadd, 103, 0, .null) := by decide +kernel
theorem k182_103 : mm_at 182 103 = some (.istore_n 2, 104, 2, .null) := by decide +kernel
theorem k182_104 : mm_at 182 104 = some (.aload_n 0, 105, 0, .null) := by decide +kernel
theorem k182_105 : mm_at 182 105 = some (.getfield 9, 108, 1200, .null) := by decide +kernel
theorem k182_108 : mm_at 182 108 = some (.iload_n 2, 109, 2, .null) := by decide +kernel
theorem k182_109 : mm_at 182 109 = some (.aload_n 0, 110, 0, .null) := by decide +kernel
theorem k182_110 : mm_at 182 110 = some (.getfield 132, 113, 1209, .null) := by decide +kernel
theorem k182_113 : mm_at 182 113 = some (.iastore, 114, 0, .null) := by decide +kernel
theorem k182_114 : mm_at 182 114 = some (.iconst 0, 115, 0, .int (0)) := by decide +kernel
theorem k182_115 : mm_at 182 115 = some (.istore_n 3, 116, 3, .null) := by decide +kernel
theorem k182_116 : mm_at 182 116 = some (.iload_n 3, 117, 3, .null) := by decide +kernel
theorem k182_117 : mm_at 182 117 = some (.aload_n 0, 118, 0, .null) := by decide +kernel
theorem k182_118 : mm_at 182 118 = some (.getfield 132, 121, 1209, .null) := by decide +kernel
theorem k182_121 : mm_at 182 121 = some (.if_icmp .ge 42, 124, 163, .null) := by decide +kernel
theorem k182_124 : mm_at 182 124 = some (.aload_n 0, 125, 0, .null) := by decide +kernel
theorem k182_125 : mm_at 182 125 = some (.getfield 9, 128, 1200, .null) := by decide +kernel
theorem k182_128 : mm_at 182 128 = some (.iload_n 2, 129, 2, .null) := by decide +kernel
theorem k182_129 : mm_at 182 129 = some (.iconst 1, 130, 0, .int (1)) := by decide +kernel
theorem k182_130 : mm_at 182 130 = some (.iadd, 131, 0, .null) := by decide +kernel
theorem k182_131 : mm_at 182 131 = some (.iload_n 3, 132, 3, .null) := by decide +kernel
theorem k182_132 : mm_at 182 132 = some (.iadd, 133, 0, .null) := by decide +kernel
theorem k182_133 : mm_at 182 133 = some (.aload_n 0, 134, 0, .null) := by decide +kernel
theorem k182_134 : mm_at 182 134 = some (.getfield 22, 137, 1205, .null) := by decide +kernel
theorem k182_137 : mm_at 182 137 = some (.iload_n 3, 138, 3, .null) := by decide +kernel
theorem k182_138 : mm_at 182 138 = some (.iaload, 139, 0, .null) := by decide +kernel
theorem k182_139 : mm_at 182 139 = some (.iastore, 140, 0, .null) := by decide +kernel
theorem k182_140 : mm_at 182 140 = some (.aload_n 0, 141, 0, .null) := by decide +kernel
theorem k182_141 : mm_at 182 141 = some (.getfield 9, 144, 1200, .null) := by decide +kernel
theorem k182_144 : mm_at 182 144 = some (.iload_n 2, 145, 2, .null) := by decide +kernel
theorem k182_145 : mm_at 182 145 = some (.bipush 51, 147, 0, .int (51)) := by decide +kernel
theorem k182_147 : mm_at 182 147 = some (.iadd, 148, 0, .null) := by decide +kernel
theorem k182_148 : mm_at 182 148 = some (.iload_n 3, 149, 3, .null) := by decide +kernel
theorem k182_149 : mm_at 182 149 = some (.iadd, 150, 0, .null) := by decide +kernel
theorem k182_150 : mm_at 182 150 = some (.aload_n 0, 151, 0, .null) := by decide +kernel
theorem k182_151 : mm_at 182 151 = some (.getfield 25, 154, 1206, .null) := by decide +kernel
theorem k182_154 : mm_at 182 154 = some (.iload_n 3, 155, 3, .null) := by decide +kernel
theorem k182_155 : mm_at 182 155 = some (.iaload, 156, 0, .null) := by decide +kernel
theorem k182_156 : mm_at 182 156 = some (.iastore, 157, 0, .null) := by decide +kernel
theorem k182_157 : mm_at 182 157 = some (.iinc 3 1, 160, 3, .int (1)) := by decide +kernel
theorem k182_160 : mm_at 182 160 = some (.goto (-44), 163, 116, .null) := by decide +kernel
theorem k182_163 : mm_at 182 163 = some (.iconst 1, 164, 0, .int (1)) := by decide +kernel
theorem k182_164 : mm_at 182 164 = some (.ireturn, 165, 0, .null) := by decide +kernel
theorem k183_0 : mm_at 183 0 = some (.iload_n 0, 1, 0, .null) := by decide +kernel
theorem k183_1 : mm_at 183 1 = some (.tableswitch 202 37 62 #[143, 188, 202, 202, 202, 127, 119, 202, 123, 202, 131, 202, 202, 202, 202, 202, 202, 202, 202, 202, 202, 202, 202, 155, 166, 177], 120, 0, .null) := by decide +kernel
theorem k183_120 : mm_at 183 120 = some (.iload_n 1, 121, 1, .null) := by decide +kernel
theorem k183_121 : mm_at 183 121 = some (.iload_n 2, 122, 2, .null) := by decide +kernel
theorem k183_122 : mm_at 183 122 = some (.iadd, 123, 0, .null) := by decide +kernel
theorem k183_123 : mm_at 183 123 = some (.ireturn, 124, 0, .null) := by decide +kernel
theorem k183_124 : mm_at 183 124 = some (.iload_n 1, 125, 1, .null) := by decide +kernel
theorem k183_125 : mm_at 183 125 = some (.iload_n 2, 126, 2, .null) := by decide +kernel
theorem k183_126 : mm_at 183 126 = some (.isub, 127, 0, .null) := by decide +kernel
theorem k183_127 : mm_at 183 127 = some (.ireturn, 128, 0, .null) := by decide +kernel
theorem k183_128 : mm_at 183 128 = some (.iload_n 1, 129, 1, .null) := by decide +kernel
theorem k183_129 : mm_at 183 129 = some (.iload_n 2, 130, 2, .null) := by decide +kernel
theorem k183_130 : mm_at 183 130 = some (.imul, 131, 0, .null) := by decide +kernel
theorem k183_131 : mm_at 183 131 = some (.ireturn, 132, 0, .null) := by decide +kernel
theorem k183_132 : mm_at 183 132 = some (.iload_n 2, 133, 2, .null) := by decide +kernel
theorem k183_133 : mm_at 183 133 = some (.ifCond .ne 7, 136, 140, .null) := by decide +kernel
theorem k183_136 : mm_at 183 136 = some (.iconst 0, 137, 0, .int (0)) := by decide +kernel
theorem k183_137 : mm_at 183 137 = some (.goto 6, 140, 143, .null) := by decide +kernel
theorem k183_140 : mm_at 183 140 = some (.iload_n 1, 141, 1, .null) := by decide +kernel
theorem k183_141 : mm_at 183 141 = some (.iload_n 2, 142, 2, .null) := by decide +kernel
theorem k183_142 : mm_at 183 142 = some (.idiv, 143, 0, .null) := by decide +kernel
theorem k183_143 : mm_at 183 143 = some (.ireturn, 144, 0, .null) := by decide +kernel
theorem k183_144 : mm_at 183 144 = some (.iload_n 2, 145, 2, .null) := by decide +kernel
theorem k183_145 : mm_at 183 145 = some (.ifCond .ne 7, 148, 152, .null) := by decide +kernel
theorem k183_148 : mm_at 183 148 = some (.iconst 0, 149, 0, .int (0)) := by decide +kernel
theorem k183_149 : mm_at 183 149 = some (.goto 6, 152, 155, .null) := by decide +kernel
theorem k183_152 : mm_at 183 152 = some (.iload_n 1, 153, 1, .null) := by decide +kernel
theorem k183_153 : mm_at 183 153 = some (.iload_n 2, 154, 2, .null) := by decide +kernel
theorem k183_154 : mm_at 183 154 = some (.irem, 155, 0, .null) := by decide +kernel
theorem k183_155 : mm_at 183 155 = some (.ireturn, 156, 0, .null) := by decide +kernel
theorem k183_156 : mm_at 183 156 = some (.iload_n 1, 157, 1, .null) := by decide +kernel
theorem k183_157 : mm_at 183 157 = some (.iload_n 2, 158, 2, .null) := by decide +kernel
theorem k183_158 : mm_at 183 158 = some (.if_icmp .ge 7, 161, 165, .null) := by decide +kernel
theorem k183_161 : mm_at 183 161 = some (.iconst 1, 162, 0, .int (1)) := by decide +kernel
theorem k183_162 : mm_at 183 162 = some (.goto 4, 165, 166, .null) := by decide +kernel
theorem k183_165 : mm_at 183 165 = some (.iconst 0, 166, 0, .int (0)) := by decide +kernel
theorem k183_166 : mm_at 183 166 = some (.ireturn, 167, 0, .null) := by decide +kernel
theorem k183_167 : mm_at 183 167 = some (.iload_n 1, 168, 1, .null) := by decide +kernel
theorem k183_168 : mm_at 183 168 = some (.iload_n 2, 169, 2, .null) := by decide +kernel
theorem k183_169 : mm_at 183 169 = some (.if_icmp .ne 7, 172, 176, .null) := by decide +kernel
theorem k183_172 : mm_at 183 172 = some (.iconst 1, 173, 0, .int (1)) := by decide +kernel
theorem k183_173 : mm_at 183 173 = some (.goto 4, 176, 177, .null) := by decide +kernel
theorem k183_176 : mm_at 183 176 = some (.iconst 0, 177, 0, .int (0)) := by decide +kernel
theorem k183_177 : mm_at 183 177 = some (.ireturn, 178, 0, .null) := by decide +kernel
theorem k183_178 : mm_at 183 178 = some (.iload_n 1, 179, 1, .null) := by decide +kernel
theorem k183_179 : mm_at 183 179 = some (.iload_n 2, 180, 2, .null) := by decide +kernel
theorem k183_180 : mm_at 183 180 = some (.if_icmp .le 7, 183, 187, .null) := by decide +kernel
theorem k183_183 : mm_at 183 183 = some (.iconst 1, 184, 0, .int (1)) := by decide +kernel
theorem k183_184 : mm_at 183 184 = some (.goto 4, 187, 188, .null) := by decide +kernel
theorem k183_187 : mm_at 183 187 = some (.iconst 0, 188, 0, .int (0)) := by decide +kernel
theorem k183_188 : mm_at 183 188 = some (.ireturn, 189, 0, .null) := by decide +kernel
theorem k183_189 : mm_at 183 189 = some (.iload_n 1, 190, 1, .null) := by decide +kernel
theorem k183_190 : mm_at 183 190 = some (.ifCond .eq 11, 193, 201, .null) := by decide +kernel
theorem k183_193 : mm_at 183 193 = some (.iload_n 2, 194, 2, .null) := by decide +kernel
theorem k183_194 : mm_at 183 194 = some (.ifCond .eq 7, 197, 201, .null) := by decide +kernel
theorem k183_197 : mm_at 183 197 = some (.iconst 1, 198, 0, .int (1)) := by decide +kernel
theorem k183_198 : mm_at 183 198 = some (.goto 4, 201, 202, .null) := by decide +kernel
theorem k183_201 : mm_at 183 201 = some (.iconst 0, 202, 0, .int (0)) := by decide +kernel
theorem k183_202 : mm_at 183 202 = some (.ireturn, 203, 0, .null) := by decide +kernel
theorem k183_203 : mm_at 183 203 = some (.iload_n 1, 204, 1, .null) := by decide +kernel
theorem k183_204 : mm_at 183 204 = some (.ifCond .ne 7, 207, 211, .null) := by decide +kernel
theorem k183_207 : mm_at 183 207 = some (.iload_n 2, 208, 2, .null) := by decide +kernel
theorem k183_208 : mm_at 183 208 = some (.ifCond .eq 7, 211, 215, .null) := by decide +kernel
theorem k183_211 : mm_at 183 211 = some (.iconst 1, 212, 0, .int (1)) := by decide +kernel
theorem k183_212 : mm_at 183 212 = some (.goto 4, 215, 216, .null) := by decide +kernel
theorem k183_215 : mm_at 183 215 = some (.iconst 0, 216, 0, .int (0)) := by decide +kernel
theorem k183_216 : mm_at 183 216 = some (.ireturn, 217, 0, .null) := by decide +kernel
theorem k184_0 : mm_at 184 0 = some (.iconst 0, 1, 0, .int (0)) := by decide +kernel
theorem k184_1 : mm_at 184 1 = some (.istore_n 2, 2, 2, .null) := by decide +kernel
theorem k184_2 : mm_at 184 2 = some (.iconst 0, 3, 0, .int (0)) := by decide +kernel
theorem k184_3 : mm_at 184 3 = some (.istore_n 3, 4, 3, .null) := by decide +kernel
theorem k184_4 : mm_at 184 4 = some (.iload_n 3, 5, 3, .null) := by decide +kernel
theorem k184_5 : mm_at 184 5 = some (.aload_n 0, 6, 0, .null) := by decide +kernel
theorem k184_6 : mm_at 184 6 = some (.getfield 9, 9, 1200, .null) := by decide +kernel
theorem k184_9 : mm_at 184 9 = some (.iload_n 1, 10, 1, .null) := by decide +kernel
theorem k184_10 : mm_at 184 10 = some (.iaload, 11, 0, .null) := by decide +kernel
theorem k184_11 : mm_at 184 11 = some (.if_icmp .ge 144, 14, 155, .null) := by decide +kernel
theorem k184_14 : mm_at 184 14 = some (.aload_n 0, 15, 0, .null) := by decide +kernel
theorem k184_15 : mm_at 184 15 = some (.getfield 9, 18, 1200, .null) := by decide +kernel
theorem k184_18 : mm_at 184 18 = some (.iload_n 1, 19, 1, .null) := by decide +kernel
theorem k184_19 : mm_at 184 19 = some (.iconst 1, 20, 0, .int (1)) := by decide +kernel
theorem k184_20 : mm_at 184 20 = some (.iadd, 21, 0, .null) := by decide +kernel
theorem k184_21 : mm_at 184 21 = some (.iload_n 3, 22, 3, .null) := by decide +kernel
theorem k184_22 : mm_at 184 22 = some (.iadd, 23, 0, .null) := by decide +kernel
theorem k184_23 : mm_at 184 23 = some (.iaload, 24, 0, .null) := by decide +kernel
theorem k184_24 : mm_at 184 24 = some (.istore 4, 26, 4, .null) := by decide +kernel
theorem k184_26 : mm_at 184 26 = some (.iload 4, 28, 4, .null) := by decide +kernel
theorem k184_28 : mm_at 184 28 = some (.iconst 1, 29, 0, .int (1)) := by decide +kernel
theorem k184_29 : mm_at 184 29 = some (.if_icmp .eq 9, 32, 38, .null) := by decide +kernel
theorem k184_32 : mm_at 184 32 = some (.iload 4, 34, 4, .null) := by decide +kernel
theorem k184_34 : mm_at 184 34 = some (.iconst 2, 35, 0, .int (2)) := by decide +kernel
theorem k184_35 : mm_at 184 35 = some (.if_icmp .ne 51, 38, 86, .null) := by decide +kernel
theorem k184_38 : mm_at 184 38 = some (.aload_n 0, 39, 0, .null) := by decide +kernel
theorem k184_39 : mm_at 184 39 = some (.getfield 31, 42, 1208, .null) := by decide +kernel
theorem k184_42 : mm_at 184 42 = some (.iload_n 2, 43, 2, .null) := by decide +kernel
theorem k184_43 : mm_at 184 43 = some (.iload 4, 45, 4, .null) := by decide +kernel
theorem k184_45 : mm_at 184 45 = some (.iconst 1, 46, 0, .int (1)) := by decide +kernel
theorem k184_46 : mm_at 184 46 = some (.if_icmp .ne 17, 49, 63, .null) := by decide +kernel
theorem k184_49 : mm_at 184 49 = some (.aload_n 0, 50, 0, .null) := by decide +kernel
theorem k184_50 : mm_at 184 50 = some (.getfield 9, 53, 1200, .null) := by decide +kernel
theorem k184_53 : mm_at 184 53 = some (.iload_n 1, 54, 1, .null) := by decide +kernel
theorem k184_54 : mm_at 184 54 = some (.bipush 51, 56, 0, .int (51)) := by decide +kernel
theorem k184_56 : mm_at 184 56 = some (.iadd, 57, 0, .null) := by decide +kernel
theorem k184_57 : mm_at 184 57 = some (.iload_n 3, 58, 3, .null) := by decide +kernel
theorem k184_58 : mm_at 184 58 = some (.iadd, 59, 0, .null) := by decide +kernel
theorem k184_59 : mm_at 184 59 = some (.iaload, 60, 0, .null) := by decide +kernel
theorem k184_60 : mm_at 184 60 = some (.goto 19, 63, 79, .null) := by decide +kernel
theorem k184_63 : mm_at 184 63 = some (.aload_n 0, 64, 0, .null) := by decide +kernel
theorem k184_64 : mm_at 184 64 = some (.getfield 28, 67, 1207, .null) := by decide +kernel
theorem k184_67 : mm_at 184 67 = some (.aload_n 0, 68, 0, .null) := by decide +kernel
theorem k184_68 : mm_at 184 68 = some (.getfield 9, 71, 1200, .null) := by decide +kernel
theorem k184_71 : mm_at 184 71 = some (.iload_n 1, 72, 1, .null) := by decide +kernel
theorem k184_72 : mm_at 184 72 = some (.bipush 51, 74, 0, .int (51)) := by decide +kernel
theorem k184_74 : mm_at 184 74 = some (.iadd, 75, 0, .null) := by decide +kernel
theorem k184_75 : mm_at 184 75 = some (.iload_n 3, 76, 3, .null) := by decide +kernel
theorem k184_76 : mm_at 184 76 = some (.iadd, 77, 0, .null) := by decide +kernel
theorem k184_77 : mm_at 184 77 = some (.iaload, 78, 0, .null) := by decide +kernel
theorem k184_78 : mm_at 184 78 = some (.iaload, 79, 0, .null) := by decide +kernel
theorem k184_79 : mm_at 184 79 = some (.iastore, 80, 0, .null) := by decide +kernel
theorem k184_80 : mm_at 184 80 = some (.iinc 2 1, 83, 2, .int (1)) := by decide +kernel
theorem k184_83 : mm_at 184 83 = some (.goto 66, 86, 149, .null) := by decide +kernel
theorem k184_86 : mm_at 184 86 = some (.iload 4, 88, 4, .null) := by decide +kernel
theorem k184_88 : mm_at 184 88 = some (.iconst 3, 89, 0, .int (3)) := by decide +kernel
theorem k184_89 : mm_at 184 89 = some (.if_icmp .ne 30, 92, 119, .null) := by decide +kernel
theorem k184_92 : mm_at 184 92 = some (.aload_n 0, 93, 0, .null) := by decide +kernel
theorem k184_93 : mm_at 184 93 = some (.getfield 31, 96, 1208, .null) := by decide +kernel
theorem k184_96 : mm_at 184 96 = some (.iload_n 2, 97, 2, .null) := by decide +kernel
theorem k184_97 : mm_at 184 97 = some (.iconst 1, 98, 0, .int (1)) := by decide +kernel
theorem k184_98 : mm_at 184 98 = some (.isub, 99, 0, .null) := by decide +kernel
theorem k184_99 : mm_at 184 99 = some (.aload_n 0, 100, 0, .null) := by decide +kernel
theorem k184_100 : mm_at 184 100 = some (.getfield 31, 103, 1208, .null) := by decide +kernel
theorem k184_103 : mm_at 184 103 = some (.iload_n 2, 104, 2, .null) := by decide +kernel
theorem k184_104 : mm_at 184 104 = some (.iconst 1, 105, 0, .int (1)) := by decide +kernel
theorem k184_105 : mm_at 184 105 = some (.isub, 106, 0, .null) := by decide +kernel
theorem k184_106 : mm_at 184 106 = some (.iaload, 107, 0, .null) := by decide +kernel
theorem k184_107 : mm_at 184 107 = some (.ifCond .ne 7, 110, 114, .null) := by decide +kernel
theorem k184_110 : mm_at 184 110 = some (.iconst 1, 111, 0, .int (1)) := by decide +kernel
theorem k184_111 : mm_at 184 111 = some (.goto 4, 114, 115, .null) := by decide +kernel
theorem k184_114 : mm_at 184 114 = some (.iconst 0, 115, 0, .int (0)) := by decide +kernel
theorem k184_115 : mm_at 184 115 = some (.iastore, 116, 0, .null) := by decide +kernel
theorem k184_116 : mm_at 184 116 = some (.goto 33, 119, 149, .null) := by decide +kernel
theorem k184_119 : mm_at 184 119 = some (.iinc 2 (-1), 122, 2, .int (-1)) := by decide +kernel
theorem k184_122 : mm_at 184 122 = some (.aload_n 0, 123, 0, .null) := by decide +kernel
theorem k184_123 : mm_at 184 123 = some (.getfield 31, 126, 1208, .null) := by decide +kernel
theorem k184_126 : mm_at 184 126 = some (.iload_n 2, 127, 2, .null) := by decide +kernel
theorem k184_127 : mm_at 184 127 = some (.iconst 1, 128, 0, .int (1)) := by decide +kernel
theorem k184_128 : mm_at 184 128 = some (.isub, 129, 0, .null) := by decide +kernel
theorem k184_129 : mm_at 184 129 = some (.iload 4, 131, 4, .null) := by decide +kernel
theorem k184_131 : mm_at 184 131 = some (.aload_n 0, 132, 0, .null) := by decide +kernel
theorem k184_132 : mm_at 184 132 = some (.getfield 31, 135, 1208, .null) := by decide +kernel
theorem k184_135 : mm_at 184 135 = some (.iload_n 2, 136, 2, .null) := by decide +kernel
theorem k184_136 : mm_at 184 136 = some (.iconst 1, 137, 0, .int (1)) := by decide +kernel
theorem k184_137 : mm_at 184 137 = some (.isub, 138, 0, .null) := by decide +kernel
theorem k184_138 : mm_at 184 138 = some (.iaload, 139, 0, .null) := by decide +kernel
theorem k184_139 : mm_at 184 139 = some (.aload_n 0, 140, 0, .null) := by decide +kernel
theorem k184_140 : mm_at 184 140 = some (.getfield 31, 143, 1208, .null) := by decide +kernel
theorem k184_143 : mm_at 184 143 = some (.iload_n 2, 144, 2, .null) := by decide +kernel
theorem k184_144 : mm_at 184 144 = some (.iaload, 145, 0, .null) := by decide +kernel
theorem k184_145 : mm_at 184 145 = some (.invokestatic 180, 148, 257, .null) := by decide +kernel
theorem k184_148 : mm_at 184 148 = some (.iastore, 149, 0, .null) := by decide +kernel
theorem k184_149 : mm_at 184 149 = some (.iinc 3 1, 152, 3, .int (1)) := by decide +kernel
theorem k184_152 : mm_at 184 152 = some (.goto (-148), 155, 4, .null) := by decide +kernel
theorem k184_155 : mm_at 184 155 = some (.aload_n 0, 156, 0, .null) := by decide +kernel
theorem k184_156 : mm_at 184 156 = some (.getfield 31, 159, 1208, .null) := by decide +kernel
theorem k184_159 : mm_at 184 159 = some (.iconst 0, 160, 0, .int (0)) := by decide +kernel
theorem k184_160 : mm_at 184 160 = some (.iaload, 161, 0, .null) := by decide +kernel
theorem k184_161 : mm_at 184 161 = some (.ireturn, 162, 0, .null) := by decide +kernel
theorem k185_0 : mm_at 185 0 = some (.bipush 119, 2, 0, .int (119)) := by decide +kernel
theorem k185_2 : mm_at 185 2 = some (.bipush 101, 4, 0, .int (101)) := by decide +kernel
theorem k185_4 : mm_at 185 4 = some (.iload_n 1, 5, 1, .null) := by decide +kernel
theorem k185_5 : mm_at 185 5 = some (.imul, 6, 0, .null) := by decide +kernel
theorem k185_6 : mm_at 185 6 = some (.iadd, 7, 0, .null) := by decide +kernel
theorem k185_7 : mm_at 185 7 = some (.istore 5, 9, 5, .null) := by decide +kernel
theorem k185_9 : mm_at 185 9 = some (.aload_n 0, 10, 0, .null) := by decide +kernel
theorem k185_10 : mm_at 185 10 = some (.getfield 28, 13, 1207, .null) := by decide +kernel
theorem k185_13 : mm_at 185 13 = some (.iconst 0, 14, 0, .int (0)) := by decide +kernel
theorem k185_14 : mm_at 185 14 = some (.iload_n 2, 15, 2, .null) := by decide +kernel
theorem k185_15 : mm_at 185 15 = some (.iastore, 16, 0, .null) := by decide +kernel
theorem k185_16 : mm_at 185 16 = some (.aload_n 0, 17, 0, .null) := by decide +kernel
theorem k185_17 : mm_at 185 17 = some (.getfield 28, 20, 1207, .null) := by decide +kernel
theorem k185_20 : mm_at 185 20 = some (.iconst 1, 21, 0, .int (1)) := by decide +kernel
theorem k185_21 : mm_at 185 21 = some (.iload_n 3, 22, 3, .null) := by decide +kernel
theorem k185_22 : mm_at 185 22 = some (.iastore, 23, 0, .null) := by decide +kernel
theorem k185_23 : mm_at 185 23 = some (.aload_n 0, 24, 0, .null) := by decide +kernel
theorem k185_24 : mm_at 185 24 = some (.getfield 28, 27, 1207, .null) := by decide +kernel
theorem k185_27 : mm_at 185 27 = some (.iconst 2, 28, 0, .int (2)) := by decide +kernel
theorem k185_28 : mm_at 185 28 = some (.iload 4, 30, 4, .null) := by decide +kernel
theorem k185_30 : mm_at 185 30 = some (.iastore, 31, 0, .null) := by decide +kernel
theorem k185_31 : mm_at 185 31 = some (.aload_n 0, 32, 0, .null) := by decide +kernel
theorem k185_32 : mm_at 185 32 = some (.getfield 9, 35, 1200, .null) := by decide +kernel
theorem k185_35 : mm_at 185 35 = some (.iload 5, 37, 5, .null) := by decide +kernel
theorem k185_37 : mm_at 185 37 = some (.iaload, 38, 0, .null) := by decide +kernel
theorem k185_38 : mm_at 185 38 = some (.ifCond .le 12, 41, 50, .null) := by decide +kernel
theorem k185_41 : mm_at 185 41 = some (.aload_n 0, 42, 0, .null) := by decide +kernel
theorem k185_42 : mm_at 185 42 = some (.iload 5, 44, 5, .null) := by decide +kernel
theorem k185_44 : mm_at 185 44 = some (.invokevirtual 183, 47, 258, .null) := by decide +kernel
theorem k185_47 : mm_at 185 47 = some (.goto 17, 50, 64, .null) := by decide +kernel
theorem k185_50 : mm_at 185 50 = some (.iload_n 1, 51, 1, .null) := by decide +kernel
theorem k185_51 : mm_at 185 51 = some (.ifCond .ne 7, 54, 58, .null) := by decide +kernel
theorem k185_54 : mm_at 185 54 = some (.iconst 1, 55, 0, .int (1)) := by decide +kernel
theorem k185_55 : mm_at 185 55 = some (.goto 9, 58, 64, .null) := by decide +kernel
theorem k185_58 : mm_at 185 58 = some (.bipush 10, 60, 0, .int (10)) := by decide +kernel
theorem k185_60 : mm_at 185 60 = some (.iload_n 2, 61, 2, .null) := by decide +kernel
theorem k185_61 : mm_at 185 61 = some (.imul, 62, 0, .null) := by decide +kernel
theorem k185_62 : mm_at 185 62 = some (.iload_n 3, 63, 3, .null) := by decide +kernel
theorem k185_63 : mm_at 185 63 = some (.isub, 64, 0, .null) := by decide +kernel
theorem k185_64 : mm_at 185 64 = some (.istore 6, 66, 6, .null) := by decide +kernel
theorem k185_66 : mm_at 185 66 = some (.iload_n 1, 67, 1, .null) := by decide +kernel
theorem k185_67 : mm_at 185 67 = some (.ifCond .ne 14, 70, 81, .null) := by decide +kernel
theorem k185_70 : mm_at 185 70 = some (.iload 6, 72, 6, .null) := by decide +kernel
theorem k185_72 : mm_at 185 72 = some (.iconst 0, 73, 0, .int (0)) := by decide +kernel
theorem k185_73 : mm_at 185 73 = some (.bipush 99, 75, 0, .int (99)) := by decide +kernel
theorem k185_75 : mm_at 185 75 = some (.invokestatic 186, 78, 259, .null) := by decide +kernel
theorem k185_78 : mm_at 185 78 = some (.goto 12, 81, 90, .null) := by decide +kernel
theorem k185_81 : mm_at 185 81 = some (.iload 6, 83, 6, .null) := by decide +kernel
theorem k185_83 : mm_at 185 83 = some (.bipush (-99), 85, 0, .int (-99)) := by decide +kernel
theorem k185_85 : mm_at 185 85 = some (.bipush 99, 87, 0, .int (99)) := by decide +kernel
theorem k185_87 : mm_at 185 87 = some (.invokestatic 186, 90, 259, .null) := by decide +kernel
theorem k185_90 : mm_at 185 90 = some (.ireturn, 91, 0, .null) := by decide +kernel
theorem k186_0 : mm_at 186 0 = some (.iload_n 1, 1, 1, .null) := by decide +kernel
theorem k186_1 : mm_at 186 1 = some (.iconst 0, 2, 0, .int (0)) := by decide +kernel
theorem k186_2 : mm_at 186 2 = some (.iconst 1, 3, 0, .int (1)) := by decide +kernel
theorem k186_3 : mm_at 186 3 = some (.invokestatic 47, 6, 224, .null) := by decide +kernel
theorem k186_6 : mm_at 186 6 = some (.ifCond .eq 15, 9, 21, .null) := by decide +kernel
theorem k186_9 : mm_at 186 9 = some (.aload_n 0, 10, 0, .null) := by decide +kernel
theorem k186_10 : mm_at 186 10 = some (.iload_n 1, 11, 1, .null) := by decide +kernel
theorem k186_11 : mm_at 186 11 = some (.iload_n 2, 12, 2, .null) := by decide +kernel
theorem k186_12 : mm_at 186 12 = some (.iload_n 3, 13, 3, .null) := by decide +kernel
theorem k186_13 : mm_at 186 13 = some (.iload 4, 15, 4, .null) := by decide +kernel
theorem k186_15 : mm_at 186 15 = some (.invokevirtual 72, 18, 231, .null) := by decide +kernel
theorem k186_18 : mm_at 186 18 = some (.goto 9, 21, 27, .null) := by decide +kernel
theorem k186_21 : mm_at 186 21 = some (.aload_n 0, 22, 0, .null) := by decide +kernel
theorem k186_22 : mm_at 186 22 = some (.ldc 97, 24, 0, .int (-1000000001)) := by decide +kernel
theorem k186_24 : mm_at 186 24 = some (.invokevirtual 98, 27, 238, .null) := by decide +kernel
theorem k186_27 : mm_at 186 27 = some (.ireturn, 28, 0, .null) := by decide +kernel
theorem k187_0 : mm_at 187 0 = some (.iload_n 1, 1, 1, .null) := by decide +kernel
theorem k187_1 : mm_at 187 1 = some (.invokestatic 115, 4, 243, .null) := by decide +kernel
theorem k187_4 : mm_at 187 4 = some (.ifCond .eq 12, 7, 16, .null) := by decide +kernel
theorem k187_7 : mm_at 187 7 = some (.iload_n 2, 8, 2, .null) := by decide +kernel
theorem k187_8 : mm_at 187 8 = some (.iconst 0, 9, 0, .int (0)) := by decide +kernel
theorem k187_9 : mm_at 187 9 = some (.iconst 2, 10, 0, .int (2)) := by decide +kernel
theorem k187_10 : mm_at 187 10 = some (.invokestatic 47, 13, 224, .null) := by decide +kernel
theorem k187_13 : mm_at 187 13 = some (.ifCond .ne 10, 16, 23, .null) := by decide +kernel
theorem k187_16 : mm_at 187 16 = some (.aload_n 0, 17, 0, .null) := by decide +kernel
theorem k187_17 : mm_at 187 17 = some (.ldc 97, 19, 0, .int (-1000000001)) := by decide +kernel
theorem k187_19 : mm_at 187 19 = some (.invokevirtual 98, 22, 238, .null) := by decide +kernel
theorem k187_22 : mm_at 187 22 = some (.ireturn, 23, 0, .null) := by decide +kernel
theorem k187_23 : mm_at 187 23 = some (.iload_n 2, 24, 2, .null) := by decide +kernel
theorem k187_24 : mm_at 187 24 = some (.iconst 2, 25, 0, .int (2)) := by decide +kernel
theorem k187_25 : mm_at 187 25 = some (.if_icmp .ne 19, 28, 44, .null) := by decide +kernel
theorem k187_28 : mm_at 187 28 = some (.aload_n 0, 29, 0, .null) := by decide +kernel
theorem k187_29 : mm_at 187 29 = some (.iload_n 1, 30, 1, .null) := by decide +kernel
theorem k187_30 : mm_at 187 30 = some (.invokevirtual 189, 33, 260, .null) := by decide +kernel
theorem k187_33 : mm_at 187 33 = some (.ifCond .eq 7, 36, 40, .null) := by decide +kernel
theorem k187_36 : mm_at 187 36 = some (.iconst 1, 37, 0, .int (1)) := by decide +kernel
theorem k187_37 : mm_at 187 37 = some (.goto 21, 40, 58, .null) := by decide +kernel
theorem k187_40 : mm_at 187 40 = some (.iconst 0, 41, 0, .int (0)) := by decide +kernel
theorem k187_41 : mm_at 187 41 = some (.goto 17, 44, 58, .null) := by decide +kernel
theorem k187_44 : mm_at 187 44 = some (.aload_n 0, 45, 0, .null) := by decide +kernel
theorem k187_45 : mm_at 187 45 = some (.iload_n 1, 46, 1, .null) := by decide +kernel
theorem k187_46 : mm_at 187 46 = some (.aload_n 0, 47, 0, .null) := by decide +kernel
theorem k187_47 : mm_at 187 47 = some (.invokevirtual 86, 50, 235, .null) := by decide +kernel
theorem k187_50 : mm_at 187 50 = some (.iconst 1, 51, 0, .int (1)) := by decide +kernel
theorem k187_51 : mm_at 187 51 = some (.iconst 2, 52, 0, .int (2)) := by decide +kernel
theorem k187_52 : mm_at 187 52 = some (.iload_n 2, 53, 2, .null) := by decide +kernel
theorem k187_53 : mm_at 187 53 = some (.imul, 54, 0, .null) := by decide +kernel
theorem k187_54 : mm_at 187 54 = some (.isub, 55, 0, .null) := by decide +kernel
theorem k187_55 : mm_at 187 55 = some (.invokevirtual 83, 58, 234, .null) := by decide +kernel
theorem k187_58 : mm_at 187 58 = some (.ireturn, 59, 0, .null) := by decide +kernel
theorem k188_0 : mm_at 188 0 = some (.aload_n 0, 1, 0, .null) := by decide +kernel
theorem k188_1 : mm_at 188 1 = some (.iload_n 1, 2, 1, .null) := by decide +kernel
theorem k188_2 : mm_at 188 2 = some (.invokevirtual 102, 5, 239, .null) := by decide +kernel
theorem k188_5 : mm_at 188 5 = some (.ifCond .eq 25, 8, 30, .null) := by decide +kernel
theorem k188_8 : mm_at 188 8 = some (.iload_n 2, 9, 2, .null) := by decide +kernel
theorem k188_9 : mm_at 188 9 = some (.invokestatic 115, 12, 243, .null) := by decide +kernel
theorem k188_12 : mm_at 188 12 = some (.ifCond .eq 18, 15, 30, .null) := by decide +kernel
theorem k188_15 : mm_at 188 15 = some (.iconst 1, 16, 0, .int (1)) := by decide +kernel
theorem k188_16 : mm_at 188 16 = some (.aload_n 0, 17, 0, .null) := by decide +kernel
theorem k188_17 : mm_at 188 17 = some (.iload_n 1, 18, 1, .null) := by decide +kernel
theorem k188_18 : mm_at 188 18 = some (.iload_n 2, 19, 2, .null) := by decide +kernel
theorem k188_19 : mm_at 188 19 = some (.aload_n 0, 20, 0, .null) := by decide +kernel
theorem k188_20 : mm_at 188 20 = some (.invokevirtual 86, 23, 235, .null) := by decide +kernel
theorem k188_23 : mm_at 188 23 = some (.invokevirtual 76, 26, 232, .null) := by decide +kernel
theorem k188_26 : mm_at 188 26 = some (.iadd, 27, 0, .null) := by decide +kernel
theorem k188_27 : mm_at 188 27 = some (.goto 9, 30, 36, .null) := by decide +kernel
theorem k188_30 : mm_at 188 30 = some (.aload_n 0, 31, 0, .null) := by decide +kernel
theorem k188_31 : mm_at 188 31 = some (.ldc 97, 33, 0, .int (-1000000001)) := by decide +kernel
theorem k188_33 : mm_at 188 33 = some (.invokevirtual 98, 36, 238, .null) := by decide +kernel
theorem k188_36 : mm_at 188 36 = some (.ireturn, 37, 0, .null) := by decide +kernel
theorem k189_0 : mm_at 189 0 = some (.iconst (-1), 1, 0, .int (-1)) := by decide +kernel
theorem k189_1 : mm_at 189 1 = some (.istore_n 2, 2, 2, .null) := by decide +kernel
theorem k189_2 : mm_at 189 2 = some (.iconst 0, 3, 0, .int (0)) := by decide +kernel
theorem k189_3 : mm_at 189 3 = some (.istore_n 3, 4, 3, .null) := by decide +kernel
theorem k189_4 : mm_at 189 4 = some (.iload_n 3, 5, 3, .null) := by decide +kernel
theorem k189_5 : mm_at 189 5 = some (.aload_n 0, 6, 0, .null) := by decide +kernel
theorem k189_6 : mm_at 189 6 = some (.getfield 9, 9, 1200, .null) := by decide +kernel
theorem k189_9 : mm_at 189 9 = some (.iconst 3, 10, 0, .int (3)) := by decide +kernel
theorem k189_10 : mm_at 189 10 = some (.iaload, 11, 0, .null) := by decide +kernel
theorem k189_11 : mm_at 189 11 = some (.if_icmp .ge 55, 14, 66, .null) := by decide +kernel
theorem k189_14 : mm_at 189 14 = some (.iload_n 1, 15, 1, .null) := by decide +kernel
theorem k189_15 : mm_at 189 15 = some (.iload_n 3, 16, 3, .null) := by decide +kernel
theorem k189_16 : mm_at 189 16 = some (.ishr, 17, 0, .null) := by decide +kernel
theorem k189_17 : mm_at 189 17 = some (.iconst 1, 18, 0, .int (1)) := by decide +kernel
theorem k189_18 : mm_at 189 18 = some (.iand, 19, 0, .null) := by decide +kernel
theorem k189_19 : mm_at 189 19 = some (.iconst 1, 20, 0, .int (1)) := by decide +kernel
theorem k189_20 : mm_at 189 20 = some (.if_icmp .ne 26, 23, 46, .null) := by decide +kernel
theorem k189_23 : mm_at 189 23 = some (.iload_n 2, 24, 2, .null) := by decide +kernel
theorem k189_24 : mm_at 189 24 = some (.ifCond .lt 18, 27, 42, .null) := by decide +kernel
theorem k189_27 : mm_at 189 27 = some (.aload_n 0, 28, 0, .null) := by decide +kernel
theorem k189_28 : mm_at 189 28 = some (.iload_n 3, 29, 3, .null) := by decide +kernel
theorem k189_29 : mm_at 189 29 = some (.iconst 0, 30, 0, .int (0)) := by decide +kernel
theorem k189_30 : mm_at 189 30 = some (.invokevirtual 51, 33, 225, .null) := by decide +kernel
theorem k189_33 : mm_at 189 33 = some (.aload_n 0, 34, 0, .null) := by decide +kernel
theorem k189_34 : mm_at 189 34 = some (.iload_n 2, 35, 2, .null) := by decide +kernel
theorem k189_35 : mm_at 189 35 = some (.iconst 0, 36, 0, .int (0)) := by decide +kernel
theorem k189_36 : mm_at 189 36 = some (.invokevirtual 51, 39, 225, .null) := by decide +kernel
theorem k189_39 : mm_at 189 39 = some (.if_icmp .le 7, 42, 46, .null) := by decide +kernel
theorem k189_42 : mm_at 189 42 = some (.iconst 1, 43, 0, .int (1)) := by decide +kernel
theorem k189_43 : mm_at 189 43 = some (.goto 4, 46, 47, .null) := by decide +kernel
theorem k189_46 : mm_at 189 46 = some (.iconst 0, 47, 0, .int (0)) := by decide +kernel
theorem k189_47 : mm_at 189 47 = some (.istore 4, 49, 4, .null) := by decide +kernel
theorem k189_49 : mm_at 189 49 = some (.iload 4, 51, 4, .null) := by decide +kernel
theorem k189_51 : mm_at 189 51 = some (.ifCond .eq 7, 54, 58, .null) := by decide +kernel
theorem k189_54 : mm_at 189 54 = some (.iload_n 3, 55, 3, .null) := by decide +kernel
theorem k189_55 : mm_at 189 55 = some (.goto 4, 58, 59, .null) := by decide +kernel
theorem k189_58 : mm_at 189 58 = some (.iload_n 2, 59, 2, .null) := by decide +kernel
theorem k189_59 : mm_at 189 59 = some (.istore_n 2, 60, 2, .null) := by decide +kernel
theorem k189_60 : mm_at 189 60 = some (.iinc 3 1, 63, 3, .int (1)) := by decide +kernel
theorem k189_63 : mm_at 189 63 = some (.goto (-59), 66, 4, .null) := by decide +kernel
theorem k189_66 : mm_at 189 66 = some (.iload_n 2, 67, 2, .null) := by decide +kernel
theorem k189_67 : mm_at 189 67 = some (.ireturn, 68, 0, .null) := by decide +kernel
theorem k190_0 : mm_at 190 0 = some (.aload_n 0, 1, 0, .null) := by decide +kernel
theorem k190_1 : mm_at 190 1 = some (.iconst 1, 2, 0, .int (1)) := by decide +kernel
theorem k190_2 : mm_at 190 2 = some (.aload_n 0, 3, 0, .null) := by decide +kernel
theorem k190_3 : mm_at 190 3 = some (.iload_n 2, 4, 2, .null) := by decide +kernel
theorem k190_4 : mm_at 190 4 = some (.aload_n 0, 5, 0, .null) := by decide +kernel
theorem k190_5 : mm_at 190 5 = some (.iload_n 1, 6, 1, .null) := by decide +kernel
theorem k190_6 : mm_at 190 6 = some (.iconst 1, 7, 0, .int (1)) := by decide +kernel
theorem k190_7 : mm_at 190 7 = some (.invokevirtual 51, 10, 225, .null) := by decide +kernel
theorem k190_10 : mm_at 190 10 = some (.invokevirtual 58, 13, 227, .null) := by decide +kernel
theorem k190_13 : mm_at 190 13 = some (.ifCond .eq 7, 16, 20, .null) := by decide +kernel
theorem k190_16 : mm_at 190 16 = some (.iconst 1, 17, 0, .int (1)) := by decide +kernel
theorem k190_17 : mm_at 190 17 = some (.goto 4, 20, 21, .null) := by decide +kernel
theorem k190_20 : mm_at 190 20 = some (.iconst 0, 21, 0, .int (0)) := by decide +kernel
theorem k190_21 : mm_at 190 21 = some (.iload_n 2, 22, 2, .null) := by decide +kernel
theorem k190_22 : mm_at 190 22 = some (.aload_n 0, 23, 0, .null) := by decide +kernel
theorem k190_23 : mm_at 190 23 = some (.iload_n 1, 24, 1, .null) := by decide +kernel
theorem k190_24 : mm_at 190 24 = some (.iconst 0, 25, 0, .int (0)) := by decide +kernel
theorem k190_25 : mm_at 190 25 = some (.invokevirtual 51, 28, 225, .null) := by decide +kernel
theorem k190_28 : mm_at 190 28 = some (.invokevirtual 72, 31, 231, .null) := by decide +kernel
theorem k190_31 : mm_at 190 31 = some (.ireturn, 32, 0, .null) := by decide +kernel
theorem k191_0 : mm_at 191 0 = some (.iconst (-1), 1, 0, .int (-1)) := by decide +kernel
theorem k191_1 : mm_at 191 1 = some (.istore_n 3, 2, 3, .null) := by decide +kernel
theorem k191_2 : mm_at 191 2 = some (.iconst 0, 3, 0, .int (0)) := by decide +kernel
theorem k191_3 : mm_at 191 3 = some (.istore 4, 5, 4, .null) := by decide +kernel
theorem k191_5 : mm_at 191 5 = some (.iconst 0, 6, 0, .int (0)) := by decide +kernel
theorem k191_6 : mm_at 191 6 = some (.istore 5, 8, 5, .null) := by decide +kernel
theorem k191_8 : mm_at 191 8 = some (.iload 5, 10, 5, .null) := by decide +kernel
theorem k191_10 : mm_at 191 10 = some (.aload_n 0, 11, 0, .null) := by decide +kernel
theorem k191_11 : mm_at 191 11 = some (.getfield 9, 14, 1200, .null) := by decide +kernel
theorem k191_14 : mm_at 191 14 = some (.iconst 2, 15, 0, .int (2)) := by decide +kernel
theorem k191_15 : mm_at 191 15 = some (.iaload, 16, 0, .null) := by decide +kernel
theorem k191_16 : mm_at 191 16 = some (.if_icmp .ge 72, 19, 88, .null) := by decide +kernel
theorem k191_19 : mm_at 191 19 = some (.iload_n 2, 20, 2, .null) := by decide +kernel
theorem k191_20 : mm_at 191 20 = some (.iload 5, 22, 5, .null) := by decide +kernel
theorem k191_22 : mm_at 191 22 = some (.ishr, 23, 0, .null) := by decide +kernel
theorem k191_23 : mm_at 191 23 = some (.iconst 1, 24, 0, .int (1)) := by decide +kernel
theorem k191_24 : mm_at 191 24 = some (.iand, 25, 0, .null) := by decide +kernel
theorem k191_25 : mm_at 191 25 = some (.ifCond .ne 57, 28, 82, .null) := by decide +kernel
theorem k191_28 : mm_at 191 28 = some (.aload_n 0, 29, 0, .null) := by decide +kernel
theorem k191_29 : mm_at 191 29 = some (.iload_n 1, 30, 1, .null) := by decide +kernel
theorem k191_30 : mm_at 191 30 = some (.iload 5, 32, 5, .null) := by decide +kernel
theorem k191_32 : mm_at 191 32 = some (.invokevirtual 192, 35, 261, .null) := by decide +kernel
theorem k191_35 : mm_at 191 35 = some (.istore 6, 37, 6, .null) := by decide +kernel
theorem k191_37 : mm_at 191 37 = some (.iload_n 3, 38, 3, .null) := by decide +kernel
theorem k191_38 : mm_at 191 38 = some (.iconst (-1), 39, 0, .int (-1)) := by decide +kernel
theorem k191_39 : mm_at 191 39 = some (.if_icmp .eq 10, 42, 49, .null) := by decide +kernel
theorem k191_42 : mm_at 191 42 = some (.iload 6, 44, 6, .null) := by decide +kernel
theorem k191_44 : mm_at 191 44 = some (.iload 4, 46, 4, .null) := by decide +kernel
theorem k191_46 : mm_at 191 46 = some (.if_icmp .le 7, 49, 53, .null) := by decide +kernel
theorem k191_49 : mm_at 191 49 = some (.iconst 1, 50, 0, .int (1)) := by decide +kernel
theorem k191_50 : mm_at 191 50 = some (.goto 4, 53, 54, .null) := by decide +kernel
theorem k191_53 : mm_at 191 53 = some (.iconst 0, 54, 0, .int (0)) := by decide +kernel
theorem k191_54 : mm_at 191 54 = some (.istore 7, 56, 7, .null) := by decide +kernel
theorem k191_56 : mm_at 191 56 = some (.iload 7, 58, 7, .null) := by decide +kernel
theorem k191_58 : mm_at 191 58 = some (.ifCond .eq 8, 61, 66, .null) := by decide +kernel
theorem k191_61 : mm_at 191 61 = some (.iload 5, 63, 5, .null) := by decide +kernel
theorem k191_63 : mm_at 191 63 = some (.goto 4, 66, 67, .null) := by decide +kernel
theorem k191_66 : mm_at 191 66 = some (.iload_n 3, 67, 3, .null) := by decide +kernel
theorem k191_67 : mm_at 191 67 = some (.istore_n 3, 68, 3, .null) := by decide +kernel
theorem k191_68 : mm_at 191 68 = some (.iload 7, 70, 7, .null) := by decide +kernel
theorem k191_70 : mm_at 191 70 = some (.ifCond .eq 8, 73, 78, .null) := by decide +kernel
theorem k191_73 : mm_at 191 73 = some (.iload 6, 75, 6, .null) := by decide +kernel
theorem k191_75 : mm_at 191 75 = some (.goto 5, 78, 80, .null) := by decide +kernel
theorem k191_78 : mm_at 191 78 = some (.iload 4, 80, 4, .null) := by decide +kernel
theorem k191_80 : mm_at 191 80 = some (.istore 4, 82, 4, .null) := by decide +kernel
theorem k191_82 : mm_at 191 82 = some (.iinc 5 1, 85, 5, .int (1)) := by decide +kernel
theorem k191_85 : mm_at 191 85 = some (.goto (-77), 88, 8, .null) := by decide +kernel
theorem k191_88 : mm_at 191 88 = some (.iload_n 3, 89, 3, .null) := by decide +kernel
theorem k191_89 : mm_at 191 89 = some (.ireturn, 90, 0, .null) := by decide +kernel
theorem k192_0 : mm_at 192 0 = some (.iconst 1, 1, 0, .int (1)) := by decide +kernel
theorem k192_1 : mm_at 192 1 = some (.aload_n 0, 2, 0, .null) := by decide +kernel
theorem k192_2 : mm_at 192 2 = some (.getfield 9, 5, 1200, .null) := by decide +kernel
theorem k192_5 : mm_at 192 5 = some (.iconst 3, 6, 0, .int (3)) := by decide +kernel
theorem k192_6 : mm_at 192 6 = some (.iaload, 7, 0, .null) := by decide +kernel
theorem k192_7 : mm_at 192 7 = some (.ishl, 8, 0, .null) := by decide +kernel
theorem k192_8 : mm_at 192 8 = some (.iconst 1, 9, 0, .int (1)) := by decide +kernel
theorem k192_9 : mm_at 192 9 = some (.isub, 10, 0, .null) := by decide +kernel
theorem k192_10 : mm_at 192 10 = some (.istore_n 1, 11, 1, .null) := by decide +kernel
theorem k192_11 : mm_at 192 11 = some (.iconst 0, 12, 0, .int (0)) := by decide +kernel
theorem k192_12 : mm_at 192 12 = some (.istore_n 2, 13, 2, .null) := by decide +kernel
theorem k192_13 : mm_at 192 13 = some (.iload_n 1, 14, 1, .null) := by decide +kernel
theorem k192_14 : mm_at 192 14 = some (.ifCond .eq 52, 17, 66, .null) := by decide +kernel
theorem k192_17 : mm_at 192 17 = some (.aload_n 0, 18, 0, .null) := by decide +kernel
theorem k192_18 : mm_at 192 18 = some (.iload_n 1, 19, 1, .null) := by decide +kernel
theorem k192_19 : mm_at 192 19 = some (.invokevirtual 195, 22, 262, .null) := by decide +kernel
theorem k192_22 : mm_at 192 22 = some (.istore_n 3, 23, 3, .null) := by decide +kernel
theorem k192_23 : mm_at 192 23 = some (.aload_n 0, 24, 0, .null) := by decide +kernel
theorem k192_24 : mm_at 192 24 = some (.iload_n 3, 25, 3, .null) := by decide +kernel
theorem k192_25 : mm_at 192 25 = some (.iload_n 2, 26, 2, .null) := by decide +kernel
theorem k192_26 : mm_at 192 26 = some (.invokevirtual 198, 29, 263, .null) := by decide +kernel
theorem k192_29 : mm_at 192 29 = some (.istore 4, 31, 4, .null) := by decide +kernel
theorem k192_31 : mm_at 192 31 = some (.aload_n 0, 32, 0, .null) := by decide +kernel
theorem k192_32 : mm_at 192 32 = some (.iload_n 3, 33, 3, .null) := by decide +kernel
theorem k192_33 : mm_at 192 33 = some (.iconst 2, 34, 0, .int (2)) := by decide +kernel
theorem k192_34 : mm_at 192 34 = some (.iload 4, 36, 4, .null) := by decide +kernel
theorem k192_36 : mm_at 192 36 = some (.invokevirtual 118, 39, 244, .null) := by decide +kernel
theorem k192_39 : mm_at 192 39 = some (.iload_n 2, 40, 2, .null) := by decide +kernel
theorem k192_40 : mm_at 192 40 = some (.iload 4, 42, 4, .null) := by decide +kernel
theorem k192_42 : mm_at 192 42 = some (.ifCond .lt 10, 45, 52, .null) := by decide +kernel
theorem k192_45 : mm_at 192 45 = some (.iconst 1, 46, 0, .int (1)) := by decide +kernel
theorem k192_46 : mm_at 192 46 = some (.iload 4, 48, 4, .null) := by decide +kernel
theorem k192_48 : mm_at 192 48 = some (.ishl, 49, 0, .null) := by decide +kernel
theorem k192_49 : mm_at 192 49 = some (.goto 4, 52, 53, .null) := by decide +kernel
theorem k192_52 : mm_at 192 52 = some (.iconst 0, 53, 0, .int (0)) := by decide +kernel
theorem k192_53 : mm_at 192 53 = some (.ior, 54, 0, .null) := by decide +kernel
theorem k192_54 : mm_at 192 54 = some (.istore_n 2, 55, 2, .null) := by decide +kernel
theorem k192_55 : mm_at 192 55 = some (.iload_n 1, 56, 1, .null) := by decide +kernel
theorem k192_56 : mm_at 192 56 = some (.iconst 1, 57, 0, .int (1)) := by decide +kernel
theorem k192_57 : mm_at 192 57 = some (.iload_n 3, 58, 3, .null) := by decide +kernel
theorem k192_58 : mm_at 192 58 = some (.ishl, 59, 0, .null) := by decide +kernel
theorem k192_59 : mm_at 192 59 = some (.iconst (-1), 60, 0, .int (-1)) := by decide +kernel
theorem k192_60 : mm_at 192 60 = some (.ixor, 61, 0, .null) := by decide +kernel
theorem k192_61 : mm_at 192 61 = some (.iand, 62, 0, .null) := by decide +kernel
theorem k192_62 : mm_at 192 62 = some (.istore_n 1, 63, 1, .null) := by decide +kernel
theorem k192_63 : mm_at 192 63 = some (.goto (-50), 66, 13, .null) := by decide +kernel
theorem k192_66 : mm_at 192 66 = some (.return_, 67, 0, .null) := by decide +kernel
theorem k193_0 : mm_at 193 0 = some (.aload_n 0, 1, 0, .null) := by decide +kernel
theorem k193_1 : mm_at 193 1 = some (.invokevirtual 201, 4, 264, .null) := by decide +kernel
theorem k193_4 : mm_at 193 4 = some (.aload_n 0, 5, 0, .null) := by decide +kernel
theorem k193_5 : mm_at 193 5 = some (.invokevirtual 86, 8, 235, .null) := by decide +kernel
theorem k193_8 : mm_at 193 8 = some (.invokestatic 62, 11, 228, .null) := by decide +kernel
theorem k193_11 : mm_at 193 11 = some (.ireturn, 12, 0, .null) := by decide +kernel
theorem k194_0 : mm_at 194 0 = some (.aload_n 0, 1, 0, .null) := by decide +kernel
theorem k194_1 : mm_at 194 1 = some (.invokevirtual 201, 4, 264, .null) := by decide +kernel
