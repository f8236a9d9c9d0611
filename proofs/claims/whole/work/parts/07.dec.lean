theorem d_Mo_doLoop_0 : decode c_Mo_doLoop 0 = .ok (.aload_n 0, 1) := by decide +kernel
theorem d_Mo_doLoop_1 : decode c_Mo_doLoop 1 = .ok (.bipush 7, 2) := by decide +kernel
theorem d_Mo_doLoop_3 : decode c_Mo_doLoop 3 = .ok (.invokevirtual 186, 3) := by decide +kernel
theorem d_Mo_doLoop_6 : decode c_Mo_doLoop 6 = .ok (.istore_n 3, 1) := by decide +kernel
theorem d_Mo_doLoop_7 : decode c_Mo_doLoop 7 = .ok (.aload_n 0, 1) := by decide +kernel
theorem d_Mo_doLoop_8 : decode c_Mo_doLoop 8 = .ok (.iload_n 3, 1) := by decide +kernel
theorem d_Mo_doLoop_9 : decode c_Mo_doLoop 9 = .ok (.aload_n 0, 1) := by decide +kernel
theorem d_Mo_doLoop_10 : decode c_Mo_doLoop 10 = .ok (.iload_n 1, 1) := by decide +kernel
theorem d_Mo_doLoop_11 : decode c_Mo_doLoop 11 = .ok (.iload_n 2, 1) := by decide +kernel
theorem d_Mo_doLoop_12 : decode c_Mo_doLoop 12 = .ok (.invokestatic 303, 3) := by decide +kernel
theorem d_Mo_doLoop_15 : decode c_Mo_doLoop 15 = .ok (.invokevirtual 119, 3) := by decide +kernel
theorem d_Mo_doLoop_18 : decode c_Mo_doLoop 18 = .ok (.aload_n 0, 1) := by decide +kernel
theorem d_Mo_doLoop_19 : decode c_Mo_doLoop 19 = .ok (.bipush 24, 2) := by decide +kernel
theorem d_Mo_doLoop_21 : decode c_Mo_doLoop 21 = .ok (.invokevirtual 143, 3) := by decide +kernel
theorem d_Mo_doLoop_24 : decode c_Mo_doLoop 24 = .ok (.ifCond .ne 11, 3) := by decide +kernel
theorem d_Mo_doLoop_27 : decode c_Mo_doLoop 27 = .ok (.aload_n 0, 1) := by decide +kernel
theorem d_Mo_doLoop_28 : decode c_Mo_doLoop 28 = .ok (.aload_n 0, 1) := by decide +kernel
theorem d_Mo_doLoop_29 : decode c_Mo_doLoop 29 = .ok (.getfield 84, 3) := by decide +kernel
theorem d_Mo_doLoop_32 : decode c_Mo_doLoop 32 = .ok (.invokevirtual 93, 3) := by decide +kernel
theorem d_Mo_doLoop_35 : decode c_Mo_doLoop 35 = .ok (.aload_n 0, 1) := by decide +kernel
theorem d_Mo_doLoop_36 : decode c_Mo_doLoop 36 = .ok (.dup, 1) := by decide +kernel
theorem d_Mo_doLoop_37 : decode c_Mo_doLoop 37 = .ok (.getfield 84, 3) := by decide +kernel
theorem d_Mo_doLoop_40 : decode c_Mo_doLoop 40 = .ok (.iconst 1, 1) := by decide +kernel
theorem d_Mo_doLoop_41 : decode c_Mo_doLoop 41 = .ok (.iadd, 1) := by decide +kernel
theorem d_Mo_doLoop_42 : decode c_Mo_doLoop 42 = .ok (.putfield 84, 3) := by decide +kernel
theorem d_Mo_doLoop_45 : decode c_Mo_doLoop 45 = .ok (.aload_n 0, 1) := by decide +kernel
theorem d_Mo_doLoop_46 : decode c_Mo_doLoop 46 = .ok (.iload_n 3, 1) := by decide +kernel
theorem d_Mo_doLoop_47 : decode c_Mo_doLoop 47 = .ok (.aload_n 0, 1) := by decide +kernel
theorem d_Mo_doLoop_48 : decode c_Mo_doLoop 48 = .ok (.iload_n 1, 1) := by decide +kernel
theorem d_Mo_doLoop_49 : decode c_Mo_doLoop 49 = .ok (.invokestatic 300, 3) := by decide +kernel
theorem d_Mo_doLoop_52 : decode c_Mo_doLoop 52 = .ok (.invokevirtual 119, 3) := by decide +kernel
theorem d_Mo_doLoop_55 : decode c_Mo_doLoop 55 = .ok (.aload_n 0, 1) := by decide +kernel
theorem d_Mo_doLoop_56 : decode c_Mo_doLoop 56 = .ok (.invokevirtual 289, 3) := by decide +kernel
theorem d_Mo_doLoop_59 : decode c_Mo_doLoop 59 = .ok (.iload_n 3, 1) := by decide +kernel
theorem d_Mo_doLoop_60 : decode c_Mo_doLoop 60 = .ok (.ireturn, 1) := by decide +kernel
theorem d_Mo_whileLoop_0 : decode c_Mo_whileLoop 0 = .ok (.aload_n 0, 1) := by decide +kernel
theorem d_Mo_whileLoop_1 : decode c_Mo_whileLoop 1 = .ok (.bipush 8, 2) := by decide +kernel
theorem d_Mo_whileLoop_3 : decode c_Mo_whileLoop 3 = .ok (.invokevirtual 186, 3) := by decide +kernel
theorem d_Mo_whileLoop_6 : decode c_Mo_whileLoop 6 = .ok (.istore_n 3, 1) := by decide +kernel
theorem d_Mo_whileLoop_7 : decode c_Mo_whileLoop 7 = .ok (.aload_n 0, 1) := by decide +kernel
theorem d_Mo_whileLoop_8 : decode c_Mo_whileLoop 8 = .ok (.iload_n 3, 1) := by decide +kernel
theorem d_Mo_whileLoop_9 : decode c_Mo_whileLoop 9 = .ok (.aload_n 0, 1) := by decide +kernel
theorem d_Mo_whileLoop_10 : decode c_Mo_whileLoop 10 = .ok (.iload_n 1, 1) := by decide +kernel
theorem d_Mo_whileLoop_11 : decode c_Mo_whileLoop 11 = .ok (.invokestatic 300, 3) := by decide +kernel
theorem d_Mo_whileLoop_14 : decode c_Mo_whileLoop 14 = .ok (.invokevirtual 119, 3) := by decide +kernel
theorem d_Mo_whileLoop_17 : decode c_Mo_whileLoop 17 = .ok (.aload_n 0, 1) := by decide +kernel
theorem d_Mo_whileLoop_18 : decode c_Mo_whileLoop 18 = .ok (.iload_n 3, 1) := by decide +kernel
theorem d_Mo_whileLoop_19 : decode c_Mo_whileLoop 19 = .ok (.aload_n 0, 1) := by decide +kernel
theorem d_Mo_whileLoop_20 : decode c_Mo_whileLoop 20 = .ok (.iload_n 1, 1) := by decide +kernel
theorem d_Mo_whileLoop_21 : decode c_Mo_whileLoop 21 = .ok (.iload_n 2, 1) := by decide +kernel
theorem d_Mo_whileLoop_22 : decode c_Mo_whileLoop 22 = .ok (.invokestatic 303, 3) := by decide +kernel
theorem d_Mo_whileLoop_25 : decode c_Mo_whileLoop 25 = .ok (.invokevirtual 119, 3) := by decide +kernel
theorem d_Mo_whileLoop_28 : decode c_Mo_whileLoop 28 = .ok (.iload_n 3, 1) := by decide +kernel
theorem d_Mo_whileLoop_29 : decode c_Mo_whileLoop 29 = .ok (.ireturn, 1) := by decide +kernel
theorem d_Mo_part_0 : decode c_Mo_part 0 = .ok (.aload_n 0, 1) := by decide +kernel
theorem d_Mo_part_1 : decode c_Mo_part 1 = .ok (.iload_n 3, 1) := by decide +kernel
theorem d_Mo_part_2 : decode c_Mo_part 2 = .ok (.invokevirtual 90, 3) := by decide +kernel
theorem d_Mo_part_5 : decode c_Mo_part 5 = .ok (.ifCond .eq 11, 3) := by decide +kernel
theorem d_Mo_part_8 : decode c_Mo_part 8 = .ok (.aload_n 0, 1) := by decide +kernel
theorem d_Mo_part_9 : decode c_Mo_part 9 = .ok (.iload_n 1, 1) := by decide +kernel
theorem d_Mo_part_10 : decode c_Mo_part 10 = .ok (.invokevirtual 199, 3) := by decide +kernel
theorem d_Mo_part_13 : decode c_Mo_part 13 = .ok (.goto 16, 3) := by decide +kernel
theorem d_Mo_part_16 : decode c_Mo_part 16 = .ok (.aload_n 0, 1) := by decide +kernel
theorem d_Mo_part_17 : decode c_Mo_part 17 = .ok (.iload_n 1, 1) := by decide +kernel
theorem d_Mo_part_18 : decode c_Mo_part 18 = .ok (.aload_n 0, 1) := by decide +kernel
theorem d_Mo_part_19 : decode c_Mo_part 19 = .ok (.iload_n 2, 1) := by decide +kernel
theorem d_Mo_part_20 : decode c_Mo_part 20 = .ok (.iconst 1, 1) := by decide +kernel
theorem d_Mo_part_21 : decode c_Mo_part 21 = .ok (.iadd, 1) := by decide +kernel
theorem d_Mo_part_22 : decode c_Mo_part 22 = .ok (.iconst 1, 1) := by decide +kernel
theorem d_Mo_part_23 : decode c_Mo_part 23 = .ok (.invokestatic 173, 3) := by decide +kernel
theorem d_Mo_part_26 : decode c_Mo_part 26 = .ok (.invokevirtual 119, 3) := by decide +kernel
theorem d_Mo_part_29 : decode c_Mo_part 29 = .ok (.aload_n 0, 1) := by decide +kernel
theorem d_Mo_part_30 : decode c_Mo_part 30 = .ok (.iload_n 3, 1) := by decide +kernel
theorem d_Mo_part_31 : decode c_Mo_part 31 = .ok (.invokevirtual 137, 3) := by decide +kernel
theorem d_Mo_part_34 : decode c_Mo_part 34 = .ok (.return_, 1) := by decide +kernel
theorem d_Mo_forLoop_0 : decode c_Mo_forLoop 0 = .ok (.aload_n 0, 1) := by decide +kernel
theorem d_Mo_forLoop_1 : decode c_Mo_forLoop 1 = .ok (.bipush 9, 2) := by decide +kernel
theorem d_Mo_forLoop_3 : decode c_Mo_forLoop 3 = .ok (.invokevirtual 186, 3) := by decide +kernel
theorem d_Mo_forLoop_6 : decode c_Mo_forLoop 6 = .ok (.istore_n 3, 1) := by decide +kernel
theorem d_Mo_forLoop_7 : decode c_Mo_forLoop 7 = .ok (.aload_n 0, 1) := by decide +kernel
theorem d_Mo_forLoop_8 : decode c_Mo_forLoop 8 = .ok (.bipush 60, 2) := by decide +kernel
theorem d_Mo_forLoop_10 : decode c_Mo_forLoop 10 = .ok (.invokevirtual 137, 3) := by decide +kernel
theorem d_Mo_forLoop_13 : decode c_Mo_forLoop 13 = .ok (.iconst 0, 1) := by decide +kernel
theorem d_Mo_forLoop_14 : decode c_Mo_forLoop 14 = .ok (.istore 4, 2) := by decide +kernel
theorem d_Mo_forLoop_16 : decode c_Mo_forLoop 16 = .ok (.aload_n 0, 1) := by decide +kernel
theorem d_Mo_forLoop_17 : decode c_Mo_forLoop 17 = .ok (.bipush 22, 2) := by decide +kernel
theorem d_Mo_forLoop_19 : decode c_Mo_forLoop 19 = .ok (.invokevirtual 143, 3) := by decide +kernel
theorem d_Mo_forLoop_22 : decode c_Mo_forLoop 22 = .ok (.ifCond .eq 39, 3) := by decide +kernel
theorem d_Mo_forLoop_25 : decode c_Mo_forLoop 25 = .ok (.aload_n 0, 1) := by decide +kernel
theorem d_Mo_forLoop_26 : decode c_Mo_forLoop 26 = .ok (.iconst 2, 1) := by decide +kernel
theorem d_Mo_forLoop_27 : decode c_Mo_forLoop 27 = .ok (.invokevirtual 186, 3) := by decide +kernel
theorem d_Mo_forLoop_30 : decode c_Mo_forLoop 30 = .ok (.istore 5, 2) := by decide +kernel
theorem d_Mo_forLoop_32 : decode c_Mo_forLoop 32 = .ok (.aload_n 0, 1) := by decide +kernel
theorem d_Mo_forLoop_33 : decode c_Mo_forLoop 33 = .ok (.iload 5, 2) := by decide +kernel
theorem d_Mo_forLoop_35 : decode c_Mo_forLoop 35 = .ok (.iload_n 1, 1) := by decide +kernel
theorem d_Mo_forLoop_36 : decode c_Mo_forLoop 36 = .ok (.iconst 0, 1) := by decide +kernel
theorem d_Mo_forLoop_37 : decode c_Mo_forLoop 37 = .ok (.invokestatic 296, 3) := by decide +kernel
theorem d_Mo_forLoop_40 : decode c_Mo_forLoop 40 = .ok (.iconst 1, 1) := by decide +kernel
theorem d_Mo_forLoop_41 : decode c_Mo_forLoop 41 = .ok (.if_icmp .ne 7, 3) := by decide +kernel
theorem d_Mo_forLoop_44 : decode c_Mo_forLoop 44 = .ok (.iconst 1, 1) := by decide +kernel
theorem d_Mo_forLoop_45 : decode c_Mo_forLoop 45 = .ok (.goto 4, 3) := by decide +kernel
theorem d_Mo_forLoop_48 : decode c_Mo_forLoop 48 = .ok (.iconst 0, 1) := by decide +kernel
theorem d_Mo_forLoop_49 : decode c_Mo_forLoop 49 = .ok (.istore 4, 2) := by decide +kernel
theorem d_Mo_forLoop_51 : decode c_Mo_forLoop 51 = .ok (.aload_n 0, 1) := by decide +kernel
theorem d_Mo_forLoop_52 : decode c_Mo_forLoop 52 = .ok (.iload_n 3, 1) := by decide +kernel
theorem d_Mo_forLoop_53 : decode c_Mo_forLoop 53 = .ok (.iload 5, 2) := by decide +kernel
theorem d_Mo_forLoop_55 : decode c_Mo_forLoop 55 = .ok (.invokevirtual 119, 3) := by decide +kernel
theorem d_Mo_forLoop_58 : decode c_Mo_forLoop 58 = .ok (.goto 59, 3) := by decide +kernel
theorem d_Mo_forLoop_61 : decode c_Mo_forLoop 61 = .ok (.aload_n 0, 1) := by decide +kernel
theorem d_Mo_forLoop_62 : decode c_Mo_forLoop 62 = .ok (.bipush 67, 2) := by decide +kernel
theorem d_Mo_forLoop_64 : decode c_Mo_forLoop 64 = .ok (.invokevirtual 90, 3) := by decide +kernel
theorem d_Mo_forLoop_67 : decode c_Mo_forLoop 67 = .ok (.ifCond .eq 11, 3) := by decide +kernel
theorem d_Mo_forLoop_70 : decode c_Mo_forLoop 70 = .ok (.aload_n 0, 1) := by decide +kernel
theorem d_Mo_forLoop_71 : decode c_Mo_forLoop 71 = .ok (.iload_n 3, 1) := by decide +kernel
theorem d_Mo_forLoop_72 : decode c_Mo_forLoop 72 = .ok (.invokevirtual 199, 3) := by decide +kernel
theorem d_Mo_forLoop_75 : decode c_Mo_forLoop 75 = .ok (.goto 42, 3) := by decide +kernel
theorem d_Mo_forLoop_78 : decode c_Mo_forLoop 78 = .ok (.aload_n 0, 1) := by decide +kernel
theorem d_Mo_forLoop_79 : decode c_Mo_forLoop 79 = .ok (.iload_n 1, 1) := by decide +kernel
theorem d_Mo_forLoop_80 : decode c_Mo_forLoop 80 = .ok (.iconst 1, 1) := by decide +kernel
theorem d_Mo_forLoop_81 : decode c_Mo_forLoop 81 = .ok (.iadd, 1) := by decide +kernel
theorem d_Mo_forLoop_82 : decode c_Mo_forLoop 82 = .ok (.iconst 0, 1) := by decide +kernel
theorem d_Mo_forLoop_83 : decode c_Mo_forLoop 83 = .ok (.invokestatic 173, 3) := by decide +kernel
theorem d_Mo_forLoop_86 : decode c_Mo_forLoop 86 = .ok (.istore 5, 2) := by decide +kernel
theorem d_Mo_forLoop_88 : decode c_Mo_forLoop 88 = .ok (.aload_n 0, 1) := by decide +kernel
theorem d_Mo_forLoop_89 : decode c_Mo_forLoop 89 = .ok (.iload_n 3, 1) := by decide +kernel
theorem d_Mo_forLoop_90 : decode c_Mo_forLoop 90 = .ok (.iload 5, 2) := by decide +kernel
theorem d_Mo_forLoop_92 : decode c_Mo_forLoop 92 = .ok (.invokevirtual 119, 3) := by decide +kernel
theorem d_Mo_forLoop_95 : decode c_Mo_forLoop 95 = .ok (.iconst 1, 1) := by decide +kernel
theorem d_Mo_forLoop_96 : decode c_Mo_forLoop 96 = .ok (.istore 4, 2) := by decide +kernel
theorem d_Mo_forLoop_98 : decode c_Mo_forLoop 98 = .ok (.aload_n 0, 1) := by decide +kernel
theorem d_Mo_forLoop_99 : decode c_Mo_forLoop 99 = .ok (.bipush 13, 2) := by decide +kernel
theorem d_Mo_forLoop_101 : decode c_Mo_forLoop 101 = .ok (.invokevirtual 143, 3) := by decide +kernel
theorem d_Mo_forLoop_104 : decode c_Mo_forLoop 104 = .ok (.ifCond .eq 13, 3) := by decide +kernel
theorem d_Mo_forLoop_107 : decode c_Mo_forLoop 107 = .ok (.aload_n 0, 1) := by decide +kernel
theorem d_Mo_forLoop_108 : decode c_Mo_forLoop 108 = .ok (.iload 5, 2) := by decide +kernel
theorem d_Mo_forLoop_110 : decode c_Mo_forLoop 110 = .ok (.aload_n 0, 1) := by decide +kernel
theorem d_Mo_forLoop_111 : decode c_Mo_forLoop 111 = .ok (.getfield 84, 3) := by decide +kernel
theorem d_Mo_forLoop_114 : decode c_Mo_forLoop 114 = .ok (.invokevirtual 140, 3) := by decide +kernel
theorem d_Mo_forLoop_117 : decode c_Mo_forLoop 117 = .ok (.iload 4, 2) := by decide +kernel
theorem d_Mo_forLoop_119 : decode c_Mo_forLoop 119 = .ok (.ifCond .eq 52, 3) := by decide +kernel
theorem d_Mo_forLoop_122 : decode c_Mo_forLoop 122 = .ok (.aload_n 0, 1) := by decide +kernel
theorem d_Mo_forLoop_123 : decode c_Mo_forLoop 123 = .ok (.bipush 13, 2) := by decide +kernel
theorem d_Mo_forLoop_125 : decode c_Mo_forLoop 125 = .ok (.invokevirtual 143, 3) := by decide +kernel
theorem d_Mo_forLoop_128 : decode c_Mo_forLoop 128 = .ok (.ifCond .eq 43, 3) := by decide +kernel
theorem d_Mo_forLoop_131 : decode c_Mo_forLoop 131 = .ok (.aload_n 0, 1) := by decide +kernel
theorem d_Mo_forLoop_132 : decode c_Mo_forLoop 132 = .ok (.dup, 1) := by decide +kernel
theorem d_Mo_forLoop_133 : decode c_Mo_forLoop 133 = .ok (.getfield 84, 3) := by decide +kernel
theorem d_Mo_forLoop_136 : decode c_Mo_forLoop 136 = .ok (.iconst 1, 1) := by decide +kernel
theorem d_Mo_forLoop_137 : decode c_Mo_forLoop 137 = .ok (.iadd, 1) := by decide +kernel
theorem d_Mo_forLoop_138 : decode c_Mo_forLoop 138 = .ok (.putfield 84, 3) := by decide +kernel
theorem d_Mo_forLoop_141 : decode c_Mo_forLoop 141 = .ok (.aload_n 0, 1) := by decide +kernel
theorem d_Mo_forLoop_142 : decode c_Mo_forLoop 142 = .ok (.getfield 27, 3) := by decide +kernel
theorem d_Mo_forLoop_145 : decode c_Mo_forLoop 145 = .ok (.iload_n 3, 1) := by decide +kernel
theorem d_Mo_forLoop_146 : decode c_Mo_forLoop 146 = .ok (.bipush 10, 2) := by decide +kernel
theorem d_Mo_forLoop_148 : decode c_Mo_forLoop 148 = .ok (.iastore, 1) := by decide +kernel
theorem d_Mo_forLoop_149 : decode c_Mo_forLoop 149 = .ok (.aload_n 0, 1) := by decide +kernel
theorem d_Mo_forLoop_150 : decode c_Mo_forLoop 150 = .ok (.iload_n 3, 1) := by decide +kernel
theorem d_Mo_forLoop_151 : decode c_Mo_forLoop 151 = .ok (.aload_n 0, 1) := by decide +kernel
theorem d_Mo_forLoop_152 : decode c_Mo_forLoop 152 = .ok (.iload_n 1, 1) := by decide +kernel
theorem d_Mo_forLoop_153 : decode c_Mo_forLoop 153 = .ok (.iconst 1, 1) := by decide +kernel
theorem d_Mo_forLoop_154 : decode c_Mo_forLoop 154 = .ok (.iadd, 1) := by decide +kernel
theorem d_Mo_forLoop_155 : decode c_Mo_forLoop 155 = .ok (.iconst 1, 1) := by decide +kernel
theorem d_Mo_forLoop_156 : decode c_Mo_forLoop 156 = .ok (.invokestatic 173, 3) := by decide +kernel
theorem d_Mo_forLoop_159 : decode c_Mo_forLoop 159 = .ok (.invokevirtual 119, 3) := by decide +kernel
theorem d_Mo_forLoop_162 : decode c_Mo_forLoop 162 = .ok (.aload_n 0, 1) := by decide +kernel
theorem d_Mo_forLoop_163 : decode c_Mo_forLoop 163 = .ok (.bipush 61, 2) := by decide +kernel
theorem d_Mo_forLoop_165 : decode c_Mo_forLoop 165 = .ok (.invokevirtual 137, 3) := by decide +kernel
theorem d_Mo_forLoop_168 : decode c_Mo_forLoop 168 = .ok (.goto 25, 3) := by decide +kernel
theorem d_Mo_forLoop_171 : decode c_Mo_forLoop 171 = .ok (.aload_n 0, 1) := by decide +kernel
theorem d_Mo_forLoop_172 : decode c_Mo_forLoop 172 = .ok (.bipush 67, 2) := by decide +kernel
theorem d_Mo_forLoop_174 : decode c_Mo_forLoop 174 = .ok (.invokevirtual 137, 3) := by decide +kernel
theorem d_Mo_forLoop_177 : decode c_Mo_forLoop 177 = .ok (.aload_n 0, 1) := by decide +kernel
theorem d_Mo_forLoop_178 : decode c_Mo_forLoop 178 = .ok (.iload_n 3, 1) := by decide +kernel
theorem d_Mo_forLoop_179 : decode c_Mo_forLoop 179 = .ok (.iload_n 1, 1) := by decide +kernel
theorem d_Mo_forLoop_180 : decode c_Mo_forLoop 180 = .ok (.bipush 67, 2) := by decide +kernel
theorem d_Mo_forLoop_182 : decode c_Mo_forLoop 182 = .ok (.invokestatic 306, 3) := by decide +kernel
theorem d_Mo_forLoop_185 : decode c_Mo_forLoop 185 = .ok (.aload_n 0, 1) := by decide +kernel
theorem d_Mo_forLoop_186 : decode c_Mo_forLoop 186 = .ok (.iload_n 3, 1) := by decide +kernel
theorem d_Mo_forLoop_187 : decode c_Mo_forLoop 187 = .ok (.iload_n 1, 1) := by decide +kernel
theorem d_Mo_forLoop_188 : decode c_Mo_forLoop 188 = .ok (.bipush 61, 2) := by decide +kernel
theorem d_Mo_forLoop_190 : decode c_Mo_forLoop 190 = .ok (.invokestatic 306, 3) := by decide +kernel
theorem d_Mo_forLoop_193 : decode c_Mo_forLoop 193 = .ok (.aload_n 0, 1) := by decide +kernel
theorem d_Mo_forLoop_194 : decode c_Mo_forLoop 194 = .ok (.iload_n 3, 1) := by decide +kernel
theorem d_Mo_forLoop_195 : decode c_Mo_forLoop 195 = .ok (.aload_n 0, 1) := by decide +kernel
theorem d_Mo_forLoop_196 : decode c_Mo_forLoop 196 = .ok (.iload_n 1, 1) := by decide +kernel
theorem d_Mo_forLoop_197 : decode c_Mo_forLoop 197 = .ok (.iload_n 2, 1) := by decide +kernel
theorem d_Mo_forLoop_198 : decode c_Mo_forLoop 198 = .ok (.invokestatic 303, 3) := by decide +kernel
theorem d_Mo_forLoop_201 : decode c_Mo_forLoop 201 = .ok (.invokevirtual 119, 3) := by decide +kernel
theorem d_Mo_forLoop_204 : decode c_Mo_forLoop 204 = .ok (.iload_n 3, 1) := by decide +kernel
theorem d_Mo_forLoop_205 : decode c_Mo_forLoop 205 = .ok (.ireturn, 1) := by decide +kernel
theorem d_Mo_leave_0 : decode c_Mo_leave 0 = .ok (.aload_n 0, 1) := by decide +kernel
theorem d_Mo_leave_1 : decode c_Mo_leave 1 = .ok (.iload_n 1, 1) := by decide +kernel
theorem d_Mo_leave_2 : decode c_Mo_leave 2 = .ok (.invokevirtual 186, 3) := by decide +kernel
theorem d_Mo_leave_5 : decode c_Mo_leave 5 = .ok (.istore_n 2, 1) := by decide +kernel
theorem d_Mo_leave_6 : decode c_Mo_leave 6 = .ok (.aload_n 0, 1) := by decide +kernel
theorem d_Mo_leave_7 : decode c_Mo_leave 7 = .ok (.iconst 1, 1) := by decide +kernel
theorem d_Mo_leave_8 : decode c_Mo_leave 8 = .ok (.invokevirtual 87, 3) := by decide +kernel
theorem d_Mo_leave_11 : decode c_Mo_leave 11 = .ok (.ifCond .eq 136, 3) := by decide +kernel
theorem d_Mo_leave_14 : decode c_Mo_leave 14 = .ok (.aload_n 0, 1) := by decide +kernel
theorem d_Mo_leave_15 : decode c_Mo_leave 15 = .ok (.getfield 19, 3) := by decide +kernel
theorem d_Mo_leave_18 : decode c_Mo_leave 18 = .ok (.aload_n 0, 1) := by decide +kernel
theorem d_Mo_leave_19 : decode c_Mo_leave 19 = .ok (.getfield 84, 3) := by decide +kernel
theorem d_Mo_leave_22 : decode c_Mo_leave 22 = .ok (.baload, 1) := by decide +kernel
theorem d_Mo_leave_23 : decode c_Mo_leave 23 = .ok (.ifCond .ne 124, 3) := by decide +kernel
theorem d_Mo_leave_26 : decode c_Mo_leave 26 = .ok (.aload_n 0, 1) := by decide +kernel
theorem d_Mo_leave_27 : decode c_Mo_leave 27 = .ok (.aload_n 0, 1) := by decide +kernel
theorem d_Mo_leave_28 : decode c_Mo_leave 28 = .ok (.getfield 97, 3) := by decide +kernel
theorem d_Mo_leave_31 : decode c_Mo_leave 31 = .ok (.invokevirtual 101, 3) := by decide +kernel
theorem d_Mo_leave_34 : decode c_Mo_leave 34 = .ok (.ifCond .ne 113, 3) := by decide +kernel
theorem d_Mo_leave_37 : decode c_Mo_leave 37 = .ok (.iconst 0, 1) := by decide +kernel
theorem d_Mo_leave_38 : decode c_Mo_leave 38 = .ok (.istore_n 3, 1) := by decide +kernel
theorem d_Mo_leave_39 : decode c_Mo_leave 39 = .ok (.aload_n 0, 1) := by decide +kernel
theorem d_Mo_leave_40 : decode c_Mo_leave 40 = .ok (.getfield 225, 3) := by decide +kernel
theorem d_Mo_leave_43 : decode c_Mo_leave 43 = .ok (.istore 4, 2) := by decide +kernel
theorem d_Mo_leave_45 : decode c_Mo_leave 45 = .ok (.iload 4, 2) := by decide +kernel
theorem d_Mo_leave_47 : decode c_Mo_leave 47 = .ok (.aload_n 0, 1) := by decide +kernel
theorem d_Mo_leave_48 : decode c_Mo_leave 48 = .ok (.getfield 234, 3) := by decide +kernel
theorem d_Mo_leave_51 : decode c_Mo_leave 51 = .ok (.if_icmp .ge 54, 3) := by decide +kernel
theorem d_Mo_leave_54 : decode c_Mo_leave 54 = .ok (.iload_n 3, 1) := by decide +kernel
theorem d_Mo_leave_55 : decode c_Mo_leave 55 = .ok (.ifCond .ne 38, 3) := by decide +kernel
theorem d_Mo_leave_58 : decode c_Mo_leave 58 = .ok (.aload_n 0, 1) := by decide +kernel
theorem d_Mo_leave_59 : decode c_Mo_leave 59 = .ok (.getfield 51, 3) := by decide +kernel
theorem d_Mo_leave_62 : decode c_Mo_leave 62 = .ok (.iload 4, 2) := by decide +kernel
theorem d_Mo_leave_64 : decode c_Mo_leave 64 = .ok (.iaload, 1) := by decide +kernel
theorem d_Mo_leave_65 : decode c_Mo_leave 65 = .ok (.aload_n 0, 1) := by decide +kernel
theorem d_Mo_leave_66 : decode c_Mo_leave 66 = .ok (.getfield 16, 3) := by decide +kernel
theorem d_Mo_leave_69 : decode c_Mo_leave 69 = .ok (.aload_n 0, 1) := by decide +kernel
theorem d_Mo_leave_70 : decode c_Mo_leave 70 = .ok (.getfield 84, 3) := by decide +kernel
theorem d_Mo_leave_73 : decode c_Mo_leave 73 = .ok (.iaload, 1) := by decide +kernel
theorem d_Mo_leave_74 : decode c_Mo_leave 74 = .ok (.if_icmp .ne 23, 3) := by decide +kernel
theorem d_Mo_leave_77 : decode c_Mo_leave 77 = .ok (.iload_n 1, 1) := by decide +kernel
theorem d_Mo_leave_78 : decode c_Mo_leave 78 = .ok (.bipush 12, 2) := by decide +kernel
theorem d_Mo_leave_80 : decode c_Mo_leave 80 = .ok (.if_icmp .eq 13, 3) := by decide +kernel
theorem d_Mo_leave_83 : decode c_Mo_leave 83 = .ok (.aload_n 0, 1) := by decide +kernel
theorem d_Mo_leave_84 : decode c_Mo_leave 84 = .ok (.getfield 54, 3) := by decide +kernel
theorem d_Mo_leave_87 : decode c_Mo_leave 87 = .ok (.iload 4, 2) := by decide +kernel
theorem d_Mo_leave_89 : decode c_Mo_leave 89 = .ok (.baload, 1) := by decide +kernel
theorem d_Mo_leave_90 : decode c_Mo_leave 90 = .ok (.ifCond .eq 7, 3) := by decide +kernel
theorem d_Mo_leave_93 : decode c_Mo_leave 93 = .ok (.iconst 1, 1) := by decide +kernel
theorem d_Mo_leave_94 : decode c_Mo_leave 94 = .ok (.goto 4, 3) := by decide +kernel
theorem d_Mo_leave_97 : decode c_Mo_leave 97 = .ok (.iconst 0, 1) := by decide +kernel
theorem d_Mo_leave_98 : decode c_Mo_leave 98 = .ok (.istore_n 3, 1) := by decide +kernel
theorem d_Mo_leave_99 : decode c_Mo_leave 99 = .ok (.iinc 4 1, 3) := by decide +kernel
theorem d_Mo_leave_102 : decode c_Mo_leave 102 = .ok (.goto (-57), 3) := by decide +kernel
theorem d_Mo_leave_105 : decode c_Mo_leave 105 = .ok (.iload_n 3, 1) := by decide +kernel
theorem d_Mo_leave_106 : decode c_Mo_leave 106 = .ok (.ifCond .ne 11, 3) := by decide +kernel
theorem d_Mo_leave_109 : decode c_Mo_leave 109 = .ok (.aload_n 0, 1) := by decide +kernel
theorem d_Mo_leave_110 : decode c_Mo_leave 110 = .ok (.aload_n 0, 1) := by decide +kernel
theorem d_Mo_leave_111 : decode c_Mo_leave 111 = .ok (.getfield 84, 3) := by decide +kernel
theorem d_Mo_leave_114 : decode c_Mo_leave 114 = .ok (.invokevirtual 93, 3) := by decide +kernel
theorem d_Mo_leave_117 : decode c_Mo_leave 117 = .ok (.aload_n 0, 1) := by decide +kernel
theorem d_Mo_leave_118 : decode c_Mo_leave 118 = .ok (.getfield 30, 3) := by decide +kernel
theorem d_Mo_leave_121 : decode c_Mo_leave 121 = .ok (.iload_n 2, 1) := by decide +kernel
theorem d_Mo_leave_122 : decode c_Mo_leave 122 = .ok (.aload_n 0, 1) := by decide +kernel
theorem d_Mo_leave_123 : decode c_Mo_leave 123 = .ok (.getfield 16, 3) := by decide +kernel
theorem d_Mo_leave_126 : decode c_Mo_leave 126 = .ok (.aload_n 0, 1) := by decide +kernel
theorem d_Mo_leave_127 : decode c_Mo_leave 127 = .ok (.getfield 84, 3) := by decide +kernel
theorem d_Mo_leave_130 : decode c_Mo_leave 130 = .ok (.iaload, 1) := by decide +kernel
theorem d_Mo_leave_131 : decode c_Mo_leave 131 = .ok (.iconst 1, 1) := by decide +kernel
theorem d_Mo_leave_132 : decode c_Mo_leave 132 = .ok (.iadd, 1) := by decide +kernel
theorem d_Mo_leave_133 : decode c_Mo_leave 133 = .ok (.iastore, 1) := by decide +kernel
theorem d_Mo_leave_134 : decode c_Mo_leave 134 = .ok (.aload_n 0, 1) := by decide +kernel
theorem d_Mo_leave_135 : decode c_Mo_leave 135 = .ok (.dup, 1) := by decide +kernel
theorem d_Mo_leave_136 : decode c_Mo_leave 136 = .ok (.getfield 84, 3) := by decide +kernel
theorem d_Mo_leave_139 : decode c_Mo_leave 139 = .ok (.iconst 1, 1) := by decide +kernel
theorem d_Mo_leave_140 : decode c_Mo_leave 140 = .ok (.iadd, 1) := by decide +kernel
theorem d_Mo_leave_141 : decode c_Mo_leave 141 = .ok (.putfield 84, 3) := by decide +kernel
theorem d_Mo_leave_144 : decode c_Mo_leave 144 = .ok (.goto 36, 3) := by decide +kernel
theorem d_Mo_leave_147 : decode c_Mo_leave 147 = .ok (.iload_n 1, 1) := by decide +kernel
theorem d_Mo_leave_148 : decode c_Mo_leave 148 = .ok (.bipush 12, 2) := by decide +kernel
theorem d_Mo_leave_150 : decode c_Mo_leave 150 = .ok (.if_icmp .ne 13, 3) := by decide +kernel
theorem d_Mo_leave_153 : decode c_Mo_leave 153 = .ok (.aload_n 0, 1) := by decide +kernel
theorem d_Mo_leave_154 : decode c_Mo_leave 154 = .ok (.getfield 231, 3) := by decide +kernel
theorem d_Mo_leave_157 : decode c_Mo_leave 157 = .ok (.ifCond .ne 23, 3) := by decide +kernel
theorem d_Mo_leave_160 : decode c_Mo_leave 160 = .ok (.goto 10, 3) := by decide +kernel
theorem d_Mo_leave_163 : decode c_Mo_leave 163 = .ok (.aload_n 0, 1) := by decide +kernel
theorem d_Mo_leave_164 : decode c_Mo_leave 164 = .ok (.getfield 228, 3) := by decide +kernel
theorem d_Mo_leave_167 : decode c_Mo_leave 167 = .ok (.ifCond .ne 13, 3) := by decide +kernel
theorem d_Mo_leave_170 : decode c_Mo_leave 170 = .ok (.aload_n 0, 1) := by decide +kernel
theorem d_Mo_leave_171 : decode c_Mo_leave 171 = .ok (.aload_n 0, 1) := by decide +kernel
theorem d_Mo_leave_172 : decode c_Mo_leave 172 = .ok (.getfield 33, 3) := by decide +kernel
theorem d_Mo_leave_175 : decode c_Mo_leave 175 = .ok (.iload_n 2, 1) := by decide +kernel
theorem d_Mo_leave_176 : decode c_Mo_leave 176 = .ok (.iaload, 1) := by decide +kernel
theorem d_Mo_leave_177 : decode c_Mo_leave 177 = .ok (.invokevirtual 93, 3) := by decide +kernel
theorem d_Mo_leave_180 : decode c_Mo_leave 180 = .ok (.aload_n 0, 1) := by decide +kernel
theorem d_Mo_leave_181 : decode c_Mo_leave 181 = .ok (.invokevirtual 289, 3) := by decide +kernel
theorem d_Mo_leave_184 : decode c_Mo_leave 184 = .ok (.iload_n 2, 1) := by decide +kernel
theorem d_Mo_leave_185 : decode c_Mo_leave 185 = .ok (.ireturn, 1) := by decide +kernel
theorem d_Mo_giveBack_0 : decode c_Mo_giveBack 0 = .ok (.aload_n 0, 1) := by decide +kernel
theorem d_Mo_giveBack_1 : decode c_Mo_giveBack 1 = .ok (.getfield 222, 3) := by decide +kernel
theorem d_Mo_giveBack_4 : decode c_Mo_giveBack 4 = .ok (.ifCond .ne 11, 3) := by decide +kernel
theorem d_Mo_giveBack_7 : decode c_Mo_giveBack 7 = .ok (.aload_n 0, 1) := by decide +kernel
theorem d_Mo_giveBack_8 : decode c_Mo_giveBack 8 = .ok (.aload_n 0, 1) := by decide +kernel
theorem d_Mo_giveBack_9 : decode c_Mo_giveBack 9 = .ok (.getfield 84, 3) := by decide +kernel
theorem d_Mo_giveBack_12 : decode c_Mo_giveBack 12 = .ok (.invokevirtual 93, 3) := by decide +kernel
theorem d_Mo_giveBack_15 : decode c_Mo_giveBack 15 = .ok (.aload_n 0, 1) := by decide +kernel
theorem d_Mo_giveBack_16 : decode c_Mo_giveBack 16 = .ok (.bipush 13, 2) := by decide +kernel
theorem d_Mo_giveBack_18 : decode c_Mo_giveBack 18 = .ok (.invokevirtual 186, 3) := by decide +kernel
theorem d_Mo_giveBack_21 : decode c_Mo_giveBack 21 = .ok (.istore_n 2, 1) := by decide +kernel
theorem d_Mo_giveBack_22 : decode c_Mo_giveBack 22 = .ok (.aload_n 0, 1) := by decide +kernel
theorem d_Mo_giveBack_23 : decode c_Mo_giveBack 23 = .ok (.getfield 84, 3) := by decide +kernel
theorem d_Mo_giveBack_26 : decode c_Mo_giveBack 26 = .ok (.aload_n 0, 1) := by decide +kernel
theorem d_Mo_giveBack_27 : decode c_Mo_giveBack 27 = .ok (.getfield 74, 3) := by decide +kernel
theorem d_Mo_giveBack_30 : decode c_Mo_giveBack 30 = .ok (.if_icmp .ge 46, 3) := by decide +kernel
theorem d_Mo_giveBack_33 : decode c_Mo_giveBack 33 = .ok (.aload_n 0, 1) := by decide +kernel
theorem d_Mo_giveBack_34 : decode c_Mo_giveBack 34 = .ok (.getfield 19, 3) := by decide +kernel
theorem d_Mo_giveBack_37 : decode c_Mo_giveBack 37 = .ok (.aload_n 0, 1) := by decide +kernel
theorem d_Mo_giveBack_38 : decode c_Mo_giveBack 38 = .ok (.getfield 84, 3) := by decide +kernel
theorem d_Mo_giveBack_41 : decode c_Mo_giveBack 41 = .ok (.baload, 1) := by decide +kernel
theorem d_Mo_giveBack_42 : decode c_Mo_giveBack 42 = .ok (.ifCond .ne 34, 3) := by decide +kernel
theorem d_Mo_giveBack_45 : decode c_Mo_giveBack 45 = .ok (.aload_n 0, 1) := by decide +kernel
theorem d_Mo_giveBack_46 : decode c_Mo_giveBack 46 = .ok (.bipush 67, 2) := by decide +kernel
theorem d_Mo_giveBack_48 : decode c_Mo_giveBack 48 = .ok (.invokevirtual 90, 3) := by decide +kernel
theorem d_Mo_giveBack_51 : decode c_Mo_giveBack 51 = .ok (.ifCond .ne 25, 3) := by decide +kernel
theorem d_Mo_giveBack_54 : decode c_Mo_giveBack 54 = .ok (.aload_n 0, 1) := by decide +kernel
theorem d_Mo_giveBack_55 : decode c_Mo_giveBack 55 = .ok (.bipush 65, 2) := by decide +kernel
theorem d_Mo_giveBack_57 : decode c_Mo_giveBack 57 = .ok (.invokevirtual 90, 3) := by decide +kernel
theorem d_Mo_giveBack_60 : decode c_Mo_giveBack 60 = .ok (.ifCond .ne 16, 3) := by decide +kernel
theorem d_Mo_giveBack_63 : decode c_Mo_giveBack 63 = .ok (.aload_n 0, 1) := by decide +kernel
theorem d_Mo_giveBack_64 : decode c_Mo_giveBack 64 = .ok (.iload_n 2, 1) := by decide +kernel
theorem d_Mo_giveBack_65 : decode c_Mo_giveBack 65 = .ok (.aload_n 0, 1) := by decide +kernel
theorem d_Mo_giveBack_66 : decode c_Mo_giveBack 66 = .ok (.iload_n 1, 1) := by decide +kernel
theorem d_Mo_giveBack_67 : decode c_Mo_giveBack 67 = .ok (.iconst 1, 1) := by decide +kernel
theorem d_Mo_giveBack_68 : decode c_Mo_giveBack 68 = .ok (.iadd, 1) := by decide +kernel
theorem d_Mo_giveBack_69 : decode c_Mo_giveBack 69 = .ok (.iconst 1, 1) := by decide +kernel
theorem d_Mo_giveBack_70 : decode c_Mo_giveBack 70 = .ok (.invokestatic 173, 3) := by decide +kernel
theorem d_Mo_giveBack_73 : decode c_Mo_giveBack 73 = .ok (.invokevirtual 119, 3) := by decide +kernel
theorem d_Mo_giveBack_76 : decode c_Mo_giveBack 76 = .ok (.aload_n 0, 1) := by decide +kernel
theorem d_Mo_giveBack_77 : decode c_Mo_giveBack 77 = .ok (.invokevirtual 289, 3) := by decide +kernel
theorem d_Mo_giveBack_80 : decode c_Mo_giveBack 80 = .ok (.iload_n 2, 1) := by decide +kernel
theorem d_Mo_giveBack_81 : decode c_Mo_giveBack 81 = .ok (.ireturn, 1) := by decide +kernel
theorem d_Mo_with_0 : decode c_Mo_with 0 = .ok (.aload_n 0, 1) := by decide +kernel
theorem d_Mo_with_1 : decode c_Mo_with 1 = .ok (.getfield 97, 3) := by decide +kernel
theorem d_Mo_with_4 : decode c_Mo_with 4 = .ok (.ifCond .eq 11, 3) := by decide +kernel
theorem d_Mo_with_7 : decode c_Mo_with 7 = .ok (.aload_n 0, 1) := by decide +kernel
theorem d_Mo_with_8 : decode c_Mo_with 8 = .ok (.aload_n 0, 1) := by decide +kernel
theorem d_Mo_with_9 : decode c_Mo_with 9 = .ok (.getfield 84, 3) := by decide +kernel
theorem d_Mo_with_12 : decode c_Mo_with 12 = .ok (.invokevirtual 93, 3) := by decide +kernel
theorem d_Mo_with_15 : decode c_Mo_with 15 = .ok (.aload_n 0, 1) := by decide +kernel
theorem d_Mo_with_16 : decode c_Mo_with 16 = .ok (.bipush 14, 2) := by decide +kernel
theorem d_Mo_with_18 : decode c_Mo_with 18 = .ok (.invokevirtual 186, 3) := by decide +kernel
theorem d_Mo_with_21 : decode c_Mo_with 21 = .ok (.istore_n 2, 1) := by decide +kernel
theorem d_Mo_with_22 : decode c_Mo_with 22 = .ok (.aload_n 0, 1) := by decide +kernel
theorem d_Mo_with_23 : decode c_Mo_with 23 = .ok (.iload_n 2, 1) := by decide +kernel
theorem d_Mo_with_24 : decode c_Mo_with 24 = .ok (.aload_n 0, 1) := by decide +kernel
theorem d_Mo_with_25 : decode c_Mo_with 25 = .ok (.iload_n 1, 1) := by decide +kernel
theorem d_Mo_with_26 : decode c_Mo_with 26 = .ok (.invokestatic 300, 3) := by decide +kernel
theorem d_Mo_with_29 : decode c_Mo_with 29 = .ok (.invokevirtual 119, 3) := by decide +kernel
theorem d_Mo_with_32 : decode c_Mo_with 32 = .ok (.aload_n 0, 1) := by decide +kernel
theorem d_Mo_with_33 : decode c_Mo_with 33 = .ok (.iload_n 2, 1) := by decide +kernel
theorem d_Mo_with_34 : decode c_Mo_with 34 = .ok (.aload_n 0, 1) := by decide +kernel
theorem d_Mo_with_35 : decode c_Mo_with 35 = .ok (.iload_n 1, 1) := by decide +kernel
theorem d_Mo_with_36 : decode c_Mo_with 36 = .ok (.iconst 1, 1) := by decide +kernel
theorem d_Mo_with_37 : decode c_Mo_with 37 = .ok (.iadd, 1) := by decide +kernel
theorem d_Mo_with_38 : decode c_Mo_with 38 = .ok (.aload_n 0, 1) := by decide +kernel
theorem d_Mo_with_39 : decode c_Mo_with 39 = .ok (.getfield 234, 3) := by decide +kernel
theorem d_Mo_with_42 : decode c_Mo_with 42 = .ok (.invokestatic 243, 3) := by decide +kernel
theorem d_Mo_with_45 : decode c_Mo_with 45 = .ok (.invokevirtual 119, 3) := by decide +kernel
theorem d_Mo_with_48 : decode c_Mo_with 48 = .ok (.iload_n 2, 1) := by decide +kernel
theorem d_Mo_with_49 : decode c_Mo_with 49 = .ok (.ireturn, 1) := by decide +kernel
theorem d_Mo_choice_0 : decode c_Mo_choice 0 = .ok (.aload_n 0, 1) := by decide +kernel
theorem d_Mo_choice_1 : decode c_Mo_choice 1 = .ok (.bipush 15, 2) := by decide +kernel
theorem d_Mo_choice_3 : decode c_Mo_choice 3 = .ok (.invokevirtual 186, 3) := by decide +kernel
theorem d_Mo_choice_6 : decode c_Mo_choice 6 = .ok (.istore_n 2, 1) := by decide +kernel
theorem d_Mo_choice_7 : decode c_Mo_choice 7 = .ok (.aload_n 0, 1) := by decide +kernel
theorem d_Mo_choice_8 : decode c_Mo_choice 8 = .ok (.iload_n 2, 1) := by decide +kernel
theorem d_Mo_choice_9 : decode c_Mo_choice 9 = .ok (.aload_n 0, 1) := by decide +kernel
theorem d_Mo_choice_10 : decode c_Mo_choice 10 = .ok (.iload_n 1, 1) := by decide +kernel
theorem d_Mo_choice_11 : decode c_Mo_choice 11 = .ok (.invokestatic 300, 3) := by decide +kernel
theorem d_Mo_choice_14 : decode c_Mo_choice 14 = .ok (.invokevirtual 119, 3) := by decide +kernel
theorem d_Mo_choice_17 : decode c_Mo_choice 17 = .ok (.aload_n 0, 1) := by decide +kernel
theorem d_Mo_choice_18 : decode c_Mo_choice 18 = .ok (.bipush 64, 2) := by decide +kernel
theorem d_Mo_choice_20 : decode c_Mo_choice 20 = .ok (.invokevirtual 137, 3) := by decide +kernel
theorem d_Mo_choice_23 : decode c_Mo_choice 23 = .ok (.aload_n 0, 1) := by decide +kernel
theorem d_Mo_choice_24 : decode c_Mo_choice 24 = .ok (.dup, 1) := by decide +kernel
theorem d_Mo_choice_25 : decode c_Mo_choice 25 = .ok (.getfield 231, 3) := by decide +kernel
theorem d_Mo_choice_28 : decode c_Mo_choice 28 = .ok (.iconst 1, 1) := by decide +kernel
theorem d_Mo_choice_29 : decode c_Mo_choice 29 = .ok (.iadd, 1) := by decide +kernel
theorem d_Mo_choice_30 : decode c_Mo_choice 30 = .ok (.putfield 231, 3) := by decide +kernel
theorem d_Mo_choice_33 : decode c_Mo_choice 33 = .ok (.iconst 0, 1) := by decide +kernel
theorem d_Mo_choice_34 : decode c_Mo_choice 34 = .ok (.istore_n 3, 1) := by decide +kernel
theorem d_Mo_choice_35 : decode c_Mo_choice 35 = .ok (.aload_n 0, 1) := by decide +kernel
theorem d_Mo_choice_36 : decode c_Mo_choice 36 = .ok (.bipush 65, 2) := by decide +kernel
theorem d_Mo_choice_38 : decode c_Mo_choice 38 = .ok (.invokevirtual 90, 3) := by decide +kernel
theorem d_Mo_choice_41 : decode c_Mo_choice 41 = .ok (.ifCond .ne 148, 3) := by decide +kernel
theorem d_Mo_choice_44 : decode c_Mo_choice 44 = .ok (.aload_n 0, 1) := by decide +kernel
theorem d_Mo_choice_45 : decode c_Mo_choice 45 = .ok (.iconst 1, 1) := by decide +kernel
theorem d_Mo_choice_46 : decode c_Mo_choice 46 = .ok (.invokevirtual 143, 3) := by decide +kernel
theorem d_Mo_choice_49 : decode c_Mo_choice 49 = .ok (.istore 4, 2) := by decide +kernel
theorem d_Mo_choice_51 : decode c_Mo_choice 51 = .ok (.iload 4, 2) := by decide +kernel
theorem d_Mo_choice_53 : decode c_Mo_choice 53 = .ok (.ifCond .ne 23, 3) := by decide +kernel
theorem d_Mo_choice_56 : decode c_Mo_choice 56 = .ok (.aload_n 0, 1) := by decide +kernel
theorem d_Mo_choice_57 : decode c_Mo_choice 57 = .ok (.iconst 5, 1) := by decide +kernel
theorem d_Mo_choice_58 : decode c_Mo_choice 58 = .ok (.invokevirtual 143, 3) := by decide +kernel
theorem d_Mo_choice_61 : decode c_Mo_choice 61 = .ok (.ifCond .eq 7, 3) := by decide +kernel
theorem d_Mo_choice_64 : decode c_Mo_choice 64 = .ok (.iload_n 3, 1) := by decide +kernel
theorem d_Mo_choice_65 : decode c_Mo_choice 65 = .ok (.ifCond .eq 11, 3) := by decide +kernel
theorem d_Mo_choice_68 : decode c_Mo_choice 68 = .ok (.aload_n 0, 1) := by decide +kernel
theorem d_Mo_choice_69 : decode c_Mo_choice 69 = .ok (.aload_n 0, 1) := by decide +kernel
theorem d_Mo_choice_70 : decode c_Mo_choice 70 = .ok (.getfield 84, 3) := by decide +kernel
theorem d_Mo_choice_73 : decode c_Mo_choice 73 = .ok (.invokevirtual 93, 3) := by decide +kernel
theorem d_Mo_choice_76 : decode c_Mo_choice 76 = .ok (.iload_n 3, 1) := by decide +kernel
theorem d_Mo_choice_77 : decode c_Mo_choice 77 = .ok (.ifCond .ne 8, 3) := by decide +kernel
theorem d_Mo_choice_80 : decode c_Mo_choice 80 = .ok (.iload 4, 2) := by decide +kernel
theorem d_Mo_choice_82 : decode c_Mo_choice 82 = .ok (.ifCond .ne 7, 3) := by decide +kernel
theorem d_Mo_choice_85 : decode c_Mo_choice 85 = .ok (.iconst 1, 1) := by decide +kernel
theorem d_Mo_choice_86 : decode c_Mo_choice 86 = .ok (.goto 4, 3) := by decide +kernel
theorem d_Mo_choice_89 : decode c_Mo_choice 89 = .ok (.iconst 0, 1) := by decide +kernel
theorem d_Mo_choice_90 : decode c_Mo_choice 90 = .ok (.istore_n 3, 1) := by decide +kernel
theorem d_Mo_choice_91 : decode c_Mo_choice 91 = .ok (.aload_n 0, 1) := by decide +kernel
theorem d_Mo_choice_92 : decode c_Mo_choice 92 = .ok (.iload 4, 2) := by decide +kernel
theorem d_Mo_choice_94 : decode c_Mo_choice 94 = .ok (.ifCond .eq 8, 3) := by decide +kernel
theorem d_Mo_choice_97 : decode c_Mo_choice 97 = .ok (.bipush 16, 2) := by decide +kernel
theorem d_Mo_choice_99 : decode c_Mo_choice 99 = .ok (.goto 5, 3) := by decide +kernel
theorem d_Mo_choice_102 : decode c_Mo_choice 102 = .ok (.bipush 17, 2) := by decide +kernel
theorem d_Mo_choice_104 : decode c_Mo_choice 104 = .ok (.invokevirtual 186, 3) := by decide +kernel
theorem d_Mo_choice_107 : decode c_Mo_choice 107 = .ok (.istore 5, 2) := by decide +kernel
theorem d_Mo_choice_109 : decode c_Mo_choice 109 = .ok (.iload 4, 2) := by decide +kernel
theorem d_Mo_choice_111 : decode c_Mo_choice 111 = .ok (.ifCond .eq 17, 3) := by decide +kernel
theorem d_Mo_choice_114 : decode c_Mo_choice 114 = .ok (.aload_n 0, 1) := by decide +kernel
theorem d_Mo_choice_115 : decode c_Mo_choice 115 = .ok (.iload 5, 2) := by decide +kernel
theorem d_Mo_choice_117 : decode c_Mo_choice 117 = .ok (.aload_n 0, 1) := by decide +kernel
theorem d_Mo_choice_118 : decode c_Mo_choice 118 = .ok (.iload_n 1, 1) := by decide +kernel
theorem d_Mo_choice_119 : decode c_Mo_choice 119 = .ok (.iconst 1, 1) := by decide +kernel
theorem d_Mo_choice_120 : decode c_Mo_choice 120 = .ok (.iadd, 1) := by decide +kernel
theorem d_Mo_choice_121 : decode c_Mo_choice 121 = .ok (.iconst 1, 1) := by decide +kernel
theorem d_Mo_choice_122 : decode c_Mo_choice 122 = .ok (.invokestatic 173, 3) := by decide +kernel
theorem d_Mo_choice_125 : decode c_Mo_choice 125 = .ok (.invokevirtual 119, 3) := by decide +kernel
theorem d_Mo_choice_128 : decode c_Mo_choice 128 = .ok (.aload_n 0, 1) := by decide +kernel
theorem d_Mo_choice_129 : decode c_Mo_choice 129 = .ok (.bipush 70, 2) := by decide +kernel
theorem d_Mo_choice_131 : decode c_Mo_choice 131 = .ok (.invokevirtual 137, 3) := by decide +kernel
theorem d_Mo_choice_134 : decode c_Mo_choice 134 = .ok (.aload_n 0, 1) := by decide +kernel
theorem d_Mo_choice_135 : decode c_Mo_choice 135 = .ok (.bipush 65, 2) := by decide +kernel
theorem d_Mo_choice_137 : decode c_Mo_choice 137 = .ok (.invokevirtual 90, 3) := by decide +kernel
theorem d_Mo_choice_140 : decode c_Mo_choice 140 = .ok (.ifCond .ne 39, 3) := by decide +kernel
theorem d_Mo_choice_143 : decode c_Mo_choice 143 = .ok (.aload_n 0, 1) := by decide +kernel
theorem d_Mo_choice_144 : decode c_Mo_choice 144 = .ok (.iconst 1, 1) := by decide +kernel
theorem d_Mo_choice_145 : decode c_Mo_choice 145 = .ok (.invokevirtual 143, 3) := by decide +kernel
theorem d_Mo_choice_148 : decode c_Mo_choice 148 = .ok (.ifCond .ne 31, 3) := by decide +kernel
theorem d_Mo_choice_151 : decode c_Mo_choice 151 = .ok (.aload_n 0, 1) := by decide +kernel
theorem d_Mo_choice_152 : decode c_Mo_choice 152 = .ok (.iconst 5, 1) := by decide +kernel
theorem d_Mo_choice_153 : decode c_Mo_choice 153 = .ok (.invokevirtual 143, 3) := by decide +kernel
theorem d_Mo_choice_156 : decode c_Mo_choice 156 = .ok (.ifCond .ne 23, 3) := by decide +kernel
theorem d_Mo_choice_159 : decode c_Mo_choice 159 = .ok (.aload_n 0, 1) := by decide +kernel
theorem d_Mo_choice_160 : decode c_Mo_choice 160 = .ok (.iload 5, 2) := by decide +kernel
theorem d_Mo_choice_162 : decode c_Mo_choice 162 = .ok (.aload_n 0, 1) := by decide +kernel
theorem d_Mo_choice_163 : decode c_Mo_choice 163 = .ok (.iload_n 1, 1) := by decide +kernel
theorem d_Mo_choice_164 : decode c_Mo_choice 164 = .ok (.iconst 1, 1) := by decide +kernel
theorem d_Mo_choice_165 : decode c_Mo_choice 165 = .ok (.iadd, 1) := by decide +kernel
theorem d_Mo_choice_166 : decode c_Mo_choice 166 = .ok (.aload_n 0, 1) := by decide +kernel
theorem d_Mo_choice_167 : decode c_Mo_choice 167 = .ok (.getfield 234, 3) := by decide +kernel
theorem d_Mo_choice_170 : decode c_Mo_choice 170 = .ok (.invokestatic 243, 3) := by decide +kernel
theorem d_Mo_choice_173 : decode c_Mo_choice 173 = .ok (.invokevirtual 119, 3) := by decide +kernel
theorem d_Mo_choice_176 : decode c_Mo_choice 176 = .ok (.goto (-42), 3) := by decide +kernel
theorem d_Mo_choice_179 : decode c_Mo_choice 179 = .ok (.aload_n 0, 1) := by decide +kernel
theorem d_Mo_choice_180 : decode c_Mo_choice 180 = .ok (.iload_n 2, 1) := by decide +kernel
theorem d_Mo_choice_181 : decode c_Mo_choice 181 = .ok (.iload 5, 2) := by decide +kernel
theorem d_Mo_choice_183 : decode c_Mo_choice 183 = .ok (.invokevirtual 119, 3) := by decide +kernel
theorem d_Mo_choice_186 : decode c_Mo_choice 186 = .ok (.goto (-151), 3) := by decide +kernel
theorem d_Mo_choice_189 : decode c_Mo_choice 189 = .ok (.aload_n 0, 1) := by decide +kernel
theorem d_Mo_choice_190 : decode c_Mo_choice 190 = .ok (.dup, 1) := by decide +kernel
theorem d_Mo_choice_191 : decode c_Mo_choice 191 = .ok (.getfield 231, 3) := by decide +kernel
theorem d_Mo_choice_194 : decode c_Mo_choice 194 = .ok (.iconst 1, 1) := by decide +kernel
theorem d_Mo_choice_195 : decode c_Mo_choice 195 = .ok (.isub, 1) := by decide +kernel
theorem d_Mo_choice_196 : decode c_Mo_choice 196 = .ok (.putfield 231, 3) := by decide +kernel
theorem d_Mo_choice_199 : decode c_Mo_choice 199 = .ok (.aload_n 0, 1) := by decide +kernel
theorem d_Mo_choice_200 : decode c_Mo_choice 200 = .ok (.dup, 1) := by decide +kernel
theorem d_Mo_choice_201 : decode c_Mo_choice 201 = .ok (.getfield 84, 3) := by decide +kernel
theorem d_Mo_choice_204 : decode c_Mo_choice 204 = .ok (.iconst 1, 1) := by decide +kernel
theorem d_Mo_choice_205 : decode c_Mo_choice 205 = .ok (.iadd, 1) := by decide +kernel
theorem d_Mo_choice_206 : decode c_Mo_choice 206 = .ok (.putfield 84, 3) := by decide +kernel
theorem d_Mo_choice_209 : decode c_Mo_choice 209 = .ok (.iload_n 2, 1) := by decide +kernel
theorem d_Mo_choice_210 : decode c_Mo_choice 210 = .ok (.ireturn, 1) := by decide +kernel
theorem d_Mo_thrower_0 : decode c_Mo_thrower 0 = .ok (.aload_n 0, 1) := by decide +kernel
theorem d_Mo_thrower_1 : decode c_Mo_thrower 1 = .ok (.bipush 19, 2) := by decide +kernel
theorem d_Mo_thrower_3 : decode c_Mo_thrower 3 = .ok (.invokevirtual 186, 3) := by decide +kernel
theorem d_Mo_thrower_6 : decode c_Mo_thrower 6 = .ok (.istore_n 2, 1) := by decide +kernel
theorem d_Mo_thrower_7 : decode c_Mo_thrower 7 = .ok (.aload_n 0, 1) := by decide +kernel
theorem d_Mo_thrower_8 : decode c_Mo_thrower 8 = .ok (.getfield 84, 3) := by decide +kernel
theorem d_Mo_thrower_11 : decode c_Mo_thrower 11 = .ok (.aload_n 0, 1) := by decide +kernel
theorem d_Mo_thrower_12 : decode c_Mo_thrower 12 = .ok (.getfield 74, 3) := by decide +kernel
theorem d_Mo_thrower_15 : decode c_Mo_thrower 15 = .ok (.if_icmp .ge 23, 3) := by decide +kernel
theorem d_Mo_thrower_18 : decode c_Mo_thrower 18 = .ok (.aload_n 0, 1) := by decide +kernel
theorem d_Mo_thrower_19 : decode c_Mo_thrower 19 = .ok (.getfield 19, 3) := by decide +kernel
theorem d_Mo_thrower_22 : decode c_Mo_thrower 22 = .ok (.aload_n 0, 1) := by decide +kernel
theorem d_Mo_thrower_23 : decode c_Mo_thrower 23 = .ok (.getfield 84, 3) := by decide +kernel
theorem d_Mo_thrower_26 : decode c_Mo_thrower 26 = .ok (.baload, 1) := by decide +kernel
theorem d_Mo_thrower_27 : decode c_Mo_thrower 27 = .ok (.ifCond .eq 11, 3) := by decide +kernel
theorem d_Mo_thrower_30 : decode c_Mo_thrower 30 = .ok (.aload_n 0, 1) := by decide +kernel
theorem d_Mo_thrower_31 : decode c_Mo_thrower 31 = .ok (.aload_n 0, 1) := by decide +kernel
theorem d_Mo_thrower_32 : decode c_Mo_thrower 32 = .ok (.getfield 84, 3) := by decide +kernel
theorem d_Mo_thrower_35 : decode c_Mo_thrower 35 = .ok (.invokevirtual 93, 3) := by decide +kernel
theorem d_Mo_thrower_38 : decode c_Mo_thrower 38 = .ok (.aload_n 0, 1) := by decide +kernel
theorem d_Mo_thrower_39 : decode c_Mo_thrower 39 = .ok (.iload_n 2, 1) := by decide +kernel
theorem d_Mo_thrower_40 : decode c_Mo_thrower 40 = .ok (.aload_n 0, 1) := by decide +kernel
theorem d_Mo_thrower_41 : decode c_Mo_thrower 41 = .ok (.iload_n 1, 1) := by decide +kernel
theorem d_Mo_thrower_42 : decode c_Mo_thrower 42 = .ok (.iconst 1, 1) := by decide +kernel
theorem d_Mo_thrower_43 : decode c_Mo_thrower 43 = .ok (.iadd, 1) := by decide +kernel
theorem d_Mo_thrower_44 : decode c_Mo_thrower 44 = .ok (.iconst 1, 1) := by decide +kernel
theorem d_Mo_thrower_45 : decode c_Mo_thrower 45 = .ok (.invokestatic 173, 3) := by decide +kernel
theorem d_Mo_thrower_48 : decode c_Mo_thrower 48 = .ok (.invokevirtual 119, 3) := by decide +kernel
theorem d_Mo_thrower_51 : decode c_Mo_thrower 51 = .ok (.aload_n 0, 1) := by decide +kernel
theorem d_Mo_thrower_52 : decode c_Mo_thrower 52 = .ok (.invokevirtual 289, 3) := by decide +kernel
theorem d_Mo_thrower_55 : decode c_Mo_thrower 55 = .ok (.iload_n 2, 1) := by decide +kernel
theorem d_Mo_thrower_56 : decode c_Mo_thrower 56 = .ok (.ireturn, 1) := by decide +kernel
theorem d_Mo_trial_0 : decode c_Mo_trial 0 = .ok (.aload_n 0, 1) := by decide +kernel
theorem d_Mo_trial_1 : decode c_Mo_trial 1 = .ok (.bipush 20, 2) := by decide +kernel
theorem d_Mo_trial_3 : decode c_Mo_trial 3 = .ok (.invokevirtual 186, 3) := by decide +kernel
theorem d_Mo_trial_6 : decode c_Mo_trial 6 = .ok (.istore_n 2, 1) := by decide +kernel
theorem d_Mo_trial_7 : decode c_Mo_trial 7 = .ok (.aload_n 0, 1) := by decide +kernel
theorem d_Mo_trial_8 : decode c_Mo_trial 8 = .ok (.iload_n 2, 1) := by decide +kernel
theorem d_Mo_trial_9 : decode c_Mo_trial 9 = .ok (.aload_n 0, 1) := by decide +kernel
theorem d_Mo_trial_10 : decode c_Mo_trial 10 = .ok (.iload_n 1, 1) := by decide +kernel
theorem d_Mo_trial_11 : decode c_Mo_trial 11 = .ok (.iconst 1, 1) := by decide +kernel
theorem d_Mo_trial_12 : decode c_Mo_trial 12 = .ok (.iadd, 1) := by decide +kernel
theorem d_Mo_trial_13 : decode c_Mo_trial 13 = .ok (.invokestatic 246, 3) := by decide +kernel
theorem d_Mo_trial_16 : decode c_Mo_trial 16 = .ok (.invokevirtual 119, 3) := by decide +kernel
theorem d_Mo_trial_19 : decode c_Mo_trial 19 = .ok (.aload_n 0, 1) := by decide +kernel
theorem d_Mo_trial_20 : decode c_Mo_trial 20 = .ok (.iconst 2, 1) := by decide +kernel
theorem d_Mo_trial_21 : decode c_Mo_trial 21 = .ok (.invokevirtual 143, 3) := by decide +kernel
theorem d_Mo_trial_24 : decode c_Mo_trial 24 = .ok (.ifCond .ne 12, 3) := by decide +kernel
theorem d_Mo_trial_27 : decode c_Mo_trial 27 = .ok (.aload_n 0, 1) := by decide +kernel
theorem d_Mo_trial_28 : decode c_Mo_trial 28 = .ok (.bipush 9, 2) := by decide +kernel
theorem d_Mo_trial_30 : decode c_Mo_trial 30 = .ok (.invokevirtual 143, 3) := by decide +kernel
theorem d_Mo_trial_33 : decode c_Mo_trial 33 = .ok (.ifCond .eq 7, 3) := by decide +kernel
theorem d_Mo_trial_36 : decode c_Mo_trial 36 = .ok (.iconst 1, 1) := by decide +kernel
theorem d_Mo_trial_37 : decode c_Mo_trial 37 = .ok (.goto 4, 3) := by decide +kernel
theorem d_Mo_trial_40 : decode c_Mo_trial 40 = .ok (.iconst 0, 1) := by decide +kernel
theorem d_Mo_trial_41 : decode c_Mo_trial 41 = .ok (.istore_n 3, 1) := by decide +kernel
theorem d_Mo_trial_42 : decode c_Mo_trial 42 = .ok (.iload_n 3, 1) := by decide +kernel
theorem d_Mo_trial_43 : decode c_Mo_trial 43 = .ok (.ifCond .ne 11, 3) := by decide +kernel
theorem d_Mo_trial_46 : decode c_Mo_trial 46 = .ok (.aload_n 0, 1) := by decide +kernel
theorem d_Mo_trial_47 : decode c_Mo_trial 47 = .ok (.aload_n 0, 1) := by decide +kernel
theorem d_Mo_trial_48 : decode c_Mo_trial 48 = .ok (.getfield 84, 3) := by decide +kernel
theorem d_Mo_trial_51 : decode c_Mo_trial 51 = .ok (.invokevirtual 93, 3) := by decide +kernel
theorem d_Mo_trial_54 : decode c_Mo_trial 54 = .ok (.aload_n 0, 1) := by decide +kernel
theorem d_Mo_trial_55 : decode c_Mo_trial 55 = .ok (.iconst 2, 1) := by decide +kernel
theorem d_Mo_trial_56 : decode c_Mo_trial 56 = .ok (.invokevirtual 143, 3) := by decide +kernel
theorem d_Mo_trial_59 : decode c_Mo_trial 59 = .ok (.ifCond .eq 66, 3) := by decide +kernel
theorem d_Mo_trial_62 : decode c_Mo_trial 62 = .ok (.aload_n 0, 1) := by decide +kernel
theorem d_Mo_trial_63 : decode c_Mo_trial 63 = .ok (.bipush 21, 2) := by decide +kernel
theorem d_Mo_trial_65 : decode c_Mo_trial 65 = .ok (.invokevirtual 186, 3) := by decide +kernel
theorem d_Mo_trial_68 : decode c_Mo_trial 68 = .ok (.istore 4, 2) := by decide +kernel
theorem d_Mo_trial_70 : decode c_Mo_trial 70 = .ok (.aload_n 0, 1) := by decide +kernel
theorem d_Mo_trial_71 : decode c_Mo_trial 71 = .ok (.bipush 60, 2) := by decide +kernel
theorem d_Mo_trial_73 : decode c_Mo_trial 73 = .ok (.invokevirtual 137, 3) := by decide +kernel
theorem d_Mo_trial_76 : decode c_Mo_trial 76 = .ok (.aload_n 0, 1) := by decide +kernel
theorem d_Mo_trial_77 : decode c_Mo_trial 77 = .ok (.getfield 109, 3) := by decide +kernel
theorem d_Mo_trial_80 : decode c_Mo_trial 80 = .ok (.istore 5, 2) := by decide +kernel
theorem d_Mo_trial_82 : decode c_Mo_trial 82 = .ok (.aload_n 0, 1) := by decide +kernel
theorem d_Mo_trial_83 : decode c_Mo_trial 83 = .ok (.getfield 30, 3) := by decide +kernel
theorem d_Mo_trial_86 : decode c_Mo_trial 86 = .ok (.iload 4, 2) := by decide +kernel
theorem d_Mo_trial_88 : decode c_Mo_trial 88 = .ok (.aload_n 0, 1) := by decide +kernel
theorem d_Mo_trial_89 : decode c_Mo_trial 89 = .ok (.invokevirtual 215, 3) := by decide +kernel
theorem d_Mo_trial_92 : decode c_Mo_trial 92 = .ok (.iastore, 1) := by decide +kernel
theorem d_Mo_trial_93 : decode c_Mo_trial 93 = .ok (.aload_n 0, 1) := by decide +kernel
theorem d_Mo_trial_94 : decode c_Mo_trial 94 = .ok (.iload 5, 2) := by decide +kernel
theorem d_Mo_trial_96 : decode c_Mo_trial 96 = .ok (.putfield 109, 3) := by decide +kernel
theorem d_Mo_trial_99 : decode c_Mo_trial 99 = .ok (.aload_n 0, 1) := by decide +kernel
theorem d_Mo_trial_100 : decode c_Mo_trial 100 = .ok (.bipush 61, 2) := by decide +kernel
theorem d_Mo_trial_102 : decode c_Mo_trial 102 = .ok (.invokevirtual 137, 3) := by decide +kernel
theorem d_Mo_trial_105 : decode c_Mo_trial 105 = .ok (.aload_n 0, 1) := by decide +kernel
theorem d_Mo_trial_106 : decode c_Mo_trial 106 = .ok (.iload 4, 2) := by decide +kernel
theorem d_Mo_trial_108 : decode c_Mo_trial 108 = .ok (.aload_n 0, 1) := by decide +kernel
theorem d_Mo_trial_109 : decode c_Mo_trial 109 = .ok (.iload_n 1, 1) := by decide +kernel
theorem d_Mo_trial_110 : decode c_Mo_trial 110 = .ok (.iconst 1, 1) := by decide +kernel
theorem d_Mo_trial_111 : decode c_Mo_trial 111 = .ok (.iadd, 1) := by decide +kernel
theorem d_Mo_trial_112 : decode c_Mo_trial 112 = .ok (.invokestatic 246, 3) := by decide +kernel
theorem d_Mo_trial_115 : decode c_Mo_trial 115 = .ok (.invokevirtual 119, 3) := by decide +kernel
theorem d_Mo_trial_118 : decode c_Mo_trial 118 = .ok (.aload_n 0, 1) := by decide +kernel
theorem d_Mo_trial_119 : decode c_Mo_trial 119 = .ok (.iload_n 2, 1) := by decide +kernel
theorem d_Mo_trial_120 : decode c_Mo_trial 120 = .ok (.iload 4, 2) := by decide +kernel
theorem d_Mo_trial_122 : decode c_Mo_trial 122 = .ok (.invokevirtual 119, 3) := by decide +kernel
theorem d_Mo_trial_125 : decode c_Mo_trial 125 = .ok (.aload_n 0, 1) := by decide +kernel
theorem d_Mo_trial_126 : decode c_Mo_trial 126 = .ok (.bipush 9, 2) := by decide +kernel
theorem d_Mo_trial_128 : decode c_Mo_trial 128 = .ok (.invokevirtual 143, 3) := by decide +kernel
theorem d_Mo_trial_131 : decode c_Mo_trial 131 = .ok (.ifCond .eq 31, 3) := by decide +kernel
theorem d_Mo_trial_134 : decode c_Mo_trial 134 = .ok (.aload_n 0, 1) := by decide +kernel
theorem d_Mo_trial_135 : decode c_Mo_trial 135 = .ok (.bipush 22, 2) := by decide +kernel
theorem d_Mo_trial_137 : decode c_Mo_trial 137 = .ok (.invokevirtual 186, 3) := by decide +kernel
theorem d_Mo_trial_140 : decode c_Mo_trial 140 = .ok (.istore 4, 2) := by decide +kernel
theorem d_Mo_trial_142 : decode c_Mo_trial 142 = .ok (.aload_n 0, 1) := by decide +kernel
theorem d_Mo_trial_143 : decode c_Mo_trial 143 = .ok (.iload 4, 2) := by decide +kernel
theorem d_Mo_trial_145 : decode c_Mo_trial 145 = .ok (.aload_n 0, 1) := by decide +kernel
theorem d_Mo_trial_146 : decode c_Mo_trial 146 = .ok (.iload_n 1, 1) := by decide +kernel
theorem d_Mo_trial_147 : decode c_Mo_trial 147 = .ok (.iconst 1, 1) := by decide +kernel
theorem d_Mo_trial_148 : decode c_Mo_trial 148 = .ok (.iadd, 1) := by decide +kernel
theorem d_Mo_trial_149 : decode c_Mo_trial 149 = .ok (.invokestatic 246, 3) := by decide +kernel
theorem d_Mo_trial_152 : decode c_Mo_trial 152 = .ok (.invokevirtual 119, 3) := by decide +kernel
theorem d_Mo_trial_155 : decode c_Mo_trial 155 = .ok (.aload_n 0, 1) := by decide +kernel
theorem d_Mo_trial_156 : decode c_Mo_trial 156 = .ok (.iload_n 2, 1) := by decide +kernel
theorem d_Mo_trial_157 : decode c_Mo_trial 157 = .ok (.iload 4, 2) := by decide +kernel
theorem d_Mo_trial_159 : decode c_Mo_trial 159 = .ok (.invokevirtual 119, 3) := by decide +kernel
theorem d_Mo_trial_162 : decode c_Mo_trial 162 = .ok (.iload_n 2, 1) := by decide +kernel
theorem d_Mo_trial_163 : decode c_Mo_trial 163 = .ok (.ireturn, 1) := by decide +kernel
theorem d_Mo_begin_0 : decode c_Mo_begin 0 = .ok (.aload_n 0, 1) := by decide +kernel
theorem d_Mo_begin_1 : decode c_Mo_begin 1 = .ok (.iconst 0, 1) := by decide +kernel
theorem d_Mo_begin_2 : decode c_Mo_begin 2 = .ok (.putfield 84, 3) := by decide +kernel
theorem d_Mo_begin_5 : decode c_Mo_begin 5 = .ok (.aload_n 0, 1) := by decide +kernel
theorem d_Mo_begin_6 : decode c_Mo_begin 6 = .ok (.iconst (-1), 1) := by decide +kernel
theorem d_Mo_begin_7 : decode c_Mo_begin 7 = .ok (.putfield 23, 3) := by decide +kernel
theorem d_Mo_begin_10 : decode c_Mo_begin 10 = .ok (.aload_n 0, 1) := by decide +kernel
theorem d_Mo_begin_11 : decode c_Mo_begin 11 = .ok (.iconst 0, 1) := by decide +kernel
theorem d_Mo_begin_12 : decode c_Mo_begin 12 = .ok (.putfield 112, 3) := by decide +kernel
theorem d_Mo_begin_15 : decode c_Mo_begin 15 = .ok (.aload_n 0, 1) := by decide +kernel
theorem d_Mo_begin_16 : decode c_Mo_begin 16 = .ok (.iconst 0, 1) := by decide +kernel
theorem d_Mo_begin_17 : decode c_Mo_begin 17 = .ok (.putfield 309, 3) := by decide +kernel
theorem d_Mo_begin_20 : decode c_Mo_begin 20 = .ok (.aload_n 0, 1) := by decide +kernel
theorem d_Mo_begin_21 : decode c_Mo_begin 21 = .ok (.iconst 0, 1) := by decide +kernel
theorem d_Mo_begin_22 : decode c_Mo_begin 22 = .ok (.putfield 180, 3) := by decide +kernel
theorem d_Mo_begin_25 : decode c_Mo_begin 25 = .ok (.aload_n 0, 1) := by decide +kernel
theorem d_Mo_begin_26 : decode c_Mo_begin 26 = .ok (.iconst 0, 1) := by decide +kernel
theorem d_Mo_begin_27 : decode c_Mo_begin 27 = .ok (.putfield 97, 3) := by decide +kernel
theorem d_Mo_begin_30 : decode c_Mo_begin 30 = .ok (.aload_n 0, 1) := by decide +kernel
theorem d_Mo_begin_31 : decode c_Mo_begin 31 = .ok (.iconst 0, 1) := by decide +kernel
theorem d_Mo_begin_32 : decode c_Mo_begin 32 = .ok (.putfield 222, 3) := by decide +kernel
theorem d_Mo_begin_35 : decode c_Mo_begin 35 = .ok (.aload_n 0, 1) := by decide +kernel
theorem d_Mo_begin_36 : decode c_Mo_begin 36 = .ok (.iconst 0, 1) := by decide +kernel
theorem d_Mo_begin_37 : decode c_Mo_begin 37 = .ok (.putfield 109, 3) := by decide +kernel
theorem d_Mo_begin_40 : decode c_Mo_begin 40 = .ok (.aload_n 0, 1) := by decide +kernel
theorem d_Mo_begin_41 : decode c_Mo_begin 41 = .ok (.iconst 0, 1) := by decide +kernel
theorem d_Mo_begin_42 : decode c_Mo_begin 42 = .ok (.putfield 234, 3) := by decide +kernel
theorem d_Mo_begin_45 : decode c_Mo_begin 45 = .ok (.aload_n 0, 1) := by decide +kernel
theorem d_Mo_begin_46 : decode c_Mo_begin 46 = .ok (.iconst 0, 1) := by decide +kernel
theorem d_Mo_begin_47 : decode c_Mo_begin 47 = .ok (.putfield 225, 3) := by decide +kernel
theorem d_Mo_begin_50 : decode c_Mo_begin 50 = .ok (.aload_n 0, 1) := by decide +kernel
theorem d_Mo_begin_51 : decode c_Mo_begin 51 = .ok (.iconst 0, 1) := by decide +kernel
theorem d_Mo_begin_52 : decode c_Mo_begin 52 = .ok (.putfield 228, 3) := by decide +kernel
theorem d_Mo_begin_55 : decode c_Mo_begin 55 = .ok (.aload_n 0, 1) := by decide +kernel
theorem d_Mo_begin_56 : decode c_Mo_begin 56 = .ok (.iconst 0, 1) := by decide +kernel
theorem d_Mo_begin_57 : decode c_Mo_begin 57 = .ok (.putfield 231, 3) := by decide +kernel
theorem d_Mo_begin_60 : decode c_Mo_begin 60 = .ok (.aload_n 0, 1) := by decide +kernel
theorem d_Mo_begin_61 : decode c_Mo_begin 61 = .ok (.iconst 0, 1) := by decide +kernel
theorem d_Mo_begin_62 : decode c_Mo_begin 62 = .ok (.putfield 202, 3) := by decide +kernel
theorem d_Mo_begin_65 : decode c_Mo_begin 65 = .ok (.return_, 1) := by decide +kernel
theorem d_Mo_isProgram_0 : decode c_Mo_isProgram 0 = .ok (.aload_n 0, 1) := by decide +kernel
theorem d_Mo_isProgram_1 : decode c_Mo_isProgram 1 = .ok (.invokevirtual 312, 3) := by decide +kernel
theorem d_Mo_isProgram_4 : decode c_Mo_isProgram 4 = .ok (.aload_n 0, 1) := by decide +kernel
theorem d_Mo_isProgram_5 : decode c_Mo_isProgram 5 = .ok (.getfield 19, 3) := by decide +kernel
theorem d_Mo_isProgram_8 : decode c_Mo_isProgram 8 = .ok (.aload_n 0, 1) := by decide +kernel
theorem d_Mo_isProgram_9 : decode c_Mo_isProgram 9 = .ok (.getfield 74, 3) := by decide +kernel
theorem d_Mo_isProgram_12 : decode c_Mo_isProgram 12 = .ok (.iconst 1, 1) := by decide +kernel
theorem d_Mo_isProgram_13 : decode c_Mo_isProgram 13 = .ok (.bastore, 1) := by decide +kernel
theorem d_Mo_isProgram_14 : decode c_Mo_isProgram 14 = .ok (.aload_n 0, 1) := by decide +kernel
theorem d_Mo_isProgram_15 : decode c_Mo_isProgram 15 = .ok (.iconst 0, 1) := by decide +kernel
theorem d_Mo_isProgram_16 : decode c_Mo_isProgram 16 = .ok (.iconst 0, 1) := by decide +kernel
theorem d_Mo_isProgram_17 : decode c_Mo_isProgram 17 = .ok (.iconst 0, 1) := by decide +kernel
theorem d_Mo_isProgram_18 : decode c_Mo_isProgram 18 = .ok (.invokevirtual 115, 3) := by decide +kernel
theorem d_Mo_isProgram_21 : decode c_Mo_isProgram 21 = .ok (.istore_n 1, 1) := by decide +kernel
theorem d_Mo_isProgram_22 : decode c_Mo_isProgram 22 = .ok (.aload_n 0, 1) := by decide +kernel
theorem d_Mo_isProgram_23 : decode c_Mo_isProgram 23 = .ok (.iload_n 1, 1) := by decide +kernel
theorem d_Mo_isProgram_24 : decode c_Mo_isProgram 24 = .ok (.iconst 1, 1) := by decide +kernel
theorem d_Mo_isProgram_25 : decode c_Mo_isProgram 25 = .ok (.iconst 0, 1) := by decide +kernel
theorem d_Mo_isProgram_26 : decode c_Mo_isProgram 26 = .ok (.invokestatic 237, 3) := by decide +kernel
theorem d_Mo_isProgram_29 : decode c_Mo_isProgram 29 = .ok (.aload_n 0, 1) := by decide +kernel
theorem d_Mo_isProgram_30 : decode c_Mo_isProgram 30 = .ok (.getfield 84, 3) := by decide +kernel
theorem d_Mo_isProgram_33 : decode c_Mo_isProgram 33 = .ok (.aload_n 0, 1) := by decide +kernel
theorem d_Mo_isProgram_34 : decode c_Mo_isProgram 34 = .ok (.getfield 74, 3) := by decide +kernel
theorem d_Mo_isProgram_37 : decode c_Mo_isProgram 37 = .ok (.if_icmp .ge 11, 3) := by decide +kernel
theorem d_Mo_isProgram_40 : decode c_Mo_isProgram 40 = .ok (.aload_n 0, 1) := by decide +kernel
theorem d_Mo_isProgram_41 : decode c_Mo_isProgram 41 = .ok (.aload_n 0, 1) := by decide +kernel
theorem d_Mo_isProgram_42 : decode c_Mo_isProgram 42 = .ok (.getfield 84, 3) := by decide +kernel
theorem d_Mo_isProgram_45 : decode c_Mo_isProgram 45 = .ok (.invokevirtual 93, 3) := by decide +kernel
theorem d_Mo_isProgram_48 : decode c_Mo_isProgram 48 = .ok (.aload_n 0, 1) := by decide +kernel
theorem d_Mo_isProgram_49 : decode c_Mo_isProgram 49 = .ok (.getfield 30, 3) := by decide +kernel
theorem d_Mo_isProgram_52 : decode c_Mo_isProgram 52 = .ok (.iload_n 1, 1) := by decide +kernel
theorem d_Mo_isProgram_53 : decode c_Mo_isProgram 53 = .ok (.aload_n 0, 1) := by decide +kernel
theorem d_Mo_isProgram_54 : decode c_Mo_isProgram 54 = .ok (.getfield 97, 3) := by decide +kernel
theorem d_Mo_isProgram_57 : decode c_Mo_isProgram 57 = .ok (.ifCond .eq 7, 3) := by decide +kernel
theorem d_Mo_isProgram_60 : decode c_Mo_isProgram 60 = .ok (.iconst 1, 1) := by decide +kernel
theorem d_Mo_isProgram_61 : decode c_Mo_isProgram 61 = .ok (.goto 4, 3) := by decide +kernel
theorem d_Mo_isProgram_64 : decode c_Mo_isProgram 64 = .ok (.iconst 0, 1) := by decide +kernel
theorem d_Mo_isProgram_65 : decode c_Mo_isProgram 65 = .ok (.iastore, 1) := by decide +kernel
theorem d_Mo_isProgram_66 : decode c_Mo_isProgram 66 = .ok (.goto 6, 3) := by decide +kernel
theorem d_Mo_isProgram_69 : decode c_Mo_isProgram 69 = .ok (.astore_n 1, 1) := by decide +kernel
theorem d_Mo_isProgram_70 : decode c_Mo_isProgram 70 = .ok (.iconst 0, 1) := by decide +kernel
theorem d_Mo_isProgram_71 : decode c_Mo_isProgram 71 = .ok (.ireturn, 1) := by decide +kernel
theorem d_Mo_isProgram_72 : decode c_Mo_isProgram 72 = .ok (.iconst 1, 1) := by decide +kernel
theorem d_Mo_isProgram_73 : decode c_Mo_isProgram 73 = .ok (.ireturn, 1) := by decide +kernel
theorem d_Mo_numberAll_0 : decode c_Mo_numberAll 0 = .ok (.iconst 1, 1) := by decide +kernel
theorem d_Mo_numberAll_1 : decode c_Mo_numberAll 1 = .ok (.istore_n 1, 1) := by decide +kernel
theorem d_Mo_numberAll_2 : decode c_Mo_numberAll 2 = .ok (.aload_n 0, 1) := by decide +kernel
theorem d_Mo_numberAll_3 : decode c_Mo_numberAll 3 = .ok (.getfield 48, 3) := by decide +kernel
theorem d_Mo_numberAll_6 : decode c_Mo_numberAll 6 = .ok (.iconst 0, 1) := by decide +kernel
theorem d_Mo_numberAll_7 : decode c_Mo_numberAll 7 = .ok (.iconst 0, 1) := by decide +kernel
theorem d_Mo_numberAll_8 : decode c_Mo_numberAll 8 = .ok (.iastore, 1) := by decide +kernel
theorem d_Mo_numberAll_9 : decode c_Mo_numberAll 9 = .ok (.iload_n 1, 1) := by decide +kernel
theorem d_Mo_numberAll_10 : decode c_Mo_numberAll 10 = .ok (.ifCond .le 112, 3) := by decide +kernel
theorem d_Mo_numberAll_13 : decode c_Mo_numberAll 13 = .ok (.iinc 1 (-1), 3) := by decide +kernel
theorem d_Mo_numberAll_16 : decode c_Mo_numberAll 16 = .ok (.aload_n 0, 1) := by decide +kernel
theorem d_Mo_numberAll_17 : decode c_Mo_numberAll 17 = .ok (.getfield 48, 3) := by decide +kernel
theorem d_Mo_numberAll_20 : decode c_Mo_numberAll 20 = .ok (.iload_n 1, 1) := by decide +kernel
theorem d_Mo_numberAll_21 : decode c_Mo_numberAll 21 = .ok (.iaload, 1) := by decide +kernel
theorem d_Mo_numberAll_22 : decode c_Mo_numberAll 22 = .ok (.istore_n 2, 1) := by decide +kernel
theorem d_Mo_numberAll_23 : decode c_Mo_numberAll 23 = .ok (.aload_n 0, 1) := by decide +kernel
theorem d_Mo_numberAll_24 : decode c_Mo_numberAll 24 = .ok (.getfield 45, 3) := by decide +kernel
theorem d_Mo_numberAll_27 : decode c_Mo_numberAll 27 = .ok (.aload_n 0, 1) := by decide +kernel
theorem d_Mo_numberAll_28 : decode c_Mo_numberAll 28 = .ok (.getfield 309, 3) := by decide +kernel
theorem d_Mo_numberAll_31 : decode c_Mo_numberAll 31 = .ok (.iload_n 2, 1) := by decide +kernel
theorem d_Mo_numberAll_32 : decode c_Mo_numberAll 32 = .ok (.iastore, 1) := by decide +kernel
theorem d_Mo_numberAll_33 : decode c_Mo_numberAll 33 = .ok (.aload_n 0, 1) := by decide +kernel
theorem d_Mo_numberAll_34 : decode c_Mo_numberAll 34 = .ok (.dup, 1) := by decide +kernel
theorem d_Mo_numberAll_35 : decode c_Mo_numberAll 35 = .ok (.getfield 309, 3) := by decide +kernel
theorem d_Mo_numberAll_38 : decode c_Mo_numberAll 38 = .ok (.iconst 1, 1) := by decide +kernel
theorem d_Mo_numberAll_39 : decode c_Mo_numberAll 39 = .ok (.iadd, 1) := by decide +kernel
theorem d_Mo_numberAll_40 : decode c_Mo_numberAll 40 = .ok (.putfield 309, 3) := by decide +kernel
theorem d_Mo_numberAll_43 : decode c_Mo_numberAll 43 = .ok (.iconst 0, 1) := by decide +kernel
theorem d_Mo_numberAll_44 : decode c_Mo_numberAll 44 = .ok (.istore_n 3, 1) := by decide +kernel
theorem d_Mo_numberAll_45 : decode c_Mo_numberAll 45 = .ok (.aload_n 0, 1) := by decide +kernel
theorem d_Mo_numberAll_46 : decode c_Mo_numberAll 46 = .ok (.getfield 36, 3) := by decide +kernel
theorem d_Mo_numberAll_49 : decode c_Mo_numberAll 49 = .ok (.iload_n 2, 1) := by decide +kernel
theorem d_Mo_numberAll_50 : decode c_Mo_numberAll 50 = .ok (.iaload, 1) := by decide +kernel
theorem d_Mo_numberAll_51 : decode c_Mo_numberAll 51 = .ok (.istore 4, 2) := by decide +kernel
theorem d_Mo_numberAll_53 : decode c_Mo_numberAll 53 = .ok (.iload 4, 2) := by decide +kernel
theorem d_Mo_numberAll_55 : decode c_Mo_numberAll 55 = .ok (.ifCond .lt 18, 3) := by decide +kernel
theorem d_Mo_numberAll_58 : decode c_Mo_numberAll 58 = .ok (.iinc 3 1, 3) := by decide +kernel
theorem d_Mo_numberAll_61 : decode c_Mo_numberAll 61 = .ok (.aload_n 0, 1) := by decide +kernel
theorem d_Mo_numberAll_62 : decode c_Mo_numberAll 62 = .ok (.getfield 42, 3) := by decide +kernel
theorem d_Mo_numberAll_65 : decode c_Mo_numberAll 65 = .ok (.iload 4, 2) := by decide +kernel
theorem d_Mo_numberAll_67 : decode c_Mo_numberAll 67 = .ok (.iaload, 1) := by decide +kernel
theorem d_Mo_numberAll_68 : decode c_Mo_numberAll 68 = .ok (.istore 4, 2) := by decide +kernel
theorem d_Mo_numberAll_70 : decode c_Mo_numberAll 70 = .ok (.goto (-17), 3) := by decide +kernel
theorem d_Mo_numberAll_73 : decode c_Mo_numberAll 73 = .ok (.iload_n 3, 1) := by decide +kernel
theorem d_Mo_numberAll_74 : decode c_Mo_numberAll 74 = .ok (.istore 4, 2) := by decide +kernel
theorem d_Mo_numberAll_76 : decode c_Mo_numberAll 76 = .ok (.aload_n 0, 1) := by decide +kernel
theorem d_Mo_numberAll_77 : decode c_Mo_numberAll 77 = .ok (.getfield 36, 3) := by decide +kernel
theorem d_Mo_numberAll_80 : decode c_Mo_numberAll 80 = .ok (.iload_n 2, 1) := by decide +kernel
theorem d_Mo_numberAll_81 : decode c_Mo_numberAll 81 = .ok (.iaload, 1) := by decide +kernel
theorem d_Mo_numberAll_82 : decode c_Mo_numberAll 82 = .ok (.istore 5, 2) := by decide +kernel
theorem d_Mo_numberAll_84 : decode c_Mo_numberAll 84 = .ok (.iload 5, 2) := by decide +kernel
theorem d_Mo_numberAll_86 : decode c_Mo_numberAll 86 = .ok (.ifCond .lt 29, 3) := by decide +kernel
theorem d_Mo_numberAll_89 : decode c_Mo_numberAll 89 = .ok (.iinc 4 (-1), 3) := by decide +kernel
theorem d_Mo_numberAll_92 : decode c_Mo_numberAll 92 = .ok (.aload_n 0, 1) := by decide +kernel
theorem d_Mo_numberAll_93 : decode c_Mo_numberAll 93 = .ok (.getfield 48, 3) := by decide +kernel
theorem d_Mo_numberAll_96 : decode c_Mo_numberAll 96 = .ok (.iload_n 1, 1) := by decide +kernel
theorem d_Mo_numberAll_97 : decode c_Mo_numberAll 97 = .ok (.iload 4, 2) := by decide +kernel
theorem d_Mo_numberAll_99 : decode c_Mo_numberAll 99 = .ok (.iadd, 1) := by decide +kernel
theorem d_Mo_numberAll_100 : decode c_Mo_numberAll 100 = .ok (.iload 5, 2) := by decide +kernel
theorem d_Mo_numberAll_102 : decode c_Mo_numberAll 102 = .ok (.iastore, 1) := by decide +kernel
theorem d_Mo_numberAll_103 : decode c_Mo_numberAll 103 = .ok (.aload_n 0, 1) := by decide +kernel
theorem d_Mo_numberAll_104 : decode c_Mo_numberAll 104 = .ok (.getfield 42, 3) := by decide +kernel
theorem d_Mo_numberAll_107 : decode c_Mo_numberAll 107 = .ok (.iload 5, 2) := by decide +kernel
theorem d_Mo_numberAll_109 : decode c_Mo_numberAll 109 = .ok (.iaload, 1) := by decide +kernel
theorem d_Mo_numberAll_110 : decode c_Mo_numberAll 110 = .ok (.istore 5, 2) := by decide +kernel
theorem d_Mo_numberAll_112 : decode c_Mo_numberAll 112 = .ok (.goto (-28), 3) := by decide +kernel
theorem d_Mo_numberAll_115 : decode c_Mo_numberAll 115 = .ok (.iload_n 1, 1) := by decide +kernel
theorem d_Mo_numberAll_116 : decode c_Mo_numberAll 116 = .ok (.iload_n 3, 1) := by decide +kernel
theorem d_Mo_numberAll_117 : decode c_Mo_numberAll 117 = .ok (.iadd, 1) := by decide +kernel
theorem d_Mo_numberAll_118 : decode c_Mo_numberAll 118 = .ok (.istore_n 1, 1) := by decide +kernel
theorem d_Mo_numberAll_119 : decode c_Mo_numberAll 119 = .ok (.goto (-110), 3) := by decide +kernel
theorem d_Mo_numberAll_122 : decode c_Mo_numberAll 122 = .ok (.iconst 0, 1) := by decide +kernel
theorem d_Mo_numberAll_123 : decode c_Mo_numberAll 123 = .ok (.istore_n 2, 1) := by decide +kernel
theorem d_Mo_numberAll_124 : decode c_Mo_numberAll 124 = .ok (.iload_n 2, 1) := by decide +kernel
theorem d_Mo_numberAll_125 : decode c_Mo_numberAll 125 = .ok (.aload_n 0, 1) := by decide +kernel
theorem d_Mo_numberAll_126 : decode c_Mo_numberAll 126 = .ok (.getfield 309, 3) := by decide +kernel
theorem d_Mo_numberAll_129 : decode c_Mo_numberAll 129 = .ok (.if_icmp .ge 21, 3) := by decide +kernel
theorem d_Mo_numberAll_132 : decode c_Mo_numberAll 132 = .ok (.aload_n 0, 1) := by decide +kernel
theorem d_Mo_numberAll_133 : decode c_Mo_numberAll 133 = .ok (.getfield 48, 3) := by decide +kernel
theorem d_Mo_numberAll_136 : decode c_Mo_numberAll 136 = .ok (.aload_n 0, 1) := by decide +kernel
theorem d_Mo_numberAll_137 : decode c_Mo_numberAll 137 = .ok (.getfield 45, 3) := by decide +kernel
theorem d_Mo_numberAll_140 : decode c_Mo_numberAll 140 = .ok (.iload_n 2, 1) := by decide +kernel
theorem d_Mo_numberAll_141 : decode c_Mo_numberAll 141 = .ok (.iaload, 1) := by decide +kernel
theorem d_Mo_numberAll_142 : decode c_Mo_numberAll 142 = .ok (.iload_n 2, 1) := by decide +kernel
theorem d_Mo_numberAll_143 : decode c_Mo_numberAll 143 = .ok (.iastore, 1) := by decide +kernel
theorem d_Mo_numberAll_144 : decode c_Mo_numberAll 144 = .ok (.iinc 2 1, 3) := by decide +kernel
theorem d_Mo_numberAll_147 : decode c_Mo_numberAll 147 = .ok (.goto (-23), 3) := by decide +kernel
theorem d_Mo_numberAll_150 : decode c_Mo_numberAll 150 = .ok (.return_, 1) := by decide +kernel
theorem d_Mo_read_0 : decode c_Mo_read 0 = .ok (.aload_n 0, 1) := by decide +kernel
theorem d_Mo_read_1 : decode c_Mo_read 1 = .ok (.invokevirtual 315, 3) := by decide +kernel
theorem d_Mo_read_4 : decode c_Mo_read 4 = .ok (.istore_n 1, 1) := by decide +kernel
theorem d_Mo_read_5 : decode c_Mo_read 5 = .ok (.aload_n 0, 1) := by decide +kernel
theorem d_Mo_read_6 : decode c_Mo_read 6 = .ok (.iconst 0, 1) := by decide +kernel
theorem d_Mo_read_7 : decode c_Mo_read 7 = .ok (.putfield 74, 3) := by decide +kernel
theorem d_Mo_read_10 : decode c_Mo_read 10 = .ok (.aload_n 0, 1) := by decide +kernel
theorem d_Mo_read_11 : decode c_Mo_read 11 = .ok (.iload_n 1, 1) := by decide +kernel
theorem d_Mo_read_12 : decode c_Mo_read 12 = .ok (.ifCond .ne 7, 3) := by decide +kernel
theorem d_Mo_read_15 : decode c_Mo_read 15 = .ok (.iconst 1, 1) := by decide +kernel
theorem d_Mo_read_16 : decode c_Mo_read 16 = .ok (.goto 4, 3) := by decide +kernel
theorem d_Mo_read_19 : decode c_Mo_read 19 = .ok (.iconst 0, 1) := by decide +kernel
theorem d_Mo_read_20 : decode c_Mo_read 20 = .ok (.iconst 0, 1) := by decide +kernel
theorem d_Mo_read_21 : decode c_Mo_read 21 = .ok (.invokevirtual 77, 3) := by decide +kernel
theorem d_Mo_read_24 : decode c_Mo_read 24 = .ok (.ifCond .eq 10, 3) := by decide +kernel
theorem d_Mo_read_27 : decode c_Mo_read 27 = .ok (.aload_n 0, 1) := by decide +kernel
theorem d_Mo_read_28 : decode c_Mo_read 28 = .ok (.iconst 0, 1) := by decide +kernel
theorem d_Mo_read_29 : decode c_Mo_read 29 = .ok (.putfield 309, 3) := by decide +kernel
theorem d_Mo_read_32 : decode c_Mo_read 32 = .ok (.iconst 0, 1) := by decide +kernel
theorem d_Mo_read_33 : decode c_Mo_read 33 = .ok (.ireturn, 1) := by decide +kernel
theorem d_Mo_read_34 : decode c_Mo_read 34 = .ok (.aload_n 0, 1) := by decide +kernel
theorem d_Mo_read_35 : decode c_Mo_read 35 = .ok (.invokevirtual 319, 3) := by decide +kernel
theorem d_Mo_read_38 : decode c_Mo_read 38 = .ok (.aload_n 0, 1) := by decide +kernel
theorem d_Mo_read_39 : decode c_Mo_read 39 = .ok (.getfield 309, 3) := by decide +kernel
theorem d_Mo_read_42 : decode c_Mo_read 42 = .ok (.ireturn, 1) := by decide +kernel
theorem d_Mo_place_0 : decode c_Mo_place 0 = .ok (.aload_n 0, 1) := by decide +kernel
theorem d_Mo_place_1 : decode c_Mo_place 1 = .ok (.iconst 0, 1) := by decide +kernel
theorem d_Mo_place_2 : decode c_Mo_place 2 = .ok (.putfield 63, 3) := by decide +kernel
theorem d_Mo_place_5 : decode c_Mo_place 5 = .ok (.aload_n 0, 1) := by decide +kernel
theorem d_Mo_place_6 : decode c_Mo_place 6 = .ok (.getfield 23, 3) := by decide +kernel
theorem d_Mo_place_9 : decode c_Mo_place 9 = .ok (.ireturn, 1) := by decide +kernel
theorem d_Mo_childrenOf_0 : decode c_Mo_childrenOf 0 = .ok (.iconst 0, 1) := by decide +kernel
theorem d_Mo_childrenOf_1 : decode c_Mo_childrenOf 1 = .ok (.istore_n 2, 1) := by decide +kernel
theorem d_Mo_childrenOf_2 : decode c_Mo_childrenOf 2 = .ok (.aload_n 0, 1) := by decide +kernel
theorem d_Mo_childrenOf_3 : decode c_Mo_childrenOf 3 = .ok (.getfield 36, 3) := by decide +kernel
theorem d_Mo_childrenOf_6 : decode c_Mo_childrenOf 6 = .ok (.iload_n 1, 1) := by decide +kernel
theorem d_Mo_childrenOf_7 : decode c_Mo_childrenOf 7 = .ok (.iaload, 1) := by decide +kernel
theorem d_Mo_childrenOf_8 : decode c_Mo_childrenOf 8 = .ok (.istore_n 3, 1) := by decide +kernel
theorem d_Mo_childrenOf_9 : decode c_Mo_childrenOf 9 = .ok (.iload_n 3, 1) := by decide +kernel
theorem d_Mo_childrenOf_10 : decode c_Mo_childrenOf 10 = .ok (.ifCond .lt 16, 3) := by decide +kernel
theorem d_Mo_childrenOf_13 : decode c_Mo_childrenOf 13 = .ok (.iinc 2 1, 3) := by decide +kernel
theorem d_Mo_childrenOf_16 : decode c_Mo_childrenOf 16 = .ok (.aload_n 0, 1) := by decide +kernel
theorem d_Mo_childrenOf_17 : decode c_Mo_childrenOf 17 = .ok (.getfield 42, 3) := by decide +kernel
theorem d_Mo_childrenOf_20 : decode c_Mo_childrenOf 20 = .ok (.iload_n 3, 1) := by decide +kernel
theorem d_Mo_childrenOf_21 : decode c_Mo_childrenOf 21 = .ok (.iaload, 1) := by decide +kernel
theorem d_Mo_childrenOf_22 : decode c_Mo_childrenOf 22 = .ok (.istore_n 3, 1) := by decide +kernel
theorem d_Mo_childrenOf_23 : decode c_Mo_childrenOf 23 = .ok (.goto (-14), 3) := by decide +kernel
theorem d_Mo_childrenOf_26 : decode c_Mo_childrenOf 26 = .ok (.iload_n 2, 1) := by decide +kernel
theorem d_Mo_childrenOf_27 : decode c_Mo_childrenOf 27 = .ok (.ireturn, 1) := by decide +kernel
theorem d_Mo_node_0 : decode c_Mo_node 0 = .ok (.iload_n 2, 1) := by decide +kernel
theorem d_Mo_node_1 : decode c_Mo_node 1 = .ok (.ifCond .lt 8, 3) := by decide +kernel
theorem d_Mo_node_4 : decode c_Mo_node 4 = .ok (.iload_n 2, 1) := by decide +kernel
theorem d_Mo_node_5 : decode c_Mo_node 5 = .ok (.iconst 3, 1) := by decide +kernel
theorem d_Mo_node_6 : decode c_Mo_node 6 = .ok (.if_icmp .le 7, 3) := by decide +kernel
theorem d_Mo_node_9 : decode c_Mo_node 9 = .ok (.iconst 1, 1) := by decide +kernel
theorem d_Mo_node_10 : decode c_Mo_node 10 = .ok (.goto 4, 3) := by decide +kernel
theorem d_Mo_node_13 : decode c_Mo_node 13 = .ok (.iconst 0, 1) := by decide +kernel
theorem d_Mo_node_14 : decode c_Mo_node 14 = .ok (.istore_n 3, 1) := by decide +kernel
theorem d_Mo_node_15 : decode c_Mo_node 15 = .ok (.aload_n 0, 1) := by decide +kernel
theorem d_Mo_node_16 : decode c_Mo_node 16 = .ok (.iload_n 3, 1) := by decide +kernel
theorem d_Mo_node_17 : decode c_Mo_node 17 = .ok (.iload_n 3, 1) := by decide +kernel
theorem d_Mo_node_18 : decode c_Mo_node 18 = .ok (.ifCond .ne 19, 3) := by decide +kernel
theorem d_Mo_node_21 : decode c_Mo_node 21 = .ok (.iload_n 1, 1) := by decide +kernel
theorem d_Mo_node_22 : decode c_Mo_node 22 = .ok (.ifCond .lt 11, 3) := by decide +kernel
theorem d_Mo_node_25 : decode c_Mo_node 25 = .ok (.iload_n 1, 1) := by decide +kernel
theorem d_Mo_node_26 : decode c_Mo_node 26 = .ok (.aload_n 0, 1) := by decide +kernel
theorem d_Mo_node_27 : decode c_Mo_node 27 = .ok (.getfield 309, 3) := by decide +kernel
theorem d_Mo_node_30 : decode c_Mo_node 30 = .ok (.if_icmp .lt 7, 3) := by decide +kernel
theorem d_Mo_node_33 : decode c_Mo_node 33 = .ok (.iconst 1, 1) := by decide +kernel
theorem d_Mo_node_34 : decode c_Mo_node 34 = .ok (.goto 4, 3) := by decide +kernel
theorem d_Mo_node_37 : decode c_Mo_node 37 = .ok (.iconst 0, 1) := by decide +kernel
theorem d_Mo_node_38 : decode c_Mo_node 38 = .ok (.invokevirtual 77, 3) := by decide +kernel
theorem d_Mo_node_41 : decode c_Mo_node 41 = .ok (.ifCond .eq 5, 3) := by decide +kernel
theorem d_Mo_node_44 : decode c_Mo_node 44 = .ok (.iconst 0, 1) := by decide +kernel
theorem d_Mo_node_45 : decode c_Mo_node 45 = .ok (.ireturn, 1) := by decide +kernel
theorem d_Mo_node_46 : decode c_Mo_node 46 = .ok (.aload_n 0, 1) := by decide +kernel
theorem d_Mo_node_47 : decode c_Mo_node 47 = .ok (.getfield 45, 3) := by decide +kernel
theorem d_Mo_node_50 : decode c_Mo_node 50 = .ok (.iload_n 1, 1) := by decide +kernel
theorem d_Mo_node_51 : decode c_Mo_node 51 = .ok (.iaload, 1) := by decide +kernel
theorem d_Mo_node_52 : decode c_Mo_node 52 = .ok (.istore 4, 2) := by decide +kernel
theorem d_Mo_node_54 : decode c_Mo_node 54 = .ok (.iload_n 2, 1) := by decide +kernel
theorem d_Mo_node_55 : decode c_Mo_node 55 = .ok (.ifCond .ne 13, 3) := by decide +kernel
theorem d_Mo_node_58 : decode c_Mo_node 58 = .ok (.aload_n 0, 1) := by decide +kernel
theorem d_Mo_node_59 : decode c_Mo_node 59 = .ok (.getfield 27, 3) := by decide +kernel
theorem d_Mo_node_62 : decode c_Mo_node 62 = .ok (.iload 4, 2) := by decide +kernel
theorem d_Mo_node_64 : decode c_Mo_node 64 = .ok (.iaload, 1) := by decide +kernel
theorem d_Mo_node_65 : decode c_Mo_node 65 = .ok (.goto 39, 3) := by decide +kernel
theorem d_Mo_node_68 : decode c_Mo_node 68 = .ok (.iload_n 2, 1) := by decide +kernel
theorem d_Mo_node_69 : decode c_Mo_node 69 = .ok (.iconst 1, 1) := by decide +kernel
theorem d_Mo_node_70 : decode c_Mo_node 70 = .ok (.if_icmp .ne 12, 3) := by decide +kernel
theorem d_Mo_node_73 : decode c_Mo_node 73 = .ok (.aload_n 0, 1) := by decide +kernel
theorem d_Mo_node_74 : decode c_Mo_node 74 = .ok (.iload 4, 2) := by decide +kernel
theorem d_Mo_node_76 : decode c_Mo_node 76 = .ok (.invokevirtual 322, 3) := by decide +kernel
theorem d_Mo_node_79 : decode c_Mo_node 79 = .ok (.goto 25, 3) := by decide +kernel
theorem d_Mo_node_82 : decode c_Mo_node 82 = .ok (.iload_n 2, 1) := by decide +kernel
theorem d_Mo_node_83 : decode c_Mo_node 83 = .ok (.iconst 2, 1) := by decide +kernel
theorem d_Mo_node_84 : decode c_Mo_node 84 = .ok (.if_icmp .ne 13, 3) := by decide +kernel
theorem d_Mo_node_87 : decode c_Mo_node 87 = .ok (.aload_n 0, 1) := by decide +kernel
theorem d_Mo_node_88 : decode c_Mo_node 88 = .ok (.getfield 30, 3) := by decide +kernel
theorem d_Mo_node_91 : decode c_Mo_node 91 = .ok (.iload 4, 2) := by decide +kernel
theorem d_Mo_node_93 : decode c_Mo_node 93 = .ok (.iaload, 1) := by decide +kernel
theorem d_Mo_node_94 : decode c_Mo_node 94 = .ok (.goto 10, 3) := by decide +kernel
theorem d_Mo_node_97 : decode c_Mo_node 97 = .ok (.aload_n 0, 1) := by decide +kernel
theorem d_Mo_node_98 : decode c_Mo_node 98 = .ok (.getfield 33, 3) := by decide +kernel
theorem d_Mo_node_101 : decode c_Mo_node 101 = .ok (.iload 4, 2) := by decide +kernel
theorem d_Mo_node_103 : decode c_Mo_node 103 = .ok (.iaload, 1) := by decide +kernel
theorem d_Mo_node_104 : decode c_Mo_node 104 = .ok (.ireturn, 1) := by decide +kernel
theorem d_Mo_child_0 : decode c_Mo_child 0 = .ok (.iload_n 1, 1) := by decide +kernel
theorem d_Mo_child_1 : decode c_Mo_child 1 = .ok (.ifCond .lt 15, 3) := by decide +kernel
theorem d_Mo_child_4 : decode c_Mo_child 4 = .ok (.iload_n 1, 1) := by decide +kernel
theorem d_Mo_child_5 : decode c_Mo_child 5 = .ok (.aload_n 0, 1) := by decide +kernel
theorem d_Mo_child_6 : decode c_Mo_child 6 = .ok (.getfield 309, 3) := by decide +kernel
theorem d_Mo_child_9 : decode c_Mo_child 9 = .ok (.if_icmp .ge 7, 3) := by decide +kernel
theorem d_Mo_child_12 : decode c_Mo_child 12 = .ok (.iload_n 2, 1) := by decide +kernel
theorem d_Mo_child_13 : decode c_Mo_child 13 = .ok (.ifCond .ge 7, 3) := by decide +kernel
theorem d_Mo_child_16 : decode c_Mo_child 16 = .ok (.iconst 1, 1) := by decide +kernel
theorem d_Mo_child_17 : decode c_Mo_child 17 = .ok (.goto 4, 3) := by decide +kernel
theorem d_Mo_child_20 : decode c_Mo_child 20 = .ok (.iconst 0, 1) := by decide +kernel
theorem d_Mo_child_21 : decode c_Mo_child 21 = .ok (.istore_n 3, 1) := by decide +kernel
theorem d_Mo_child_22 : decode c_Mo_child 22 = .ok (.aload_n 0, 1) := by decide +kernel
theorem d_Mo_child_23 : decode c_Mo_child 23 = .ok (.iload_n 3, 1) := by decide +kernel
theorem d_Mo_child_24 : decode c_Mo_child 24 = .ok (.ifCond .ne 17, 3) := by decide +kernel
theorem d_Mo_child_27 : decode c_Mo_child 27 = .ok (.iload_n 2, 1) := by decide +kernel
theorem d_Mo_child_28 : decode c_Mo_child 28 = .ok (.aload_n 0, 1) := by decide +kernel
theorem d_Mo_child_29 : decode c_Mo_child 29 = .ok (.aload_n 0, 1) := by decide +kernel
theorem d_Mo_child_30 : decode c_Mo_child 30 = .ok (.getfield 45, 3) := by decide +kernel
theorem d_Mo_child_33 : decode c_Mo_child 33 = .ok (.iload_n 1, 1) := by decide +kernel
theorem d_Mo_child_34 : decode c_Mo_child 34 = .ok (.iaload, 1) := by decide +kernel
theorem d_Mo_child_35 : decode c_Mo_child 35 = .ok (.invokevirtual 322, 3) := by decide +kernel
theorem d_Mo_child_38 : decode c_Mo_child 38 = .ok (.if_icmp .lt 7, 3) := by decide +kernel
theorem d_Mo_child_41 : decode c_Mo_child 41 = .ok (.iconst 1, 1) := by decide +kernel
theorem d_Mo_child_42 : decode c_Mo_child 42 = .ok (.goto 4, 3) := by decide +kernel
theorem d_Mo_child_45 : decode c_Mo_child 45 = .ok (.iconst 0, 1) := by decide +kernel
theorem d_Mo_child_46 : decode c_Mo_child 46 = .ok (.iconst 0, 1) := by decide +kernel
theorem d_Mo_child_47 : decode c_Mo_child 47 = .ok (.invokevirtual 77, 3) := by decide +kernel
theorem d_Mo_child_50 : decode c_Mo_child 50 = .ok (.ifCond .eq 5, 3) := by decide +kernel
theorem d_Mo_child_53 : decode c_Mo_child 53 = .ok (.iconst 0, 1) := by decide +kernel
theorem d_Mo_child_54 : decode c_Mo_child 54 = .ok (.ireturn, 1) := by decide +kernel
theorem d_Mo_child_55 : decode c_Mo_child 55 = .ok (.aload_n 0, 1) := by decide +kernel
theorem d_Mo_child_56 : decode c_Mo_child 56 = .ok (.getfield 36, 3) := by decide +kernel
theorem d_Mo_child_59 : decode c_Mo_child 59 = .ok (.aload_n 0, 1) := by decide +kernel
theorem d_Mo_child_60 : decode c_Mo_child 60 = .ok (.getfield 45, 3) := by decide +kernel
theorem d_Mo_child_63 : decode c_Mo_child 63 = .ok (.iload_n 1, 1) := by decide +kernel
theorem d_Mo_child_64 : decode c_Mo_child 64 = .ok (.iaload, 1) := by decide +kernel
theorem d_Mo_child_65 : decode c_Mo_child 65 = .ok (.iaload, 1) := by decide +kernel
theorem d_Mo_child_66 : decode c_Mo_child 66 = .ok (.istore 4, 2) := by decide +kernel
theorem d_Mo_child_68 : decode c_Mo_child 68 = .ok (.iconst 0, 1) := by decide +kernel
theorem d_Mo_child_69 : decode c_Mo_child 69 = .ok (.istore 5, 2) := by decide +kernel
theorem d_Mo_child_71 : decode c_Mo_child 71 = .ok (.iload 5, 2) := by decide +kernel
theorem d_Mo_child_73 : decode c_Mo_child 73 = .ok (.iload_n 2, 1) := by decide +kernel
theorem d_Mo_child_74 : decode c_Mo_child 74 = .ok (.if_icmp .ge 18, 3) := by decide +kernel
theorem d_Mo_child_77 : decode c_Mo_child 77 = .ok (.aload_n 0, 1) := by decide +kernel
theorem d_Mo_child_78 : decode c_Mo_child 78 = .ok (.getfield 42, 3) := by decide +kernel
theorem d_Mo_child_81 : decode c_Mo_child 81 = .ok (.iload 4, 2) := by decide +kernel
theorem d_Mo_child_83 : decode c_Mo_child 83 = .ok (.iaload, 1) := by decide +kernel
theorem d_Mo_child_84 : decode c_Mo_child 84 = .ok (.istore 4, 2) := by decide +kernel
theorem d_Mo_child_86 : decode c_Mo_child 86 = .ok (.iinc 5 1, 3) := by decide +kernel
theorem d_Mo_child_89 : decode c_Mo_child 89 = .ok (.goto (-18), 3) := by decide +kernel
theorem d_Mo_child_92 : decode c_Mo_child 92 = .ok (.aload_n 0, 1) := by decide +kernel
theorem d_Mo_child_93 : decode c_Mo_child 93 = .ok (.getfield 48, 3) := by decide +kernel
theorem d_Mo_child_96 : decode c_Mo_child 96 = .ok (.iload 4, 2) := by decide +kernel
theorem d_Mo_child_98 : decode c_Mo_child 98 = .ok (.iaload, 1) := by decide +kernel
theorem d_Mo_child_99 : decode c_Mo_child 99 = .ok (.ireturn, 1) := by decide +kernel
theorem d_Co_init_0 : decode c_Co_init 0 = .ok (.aload_n 0, 1) := by decide +kernel
theorem d_Co_init_1 : decode c_Co_init 1 = .ok (.invokespecial 1, 3) := by decide +kernel
theorem d_Co_init_4 : decode c_Co_init 4 = .ok (.aload_n 0, 1) := by decide +kernel
theorem d_Co_init_5 : decode c_Co_init 5 = .ok (.iconst 0, 1) := by decide +kernel
theorem d_Co_init_6 : decode c_Co_init 6 = .ok (.putfield 7, 3) := by decide +kernel
theorem d_Co_init_9 : decode c_Co_init 9 = .ok (.aload_n 0, 1) := by decide +kernel
theorem d_Co_init_10 : decode c_Co_init 10 = .ok (.iconst 0, 1) := by decide +kernel
theorem d_Co_init_11 : decode c_Co_init 11 = .ok (.putfield 13, 3) := by decide +kernel
theorem d_Co_init_14 : decode c_Co_init 14 = .ok (.aload_n 0, 1) := by decide +kernel
theorem d_Co_init_15 : decode c_Co_init 15 = .ok (.iload_n 1, 1) := by decide +kernel
theorem d_Co_init_16 : decode c_Co_init 16 = .ok (.putfield 16, 3) := by decide +kernel
theorem d_Co_init_19 : decode c_Co_init 19 = .ok (.aload_n 0, 1) := by decide +kernel
theorem d_Co_init_20 : decode c_Co_init 20 = .ok (.iload_n 2, 1) := by decide +kernel
theorem d_Co_init_21 : decode c_Co_init 21 = .ok (.putfield 20, 3) := by decide +kernel
theorem d_Co_init_24 : decode c_Co_init 24 = .ok (.aload_n 0, 1) := by decide +kernel
theorem d_Co_init_25 : decode c_Co_init 25 = .ok (.iload_n 3, 1) := by decide +kernel
theorem d_Co_init_26 : decode c_Co_init 26 = .ok (.putfield 23, 3) := by decide +kernel
theorem d_Co_init_29 : decode c_Co_init 29 = .ok (.return_, 1) := by decide +kernel
theorem d_Cu_init_0 : decode c_Cu_init 0 = .ok (.aload_n 0, 1) := by decide +kernel
theorem d_Cu_init_1 : decode c_Cu_init 1 = .ok (.invokespecial 1, 3) := by decide +kernel
theorem d_Cu_init_4 : decode c_Cu_init 4 = .ok (.aload_n 0, 1) := by decide +kernel
theorem d_Cu_init_5 : decode c_Cu_init 5 = .ok (.iconst 0, 1) := by decide +kernel
theorem d_Cu_init_6 : decode c_Cu_init 6 = .ok (.putfield 7, 3) := by decide +kernel
theorem d_Cu_init_9 : decode c_Cu_init 9 = .ok (.aload_n 0, 1) := by decide +kernel
theorem d_Cu_init_10 : decode c_Cu_init 10 = .ok (.iconst (-1), 1) := by decide +kernel
theorem d_Cu_init_11 : decode c_Cu_init 11 = .ok (.putfield 13, 3) := by decide +kernel
theorem d_Cu_init_14 : decode c_Cu_init 14 = .ok (.aload_n 0, 1) := by decide +kernel
theorem d_Cu_init_15 : decode c_Cu_init 15 = .ok (.new 16, 3) := by decide +kernel
theorem d_Cu_init_18 : decode c_Cu_init 18 = .ok (.dup, 1) := by decide +kernel
theorem d_Cu_init_19 : decode c_Cu_init 19 = .ok (.iconst 0, 1) := by decide +kernel
theorem d_Cu_init_20 : decode c_Cu_init 20 = .ok (.iconst 0, 1) := by decide +kernel
theorem d_Cu_init_21 : decode c_Cu_init 21 = .ok (.iconst 0, 1) := by decide +kernel
theorem d_Cu_init_22 : decode c_Cu_init 22 = .ok (.invokespecial 18, 3) := by decide +kernel
theorem d_Cu_init_25 : decode c_Cu_init 25 = .ok (.putfield 21, 3) := by decide +kernel
theorem d_Cu_init_28 : decode c_Cu_init 28 = .ok (.aload_n 0, 1) := by decide +kernel
theorem d_Cu_init_29 : decode c_Cu_init 29 = .ok (.aload_n 1, 1) := by decide +kernel
theorem d_Cu_init_30 : decode c_Cu_init 30 = .ok (.putfield 25, 3) := by decide +kernel
theorem d_Cu_init_33 : decode c_Cu_init 33 = .ok (.return_, 1) := by decide +kernel
theorem d_Cu_refuse_0 : decode c_Cu_refuse 0 = .ok (.aload_n 0, 1) := by decide +kernel
theorem d_Cu_refuse_1 : decode c_Cu_refuse 1 = .ok (.iload_n 1, 1) := by decide +kernel
theorem d_Cu_refuse_2 : decode c_Cu_refuse 2 = .ok (.putfield 13, 3) := by decide +kernel
theorem d_Cu_refuse_5 : decode c_Cu_refuse 5 = .ok (.new 29, 3) := by decide +kernel
theorem d_Cu_refuse_8 : decode c_Cu_refuse 8 = .ok (.dup, 1) := by decide +kernel
theorem d_Cu_refuse_9 : decode c_Cu_refuse 9 = .ok (.ldc 31, 2) := by decide +kernel
theorem d_Cu_refuse_11 : decode c_Cu_refuse 11 = .ok (.invokespecial 33, 3) := by decide +kernel
theorem d_Cu_refuse_14 : decode c_Cu_refuse 14 = .ok (.athrow, 1) := by decide +kernel
theorem d_Cu_atEnd_0 : decode c_Cu_atEnd 0 = .ok (.aload_n 0, 1) := by decide +kernel
theorem d_Cu_atEnd_1 : decode c_Cu_atEnd 1 = .ok (.getfield 25, 3) := by decide +kernel
theorem d_Cu_atEnd_4 : decode c_Cu_atEnd 4 = .ok (.aload_n 0, 1) := by decide +kernel
theorem d_Cu_atEnd_5 : decode c_Cu_atEnd 5 = .ok (.getfield 7, 3) := by decide +kernel
theorem d_Cu_atEnd_8 : decode c_Cu_atEnd 8 = .ok (.invokevirtual 36, 3) := by decide +kernel
theorem d_Cu_atEnd_11 : decode c_Cu_atEnd 11 = .ok (.ifCond .ne 7, 3) := by decide +kernel
theorem d_Cu_atEnd_14 : decode c_Cu_atEnd 14 = .ok (.iconst 1, 1) := by decide +kernel
theorem d_Cu_atEnd_15 : decode c_Cu_atEnd 15 = .ok (.goto 4, 3) := by decide +kernel
theorem d_Cu_atEnd_18 : decode c_Cu_atEnd 18 = .ok (.iconst 0, 1) := by decide +kernel
theorem d_Cu_atEnd_19 : decode c_Cu_atEnd 19 = .ok (.ireturn, 1) := by decide +kernel
theorem d_Cu_atSign_0 : decode c_Cu_atSign 0 = .ok (.aload_n 0, 1) := by decide +kernel
theorem d_Cu_atSign_1 : decode c_Cu_atSign 1 = .ok (.getfield 25, 3) := by decide +kernel
theorem d_Cu_atSign_4 : decode c_Cu_atSign 4 = .ok (.aload_n 0, 1) := by decide +kernel
theorem d_Cu_atSign_5 : decode c_Cu_atSign 5 = .ok (.getfield 7, 3) := by decide +kernel
theorem d_Cu_atSign_8 : decode c_Cu_atSign 8 = .ok (.invokevirtual 42, 3) := by decide +kernel
theorem d_Cu_atSign_11 : decode c_Cu_atSign 11 = .ok (.iload_n 1, 1) := by decide +kernel
theorem d_Cu_atSign_12 : decode c_Cu_atSign 12 = .ok (.if_icmp .ne 7, 3) := by decide +kernel
theorem d_Cu_atSign_15 : decode c_Cu_atSign 15 = .ok (.iconst 1, 1) := by decide +kernel
theorem d_Cu_atSign_16 : decode c_Cu_atSign 16 = .ok (.goto 4, 3) := by decide +kernel
theorem d_Cu_atSign_19 : decode c_Cu_atSign 19 = .ok (.iconst 0, 1) := by decide +kernel
theorem d_Cu_atSign_20 : decode c_Cu_atSign 20 = .ok (.ireturn, 1) := by decide +kernel
theorem d_Cu_atWord_0 : decode c_Cu_atWord 0 = .ok (.aload_n 0, 1) := by decide +kernel
theorem d_Cu_atWord_1 : decode c_Cu_atWord 1 = .ok (.getfield 25, 3) := by decide +kernel
theorem d_Cu_atWord_4 : decode c_Cu_atWord 4 = .ok (.aload_n 0, 1) := by decide +kernel
theorem d_Cu_atWord_5 : decode c_Cu_atWord 5 = .ok (.getfield 7, 3) := by decide +kernel
theorem d_Cu_atWord_8 : decode c_Cu_atWord 8 = .ok (.invokevirtual 45, 3) := by decide +kernel
theorem d_Cu_atWord_11 : decode c_Cu_atWord 11 = .ok (.iload_n 1, 1) := by decide +kernel
theorem d_Cu_atWord_12 : decode c_Cu_atWord 12 = .ok (.if_icmp .ne 7, 3) := by decide +kernel
theorem d_Cu_atWord_15 : decode c_Cu_atWord 15 = .ok (.iconst 1, 1) := by decide +kernel
theorem d_Cu_atWord_16 : decode c_Cu_atWord 16 = .ok (.goto 4, 3) := by decide +kernel
theorem d_Cu_atWord_19 : decode c_Cu_atWord 19 = .ok (.iconst 0, 1) := by decide +kernel
theorem d_Cu_atWord_20 : decode c_Cu_atWord 20 = .ok (.ireturn, 1) := by decide +kernel
theorem d_Cu_atIdentifier_0 : decode c_Cu_atIdentifier 0 = .ok (.aload_n 0, 1) := by decide +kernel
theorem d_Cu_atIdentifier_1 : decode c_Cu_atIdentifier 1 = .ok (.getfield 25, 3) := by decide +kernel
theorem d_Cu_atIdentifier_4 : decode c_Cu_atIdentifier 4 = .ok (.aload_n 0, 1) := by decide +kernel
theorem d_Cu_atIdentifier_5 : decode c_Cu_atIdentifier 5 = .ok (.getfield 7, 3) := by decide +kernel
theorem d_Cu_atIdentifier_8 : decode c_Cu_atIdentifier 8 = .ok (.aload_n 0, 1) := by decide +kernel
theorem d_Cu_atIdentifier_9 : decode c_Cu_atIdentifier 9 = .ok (.getfield 21, 3) := by decide +kernel
theorem d_Cu_atIdentifier_12 : decode c_Cu_atIdentifier 12 = .ok (.getfield 48, 3) := by decide +kernel
theorem d_Cu_atIdentifier_15 : decode c_Cu_atIdentifier 15 = .ok (.invokevirtual 52, 3) := by decide +kernel
theorem d_Cu_atIdentifier_18 : decode c_Cu_atIdentifier 18 = .ok (.ireturn, 1) := by decide +kernel
theorem d_Cu_accept_0 : decode c_Cu_accept 0 = .ok (.aload_n 0, 1) := by decide +kernel
theorem d_Cu_accept_1 : decode c_Cu_accept 1 = .ok (.getfield 25, 3) := by decide +kernel
theorem d_Cu_accept_4 : decode c_Cu_accept 4 = .ok (.aload_n 0, 1) := by decide +kernel
theorem d_Cu_accept_5 : decode c_Cu_accept 5 = .ok (.getfield 7, 3) := by decide +kernel
theorem d_Cu_accept_8 : decode c_Cu_accept 8 = .ok (.invokevirtual 42, 3) := by decide +kernel
theorem d_Cu_accept_11 : decode c_Cu_accept 11 = .ok (.iload_n 1, 1) := by decide +kernel
theorem d_Cu_accept_12 : decode c_Cu_accept 12 = .ok (.if_icmp .ne 7, 3) := by decide +kernel
theorem d_Cu_accept_15 : decode c_Cu_accept 15 = .ok (.iconst 1, 1) := by decide +kernel
theorem d_Cu_accept_16 : decode c_Cu_accept 16 = .ok (.goto 4, 3) := by decide +kernel
theorem d_Cu_accept_19 : decode c_Cu_accept 19 = .ok (.iconst 0, 1) := by decide +kernel
theorem d_Cu_accept_20 : decode c_Cu_accept 20 = .ok (.istore_n 2, 1) := by decide +kernel
theorem d_Cu_accept_21 : decode c_Cu_accept 21 = .ok (.iload_n 2, 1) := by decide +kernel
theorem d_Cu_accept_22 : decode c_Cu_accept 22 = .ok (.ifCond .eq 13, 3) := by decide +kernel
theorem d_Cu_accept_25 : decode c_Cu_accept 25 = .ok (.aload_n 0, 1) := by decide +kernel
theorem d_Cu_accept_26 : decode c_Cu_accept 26 = .ok (.dup, 1) := by decide +kernel
theorem d_Cu_accept_27 : decode c_Cu_accept 27 = .ok (.getfield 7, 3) := by decide +kernel
theorem d_Cu_accept_30 : decode c_Cu_accept 30 = .ok (.iconst 1, 1) := by decide +kernel
theorem d_Cu_accept_31 : decode c_Cu_accept 31 = .ok (.iadd, 1) := by decide +kernel
theorem d_Cu_accept_32 : decode c_Cu_accept 32 = .ok (.putfield 7, 3) := by decide +kernel
theorem d_Cu_accept_35 : decode c_Cu_accept 35 = .ok (.iload_n 2, 1) := by decide +kernel
theorem d_Cu_accept_36 : decode c_Cu_accept 36 = .ok (.ireturn, 1) := by decide +kernel
theorem d_Cu_expect_0 : decode c_Cu_expect 0 = .ok (.aload_n 0, 1) := by decide +kernel
theorem d_Cu_expect_1 : decode c_Cu_expect 1 = .ok (.getfield 25, 3) := by decide +kernel
theorem d_Cu_expect_4 : decode c_Cu_expect 4 = .ok (.aload_n 0, 1) := by decide +kernel
theorem d_Cu_expect_5 : decode c_Cu_expect 5 = .ok (.getfield 7, 3) := by decide +kernel
theorem d_Cu_expect_8 : decode c_Cu_expect 8 = .ok (.invokevirtual 42, 3) := by decide +kernel
theorem d_Cu_expect_11 : decode c_Cu_expect 11 = .ok (.iload_n 1, 1) := by decide +kernel
theorem d_Cu_expect_12 : decode c_Cu_expect 12 = .ok (.if_icmp .eq 11, 3) := by decide +kernel
theorem d_Cu_expect_15 : decode c_Cu_expect 15 = .ok (.aload_n 0, 1) := by decide +kernel
theorem d_Cu_expect_16 : decode c_Cu_expect 16 = .ok (.aload_n 0, 1) := by decide +kernel
theorem d_Cu_expect_17 : decode c_Cu_expect 17 = .ok (.getfield 7, 3) := by decide +kernel
theorem d_Cu_expect_20 : decode c_Cu_expect 20 = .ok (.invokevirtual 56, 3) := by decide +kernel
theorem d_Cu_expect_23 : decode c_Cu_expect 23 = .ok (.aload_n 0, 1) := by decide +kernel
theorem d_Cu_expect_24 : decode c_Cu_expect 24 = .ok (.dup, 1) := by decide +kernel
theorem d_Cu_expect_25 : decode c_Cu_expect 25 = .ok (.getfield 7, 3) := by decide +kernel
theorem d_Cu_expect_28 : decode c_Cu_expect 28 = .ok (.iconst 1, 1) := by decide +kernel
theorem d_Cu_expect_29 : decode c_Cu_expect 29 = .ok (.iadd, 1) := by decide +kernel
theorem d_Cu_expect_30 : decode c_Cu_expect 30 = .ok (.putfield 7, 3) := by decide +kernel
theorem d_Cu_expect_33 : decode c_Cu_expect 33 = .ok (.return_, 1) := by decide +kernel
theorem d_Cu_expectWord_0 : decode c_Cu_expectWord 0 = .ok (.aload_n 0, 1) := by decide +kernel
theorem d_Cu_expectWord_1 : decode c_Cu_expectWord 1 = .ok (.getfield 25, 3) := by decide +kernel
theorem d_Cu_expectWord_4 : decode c_Cu_expectWord 4 = .ok (.aload_n 0, 1) := by decide +kernel
theorem d_Cu_expectWord_5 : decode c_Cu_expectWord 5 = .ok (.getfield 7, 3) := by decide +kernel
theorem d_Cu_expectWord_8 : decode c_Cu_expectWord 8 = .ok (.invokevirtual 45, 3) := by decide +kernel
theorem d_Cu_expectWord_11 : decode c_Cu_expectWord 11 = .ok (.iload_n 1, 1) := by decide +kernel
theorem d_Cu_expectWord_12 : decode c_Cu_expectWord 12 = .ok (.if_icmp .eq 11, 3) := by decide +kernel
theorem d_Cu_expectWord_15 : decode c_Cu_expectWord 15 = .ok (.aload_n 0, 1) := by decide +kernel
theorem d_Cu_expectWord_16 : decode c_Cu_expectWord 16 = .ok (.aload_n 0, 1) := by decide +kernel
theorem d_Cu_expectWord_17 : decode c_Cu_expectWord 17 = .ok (.getfield 7, 3) := by decide +kernel
theorem d_Cu_expectWord_20 : decode c_Cu_expectWord 20 = .ok (.invokevirtual 56, 3) := by decide +kernel
theorem d_Cu_expectWord_23 : decode c_Cu_expectWord 23 = .ok (.aload_n 0, 1) := by decide +kernel
theorem d_Cu_expectWord_24 : decode c_Cu_expectWord 24 = .ok (.dup, 1) := by decide +kernel
theorem d_Cu_expectWord_25 : decode c_Cu_expectWord 25 = .ok (.getfield 7, 3) := by decide +kernel
theorem d_Cu_expectWord_28 : decode c_Cu_expectWord 28 = .ok (.iconst 1, 1) := by decide +kernel
theorem d_Cu_expectWord_29 : decode c_Cu_expectWord 29 = .ok (.iadd, 1) := by decide +kernel
theorem d_Cu_expectWord_30 : decode c_Cu_expectWord 30 = .ok (.putfield 7, 3) := by decide +kernel
theorem d_Cu_expectWord_33 : decode c_Cu_expectWord 33 = .ok (.return_, 1) := by decide +kernel
theorem d_Cu_guard_0 : decode c_Cu_guard 0 = .ok (.iload_n 1, 1) := by decide +kernel
theorem d_Cu_guard_1 : decode c_Cu_guard 1 = .ok (.bipush 100, 2) := by decide +kernel
theorem d_Cu_guard_3 : decode c_Cu_guard 3 = .ok (.if_icmp .le 11, 3) := by decide +kernel
theorem d_Cu_guard_6 : decode c_Cu_guard 6 = .ok (.aload_n 0, 1) := by decide +kernel
theorem d_Cu_guard_7 : decode c_Cu_guard 7 = .ok (.aload_n 0, 1) := by decide +kernel
theorem d_Cu_guard_8 : decode c_Cu_guard 8 = .ok (.getfield 7, 3) := by decide +kernel
theorem d_Cu_guard_11 : decode c_Cu_guard 11 = .ok (.invokevirtual 56, 3) := by decide +kernel
theorem d_Cu_guard_14 : decode c_Cu_guard 14 = .ok (.return_, 1) := by decide +kernel
theorem d_Cu_boundName_0 : decode c_Cu_boundName 0 = .ok (.aload_n 0, 1) := by decide +kernel
theorem d_Cu_boundName_1 : decode c_Cu_boundName 1 = .ok (.getfield 25, 3) := by decide +kernel
theorem d_Cu_boundName_4 : decode c_Cu_boundName 4 = .ok (.aload_n 0, 1) := by decide +kernel
theorem d_Cu_boundName_5 : decode c_Cu_boundName 5 = .ok (.getfield 7, 3) := by decide +kernel
theorem d_Cu_boundName_8 : decode c_Cu_boundName 8 = .ok (.invokevirtual 60, 3) := by decide +kernel
theorem d_Cu_boundName_11 : decode c_Cu_boundName 11 = .ok (.istore_n 1, 1) := by decide +kernel
theorem d_Cu_boundName_12 : decode c_Cu_boundName 12 = .ok (.aload_n 0, 1) := by decide +kernel
theorem d_Cu_boundName_13 : decode c_Cu_boundName 13 = .ok (.getfield 21, 3) := by decide +kernel
theorem d_Cu_boundName_16 : decode c_Cu_boundName 16 = .ok (.getfield 48, 3) := by decide +kernel
theorem d_Cu_boundName_19 : decode c_Cu_boundName 19 = .ok (.ifCond .eq 14, 3) := by decide +kernel
theorem d_Cu_boundName_22 : decode c_Cu_boundName 22 = .ok (.iload_n 1, 1) := by decide +kernel
theorem d_Cu_boundName_23 : decode c_Cu_boundName 23 = .ok (.invokestatic 63, 3) := by decide +kernel
theorem d_Cu_boundName_26 : decode c_Cu_boundName 26 = .ok (.ifCond .eq 7, 3) := by decide +kernel
theorem d_Cu_boundName_29 : decode c_Cu_boundName 29 = .ok (.iconst 1, 1) := by decide +kernel
theorem d_Cu_boundName_30 : decode c_Cu_boundName 30 = .ok (.goto 4, 3) := by decide +kernel
theorem d_Cu_boundName_33 : decode c_Cu_boundName 33 = .ok (.iconst 0, 1) := by decide +kernel
theorem d_Cu_boundName_34 : decode c_Cu_boundName 34 = .ok (.istore_n 2, 1) := by decide +kernel
theorem d_Cu_boundName_35 : decode c_Cu_boundName 35 = .ok (.iload_n 2, 1) := by decide +kernel
theorem d_Cu_boundName_36 : decode c_Cu_boundName 36 = .ok (.ifCond .ne 24, 3) := by decide +kernel
theorem d_Cu_boundName_39 : decode c_Cu_boundName 39 = .ok (.aload_n 0, 1) := by decide +kernel
theorem d_Cu_boundName_40 : decode c_Cu_boundName 40 = .ok (.getfield 25, 3) := by decide +kernel
theorem d_Cu_boundName_43 : decode c_Cu_boundName 43 = .ok (.aload_n 0, 1) := by decide +kernel
theorem d_Cu_boundName_44 : decode c_Cu_boundName 44 = .ok (.getfield 7, 3) := by decide +kernel
theorem d_Cu_boundName_47 : decode c_Cu_boundName 47 = .ok (.aload_n 0, 1) := by decide +kernel
theorem d_Cu_boundName_48 : decode c_Cu_boundName 48 = .ok (.getfield 21, 3) := by decide +kernel
theorem d_Cu_boundName_51 : decode c_Cu_boundName 51 = .ok (.getfield 48, 3) := by decide +kernel
theorem d_Cu_boundName_54 : decode c_Cu_boundName 54 = .ok (.invokevirtual 52, 3) := by decide +kernel
theorem d_Cu_boundName_57 : decode c_Cu_boundName 57 = .ok (.ifCond .ne 11, 3) := by decide +kernel
theorem d_Cu_boundName_60 : decode c_Cu_boundName 60 = .ok (.aload_n 0, 1) := by decide +kernel
theorem d_Cu_boundName_61 : decode c_Cu_boundName 61 = .ok (.aload_n 0, 1) := by decide +kernel
theorem d_Cu_boundName_62 : decode c_Cu_boundName 62 = .ok (.getfield 7, 3) := by decide +kernel
theorem d_Cu_boundName_65 : decode c_Cu_boundName 65 = .ok (.invokevirtual 56, 3) := by decide +kernel
theorem d_Cu_boundName_68 : decode c_Cu_boundName 68 = .ok (.aload_n 0, 1) := by decide +kernel
theorem d_Cu_boundName_69 : decode c_Cu_boundName 69 = .ok (.dup, 1) := by decide +kernel
theorem d_Cu_boundName_70 : decode c_Cu_boundName 70 = .ok (.getfield 7, 3) := by decide +kernel
theorem d_Cu_boundName_73 : decode c_Cu_boundName 73 = .ok (.iconst 1, 1) := by decide +kernel
theorem d_Cu_boundName_74 : decode c_Cu_boundName 74 = .ok (.iadd, 1) := by decide +kernel
theorem d_Cu_boundName_75 : decode c_Cu_boundName 75 = .ok (.putfield 7, 3) := by decide +kernel
theorem d_Cu_boundName_78 : decode c_Cu_boundName 78 = .ok (.iload_n 1, 1) := by decide +kernel
theorem d_Cu_boundName_79 : decode c_Cu_boundName 79 = .ok (.ireturn, 1) := by decide +kernel
theorem d_Cu_statementEnds_0 : decode c_Cu_statementEnds 0 = .ok (.aload_n 0, 1) := by decide +kernel
theorem d_Cu_statementEnds_1 : decode c_Cu_statementEnds 1 = .ok (.getfield 25, 3) := by decide +kernel
theorem d_Cu_statementEnds_4 : decode c_Cu_statementEnds 4 = .ok (.aload_n 0, 1) := by decide +kernel
theorem d_Cu_statementEnds_5 : decode c_Cu_statementEnds 5 = .ok (.getfield 7, 3) := by decide +kernel
theorem d_Cu_statementEnds_8 : decode c_Cu_statementEnds 8 = .ok (.invokevirtual 42, 3) := by decide +kernel
theorem d_Cu_statementEnds_11 : decode c_Cu_statementEnds 11 = .ok (.istore_n 1, 1) := by decide +kernel
theorem d_Cu_statementEnds_12 : decode c_Cu_statementEnds 12 = .ok (.aload_n 0, 1) := by decide +kernel
theorem d_Cu_statementEnds_13 : decode c_Cu_statementEnds 13 = .ok (.getfield 25, 3) := by decide +kernel
theorem d_Cu_statementEnds_16 : decode c_Cu_statementEnds 16 = .ok (.aload_n 0, 1) := by decide +kernel
theorem d_Cu_statementEnds_17 : decode c_Cu_statementEnds 17 = .ok (.getfield 7, 3) := by decide +kernel
theorem d_Cu_statementEnds_20 : decode c_Cu_statementEnds 20 = .ok (.invokevirtual 36, 3) := by decide +kernel
theorem d_Cu_statementEnds_23 : decode c_Cu_statementEnds 23 = .ok (.ifCond .ne 7, 3) := by decide +kernel
theorem d_Cu_statementEnds_26 : decode c_Cu_statementEnds 26 = .ok (.iconst 1, 1) := by decide +kernel
theorem d_Cu_statementEnds_27 : decode c_Cu_statementEnds 27 = .ok (.goto 4, 3) := by decide +kernel
theorem d_Cu_statementEnds_30 : decode c_Cu_statementEnds 30 = .ok (.iconst 0, 1) := by decide +kernel
theorem d_Cu_statementEnds_31 : decode c_Cu_statementEnds 31 = .ok (.istore_n 2, 1) := by decide +kernel
theorem d_Cu_statementEnds_32 : decode c_Cu_statementEnds 32 = .ok (.iload_n 1, 1) := by decide +kernel
theorem d_Cu_statementEnds_33 : decode c_Cu_statementEnds 33 = .ok (.bipush 67, 2) := by decide +kernel
theorem d_Cu_statementEnds_35 : decode c_Cu_statementEnds 35 = .ok (.if_icmp .eq 27, 3) := by decide +kernel
theorem d_Cu_statementEnds_38 : decode c_Cu_statementEnds 38 = .ok (.iload_n 1, 1) := by decide +kernel
theorem d_Cu_statementEnds_39 : decode c_Cu_statementEnds 39 = .ok (.bipush 65, 2) := by decide +kernel
theorem d_Cu_statementEnds_41 : decode c_Cu_statementEnds 41 = .ok (.if_icmp .eq 21, 3) := by decide +kernel
theorem d_Cu_statementEnds_44 : decode c_Cu_statementEnds 44 = .ok (.iload_n 2, 1) := by decide +kernel
theorem d_Cu_statementEnds_45 : decode c_Cu_statementEnds 45 = .ok (.ifCond .ne 17, 3) := by decide +kernel
theorem d_Cu_statementEnds_48 : decode c_Cu_statementEnds 48 = .ok (.aload_n 0, 1) := by decide +kernel
theorem d_Cu_statementEnds_49 : decode c_Cu_statementEnds 49 = .ok (.getfield 25, 3) := by decide +kernel
theorem d_Cu_statementEnds_52 : decode c_Cu_statementEnds 52 = .ok (.aload_n 0, 1) := by decide +kernel
theorem d_Cu_statementEnds_53 : decode c_Cu_statementEnds 53 = .ok (.getfield 7, 3) := by decide +kernel
theorem d_Cu_statementEnds_56 : decode c_Cu_statementEnds 56 = .ok (.invokevirtual 69, 3) := by decide +kernel
theorem d_Cu_statementEnds_59 : decode c_Cu_statementEnds 59 = .ok (.ifCond .eq 7, 3) := by decide +kernel
theorem d_Cu_statementEnds_62 : decode c_Cu_statementEnds 62 = .ok (.iconst 1, 1) := by decide +kernel
theorem d_Cu_statementEnds_63 : decode c_Cu_statementEnds 63 = .ok (.goto 4, 3) := by decide +kernel
theorem d_Cu_statementEnds_66 : decode c_Cu_statementEnds 66 = .ok (.iconst 0, 1) := by decide +kernel
theorem d_Cu_statementEnds_67 : decode c_Cu_statementEnds 67 = .ok (.ireturn, 1) := by decide +kernel
theorem d_Cu_semicolon_0 : decode c_Cu_semicolon 0 = .ok (.aload_n 0, 1) := by decide +kernel
theorem d_Cu_semicolon_1 : decode c_Cu_semicolon 1 = .ok (.invokevirtual 72, 3) := by decide +kernel
theorem d_Cu_semicolon_4 : decode c_Cu_semicolon 4 = .ok (.ifCond .ne 11, 3) := by decide +kernel
theorem d_Cu_semicolon_7 : decode c_Cu_semicolon 7 = .ok (.aload_n 0, 1) := by decide +kernel
theorem d_Cu_semicolon_8 : decode c_Cu_semicolon 8 = .ok (.aload_n 0, 1) := by decide +kernel
theorem d_Cu_semicolon_9 : decode c_Cu_semicolon 9 = .ok (.getfield 7, 3) := by decide +kernel
theorem d_Cu_semicolon_12 : decode c_Cu_semicolon 12 = .ok (.invokevirtual 56, 3) := by decide +kernel
theorem d_Cu_semicolon_15 : decode c_Cu_semicolon 15 = .ok (.aload_n 0, 1) := by decide +kernel
theorem d_Cu_semicolon_16 : decode c_Cu_semicolon 16 = .ok (.bipush 67, 2) := by decide +kernel
theorem d_Cu_semicolon_18 : decode c_Cu_semicolon 18 = .ok (.invokevirtual 76, 3) := by decide +kernel
theorem d_Cu_semicolon_21 : decode c_Cu_semicolon 21 = .ok (.pop, 1) := by decide +kernel
theorem d_Cu_semicolon_22 : decode c_Cu_semicolon 22 = .ok (.return_, 1) := by decide +kernel
theorem d_Cu_nextArgument_0 : decode c_Cu_nextArgument 0 = .ok (.iload_n 1, 1) := by decide +kernel
theorem d_Cu_nextArgument_1 : decode c_Cu_nextArgument 1 = .ok (.ifCond .ne 18, 3) := by decide +kernel
theorem d_Cu_nextArgument_4 : decode c_Cu_nextArgument 4 = .ok (.aload_n 0, 1) := by decide +kernel
theorem d_Cu_nextArgument_5 : decode c_Cu_nextArgument 5 = .ok (.bipush 61, 2) := by decide +kernel
theorem d_Cu_nextArgument_7 : decode c_Cu_nextArgument 7 = .ok (.invokevirtual 76, 3) := by decide +kernel
theorem d_Cu_nextArgument_10 : decode c_Cu_nextArgument 10 = .ok (.ifCond .ne 7, 3) := by decide +kernel
theorem d_Cu_nextArgument_13 : decode c_Cu_nextArgument 13 = .ok (.iconst 1, 1) := by decide +kernel
theorem d_Cu_nextArgument_14 : decode c_Cu_nextArgument 14 = .ok (.goto 4, 3) := by decide +kernel
theorem d_Cu_nextArgument_17 : decode c_Cu_nextArgument 17 = .ok (.iconst 0, 1) := by decide +kernel
theorem d_Cu_nextArgument_18 : decode c_Cu_nextArgument 18 = .ok (.ireturn, 1) := by decide +kernel
theorem d_Cu_nextArgument_19 : decode c_Cu_nextArgument 19 = .ok (.aload_n 0, 1) := by decide +kernel
theorem d_Cu_nextArgument_20 : decode c_Cu_nextArgument 20 = .ok (.bipush 68, 2) := by decide +kernel
theorem d_Cu_nextArgument_22 : decode c_Cu_nextArgument 22 = .ok (.invokevirtual 76, 3) := by decide +kernel
theorem d_Cu_nextArgument_25 : decode c_Cu_nextArgument 25 = .ok (.ifCond .eq 5, 3) := by decide +kernel
theorem d_Cu_nextArgument_28 : decode c_Cu_nextArgument 28 = .ok (.iconst 1, 1) := by decide +kernel
theorem d_Cu_nextArgument_29 : decode c_Cu_nextArgument 29 = .ok (.ireturn, 1) := by decide +kernel
theorem d_Cu_nextArgument_30 : decode c_Cu_nextArgument 30 = .ok (.aload_n 0, 1) := by decide +kernel
theorem d_Cu_nextArgument_31 : decode c_Cu_nextArgument 31 = .ok (.bipush 61, 2) := by decide +kernel
theorem d_Cu_nextArgument_33 : decode c_Cu_nextArgument 33 = .ok (.invokevirtual 79, 3) := by decide +kernel
theorem d_Cu_nextArgument_36 : decode c_Cu_nextArgument 36 = .ok (.iconst 0, 1) := by decide +kernel
theorem d_Cu_nextArgument_37 : decode c_Cu_nextArgument 37 = .ok (.ireturn, 1) := by decide +kernel
theorem d_Cu_nextProperty_0 : decode c_Cu_nextProperty 0 = .ok (.aload_n 0, 1) := by decide +kernel
theorem d_Cu_nextProperty_1 : decode c_Cu_nextProperty 1 = .ok (.bipush 65, 2) := by decide +kernel
theorem d_Cu_nextProperty_3 : decode c_Cu_nextProperty 3 = .ok (.invokevirtual 76, 3) := by decide +kernel
theorem d_Cu_nextProperty_6 : decode c_Cu_nextProperty 6 = .ok (.ifCond .eq 5, 3) := by decide +kernel
theorem d_Cu_nextProperty_9 : decode c_Cu_nextProperty 9 = .ok (.iconst 0, 1) := by decide +kernel
theorem d_Cu_nextProperty_10 : decode c_Cu_nextProperty 10 = .ok (.ireturn, 1) := by decide +kernel
theorem d_Cu_nextProperty_11 : decode c_Cu_nextProperty 11 = .ok (.iload_n 1, 1) := by decide +kernel
theorem d_Cu_nextProperty_12 : decode c_Cu_nextProperty 12 = .ok (.ifCond .le 9, 3) := by decide +kernel
theorem d_Cu_nextProperty_15 : decode c_Cu_nextProperty 15 = .ok (.aload_n 0, 1) := by decide +kernel
theorem d_Cu_nextProperty_16 : decode c_Cu_nextProperty 16 = .ok (.bipush 68, 2) := by decide +kernel
theorem d_Cu_nextProperty_18 : decode c_Cu_nextProperty 18 = .ok (.invokevirtual 79, 3) := by decide +kernel
theorem d_Cu_nextProperty_21 : decode c_Cu_nextProperty 21 = .ok (.aload_n 0, 1) := by decide +kernel
theorem d_Cu_nextProperty_22 : decode c_Cu_nextProperty 22 = .ok (.bipush 65, 2) := by decide +kernel
theorem d_Cu_nextProperty_24 : decode c_Cu_nextProperty 24 = .ok (.invokevirtual 76, 3) := by decide +kernel
theorem d_Cu_nextProperty_27 : decode c_Cu_nextProperty 27 = .ok (.ifCond .ne 7, 3) := by decide +kernel
theorem d_Cu_nextProperty_30 : decode c_Cu_nextProperty 30 = .ok (.iconst 1, 1) := by decide +kernel
theorem d_Cu_nextProperty_31 : decode c_Cu_nextProperty 31 = .ok (.goto 4, 3) := by decide +kernel
theorem d_Cu_nextProperty_34 : decode c_Cu_nextProperty 34 = .ok (.iconst 0, 1) := by decide +kernel
theorem d_Cu_nextProperty_35 : decode c_Cu_nextProperty 35 = .ok (.ireturn, 1) := by decide +kernel
theorem d_Cu_wasTextAlone_0 : decode c_Cu_wasTextAlone 0 = .ok (.aload_n 0, 1) := by decide +kernel
theorem d_Cu_wasTextAlone_1 : decode c_Cu_wasTextAlone 1 = .ok (.getfield 7, 3) := by decide +kernel
theorem d_Cu_wasTextAlone_4 : decode c_Cu_wasTextAlone 4 = .ok (.iload_n 1, 1) := by decide +kernel
theorem d_Cu_wasTextAlone_5 : decode c_Cu_wasTextAlone 5 = .ok (.iconst 1, 1) := by decide +kernel
theorem d_Cu_wasTextAlone_6 : decode c_Cu_wasTextAlone 6 = .ok (.iadd, 1) := by decide +kernel
theorem d_Cu_wasTextAlone_7 : decode c_Cu_wasTextAlone 7 = .ok (.if_icmp .ne 7, 3) := by decide +kernel
theorem d_Cu_wasTextAlone_10 : decode c_Cu_wasTextAlone 10 = .ok (.iconst 1, 1) := by decide +kernel
theorem d_Cu_wasTextAlone_11 : decode c_Cu_wasTextAlone 11 = .ok (.goto 4, 3) := by decide +kernel
theorem d_Cu_wasTextAlone_14 : decode c_Cu_wasTextAlone 14 = .ok (.iconst 0, 1) := by decide +kernel
theorem d_Cu_wasTextAlone_15 : decode c_Cu_wasTextAlone 15 = .ok (.istore_n 2, 1) := by decide +kernel
theorem d_Cu_wasTextAlone_16 : decode c_Cu_wasTextAlone 16 = .ok (.aload_n 0, 1) := by decide +kernel
theorem d_Cu_wasTextAlone_17 : decode c_Cu_wasTextAlone 17 = .ok (.getfield 7, 3) := by decide +kernel
theorem d_Cu_wasTextAlone_20 : decode c_Cu_wasTextAlone 20 = .ok (.iload_n 1, 1) := by decide +kernel
theorem d_Cu_wasTextAlone_21 : decode c_Cu_wasTextAlone 21 = .ok (.iconst 2, 1) := by decide +kernel
theorem d_Cu_wasTextAlone_22 : decode c_Cu_wasTextAlone 22 = .ok (.iadd, 1) := by decide +kernel
theorem d_Cu_wasTextAlone_23 : decode c_Cu_wasTextAlone 23 = .ok (.if_icmp .ne 22, 3) := by decide +kernel
theorem d_Cu_wasTextAlone_26 : decode c_Cu_wasTextAlone 26 = .ok (.aload_n 0, 1) := by decide +kernel
theorem d_Cu_wasTextAlone_27 : decode c_Cu_wasTextAlone 27 = .ok (.getfield 25, 3) := by decide +kernel
theorem d_Cu_wasTextAlone_30 : decode c_Cu_wasTextAlone 30 = .ok (.iload_n 1, 1) := by decide +kernel
theorem d_Cu_wasTextAlone_31 : decode c_Cu_wasTextAlone 31 = .ok (.iconst 1, 1) := by decide +kernel
theorem d_Cu_wasTextAlone_32 : decode c_Cu_wasTextAlone 32 = .ok (.iadd, 1) := by decide +kernel
theorem d_Cu_wasTextAlone_33 : decode c_Cu_wasTextAlone 33 = .ok (.invokevirtual 42, 3) := by decide +kernel
theorem d_Cu_wasTextAlone_36 : decode c_Cu_wasTextAlone 36 = .ok (.bipush 67, 2) := by decide +kernel
theorem d_Cu_wasTextAlone_38 : decode c_Cu_wasTextAlone 38 = .ok (.if_icmp .ne 7, 3) := by decide +kernel
theorem d_Cu_wasTextAlone_41 : decode c_Cu_wasTextAlone 41 = .ok (.iconst 1, 1) := by decide +kernel
theorem d_Cu_wasTextAlone_42 : decode c_Cu_wasTextAlone 42 = .ok (.goto 4, 3) := by decide +kernel
theorem d_Cu_wasTextAlone_45 : decode c_Cu_wasTextAlone 45 = .ok (.iconst 0, 1) := by decide +kernel
theorem d_Cu_wasTextAlone_46 : decode c_Cu_wasTextAlone 46 = .ok (.istore_n 3, 1) := by decide +kernel
theorem d_Cu_wasTextAlone_47 : decode c_Cu_wasTextAlone 47 = .ok (.aload_n 0, 1) := by decide +kernel
theorem d_Cu_wasTextAlone_48 : decode c_Cu_wasTextAlone 48 = .ok (.getfield 25, 3) := by decide +kernel
theorem d_Cu_wasTextAlone_51 : decode c_Cu_wasTextAlone 51 = .ok (.iload_n 1, 1) := by decide +kernel
theorem d_Cu_wasTextAlone_52 : decode c_Cu_wasTextAlone 52 = .ok (.invokevirtual 36, 3) := by decide +kernel
theorem d_Cu_wasTextAlone_55 : decode c_Cu_wasTextAlone 55 = .ok (.iconst 3, 1) := by decide +kernel
theorem d_Cu_wasTextAlone_56 : decode c_Cu_wasTextAlone 56 = .ok (.if_icmp .ne 15, 3) := by decide +kernel
theorem d_Cu_wasTextAlone_59 : decode c_Cu_wasTextAlone 59 = .ok (.iload_n 2, 1) := by decide +kernel
theorem d_Cu_wasTextAlone_60 : decode c_Cu_wasTextAlone 60 = .ok (.ifCond .ne 7, 3) := by decide +kernel
theorem d_Cu_wasTextAlone_63 : decode c_Cu_wasTextAlone 63 = .ok (.iload_n 3, 1) := by decide +kernel
theorem d_Cu_wasTextAlone_64 : decode c_Cu_wasTextAlone 64 = .ok (.ifCond .eq 7, 3) := by decide +kernel
theorem d_Cu_wasTextAlone_67 : decode c_Cu_wasTextAlone 67 = .ok (.iconst 1, 1) := by decide +kernel
theorem d_Cu_wasTextAlone_68 : decode c_Cu_wasTextAlone 68 = .ok (.goto 4, 3) := by decide +kernel
theorem d_Cu_wasTextAlone_71 : decode c_Cu_wasTextAlone 71 = .ok (.iconst 0, 1) := by decide +kernel
theorem d_Cu_wasTextAlone_72 : decode c_Cu_wasTextAlone 72 = .ok (.ireturn, 1) := by decide +kernel
theorem d_Cu_binaryOperator_0 : decode c_Cu_binaryOperator 0 = .ok (.aload_n 0, 1) := by decide +kernel
theorem d_Cu_binaryOperator_1 : decode c_Cu_binaryOperator 1 = .ok (.bipush 14, 2) := by decide +kernel
theorem d_Cu_binaryOperator_3 : decode c_Cu_binaryOperator 3 = .ok (.invokevirtual 84, 3) := by decide +kernel
theorem d_Cu_binaryOperator_6 : decode c_Cu_binaryOperator 6 = .ok (.ifCond .eq 6, 3) := by decide +kernel
theorem d_Cu_binaryOperator_9 : decode c_Cu_binaryOperator 9 = .ok (.bipush 14, 2) := by decide +kernel
theorem d_Cu_binaryOperator_11 : decode c_Cu_binaryOperator 11 = .ok (.ireturn, 1) := by decide +kernel
theorem d_Cu_binaryOperator_12 : decode c_Cu_binaryOperator 12 = .ok (.iload_n 1, 1) := by decide +kernel
theorem d_Cu_binaryOperator_13 : decode c_Cu_binaryOperator 13 = .ok (.ifCond .eq 15, 3) := by decide +kernel
theorem d_Cu_binaryOperator_16 : decode c_Cu_binaryOperator 16 = .ok (.aload_n 0, 1) := by decide +kernel
theorem d_Cu_binaryOperator_17 : decode c_Cu_binaryOperator 17 = .ok (.bipush 13, 2) := by decide +kernel
theorem d_Cu_binaryOperator_19 : decode c_Cu_binaryOperator 19 = .ok (.invokevirtual 84, 3) := by decide +kernel
theorem d_Cu_binaryOperator_22 : decode c_Cu_binaryOperator 22 = .ok (.ifCond .eq 6, 3) := by decide +kernel
theorem d_Cu_binaryOperator_25 : decode c_Cu_binaryOperator 25 = .ok (.bipush 15, 2) := by decide +kernel
theorem d_Cu_binaryOperator_27 : decode c_Cu_binaryOperator 27 = .ok (.ireturn, 1) := by decide +kernel
theorem d_Cu_binaryOperator_28 : decode c_Cu_binaryOperator 28 = .ok (.aload_n 0, 1) := by decide +kernel
theorem d_Cu_binaryOperator_29 : decode c_Cu_binaryOperator 29 = .ok (.getfield 25, 3) := by decide +kernel
theorem d_Cu_binaryOperator_32 : decode c_Cu_binaryOperator 32 = .ok (.aload_n 0, 1) := by decide +kernel
theorem d_Cu_binaryOperator_33 : decode c_Cu_binaryOperator 33 = .ok (.getfield 7, 3) := by decide +kernel
theorem d_Cu_binaryOperator_36 : decode c_Cu_binaryOperator 36 = .ok (.invokevirtual 42, 3) := by decide +kernel
theorem d_Cu_binaryOperator_39 : decode c_Cu_binaryOperator 39 = .ok (.istore_n 2, 1) := by decide +kernel
theorem d_Cu_binaryOperator_40 : decode c_Cu_binaryOperator 40 = .ok (.iload_n 2, 1) := by decide +kernel
theorem d_Cu_binaryOperator_41 : decode c_Cu_binaryOperator 41 = .ok (.iconst 1, 1) := by decide +kernel
theorem d_Cu_binaryOperator_42 : decode c_Cu_binaryOperator 42 = .ok (.if_icmp .lt 13, 3) := by decide +kernel
theorem d_Cu_binaryOperator_45 : decode c_Cu_binaryOperator 45 = .ok (.iload_n 2, 1) := by decide +kernel
theorem d_Cu_binaryOperator_46 : decode c_Cu_binaryOperator 46 = .ok (.bipush 23, 2) := by decide +kernel
theorem d_Cu_binaryOperator_48 : decode c_Cu_binaryOperator 48 = .ok (.if_icmp .gt 7, 3) := by decide +kernel
theorem d_Cu_binaryOperator_51 : decode c_Cu_binaryOperator 51 = .ok (.iload_n 2, 1) := by decide +kernel
theorem d_Cu_binaryOperator_52 : decode c_Cu_binaryOperator 52 = .ok (.goto 4, 3) := by decide +kernel
theorem d_Cu_binaryOperator_55 : decode c_Cu_binaryOperator 55 = .ok (.iconst 0, 1) := by decide +kernel
theorem d_Cu_binaryOperator_56 : decode c_Cu_binaryOperator 56 = .ok (.ireturn, 1) := by decide +kernel
theorem d_La_init_0 : decode c_La_init 0 = .ok (.aload_n 0, 1) := by decide +kernel
theorem d_La_init_1 : decode c_La_init 1 = .ok (.invokespecial 1, 3) := by decide +kernel
theorem d_La_init_4 : decode c_La_init 4 = .ok (.aload_n 0, 1) := by decide +kernel
theorem d_La_init_5 : decode c_La_init 5 = .ok (.bipush 100, 2) := by decide +kernel
theorem d_La_init_7 : decode c_La_init 7 = .ok (.newarray .int, 2) := by decide +kernel
theorem d_La_init_9 : decode c_La_init 9 = .ok (.putfield 9, 3) := by decide +kernel
theorem d_La_init_12 : decode c_La_init 12 = .ok (.aload_n 0, 1) := by decide +kernel
theorem d_La_init_13 : decode c_La_init 13 = .ok (.bipush 100, 2) := by decide +kernel
theorem d_La_init_15 : decode c_La_init 15 = .ok (.newarray .boolean, 2) := by decide +kernel
theorem d_La_init_17 : decode c_La_init 17 = .ok (.putfield 15, 3) := by decide +kernel
theorem d_La_init_20 : decode c_La_init 20 = .ok (.aload_n 0, 1) := by decide +kernel
theorem d_La_init_21 : decode c_La_init 21 = .ok (.iconst 0, 1) := by decide +kernel
theorem d_La_init_22 : decode c_La_init 22 = .ok (.putfield 19, 3) := by decide +kernel
theorem d_La_init_25 : decode c_La_init 25 = .ok (.return_, 1) := by decide +kernel
theorem d_La_count_0 : decode c_La_count 0 = .ok (.aload_n 0, 1) := by decide +kernel
theorem d_La_count_1 : decode c_La_count 1 = .ok (.getfield 19, 3) := by decide +kernel
theorem d_La_count_4 : decode c_La_count 4 = .ok (.ireturn, 1) := by decide +kernel
theorem d_La_clear_0 : decode c_La_clear 0 = .ok (.aload_n 0, 1) := by decide +kernel
theorem d_La_clear_1 : decode c_La_clear 1 = .ok (.iconst 0, 1) := by decide +kernel
theorem d_La_clear_2 : decode c_La_clear 2 = .ok (.putfield 19, 3) := by decide +kernel
theorem d_La_clear_5 : decode c_La_clear 5 = .ok (.return_, 1) := by decide +kernel
