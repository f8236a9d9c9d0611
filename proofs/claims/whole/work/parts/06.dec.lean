theorem d_Mo_arguments_0 : decode c_Mo_arguments 0 = .ok (.aload_n 0, 1) := by decide +kernel
theorem d_Mo_arguments_1 : decode c_Mo_arguments 1 = .ok (.dup, 1) := by decide +kernel
theorem d_Mo_arguments_2 : decode c_Mo_arguments 2 = .ok (.getfield 84, 3) := by decide +kernel
theorem d_Mo_arguments_5 : decode c_Mo_arguments 5 = .ok (.iconst 1, 1) := by decide +kernel
theorem d_Mo_arguments_6 : decode c_Mo_arguments 6 = .ok (.iadd, 1) := by decide +kernel
theorem d_Mo_arguments_7 : decode c_Mo_arguments 7 = .ok (.putfield 84, 3) := by decide +kernel
theorem d_Mo_arguments_10 : decode c_Mo_arguments 10 = .ok (.aload_n 0, 1) := by decide +kernel
theorem d_Mo_arguments_11 : decode c_Mo_arguments 11 = .ok (.bipush 61, 2) := by decide +kernel
theorem d_Mo_arguments_13 : decode c_Mo_arguments 13 = .ok (.invokevirtual 90, 3) := by decide +kernel
theorem d_Mo_arguments_16 : decode c_Mo_arguments 16 = .ok (.ifCond .ne 7, 3) := by decide +kernel
theorem d_Mo_arguments_19 : decode c_Mo_arguments 19 = .ok (.iconst 1, 1) := by decide +kernel
theorem d_Mo_arguments_20 : decode c_Mo_arguments 20 = .ok (.goto 4, 3) := by decide +kernel
theorem d_Mo_arguments_23 : decode c_Mo_arguments 23 = .ok (.iconst 0, 1) := by decide +kernel
theorem d_Mo_arguments_24 : decode c_Mo_arguments 24 = .ok (.istore_n 3, 1) := by decide +kernel
theorem d_Mo_arguments_25 : decode c_Mo_arguments 25 = .ok (.iload_n 3, 1) := by decide +kernel
theorem d_Mo_arguments_26 : decode c_Mo_arguments 26 = .ok (.ifCond .eq 40, 3) := by decide +kernel
theorem d_Mo_arguments_29 : decode c_Mo_arguments 29 = .ok (.aload_n 0, 1) := by decide +kernel
theorem d_Mo_arguments_30 : decode c_Mo_arguments 30 = .ok (.iload_n 1, 1) := by decide +kernel
theorem d_Mo_arguments_31 : decode c_Mo_arguments 31 = .ok (.aload_n 0, 1) := by decide +kernel
theorem d_Mo_arguments_32 : decode c_Mo_arguments 32 = .ok (.iload_n 2, 1) := by decide +kernel
theorem d_Mo_arguments_33 : decode c_Mo_arguments 33 = .ok (.iconst 1, 1) := by decide +kernel
theorem d_Mo_arguments_34 : decode c_Mo_arguments 34 = .ok (.iadd, 1) := by decide +kernel
theorem d_Mo_arguments_35 : decode c_Mo_arguments 35 = .ok (.iconst 1, 1) := by decide +kernel
theorem d_Mo_arguments_36 : decode c_Mo_arguments 36 = .ok (.invokestatic 126, 3) := by decide +kernel
theorem d_Mo_arguments_39 : decode c_Mo_arguments 39 = .ok (.invokevirtual 119, 3) := by decide +kernel
theorem d_Mo_arguments_42 : decode c_Mo_arguments 42 = .ok (.aload_n 0, 1) := by decide +kernel
theorem d_Mo_arguments_43 : decode c_Mo_arguments 43 = .ok (.bipush 68, 2) := by decide +kernel
theorem d_Mo_arguments_45 : decode c_Mo_arguments 45 = .ok (.invokevirtual 90, 3) := by decide +kernel
theorem d_Mo_arguments_48 : decode c_Mo_arguments 48 = .ok (.istore_n 3, 1) := by decide +kernel
theorem d_Mo_arguments_49 : decode c_Mo_arguments 49 = .ok (.iload_n 3, 1) := by decide +kernel
theorem d_Mo_arguments_50 : decode c_Mo_arguments 50 = .ok (.ifCond .eq (-25), 3) := by decide +kernel
theorem d_Mo_arguments_53 : decode c_Mo_arguments 53 = .ok (.aload_n 0, 1) := by decide +kernel
theorem d_Mo_arguments_54 : decode c_Mo_arguments 54 = .ok (.dup, 1) := by decide +kernel
theorem d_Mo_arguments_55 : decode c_Mo_arguments 55 = .ok (.getfield 84, 3) := by decide +kernel
theorem d_Mo_arguments_58 : decode c_Mo_arguments 58 = .ok (.iconst 1, 1) := by decide +kernel
theorem d_Mo_arguments_59 : decode c_Mo_arguments 59 = .ok (.iadd, 1) := by decide +kernel
theorem d_Mo_arguments_60 : decode c_Mo_arguments 60 = .ok (.putfield 84, 3) := by decide +kernel
theorem d_Mo_arguments_63 : decode c_Mo_arguments 63 = .ok (.goto (-38), 3) := by decide +kernel
theorem d_Mo_arguments_66 : decode c_Mo_arguments 66 = .ok (.aload_n 0, 1) := by decide +kernel
theorem d_Mo_arguments_67 : decode c_Mo_arguments 67 = .ok (.bipush 61, 2) := by decide +kernel
theorem d_Mo_arguments_69 : decode c_Mo_arguments 69 = .ok (.invokevirtual 137, 3) := by decide +kernel
theorem d_Mo_arguments_72 : decode c_Mo_arguments 72 = .ok (.return_, 1) := by decide +kernel
theorem d_Mo_newOne_0 : decode c_Mo_newOne 0 = .ok (.aload_n 0, 1) := by decide +kernel
theorem d_Mo_newOne_1 : decode c_Mo_newOne 1 = .ok (.iload_n 1, 1) := by decide +kernel
theorem d_Mo_newOne_2 : decode c_Mo_newOne 2 = .ok (.invokevirtual 130, 3) := by decide +kernel
theorem d_Mo_newOne_5 : decode c_Mo_newOne 5 = .ok (.aload_n 0, 1) := by decide +kernel
theorem d_Mo_newOne_6 : decode c_Mo_newOne 6 = .ok (.bipush 39, 2) := by decide +kernel
theorem d_Mo_newOne_8 : decode c_Mo_newOne 8 = .ok (.iconst 0, 1) := by decide +kernel
theorem d_Mo_newOne_9 : decode c_Mo_newOne 9 = .ok (.aload_n 0, 1) := by decide +kernel
theorem d_Mo_newOne_10 : decode c_Mo_newOne 10 = .ok (.getfield 84, 3) := by decide +kernel
theorem d_Mo_newOne_13 : decode c_Mo_newOne 13 = .ok (.invokevirtual 115, 3) := by decide +kernel
theorem d_Mo_newOne_16 : decode c_Mo_newOne 16 = .ok (.istore_n 2, 1) := by decide +kernel
theorem d_Mo_newOne_17 : decode c_Mo_newOne 17 = .ok (.aload_n 0, 1) := by decide +kernel
theorem d_Mo_newOne_18 : decode c_Mo_newOne 18 = .ok (.dup, 1) := by decide +kernel
theorem d_Mo_newOne_19 : decode c_Mo_newOne 19 = .ok (.getfield 84, 3) := by decide +kernel
theorem d_Mo_newOne_22 : decode c_Mo_newOne 22 = .ok (.iconst 1, 1) := by decide +kernel
theorem d_Mo_newOne_23 : decode c_Mo_newOne 23 = .ok (.iadd, 1) := by decide +kernel
theorem d_Mo_newOne_24 : decode c_Mo_newOne 24 = .ok (.putfield 84, 3) := by decide +kernel
theorem d_Mo_newOne_27 : decode c_Mo_newOne 27 = .ok (.aload_n 0, 1) := by decide +kernel
theorem d_Mo_newOne_28 : decode c_Mo_newOne 28 = .ok (.iload_n 1, 1) := by decide +kernel
theorem d_Mo_newOne_29 : decode c_Mo_newOne 29 = .ok (.iconst 1, 1) := by decide +kernel
theorem d_Mo_newOne_30 : decode c_Mo_newOne 30 = .ok (.iadd, 1) := by decide +kernel
theorem d_Mo_newOne_31 : decode c_Mo_newOne 31 = .ok (.invokevirtual 130, 3) := by decide +kernel
theorem d_Mo_newOne_34 : decode c_Mo_newOne 34 = .ok (.aload_n 0, 1) := by decide +kernel
theorem d_Mo_newOne_35 : decode c_Mo_newOne 35 = .ok (.iload_n 2, 1) := by decide +kernel
theorem d_Mo_newOne_36 : decode c_Mo_newOne 36 = .ok (.aload_n 0, 1) := by decide +kernel
theorem d_Mo_newOne_37 : decode c_Mo_newOne 37 = .ok (.iload_n 1, 1) := by decide +kernel
theorem d_Mo_newOne_38 : decode c_Mo_newOne 38 = .ok (.iconst 1, 1) := by decide +kernel
theorem d_Mo_newOne_39 : decode c_Mo_newOne 39 = .ok (.iadd, 1) := by decide +kernel
theorem d_Mo_newOne_40 : decode c_Mo_newOne 40 = .ok (.iconst 0, 1) := by decide +kernel
theorem d_Mo_newOne_41 : decode c_Mo_newOne 41 = .ok (.invokestatic 164, 3) := by decide +kernel
theorem d_Mo_newOne_44 : decode c_Mo_newOne 44 = .ok (.invokevirtual 119, 3) := by decide +kernel
theorem d_Mo_newOne_47 : decode c_Mo_newOne 47 = .ok (.aload_n 0, 1) := by decide +kernel
theorem d_Mo_newOne_48 : decode c_Mo_newOne 48 = .ok (.bipush 60, 2) := by decide +kernel
theorem d_Mo_newOne_50 : decode c_Mo_newOne 50 = .ok (.invokevirtual 90, 3) := by decide +kernel
theorem d_Mo_newOne_53 : decode c_Mo_newOne 53 = .ok (.ifCond .eq 9, 3) := by decide +kernel
theorem d_Mo_newOne_56 : decode c_Mo_newOne 56 = .ok (.aload_n 0, 1) := by decide +kernel
theorem d_Mo_newOne_57 : decode c_Mo_newOne 57 = .ok (.iload_n 2, 1) := by decide +kernel
theorem d_Mo_newOne_58 : decode c_Mo_newOne 58 = .ok (.iload_n 1, 1) := by decide +kernel
theorem d_Mo_newOne_59 : decode c_Mo_newOne 59 = .ok (.invokestatic 176, 3) := by decide +kernel
theorem d_Mo_newOne_62 : decode c_Mo_newOne 62 = .ok (.iload_n 2, 1) := by decide +kernel
theorem d_Mo_newOne_63 : decode c_Mo_newOne 63 = .ok (.ireturn, 1) := by decide +kernel
theorem d_Mo_literal_0 : decode c_Mo_literal 0 = .ok (.aload_n 0, 1) := by decide +kernel
theorem d_Mo_literal_1 : decode c_Mo_literal 1 = .ok (.iload_n 1, 1) := by decide +kernel
theorem d_Mo_literal_2 : decode c_Mo_literal 2 = .ok (.aload_n 0, 1) := by decide +kernel
theorem d_Mo_literal_3 : decode c_Mo_literal 3 = .ok (.getfield 180, 3) := by decide +kernel
theorem d_Mo_literal_6 : decode c_Mo_literal 6 = .ok (.aload_n 0, 1) := by decide +kernel
theorem d_Mo_literal_7 : decode c_Mo_literal 7 = .ok (.getfield 84, 3) := by decide +kernel
theorem d_Mo_literal_10 : decode c_Mo_literal 10 = .ok (.invokevirtual 115, 3) := by decide +kernel
theorem d_Mo_literal_13 : decode c_Mo_literal 13 = .ok (.istore_n 2, 1) := by decide +kernel
theorem d_Mo_literal_14 : decode c_Mo_literal 14 = .ok (.aload_n 0, 1) := by decide +kernel
theorem d_Mo_literal_15 : decode c_Mo_literal 15 = .ok (.dup, 1) := by decide +kernel
theorem d_Mo_literal_16 : decode c_Mo_literal 16 = .ok (.getfield 180, 3) := by decide +kernel
theorem d_Mo_literal_19 : decode c_Mo_literal 19 = .ok (.iconst 1, 1) := by decide +kernel
theorem d_Mo_literal_20 : decode c_Mo_literal 20 = .ok (.iadd, 1) := by decide +kernel
theorem d_Mo_literal_21 : decode c_Mo_literal 21 = .ok (.putfield 180, 3) := by decide +kernel
theorem d_Mo_literal_24 : decode c_Mo_literal 24 = .ok (.aload_n 0, 1) := by decide +kernel
theorem d_Mo_literal_25 : decode c_Mo_literal 25 = .ok (.dup, 1) := by decide +kernel
theorem d_Mo_literal_26 : decode c_Mo_literal 26 = .ok (.getfield 84, 3) := by decide +kernel
theorem d_Mo_literal_29 : decode c_Mo_literal 29 = .ok (.iconst 1, 1) := by decide +kernel
theorem d_Mo_literal_30 : decode c_Mo_literal 30 = .ok (.iadd, 1) := by decide +kernel
theorem d_Mo_literal_31 : decode c_Mo_literal 31 = .ok (.putfield 84, 3) := by decide +kernel
theorem d_Mo_literal_34 : decode c_Mo_literal 34 = .ok (.iload_n 2, 1) := by decide +kernel
theorem d_Mo_literal_35 : decode c_Mo_literal 35 = .ok (.ireturn, 1) := by decide +kernel
theorem d_Mo_plain_0 : decode c_Mo_plain 0 = .ok (.aload_n 0, 1) := by decide +kernel
theorem d_Mo_plain_1 : decode c_Mo_plain 1 = .ok (.dup, 1) := by decide +kernel
theorem d_Mo_plain_2 : decode c_Mo_plain 2 = .ok (.getfield 84, 3) := by decide +kernel
theorem d_Mo_plain_5 : decode c_Mo_plain 5 = .ok (.iconst 1, 1) := by decide +kernel
theorem d_Mo_plain_6 : decode c_Mo_plain 6 = .ok (.iadd, 1) := by decide +kernel
theorem d_Mo_plain_7 : decode c_Mo_plain 7 = .ok (.putfield 84, 3) := by decide +kernel
theorem d_Mo_plain_10 : decode c_Mo_plain 10 = .ok (.aload_n 0, 1) := by decide +kernel
theorem d_Mo_plain_11 : decode c_Mo_plain 11 = .ok (.iload_n 1, 1) := by decide +kernel
theorem d_Mo_plain_12 : decode c_Mo_plain 12 = .ok (.iconst 0, 1) := by decide +kernel
theorem d_Mo_plain_13 : decode c_Mo_plain 13 = .ok (.aload_n 0, 1) := by decide +kernel
theorem d_Mo_plain_14 : decode c_Mo_plain 14 = .ok (.getfield 84, 3) := by decide +kernel
theorem d_Mo_plain_17 : decode c_Mo_plain 17 = .ok (.iconst 1, 1) := by decide +kernel
theorem d_Mo_plain_18 : decode c_Mo_plain 18 = .ok (.isub, 1) := by decide +kernel
theorem d_Mo_plain_19 : decode c_Mo_plain 19 = .ok (.invokevirtual 115, 3) := by decide +kernel
theorem d_Mo_plain_22 : decode c_Mo_plain 22 = .ok (.ireturn, 1) := by decide +kernel
theorem d_Mo_primary_0 : decode c_Mo_primary 0 = .ok (.aload_n 0, 1) := by decide +kernel
theorem d_Mo_primary_1 : decode c_Mo_primary 1 = .ok (.iload_n 1, 1) := by decide +kernel
theorem d_Mo_primary_2 : decode c_Mo_primary 2 = .ok (.invokevirtual 130, 3) := by decide +kernel
theorem d_Mo_primary_5 : decode c_Mo_primary 5 = .ok (.aload_n 0, 1) := by decide +kernel
theorem d_Mo_primary_6 : decode c_Mo_primary 6 = .ok (.iconst 2, 1) := by decide +kernel
theorem d_Mo_primary_7 : decode c_Mo_primary 7 = .ok (.invokevirtual 87, 3) := by decide +kernel
theorem d_Mo_primary_10 : decode c_Mo_primary 10 = .ok (.ifCond .eq 10, 3) := by decide +kernel
theorem d_Mo_primary_13 : decode c_Mo_primary 13 = .ok (.aload_n 0, 1) := by decide +kernel
theorem d_Mo_primary_14 : decode c_Mo_primary 14 = .ok (.bipush 29, 2) := by decide +kernel
theorem d_Mo_primary_16 : decode c_Mo_primary 16 = .ok (.invokevirtual 183, 3) := by decide +kernel
theorem d_Mo_primary_19 : decode c_Mo_primary 19 = .ok (.ireturn, 1) := by decide +kernel
theorem d_Mo_primary_20 : decode c_Mo_primary 20 = .ok (.aload_n 0, 1) := by decide +kernel
theorem d_Mo_primary_21 : decode c_Mo_primary 21 = .ok (.iconst 3, 1) := by decide +kernel
theorem d_Mo_primary_22 : decode c_Mo_primary 22 = .ok (.invokevirtual 87, 3) := by decide +kernel
theorem d_Mo_primary_25 : decode c_Mo_primary 25 = .ok (.ifCond .eq 10, 3) := by decide +kernel
theorem d_Mo_primary_28 : decode c_Mo_primary 28 = .ok (.aload_n 0, 1) := by decide +kernel
theorem d_Mo_primary_29 : decode c_Mo_primary 29 = .ok (.bipush 30, 2) := by decide +kernel
theorem d_Mo_primary_31 : decode c_Mo_primary 31 = .ok (.invokevirtual 183, 3) := by decide +kernel
theorem d_Mo_primary_34 : decode c_Mo_primary 34 = .ok (.ireturn, 1) := by decide +kernel
theorem d_Mo_primary_35 : decode c_Mo_primary 35 = .ok (.aload_n 0, 1) := by decide +kernel
theorem d_Mo_primary_36 : decode c_Mo_primary 36 = .ok (.iconst 5, 1) := by decide +kernel
theorem d_Mo_primary_37 : decode c_Mo_primary 37 = .ok (.invokevirtual 87, 3) := by decide +kernel
theorem d_Mo_primary_40 : decode c_Mo_primary 40 = .ok (.ifCond .eq 10, 3) := by decide +kernel
theorem d_Mo_primary_43 : decode c_Mo_primary 43 = .ok (.aload_n 0, 1) := by decide +kernel
theorem d_Mo_primary_44 : decode c_Mo_primary 44 = .ok (.bipush 31, 2) := by decide +kernel
theorem d_Mo_primary_46 : decode c_Mo_primary 46 = .ok (.invokevirtual 183, 3) := by decide +kernel
theorem d_Mo_primary_49 : decode c_Mo_primary 49 = .ok (.ireturn, 1) := by decide +kernel
theorem d_Mo_primary_50 : decode c_Mo_primary 50 = .ok (.aload_n 0, 1) := by decide +kernel
theorem d_Mo_primary_51 : decode c_Mo_primary 51 = .ok (.bipush 18, 2) := by decide +kernel
theorem d_Mo_primary_53 : decode c_Mo_primary 53 = .ok (.invokevirtual 143, 3) := by decide +kernel
theorem d_Mo_primary_56 : decode c_Mo_primary 56 = .ok (.ifCond .eq 10, 3) := by decide +kernel
theorem d_Mo_primary_59 : decode c_Mo_primary 59 = .ok (.aload_n 0, 1) := by decide +kernel
theorem d_Mo_primary_60 : decode c_Mo_primary 60 = .ok (.bipush 27, 2) := by decide +kernel
theorem d_Mo_primary_62 : decode c_Mo_primary 62 = .ok (.invokevirtual 186, 3) := by decide +kernel
theorem d_Mo_primary_65 : decode c_Mo_primary 65 = .ok (.ireturn, 1) := by decide +kernel
theorem d_Mo_primary_66 : decode c_Mo_primary 66 = .ok (.aload_n 0, 1) := by decide +kernel
theorem d_Mo_primary_67 : decode c_Mo_primary 67 = .ok (.bipush 27, 2) := by decide +kernel
theorem d_Mo_primary_69 : decode c_Mo_primary 69 = .ok (.invokevirtual 143, 3) := by decide +kernel
theorem d_Mo_primary_72 : decode c_Mo_primary 72 = .ok (.ifCond .eq 10, 3) := by decide +kernel
theorem d_Mo_primary_75 : decode c_Mo_primary 75 = .ok (.aload_n 0, 1) := by decide +kernel
theorem d_Mo_primary_76 : decode c_Mo_primary 76 = .ok (.bipush 32, 2) := by decide +kernel
theorem d_Mo_primary_78 : decode c_Mo_primary 78 = .ok (.invokevirtual 186, 3) := by decide +kernel
theorem d_Mo_primary_81 : decode c_Mo_primary 81 = .ok (.ireturn, 1) := by decide +kernel
theorem d_Mo_primary_82 : decode c_Mo_primary 82 = .ok (.aload_n 0, 1) := by decide +kernel
theorem d_Mo_primary_83 : decode c_Mo_primary 83 = .ok (.bipush 28, 2) := by decide +kernel
theorem d_Mo_primary_85 : decode c_Mo_primary 85 = .ok (.invokevirtual 143, 3) := by decide +kernel
theorem d_Mo_primary_88 : decode c_Mo_primary 88 = .ok (.ifCond .eq 10, 3) := by decide +kernel
theorem d_Mo_primary_91 : decode c_Mo_primary 91 = .ok (.aload_n 0, 1) := by decide +kernel
theorem d_Mo_primary_92 : decode c_Mo_primary 92 = .ok (.bipush 33, 2) := by decide +kernel
theorem d_Mo_primary_94 : decode c_Mo_primary 94 = .ok (.invokevirtual 186, 3) := by decide +kernel
theorem d_Mo_primary_97 : decode c_Mo_primary 97 = .ok (.ireturn, 1) := by decide +kernel
theorem d_Mo_primary_98 : decode c_Mo_primary 98 = .ok (.aload_n 0, 1) := by decide +kernel
theorem d_Mo_primary_99 : decode c_Mo_primary 99 = .ok (.bipush 26, 2) := by decide +kernel
theorem d_Mo_primary_101 : decode c_Mo_primary 101 = .ok (.invokevirtual 143, 3) := by decide +kernel
theorem d_Mo_primary_104 : decode c_Mo_primary 104 = .ok (.ifCond .eq 10, 3) := by decide +kernel
theorem d_Mo_primary_107 : decode c_Mo_primary 107 = .ok (.aload_n 0, 1) := by decide +kernel
theorem d_Mo_primary_108 : decode c_Mo_primary 108 = .ok (.bipush 34, 2) := by decide +kernel
theorem d_Mo_primary_110 : decode c_Mo_primary 110 = .ok (.invokevirtual 186, 3) := by decide +kernel
theorem d_Mo_primary_113 : decode c_Mo_primary 113 = .ok (.ireturn, 1) := by decide +kernel
theorem d_Mo_primary_114 : decode c_Mo_primary 114 = .ok (.aload_n 0, 1) := by decide +kernel
theorem d_Mo_primary_115 : decode c_Mo_primary 115 = .ok (.bipush 11, 2) := by decide +kernel
theorem d_Mo_primary_117 : decode c_Mo_primary 117 = .ok (.invokevirtual 143, 3) := by decide +kernel
theorem d_Mo_primary_120 : decode c_Mo_primary 120 = .ok (.ifCond .eq 11, 3) := by decide +kernel
theorem d_Mo_primary_123 : decode c_Mo_primary 123 = .ok (.aload_n 0, 1) := by decide +kernel
theorem d_Mo_primary_124 : decode c_Mo_primary 124 = .ok (.bipush 50, 2) := by decide +kernel
theorem d_Mo_primary_126 : decode c_Mo_primary 126 = .ok (.iload_n 1, 1) := by decide +kernel
theorem d_Mo_primary_127 : decode c_Mo_primary 127 = .ok (.invokestatic 189, 3) := by decide +kernel
theorem d_Mo_primary_130 : decode c_Mo_primary 130 = .ok (.ireturn, 1) := by decide +kernel
theorem d_Mo_primary_131 : decode c_Mo_primary 131 = .ok (.aload_n 0, 1) := by decide +kernel
theorem d_Mo_primary_132 : decode c_Mo_primary 132 = .ok (.bipush 62, 2) := by decide +kernel
theorem d_Mo_primary_134 : decode c_Mo_primary 134 = .ok (.invokevirtual 90, 3) := by decide +kernel
theorem d_Mo_primary_137 : decode c_Mo_primary 137 = .ok (.ifCond .eq 9, 3) := by decide +kernel
theorem d_Mo_primary_140 : decode c_Mo_primary 140 = .ok (.aload_n 0, 1) := by decide +kernel
theorem d_Mo_primary_141 : decode c_Mo_primary 141 = .ok (.iload_n 1, 1) := by decide +kernel
theorem d_Mo_primary_142 : decode c_Mo_primary 142 = .ok (.invokestatic 193, 3) := by decide +kernel
theorem d_Mo_primary_145 : decode c_Mo_primary 145 = .ok (.ireturn, 1) := by decide +kernel
theorem d_Mo_primary_146 : decode c_Mo_primary 146 = .ok (.aload_n 0, 1) := by decide +kernel
theorem d_Mo_primary_147 : decode c_Mo_primary 147 = .ok (.bipush 64, 2) := by decide +kernel
theorem d_Mo_primary_149 : decode c_Mo_primary 149 = .ok (.invokevirtual 90, 3) := by decide +kernel
theorem d_Mo_primary_152 : decode c_Mo_primary 152 = .ok (.ifCond .eq 9, 3) := by decide +kernel
theorem d_Mo_primary_155 : decode c_Mo_primary 155 = .ok (.aload_n 0, 1) := by decide +kernel
theorem d_Mo_primary_156 : decode c_Mo_primary 156 = .ok (.iload_n 1, 1) := by decide +kernel
theorem d_Mo_primary_157 : decode c_Mo_primary 157 = .ok (.invokestatic 196, 3) := by decide +kernel
theorem d_Mo_primary_160 : decode c_Mo_primary 160 = .ok (.ireturn, 1) := by decide +kernel
theorem d_Mo_primary_161 : decode c_Mo_primary 161 = .ok (.aload_n 0, 1) := by decide +kernel
theorem d_Mo_primary_162 : decode c_Mo_primary 162 = .ok (.bipush 60, 2) := by decide +kernel
theorem d_Mo_primary_164 : decode c_Mo_primary 164 = .ok (.invokevirtual 90, 3) := by decide +kernel
theorem d_Mo_primary_167 : decode c_Mo_primary 167 = .ok (.ifCond .eq 30, 3) := by decide +kernel
theorem d_Mo_primary_170 : decode c_Mo_primary 170 = .ok (.aload_n 0, 1) := by decide +kernel
theorem d_Mo_primary_171 : decode c_Mo_primary 171 = .ok (.dup, 1) := by decide +kernel
theorem d_Mo_primary_172 : decode c_Mo_primary 172 = .ok (.getfield 84, 3) := by decide +kernel
theorem d_Mo_primary_175 : decode c_Mo_primary 175 = .ok (.iconst 1, 1) := by decide +kernel
theorem d_Mo_primary_176 : decode c_Mo_primary 176 = .ok (.iadd, 1) := by decide +kernel
theorem d_Mo_primary_177 : decode c_Mo_primary 177 = .ok (.putfield 84, 3) := by decide +kernel
theorem d_Mo_primary_180 : decode c_Mo_primary 180 = .ok (.aload_n 0, 1) := by decide +kernel
theorem d_Mo_primary_181 : decode c_Mo_primary 181 = .ok (.iload_n 1, 1) := by decide +kernel
theorem d_Mo_primary_182 : decode c_Mo_primary 182 = .ok (.iconst 1, 1) := by decide +kernel
theorem d_Mo_primary_183 : decode c_Mo_primary 183 = .ok (.iadd, 1) := by decide +kernel
theorem d_Mo_primary_184 : decode c_Mo_primary 184 = .ok (.iconst 1, 1) := by decide +kernel
theorem d_Mo_primary_185 : decode c_Mo_primary 185 = .ok (.invokestatic 173, 3) := by decide +kernel
theorem d_Mo_primary_188 : decode c_Mo_primary 188 = .ok (.istore_n 2, 1) := by decide +kernel
theorem d_Mo_primary_189 : decode c_Mo_primary 189 = .ok (.aload_n 0, 1) := by decide +kernel
theorem d_Mo_primary_190 : decode c_Mo_primary 190 = .ok (.bipush 61, 2) := by decide +kernel
theorem d_Mo_primary_192 : decode c_Mo_primary 192 = .ok (.invokevirtual 137, 3) := by decide +kernel
theorem d_Mo_primary_195 : decode c_Mo_primary 195 = .ok (.iload_n 2, 1) := by decide +kernel
theorem d_Mo_primary_196 : decode c_Mo_primary 196 = .ok (.ireturn, 1) := by decide +kernel
theorem d_Mo_primary_197 : decode c_Mo_primary 197 = .ok (.aload_n 0, 1) := by decide +kernel
theorem d_Mo_primary_198 : decode c_Mo_primary 198 = .ok (.getfield 84, 3) := by decide +kernel
theorem d_Mo_primary_201 : decode c_Mo_primary 201 = .ok (.istore_n 2, 1) := by decide +kernel
theorem d_Mo_primary_202 : decode c_Mo_primary 202 = .ok (.aload_n 0, 1) := by decide +kernel
theorem d_Mo_primary_203 : decode c_Mo_primary 203 = .ok (.bipush 28, 2) := by decide +kernel
theorem d_Mo_primary_205 : decode c_Mo_primary 205 = .ok (.aload_n 0, 1) := by decide +kernel
theorem d_Mo_primary_206 : decode c_Mo_primary 206 = .ok (.invokevirtual 105, 3) := by decide +kernel
theorem d_Mo_primary_209 : decode c_Mo_primary 209 = .ok (.iload_n 2, 1) := by decide +kernel
theorem d_Mo_primary_210 : decode c_Mo_primary 210 = .ok (.invokevirtual 115, 3) := by decide +kernel
theorem d_Mo_primary_213 : decode c_Mo_primary 213 = .ok (.ireturn, 1) := by decide +kernel
theorem d_Mo_array_0 : decode c_Mo_array 0 = .ok (.aload_n 0, 1) := by decide +kernel
theorem d_Mo_array_1 : decode c_Mo_array 1 = .ok (.bipush 35, 2) := by decide +kernel
theorem d_Mo_array_3 : decode c_Mo_array 3 = .ok (.invokevirtual 186, 3) := by decide +kernel
theorem d_Mo_array_6 : decode c_Mo_array 6 = .ok (.istore_n 2, 1) := by decide +kernel
theorem d_Mo_array_7 : decode c_Mo_array 7 = .ok (.aload_n 0, 1) := by decide +kernel
theorem d_Mo_array_8 : decode c_Mo_array 8 = .ok (.bipush 63, 2) := by decide +kernel
theorem d_Mo_array_10 : decode c_Mo_array 10 = .ok (.invokevirtual 90, 3) := by decide +kernel
theorem d_Mo_array_13 : decode c_Mo_array 13 = .ok (.ifCond .ne 81, 3) := by decide +kernel
theorem d_Mo_array_16 : decode c_Mo_array 16 = .ok (.aload_n 0, 1) := by decide +kernel
theorem d_Mo_array_17 : decode c_Mo_array 17 = .ok (.bipush 68, 2) := by decide +kernel
theorem d_Mo_array_19 : decode c_Mo_array 19 = .ok (.invokevirtual 90, 3) := by decide +kernel
theorem d_Mo_array_22 : decode c_Mo_array 22 = .ok (.ifCond .eq 11, 3) := by decide +kernel
theorem d_Mo_array_25 : decode c_Mo_array 25 = .ok (.aload_n 0, 1) := by decide +kernel
theorem d_Mo_array_26 : decode c_Mo_array 26 = .ok (.iload_n 2, 1) := by decide +kernel
theorem d_Mo_array_27 : decode c_Mo_array 27 = .ok (.invokevirtual 199, 3) := by decide +kernel
theorem d_Mo_array_30 : decode c_Mo_array 30 = .ok (.goto 42, 3) := by decide +kernel
theorem d_Mo_array_33 : decode c_Mo_array 33 = .ok (.aload_n 0, 1) := by decide +kernel
theorem d_Mo_array_34 : decode c_Mo_array 34 = .ok (.iload_n 2, 1) := by decide +kernel
theorem d_Mo_array_35 : decode c_Mo_array 35 = .ok (.aload_n 0, 1) := by decide +kernel
theorem d_Mo_array_36 : decode c_Mo_array 36 = .ok (.iload_n 1, 1) := by decide +kernel
theorem d_Mo_array_37 : decode c_Mo_array 37 = .ok (.iconst 1, 1) := by decide +kernel
theorem d_Mo_array_38 : decode c_Mo_array 38 = .ok (.iadd, 1) := by decide +kernel
theorem d_Mo_array_39 : decode c_Mo_array 39 = .ok (.iconst 1, 1) := by decide +kernel
theorem d_Mo_array_40 : decode c_Mo_array 40 = .ok (.invokestatic 126, 3) := by decide +kernel
theorem d_Mo_array_43 : decode c_Mo_array 43 = .ok (.invokevirtual 119, 3) := by decide +kernel
theorem d_Mo_array_46 : decode c_Mo_array 46 = .ok (.aload_n 0, 1) := by decide +kernel
theorem d_Mo_array_47 : decode c_Mo_array 47 = .ok (.bipush 63, 2) := by decide +kernel
theorem d_Mo_array_49 : decode c_Mo_array 49 = .ok (.invokevirtual 90, 3) := by decide +kernel
theorem d_Mo_array_52 : decode c_Mo_array 52 = .ok (.ifCond .ne 20, 3) := by decide +kernel
theorem d_Mo_array_55 : decode c_Mo_array 55 = .ok (.aload_n 0, 1) := by decide +kernel
theorem d_Mo_array_56 : decode c_Mo_array 56 = .ok (.bipush 68, 2) := by decide +kernel
theorem d_Mo_array_58 : decode c_Mo_array 58 = .ok (.invokevirtual 90, 3) := by decide +kernel
theorem d_Mo_array_61 : decode c_Mo_array 61 = .ok (.ifCond .ne 11, 3) := by decide +kernel
theorem d_Mo_array_64 : decode c_Mo_array 64 = .ok (.aload_n 0, 1) := by decide +kernel
theorem d_Mo_array_65 : decode c_Mo_array 65 = .ok (.aload_n 0, 1) := by decide +kernel
theorem d_Mo_array_66 : decode c_Mo_array 66 = .ok (.getfield 84, 3) := by decide +kernel
theorem d_Mo_array_69 : decode c_Mo_array 69 = .ok (.invokevirtual 93, 3) := by decide +kernel
theorem d_Mo_array_72 : decode c_Mo_array 72 = .ok (.aload_n 0, 1) := by decide +kernel
theorem d_Mo_array_73 : decode c_Mo_array 73 = .ok (.bipush 68, 2) := by decide +kernel
theorem d_Mo_array_75 : decode c_Mo_array 75 = .ok (.invokevirtual 90, 3) := by decide +kernel
theorem d_Mo_array_78 : decode c_Mo_array 78 = .ok (.ifCond .eq (-71), 3) := by decide +kernel
theorem d_Mo_array_81 : decode c_Mo_array 81 = .ok (.aload_n 0, 1) := by decide +kernel
theorem d_Mo_array_82 : decode c_Mo_array 82 = .ok (.dup, 1) := by decide +kernel
theorem d_Mo_array_83 : decode c_Mo_array 83 = .ok (.getfield 84, 3) := by decide +kernel
theorem d_Mo_array_86 : decode c_Mo_array 86 = .ok (.iconst 1, 1) := by decide +kernel
theorem d_Mo_array_87 : decode c_Mo_array 87 = .ok (.iadd, 1) := by decide +kernel
theorem d_Mo_array_88 : decode c_Mo_array 88 = .ok (.putfield 84, 3) := by decide +kernel
theorem d_Mo_array_91 : decode c_Mo_array 91 = .ok (.goto (-84), 3) := by decide +kernel
theorem d_Mo_array_94 : decode c_Mo_array 94 = .ok (.aload_n 0, 1) := by decide +kernel
theorem d_Mo_array_95 : decode c_Mo_array 95 = .ok (.dup, 1) := by decide +kernel
theorem d_Mo_array_96 : decode c_Mo_array 96 = .ok (.getfield 84, 3) := by decide +kernel
theorem d_Mo_array_99 : decode c_Mo_array 99 = .ok (.iconst 1, 1) := by decide +kernel
theorem d_Mo_array_100 : decode c_Mo_array 100 = .ok (.iadd, 1) := by decide +kernel
theorem d_Mo_array_101 : decode c_Mo_array 101 = .ok (.putfield 84, 3) := by decide +kernel
theorem d_Mo_array_104 : decode c_Mo_array 104 = .ok (.iload_n 2, 1) := by decide +kernel
theorem d_Mo_array_105 : decode c_Mo_array 105 = .ok (.ireturn, 1) := by decide +kernel
theorem d_Mo_tell_0 : decode c_Mo_tell 0 = .ok (.iload_n 1, 1) := by decide +kernel
theorem d_Mo_tell_1 : decode c_Mo_tell 1 = .ok (.istore 5, 2) := by decide +kernel
theorem d_Mo_tell_3 : decode c_Mo_tell 3 = .ok (.iload 5, 2) := by decide +kernel
theorem d_Mo_tell_5 : decode c_Mo_tell 5 = .ok (.aload_n 0, 1) := by decide +kernel
theorem d_Mo_tell_6 : decode c_Mo_tell 6 = .ok (.getfield 202, 3) := by decide +kernel
theorem d_Mo_tell_9 : decode c_Mo_tell 9 = .ok (.if_icmp .ge 90, 3) := by decide +kernel
theorem d_Mo_tell_12 : decode c_Mo_tell 12 = .ok (.aload_n 0, 1) := by decide +kernel
theorem d_Mo_tell_13 : decode c_Mo_tell 13 = .ok (.getfield 57, 3) := by decide +kernel
theorem d_Mo_tell_16 : decode c_Mo_tell 16 = .ok (.iload 5, 2) := by decide +kernel
theorem d_Mo_tell_18 : decode c_Mo_tell 18 = .ok (.iaload, 1) := by decide +kernel
theorem d_Mo_tell_19 : decode c_Mo_tell 19 = .ok (.iload_n 2, 1) := by decide +kernel
theorem d_Mo_tell_20 : decode c_Mo_tell 20 = .ok (.if_icmp .eq 6, 3) := by decide +kernel
theorem d_Mo_tell_23 : decode c_Mo_tell 23 = .ok (.goto 70, 3) := by decide +kernel
theorem d_Mo_tell_26 : decode c_Mo_tell 26 = .ok (.iload_n 3, 1) := by decide +kernel
theorem d_Mo_tell_27 : decode c_Mo_tell 27 = .ok (.ifCond .ne 17, 3) := by decide +kernel
theorem d_Mo_tell_30 : decode c_Mo_tell 30 = .ok (.aload_n 0, 1) := by decide +kernel
theorem d_Mo_tell_31 : decode c_Mo_tell 31 = .ok (.getfield 60, 3) := by decide +kernel
theorem d_Mo_tell_34 : decode c_Mo_tell 34 = .ok (.iload 5, 2) := by decide +kernel
theorem d_Mo_tell_36 : decode c_Mo_tell 36 = .ok (.iaload, 1) := by decide +kernel
theorem d_Mo_tell_37 : decode c_Mo_tell 37 = .ok (.ifCond .ne 7, 3) := by decide +kernel
theorem d_Mo_tell_40 : decode c_Mo_tell 40 = .ok (.iconst 1, 1) := by decide +kernel
theorem d_Mo_tell_41 : decode c_Mo_tell 41 = .ok (.goto 4, 3) := by decide +kernel
theorem d_Mo_tell_44 : decode c_Mo_tell 44 = .ok (.iconst 0, 1) := by decide +kernel
theorem d_Mo_tell_45 : decode c_Mo_tell 45 = .ok (.istore 6, 2) := by decide +kernel
theorem d_Mo_tell_47 : decode c_Mo_tell 47 = .ok (.iload 6, 2) := by decide +kernel
theorem d_Mo_tell_49 : decode c_Mo_tell 49 = .ok (.ifCond .eq 13, 3) := by decide +kernel
theorem d_Mo_tell_52 : decode c_Mo_tell 52 = .ok (.aload_n 0, 1) := by decide +kernel
theorem d_Mo_tell_53 : decode c_Mo_tell 53 = .ok (.getfield 97, 3) := by decide +kernel
theorem d_Mo_tell_56 : decode c_Mo_tell 56 = .ok (.ifCond .eq 37, 3) := by decide +kernel
theorem d_Mo_tell_59 : decode c_Mo_tell 59 = .ok (.goto 28, 3) := by decide +kernel
theorem d_Mo_tell_62 : decode c_Mo_tell 62 = .ok (.iload_n 3, 1) := by decide +kernel
theorem d_Mo_tell_63 : decode c_Mo_tell 63 = .ok (.ifCond .eq 24, 3) := by decide +kernel
theorem d_Mo_tell_66 : decode c_Mo_tell 66 = .ok (.aload_n 0, 1) := by decide +kernel
theorem d_Mo_tell_67 : decode c_Mo_tell 67 = .ok (.getfield 60, 3) := by decide +kernel
theorem d_Mo_tell_70 : decode c_Mo_tell 70 = .ok (.iload 5, 2) := by decide +kernel
theorem d_Mo_tell_72 : decode c_Mo_tell 72 = .ok (.iaload, 1) := by decide +kernel
theorem d_Mo_tell_73 : decode c_Mo_tell 73 = .ok (.ifCond .eq 14, 3) := by decide +kernel
theorem d_Mo_tell_76 : decode c_Mo_tell 76 = .ok (.aload_n 0, 1) := by decide +kernel
theorem d_Mo_tell_77 : decode c_Mo_tell 77 = .ok (.getfield 60, 3) := by decide +kernel
theorem d_Mo_tell_80 : decode c_Mo_tell 80 = .ok (.iload 5, 2) := by decide +kernel
theorem d_Mo_tell_82 : decode c_Mo_tell 82 = .ok (.iaload, 1) := by decide +kernel
theorem d_Mo_tell_83 : decode c_Mo_tell 83 = .ok (.iload_n 3, 1) := by decide +kernel
theorem d_Mo_tell_84 : decode c_Mo_tell 84 = .ok (.if_icmp .ne 9, 3) := by decide +kernel
theorem d_Mo_tell_87 : decode c_Mo_tell 87 = .ok (.aload_n 0, 1) := by decide +kernel
theorem d_Mo_tell_88 : decode c_Mo_tell 88 = .ok (.iload 4, 2) := by decide +kernel
theorem d_Mo_tell_90 : decode c_Mo_tell 90 = .ok (.invokevirtual 93, 3) := by decide +kernel
theorem d_Mo_tell_93 : decode c_Mo_tell 93 = .ok (.iinc 5 1, 3) := by decide +kernel
theorem d_Mo_tell_96 : decode c_Mo_tell 96 = .ok (.goto (-93), 3) := by decide +kernel
theorem d_Mo_tell_99 : decode c_Mo_tell 99 = .ok (.aload_n 0, 1) := by decide +kernel
theorem d_Mo_tell_100 : decode c_Mo_tell 100 = .ok (.getfield 57, 3) := by decide +kernel
theorem d_Mo_tell_103 : decode c_Mo_tell 103 = .ok (.aload_n 0, 1) := by decide +kernel
theorem d_Mo_tell_104 : decode c_Mo_tell 104 = .ok (.getfield 202, 3) := by decide +kernel
theorem d_Mo_tell_107 : decode c_Mo_tell 107 = .ok (.iload_n 2, 1) := by decide +kernel
theorem d_Mo_tell_108 : decode c_Mo_tell 108 = .ok (.iastore, 1) := by decide +kernel
theorem d_Mo_tell_109 : decode c_Mo_tell 109 = .ok (.aload_n 0, 1) := by decide +kernel
theorem d_Mo_tell_110 : decode c_Mo_tell 110 = .ok (.getfield 60, 3) := by decide +kernel
theorem d_Mo_tell_113 : decode c_Mo_tell 113 = .ok (.aload_n 0, 1) := by decide +kernel
theorem d_Mo_tell_114 : decode c_Mo_tell 114 = .ok (.getfield 202, 3) := by decide +kernel
theorem d_Mo_tell_117 : decode c_Mo_tell 117 = .ok (.iload_n 3, 1) := by decide +kernel
theorem d_Mo_tell_118 : decode c_Mo_tell 118 = .ok (.iastore, 1) := by decide +kernel
theorem d_Mo_tell_119 : decode c_Mo_tell 119 = .ok (.aload_n 0, 1) := by decide +kernel
theorem d_Mo_tell_120 : decode c_Mo_tell 120 = .ok (.dup, 1) := by decide +kernel
theorem d_Mo_tell_121 : decode c_Mo_tell 121 = .ok (.getfield 202, 3) := by decide +kernel
theorem d_Mo_tell_124 : decode c_Mo_tell 124 = .ok (.iconst 1, 1) := by decide +kernel
theorem d_Mo_tell_125 : decode c_Mo_tell 125 = .ok (.iadd, 1) := by decide +kernel
theorem d_Mo_tell_126 : decode c_Mo_tell 126 = .ok (.putfield 202, 3) := by decide +kernel
theorem d_Mo_tell_129 : decode c_Mo_tell 129 = .ok (.return_, 1) := by decide +kernel
theorem d_Mo_propertyName_0 : decode c_Mo_propertyName 0 = .ok (.aload_n 0, 1) := by decide +kernel
theorem d_Mo_propertyName_1 : decode c_Mo_propertyName 1 = .ok (.iconst 1, 1) := by decide +kernel
theorem d_Mo_propertyName_2 : decode c_Mo_propertyName 2 = .ok (.invokevirtual 87, 3) := by decide +kernel
theorem d_Mo_propertyName_5 : decode c_Mo_propertyName 5 = .ok (.ifCond .ne 27, 3) := by decide +kernel
theorem d_Mo_propertyName_8 : decode c_Mo_propertyName 8 = .ok (.aload_n 0, 1) := by decide +kernel
theorem d_Mo_propertyName_9 : decode c_Mo_propertyName 9 = .ok (.iconst 2, 1) := by decide +kernel
theorem d_Mo_propertyName_10 : decode c_Mo_propertyName 10 = .ok (.invokevirtual 87, 3) := by decide +kernel
theorem d_Mo_propertyName_13 : decode c_Mo_propertyName 13 = .ok (.ifCond .ne 19, 3) := by decide +kernel
theorem d_Mo_propertyName_16 : decode c_Mo_propertyName 16 = .ok (.aload_n 0, 1) := by decide +kernel
theorem d_Mo_propertyName_17 : decode c_Mo_propertyName 17 = .ok (.iconst 3, 1) := by decide +kernel
theorem d_Mo_propertyName_18 : decode c_Mo_propertyName 18 = .ok (.invokevirtual 87, 3) := by decide +kernel
theorem d_Mo_propertyName_21 : decode c_Mo_propertyName 21 = .ok (.ifCond .ne 11, 3) := by decide +kernel
theorem d_Mo_propertyName_24 : decode c_Mo_propertyName 24 = .ok (.aload_n 0, 1) := by decide +kernel
theorem d_Mo_propertyName_25 : decode c_Mo_propertyName 25 = .ok (.aload_n 0, 1) := by decide +kernel
theorem d_Mo_propertyName_26 : decode c_Mo_propertyName 26 = .ok (.getfield 84, 3) := by decide +kernel
theorem d_Mo_propertyName_29 : decode c_Mo_propertyName 29 = .ok (.invokevirtual 93, 3) := by decide +kernel
theorem d_Mo_propertyName_32 : decode c_Mo_propertyName 32 = .ok (.aload_n 0, 1) := by decide +kernel
theorem d_Mo_propertyName_33 : decode c_Mo_propertyName 33 = .ok (.dup, 1) := by decide +kernel
theorem d_Mo_propertyName_34 : decode c_Mo_propertyName 34 = .ok (.getfield 84, 3) := by decide +kernel
theorem d_Mo_propertyName_37 : decode c_Mo_propertyName 37 = .ok (.iconst 1, 1) := by decide +kernel
theorem d_Mo_propertyName_38 : decode c_Mo_propertyName 38 = .ok (.iadd, 1) := by decide +kernel
theorem d_Mo_propertyName_39 : decode c_Mo_propertyName 39 = .ok (.putfield 84, 3) := by decide +kernel
theorem d_Mo_propertyName_42 : decode c_Mo_propertyName 42 = .ok (.aload_n 0, 1) := by decide +kernel
theorem d_Mo_propertyName_43 : decode c_Mo_propertyName 43 = .ok (.getfield 16, 3) := by decide +kernel
theorem d_Mo_propertyName_46 : decode c_Mo_propertyName 46 = .ok (.aload_n 0, 1) := by decide +kernel
theorem d_Mo_propertyName_47 : decode c_Mo_propertyName 47 = .ok (.getfield 84, 3) := by decide +kernel
theorem d_Mo_propertyName_50 : decode c_Mo_propertyName 50 = .ok (.iconst 1, 1) := by decide +kernel
theorem d_Mo_propertyName_51 : decode c_Mo_propertyName 51 = .ok (.isub, 1) := by decide +kernel
theorem d_Mo_propertyName_52 : decode c_Mo_propertyName 52 = .ok (.iaload, 1) := by decide +kernel
theorem d_Mo_propertyName_53 : decode c_Mo_propertyName 53 = .ok (.ireturn, 1) := by decide +kernel
theorem d_Mo_object_0 : decode c_Mo_object 0 = .ok (.aload_n 0, 1) := by decide +kernel
theorem d_Mo_object_1 : decode c_Mo_object 1 = .ok (.bipush 46, 2) := by decide +kernel
theorem d_Mo_object_3 : decode c_Mo_object 3 = .ok (.invokevirtual 186, 3) := by decide +kernel
theorem d_Mo_object_6 : decode c_Mo_object 6 = .ok (.istore_n 2, 1) := by decide +kernel
theorem d_Mo_object_7 : decode c_Mo_object 7 = .ok (.aload_n 0, 1) := by decide +kernel
theorem d_Mo_object_8 : decode c_Mo_object 8 = .ok (.getfield 202, 3) := by decide +kernel
theorem d_Mo_object_11 : decode c_Mo_object 11 = .ok (.istore_n 3, 1) := by decide +kernel
theorem d_Mo_object_12 : decode c_Mo_object 12 = .ok (.aload_n 0, 1) := by decide +kernel
theorem d_Mo_object_13 : decode c_Mo_object 13 = .ok (.bipush 65, 2) := by decide +kernel
theorem d_Mo_object_15 : decode c_Mo_object 15 = .ok (.invokevirtual 90, 3) := by decide +kernel
theorem d_Mo_object_18 : decode c_Mo_object 18 = .ok (.ifCond .ne 28, 3) := by decide +kernel
theorem d_Mo_object_21 : decode c_Mo_object 21 = .ok (.aload_n 0, 1) := by decide +kernel
theorem d_Mo_object_22 : decode c_Mo_object 22 = .ok (.iload_n 2, 1) := by decide +kernel
theorem d_Mo_object_23 : decode c_Mo_object 23 = .ok (.iload_n 3, 1) := by decide +kernel
theorem d_Mo_object_24 : decode c_Mo_object 24 = .ok (.iload_n 1, 1) := by decide +kernel
theorem d_Mo_object_25 : decode c_Mo_object 25 = .ok (.invokestatic 205, 3) := by decide +kernel
theorem d_Mo_object_28 : decode c_Mo_object 28 = .ok (.aload_n 0, 1) := by decide +kernel
theorem d_Mo_object_29 : decode c_Mo_object 29 = .ok (.bipush 65, 2) := by decide +kernel
theorem d_Mo_object_31 : decode c_Mo_object 31 = .ok (.invokevirtual 90, 3) := by decide +kernel
theorem d_Mo_object_34 : decode c_Mo_object 34 = .ok (.ifCond .ne (-22), 3) := by decide +kernel
theorem d_Mo_object_37 : decode c_Mo_object 37 = .ok (.aload_n 0, 1) := by decide +kernel
theorem d_Mo_object_38 : decode c_Mo_object 38 = .ok (.bipush 68, 2) := by decide +kernel
theorem d_Mo_object_40 : decode c_Mo_object 40 = .ok (.invokevirtual 137, 3) := by decide +kernel
theorem d_Mo_object_43 : decode c_Mo_object 43 = .ok (.goto (-31), 3) := by decide +kernel
theorem d_Mo_object_46 : decode c_Mo_object 46 = .ok (.aload_n 0, 1) := by decide +kernel
theorem d_Mo_object_47 : decode c_Mo_object 47 = .ok (.dup, 1) := by decide +kernel
theorem d_Mo_object_48 : decode c_Mo_object 48 = .ok (.getfield 84, 3) := by decide +kernel
theorem d_Mo_object_51 : decode c_Mo_object 51 = .ok (.iconst 1, 1) := by decide +kernel
theorem d_Mo_object_52 : decode c_Mo_object 52 = .ok (.iadd, 1) := by decide +kernel
theorem d_Mo_object_53 : decode c_Mo_object 53 = .ok (.putfield 84, 3) := by decide +kernel
theorem d_Mo_object_56 : decode c_Mo_object 56 = .ok (.aload_n 0, 1) := by decide +kernel
theorem d_Mo_object_57 : decode c_Mo_object 57 = .ok (.iload_n 3, 1) := by decide +kernel
theorem d_Mo_object_58 : decode c_Mo_object 58 = .ok (.putfield 202, 3) := by decide +kernel
theorem d_Mo_object_61 : decode c_Mo_object 61 = .ok (.iload_n 2, 1) := by decide +kernel
theorem d_Mo_object_62 : decode c_Mo_object 62 = .ok (.ireturn, 1) := by decide +kernel
theorem d_Mo_property_0 : decode c_Mo_property 0 = .ok (.aload_n 0, 1) := by decide +kernel
theorem d_Mo_property_1 : decode c_Mo_property 1 = .ok (.getfield 84, 3) := by decide +kernel
theorem d_Mo_property_4 : decode c_Mo_property 4 = .ok (.istore 4, 2) := by decide +kernel
theorem d_Mo_property_6 : decode c_Mo_property 6 = .ok (.aload_n 0, 1) := by decide +kernel
theorem d_Mo_property_7 : decode c_Mo_property 7 = .ok (.iconst 1, 1) := by decide +kernel
theorem d_Mo_property_8 : decode c_Mo_property 8 = .ok (.invokevirtual 87, 3) := by decide +kernel
theorem d_Mo_property_11 : decode c_Mo_property 11 = .ok (.istore 5, 2) := by decide +kernel
theorem d_Mo_property_13 : decode c_Mo_property 13 = .ok (.aload_n 0, 1) := by decide +kernel
theorem d_Mo_property_14 : decode c_Mo_property 14 = .ok (.invokevirtual 208, 3) := by decide +kernel
theorem d_Mo_property_17 : decode c_Mo_property 17 = .ok (.istore 6, 2) := by decide +kernel
theorem d_Mo_property_19 : decode c_Mo_property 19 = .ok (.iload 5, 2) := by decide +kernel
theorem d_Mo_property_21 : decode c_Mo_property 21 = .ok (.ifCond .eq 113, 3) := by decide +kernel
theorem d_Mo_property_24 : decode c_Mo_property 24 = .ok (.iload 6, 2) := by decide +kernel
theorem d_Mo_property_26 : decode c_Mo_property 26 = .ok (.iconst 2, 1) := by decide +kernel
theorem d_Mo_property_27 : decode c_Mo_property 27 = .ok (.if_icmp .eq 9, 3) := by decide +kernel
theorem d_Mo_property_30 : decode c_Mo_property 30 = .ok (.iload 6, 2) := by decide +kernel
theorem d_Mo_property_32 : decode c_Mo_property 32 = .ok (.iconst 3, 1) := by decide +kernel
theorem d_Mo_property_33 : decode c_Mo_property 33 = .ok (.if_icmp .ne 101, 3) := by decide +kernel
theorem d_Mo_property_36 : decode c_Mo_property 36 = .ok (.aload_n 0, 1) := by decide +kernel
theorem d_Mo_property_37 : decode c_Mo_property 37 = .ok (.bipush 70, 2) := by decide +kernel
theorem d_Mo_property_39 : decode c_Mo_property 39 = .ok (.invokevirtual 90, 3) := by decide +kernel
theorem d_Mo_property_42 : decode c_Mo_property 42 = .ok (.ifCond .ne 92, 3) := by decide +kernel
theorem d_Mo_property_45 : decode c_Mo_property 45 = .ok (.aload_n 0, 1) := by decide +kernel
theorem d_Mo_property_46 : decode c_Mo_property 46 = .ok (.getfield 84, 3) := by decide +kernel
theorem d_Mo_property_49 : decode c_Mo_property 49 = .ok (.istore 7, 2) := by decide +kernel
theorem d_Mo_property_51 : decode c_Mo_property 51 = .ok (.aload_n 0, 1) := by decide +kernel
theorem d_Mo_property_52 : decode c_Mo_property 52 = .ok (.iload 6, 2) := by decide +kernel
theorem d_Mo_property_54 : decode c_Mo_property 54 = .ok (.iconst 2, 1) := by decide +kernel
theorem d_Mo_property_55 : decode c_Mo_property 55 = .ok (.if_icmp .ne 8, 3) := by decide +kernel
theorem d_Mo_property_58 : decode c_Mo_property 58 = .ok (.bipush 48, 2) := by decide +kernel
theorem d_Mo_property_60 : decode c_Mo_property 60 = .ok (.goto 5, 3) := by decide +kernel
theorem d_Mo_property_63 : decode c_Mo_property 63 = .ok (.bipush 49, 2) := by decide +kernel
theorem d_Mo_property_65 : decode c_Mo_property 65 = .ok (.iconst 0, 1) := by decide +kernel
theorem d_Mo_property_66 : decode c_Mo_property 66 = .ok (.iload 4, 2) := by decide +kernel
theorem d_Mo_property_68 : decode c_Mo_property 68 = .ok (.invokevirtual 115, 3) := by decide +kernel
theorem d_Mo_property_71 : decode c_Mo_property 71 = .ok (.istore 8, 2) := by decide +kernel
theorem d_Mo_property_73 : decode c_Mo_property 73 = .ok (.aload_n 0, 1) := by decide +kernel
theorem d_Mo_property_74 : decode c_Mo_property 74 = .ok (.getfield 30, 3) := by decide +kernel
theorem d_Mo_property_77 : decode c_Mo_property 77 = .ok (.iload 8, 2) := by decide +kernel
theorem d_Mo_property_79 : decode c_Mo_property 79 = .ok (.aload_n 0, 1) := by decide +kernel
theorem d_Mo_property_80 : decode c_Mo_property 80 = .ok (.invokevirtual 208, 3) := by decide +kernel
theorem d_Mo_property_83 : decode c_Mo_property 83 = .ok (.iastore, 1) := by decide +kernel
theorem d_Mo_property_84 : decode c_Mo_property 84 = .ok (.aload_n 0, 1) := by decide +kernel
theorem d_Mo_property_85 : decode c_Mo_property 85 = .ok (.iload_n 2, 1) := by decide +kernel
theorem d_Mo_property_86 : decode c_Mo_property 86 = .ok (.aload_n 0, 1) := by decide +kernel
theorem d_Mo_property_87 : decode c_Mo_property 87 = .ok (.getfield 30, 3) := by decide +kernel
theorem d_Mo_property_90 : decode c_Mo_property 90 = .ok (.iload 8, 2) := by decide +kernel
theorem d_Mo_property_92 : decode c_Mo_property 92 = .ok (.iaload, 1) := by decide +kernel
theorem d_Mo_property_93 : decode c_Mo_property 93 = .ok (.iload 6, 2) := by decide +kernel
theorem d_Mo_property_95 : decode c_Mo_property 95 = .ok (.iconst 1, 1) := by decide +kernel
theorem d_Mo_property_96 : decode c_Mo_property 96 = .ok (.isub, 1) := by decide +kernel
theorem d_Mo_property_97 : decode c_Mo_property 97 = .ok (.iload 7, 2) := by decide +kernel
theorem d_Mo_property_99 : decode c_Mo_property 99 = .ok (.invokevirtual 211, 3) := by decide +kernel
theorem d_Mo_property_102 : decode c_Mo_property 102 = .ok (.aload_n 0, 1) := by decide +kernel
theorem d_Mo_property_103 : decode c_Mo_property 103 = .ok (.iload_n 1, 1) := by decide +kernel
theorem d_Mo_property_104 : decode c_Mo_property 104 = .ok (.iload 8, 2) := by decide +kernel
theorem d_Mo_property_106 : decode c_Mo_property 106 = .ok (.invokevirtual 119, 3) := by decide +kernel
theorem d_Mo_property_109 : decode c_Mo_property 109 = .ok (.aload_n 0, 1) := by decide +kernel
theorem d_Mo_property_110 : decode c_Mo_property 110 = .ok (.iload 8, 2) := by decide +kernel
theorem d_Mo_property_112 : decode c_Mo_property 112 = .ok (.aload_n 0, 1) := by decide +kernel
theorem d_Mo_property_113 : decode c_Mo_property 113 = .ok (.iload 6, 2) := by decide +kernel
theorem d_Mo_property_115 : decode c_Mo_property 115 = .ok (.iconst 2, 1) := by decide +kernel
theorem d_Mo_property_116 : decode c_Mo_property 116 = .ok (.if_icmp .ne 8, 3) := by decide +kernel
theorem d_Mo_property_119 : decode c_Mo_property 119 = .ok (.bipush 48, 2) := by decide +kernel
theorem d_Mo_property_121 : decode c_Mo_property 121 = .ok (.goto 5, 3) := by decide +kernel
theorem d_Mo_property_124 : decode c_Mo_property 124 = .ok (.bipush 49, 2) := by decide +kernel
theorem d_Mo_property_126 : decode c_Mo_property 126 = .ok (.iload_n 3, 1) := by decide +kernel
theorem d_Mo_property_127 : decode c_Mo_property 127 = .ok (.invokestatic 189, 3) := by decide +kernel
theorem d_Mo_property_130 : decode c_Mo_property 130 = .ok (.invokevirtual 119, 3) := by decide +kernel
theorem d_Mo_property_133 : decode c_Mo_property 133 = .ok (.return_, 1) := by decide +kernel
theorem d_Mo_property_134 : decode c_Mo_property 134 = .ok (.aload_n 0, 1) := by decide +kernel
theorem d_Mo_property_135 : decode c_Mo_property 135 = .ok (.bipush 70, 2) := by decide +kernel
theorem d_Mo_property_137 : decode c_Mo_property 137 = .ok (.invokevirtual 137, 3) := by decide +kernel
theorem d_Mo_property_140 : decode c_Mo_property 140 = .ok (.aload_n 0, 1) := by decide +kernel
theorem d_Mo_property_141 : decode c_Mo_property 141 = .ok (.iload_n 2, 1) := by decide +kernel
theorem d_Mo_property_142 : decode c_Mo_property 142 = .ok (.iload 6, 2) := by decide +kernel
theorem d_Mo_property_144 : decode c_Mo_property 144 = .ok (.iconst 0, 1) := by decide +kernel
theorem d_Mo_property_145 : decode c_Mo_property 145 = .ok (.iload 4, 2) := by decide +kernel
theorem d_Mo_property_147 : decode c_Mo_property 147 = .ok (.invokevirtual 211, 3) := by decide +kernel
theorem d_Mo_property_150 : decode c_Mo_property 150 = .ok (.aload_n 0, 1) := by decide +kernel
theorem d_Mo_property_151 : decode c_Mo_property 151 = .ok (.bipush 47, 2) := by decide +kernel
theorem d_Mo_property_153 : decode c_Mo_property 153 = .ok (.iload 6, 2) := by decide +kernel
theorem d_Mo_property_155 : decode c_Mo_property 155 = .ok (.iload 4, 2) := by decide +kernel
theorem d_Mo_property_157 : decode c_Mo_property 157 = .ok (.invokevirtual 115, 3) := by decide +kernel
theorem d_Mo_property_160 : decode c_Mo_property 160 = .ok (.istore 7, 2) := by decide +kernel
theorem d_Mo_property_162 : decode c_Mo_property 162 = .ok (.aload_n 0, 1) := by decide +kernel
theorem d_Mo_property_163 : decode c_Mo_property 163 = .ok (.iload_n 1, 1) := by decide +kernel
theorem d_Mo_property_164 : decode c_Mo_property 164 = .ok (.iload 7, 2) := by decide +kernel
theorem d_Mo_property_166 : decode c_Mo_property 166 = .ok (.invokevirtual 119, 3) := by decide +kernel
theorem d_Mo_property_169 : decode c_Mo_property 169 = .ok (.aload_n 0, 1) := by decide +kernel
theorem d_Mo_property_170 : decode c_Mo_property 170 = .ok (.iload 7, 2) := by decide +kernel
theorem d_Mo_property_172 : decode c_Mo_property 172 = .ok (.aload_n 0, 1) := by decide +kernel
theorem d_Mo_property_173 : decode c_Mo_property 173 = .ok (.iload_n 3, 1) := by decide +kernel
theorem d_Mo_property_174 : decode c_Mo_property 174 = .ok (.iconst 1, 1) := by decide +kernel
theorem d_Mo_property_175 : decode c_Mo_property 175 = .ok (.iadd, 1) := by decide +kernel
theorem d_Mo_property_176 : decode c_Mo_property 176 = .ok (.iconst 1, 1) := by decide +kernel
theorem d_Mo_property_177 : decode c_Mo_property 177 = .ok (.invokestatic 126, 3) := by decide +kernel
theorem d_Mo_property_180 : decode c_Mo_property 180 = .ok (.invokevirtual 119, 3) := by decide +kernel
theorem d_Mo_property_183 : decode c_Mo_property 183 = .ok (.return_, 1) := by decide +kernel
theorem d_Mo_parameters_0 : decode c_Mo_parameters 0 = .ok (.aload_n 0, 1) := by decide +kernel
theorem d_Mo_parameters_1 : decode c_Mo_parameters 1 = .ok (.getfield 202, 3) := by decide +kernel
theorem d_Mo_parameters_4 : decode c_Mo_parameters 4 = .ok (.istore_n 2, 1) := by decide +kernel
theorem d_Mo_parameters_5 : decode c_Mo_parameters 5 = .ok (.aload_n 0, 1) := by decide +kernel
theorem d_Mo_parameters_6 : decode c_Mo_parameters 6 = .ok (.bipush 61, 2) := by decide +kernel
theorem d_Mo_parameters_8 : decode c_Mo_parameters 8 = .ok (.invokevirtual 90, 3) := by decide +kernel
theorem d_Mo_parameters_11 : decode c_Mo_parameters 11 = .ok (.ifCond .ne 7, 3) := by decide +kernel
theorem d_Mo_parameters_14 : decode c_Mo_parameters 14 = .ok (.iconst 1, 1) := by decide +kernel
theorem d_Mo_parameters_15 : decode c_Mo_parameters 15 = .ok (.goto 4, 3) := by decide +kernel
theorem d_Mo_parameters_18 : decode c_Mo_parameters 18 = .ok (.iconst 0, 1) := by decide +kernel
theorem d_Mo_parameters_19 : decode c_Mo_parameters 19 = .ok (.istore_n 3, 1) := by decide +kernel
theorem d_Mo_parameters_20 : decode c_Mo_parameters 20 = .ok (.iload_n 3, 1) := by decide +kernel
theorem d_Mo_parameters_21 : decode c_Mo_parameters 21 = .ok (.ifCond .eq 126, 3) := by decide +kernel
theorem d_Mo_parameters_24 : decode c_Mo_parameters 24 = .ok (.aload_n 0, 1) := by decide +kernel
theorem d_Mo_parameters_25 : decode c_Mo_parameters 25 = .ok (.getfield 84, 3) := by decide +kernel
theorem d_Mo_parameters_28 : decode c_Mo_parameters 28 = .ok (.istore 4, 2) := by decide +kernel
theorem d_Mo_parameters_30 : decode c_Mo_parameters 30 = .ok (.aload_n 0, 1) := by decide +kernel
theorem d_Mo_parameters_31 : decode c_Mo_parameters 31 = .ok (.invokevirtual 215, 3) := by decide +kernel
theorem d_Mo_parameters_34 : decode c_Mo_parameters 34 = .ok (.istore 5, 2) := by decide +kernel
theorem d_Mo_parameters_36 : decode c_Mo_parameters 36 = .ok (.iload_n 2, 1) := by decide +kernel
theorem d_Mo_parameters_37 : decode c_Mo_parameters 37 = .ok (.istore 6, 2) := by decide +kernel
theorem d_Mo_parameters_39 : decode c_Mo_parameters 39 = .ok (.iload 6, 2) := by decide +kernel
theorem d_Mo_parameters_41 : decode c_Mo_parameters 41 = .ok (.aload_n 0, 1) := by decide +kernel
theorem d_Mo_parameters_42 : decode c_Mo_parameters 42 = .ok (.getfield 202, 3) := by decide +kernel
theorem d_Mo_parameters_45 : decode c_Mo_parameters 45 = .ok (.if_icmp .ge 42, 3) := by decide +kernel
theorem d_Mo_parameters_48 : decode c_Mo_parameters 48 = .ok (.aload_n 0, 1) := by decide +kernel
theorem d_Mo_parameters_49 : decode c_Mo_parameters 49 = .ok (.getfield 57, 3) := by decide +kernel
theorem d_Mo_parameters_52 : decode c_Mo_parameters 52 = .ok (.iload 6, 2) := by decide +kernel
theorem d_Mo_parameters_54 : decode c_Mo_parameters 54 = .ok (.iaload, 1) := by decide +kernel
theorem d_Mo_parameters_55 : decode c_Mo_parameters 55 = .ok (.iload 5, 2) := by decide +kernel
theorem d_Mo_parameters_57 : decode c_Mo_parameters 57 = .ok (.if_icmp .eq 6, 3) := by decide +kernel
theorem d_Mo_parameters_60 : decode c_Mo_parameters 60 = .ok (.goto 21, 3) := by decide +kernel
theorem d_Mo_parameters_63 : decode c_Mo_parameters 63 = .ok (.aload_n 0, 1) := by decide +kernel
theorem d_Mo_parameters_64 : decode c_Mo_parameters 64 = .ok (.getfield 97, 3) := by decide +kernel
theorem d_Mo_parameters_67 : decode c_Mo_parameters 67 = .ok (.ifCond .eq 9, 3) := by decide +kernel
theorem d_Mo_parameters_70 : decode c_Mo_parameters 70 = .ok (.aload_n 0, 1) := by decide +kernel
theorem d_Mo_parameters_71 : decode c_Mo_parameters 71 = .ok (.iload 4, 2) := by decide +kernel
theorem d_Mo_parameters_73 : decode c_Mo_parameters 73 = .ok (.invokevirtual 93, 3) := by decide +kernel
theorem d_Mo_parameters_76 : decode c_Mo_parameters 76 = .ok (.aload_n 0, 1) := by decide +kernel
theorem d_Mo_parameters_77 : decode c_Mo_parameters 77 = .ok (.iconst 1, 1) := by decide +kernel
theorem d_Mo_parameters_78 : decode c_Mo_parameters 78 = .ok (.putfield 109, 3) := by decide +kernel
theorem d_Mo_parameters_81 : decode c_Mo_parameters 81 = .ok (.iinc 6 1, 3) := by decide +kernel
theorem d_Mo_parameters_84 : decode c_Mo_parameters 84 = .ok (.goto (-45), 3) := by decide +kernel
theorem d_Mo_parameters_87 : decode c_Mo_parameters 87 = .ok (.aload_n 0, 1) := by decide +kernel
theorem d_Mo_parameters_88 : decode c_Mo_parameters 88 = .ok (.getfield 57, 3) := by decide +kernel
theorem d_Mo_parameters_91 : decode c_Mo_parameters 91 = .ok (.aload_n 0, 1) := by decide +kernel
theorem d_Mo_parameters_92 : decode c_Mo_parameters 92 = .ok (.getfield 202, 3) := by decide +kernel
theorem d_Mo_parameters_95 : decode c_Mo_parameters 95 = .ok (.iload 5, 2) := by decide +kernel
theorem d_Mo_parameters_97 : decode c_Mo_parameters 97 = .ok (.iastore, 1) := by decide +kernel
theorem d_Mo_parameters_98 : decode c_Mo_parameters 98 = .ok (.aload_n 0, 1) := by decide +kernel
theorem d_Mo_parameters_99 : decode c_Mo_parameters 99 = .ok (.dup, 1) := by decide +kernel
theorem d_Mo_parameters_100 : decode c_Mo_parameters 100 = .ok (.getfield 202, 3) := by decide +kernel
theorem d_Mo_parameters_103 : decode c_Mo_parameters 103 = .ok (.iconst 1, 1) := by decide +kernel
theorem d_Mo_parameters_104 : decode c_Mo_parameters 104 = .ok (.iadd, 1) := by decide +kernel
theorem d_Mo_parameters_105 : decode c_Mo_parameters 105 = .ok (.putfield 202, 3) := by decide +kernel
theorem d_Mo_parameters_108 : decode c_Mo_parameters 108 = .ok (.aload_n 0, 1) := by decide +kernel
theorem d_Mo_parameters_109 : decode c_Mo_parameters 109 = .ok (.iload_n 1, 1) := by decide +kernel
theorem d_Mo_parameters_110 : decode c_Mo_parameters 110 = .ok (.aload_n 0, 1) := by decide +kernel
theorem d_Mo_parameters_111 : decode c_Mo_parameters 111 = .ok (.bipush 25, 2) := by decide +kernel
theorem d_Mo_parameters_113 : decode c_Mo_parameters 113 = .ok (.iload 5, 2) := by decide +kernel
theorem d_Mo_parameters_115 : decode c_Mo_parameters 115 = .ok (.iload 4, 2) := by decide +kernel
theorem d_Mo_parameters_117 : decode c_Mo_parameters 117 = .ok (.invokevirtual 115, 3) := by decide +kernel
theorem d_Mo_parameters_120 : decode c_Mo_parameters 120 = .ok (.invokevirtual 119, 3) := by decide +kernel
theorem d_Mo_parameters_123 : decode c_Mo_parameters 123 = .ok (.aload_n 0, 1) := by decide +kernel
theorem d_Mo_parameters_124 : decode c_Mo_parameters 124 = .ok (.bipush 68, 2) := by decide +kernel
theorem d_Mo_parameters_126 : decode c_Mo_parameters 126 = .ok (.invokevirtual 90, 3) := by decide +kernel
theorem d_Mo_parameters_129 : decode c_Mo_parameters 129 = .ok (.istore_n 3, 1) := by decide +kernel
theorem d_Mo_parameters_130 : decode c_Mo_parameters 130 = .ok (.iload_n 3, 1) := by decide +kernel
theorem d_Mo_parameters_131 : decode c_Mo_parameters 131 = .ok (.ifCond .eq 13, 3) := by decide +kernel
theorem d_Mo_parameters_134 : decode c_Mo_parameters 134 = .ok (.aload_n 0, 1) := by decide +kernel
theorem d_Mo_parameters_135 : decode c_Mo_parameters 135 = .ok (.dup, 1) := by decide +kernel
theorem d_Mo_parameters_136 : decode c_Mo_parameters 136 = .ok (.getfield 84, 3) := by decide +kernel
theorem d_Mo_parameters_139 : decode c_Mo_parameters 139 = .ok (.iconst 1, 1) := by decide +kernel
theorem d_Mo_parameters_140 : decode c_Mo_parameters 140 = .ok (.iadd, 1) := by decide +kernel
theorem d_Mo_parameters_141 : decode c_Mo_parameters 141 = .ok (.putfield 84, 3) := by decide +kernel
theorem d_Mo_parameters_144 : decode c_Mo_parameters 144 = .ok (.goto (-124), 3) := by decide +kernel
theorem d_Mo_parameters_147 : decode c_Mo_parameters 147 = .ok (.aload_n 0, 1) := by decide +kernel
theorem d_Mo_parameters_148 : decode c_Mo_parameters 148 = .ok (.iload_n 2, 1) := by decide +kernel
theorem d_Mo_parameters_149 : decode c_Mo_parameters 149 = .ok (.putfield 202, 3) := by decide +kernel
theorem d_Mo_parameters_152 : decode c_Mo_parameters 152 = .ok (.return_, 1) := by decide +kernel
theorem d_Mo_function_0 : decode c_Mo_function 0 = .ok (.aload_n 0, 1) := by decide +kernel
theorem d_Mo_function_1 : decode c_Mo_function 1 = .ok (.getfield 109, 3) := by decide +kernel
theorem d_Mo_function_4 : decode c_Mo_function 4 = .ok (.istore_n 3, 1) := by decide +kernel
theorem d_Mo_function_5 : decode c_Mo_function 5 = .ok (.aload_n 0, 1) := by decide +kernel
theorem d_Mo_function_6 : decode c_Mo_function 6 = .ok (.iconst 0, 1) := by decide +kernel
theorem d_Mo_function_7 : decode c_Mo_function 7 = .ok (.putfield 109, 3) := by decide +kernel
theorem d_Mo_function_10 : decode c_Mo_function 10 = .ok (.aload_n 0, 1) := by decide +kernel
theorem d_Mo_function_11 : decode c_Mo_function 11 = .ok (.iload_n 1, 1) := by decide +kernel
theorem d_Mo_function_12 : decode c_Mo_function 12 = .ok (.bipush 24, 2) := by decide +kernel
theorem d_Mo_function_14 : decode c_Mo_function 14 = .ok (.if_icmp .ne 8, 3) := by decide +kernel
theorem d_Mo_function_17 : decode c_Mo_function 17 = .ok (.bipush 24, 2) := by decide +kernel
theorem d_Mo_function_19 : decode c_Mo_function 19 = .ok (.goto 5, 3) := by decide +kernel
theorem d_Mo_function_22 : decode c_Mo_function 22 = .ok (.bipush 50, 2) := by decide +kernel
theorem d_Mo_function_24 : decode c_Mo_function 24 = .ok (.iconst 0, 1) := by decide +kernel
theorem d_Mo_function_25 : decode c_Mo_function 25 = .ok (.aload_n 0, 1) := by decide +kernel
theorem d_Mo_function_26 : decode c_Mo_function 26 = .ok (.getfield 84, 3) := by decide +kernel
theorem d_Mo_function_29 : decode c_Mo_function 29 = .ok (.invokevirtual 115, 3) := by decide +kernel
theorem d_Mo_function_32 : decode c_Mo_function 32 = .ok (.istore 4, 2) := by decide +kernel
theorem d_Mo_function_34 : decode c_Mo_function 34 = .ok (.iload_n 1, 1) := by decide +kernel
theorem d_Mo_function_35 : decode c_Mo_function 35 = .ok (.bipush 24, 2) := by decide +kernel
theorem d_Mo_function_37 : decode c_Mo_function 37 = .ok (.if_icmp .eq 9, 3) := by decide +kernel
theorem d_Mo_function_40 : decode c_Mo_function 40 = .ok (.iload_n 1, 1) := by decide +kernel
theorem d_Mo_function_41 : decode c_Mo_function 41 = .ok (.bipush 50, 2) := by decide +kernel
theorem d_Mo_function_43 : decode c_Mo_function 43 = .ok (.if_icmp .ne 55, 3) := by decide +kernel
theorem d_Mo_function_46 : decode c_Mo_function 46 = .ok (.aload_n 0, 1) := by decide +kernel
theorem d_Mo_function_47 : decode c_Mo_function 47 = .ok (.dup, 1) := by decide +kernel
theorem d_Mo_function_48 : decode c_Mo_function 48 = .ok (.getfield 84, 3) := by decide +kernel
theorem d_Mo_function_51 : decode c_Mo_function 51 = .ok (.iconst 1, 1) := by decide +kernel
theorem d_Mo_function_52 : decode c_Mo_function 52 = .ok (.iadd, 1) := by decide +kernel
theorem d_Mo_function_53 : decode c_Mo_function 53 = .ok (.putfield 84, 3) := by decide +kernel
theorem d_Mo_function_56 : decode c_Mo_function 56 = .ok (.iload_n 1, 1) := by decide +kernel
theorem d_Mo_function_57 : decode c_Mo_function 57 = .ok (.bipush 24, 2) := by decide +kernel
theorem d_Mo_function_59 : decode c_Mo_function 59 = .ok (.if_icmp .ne 17, 3) := by decide +kernel
theorem d_Mo_function_62 : decode c_Mo_function 62 = .ok (.aload_n 0, 1) := by decide +kernel
theorem d_Mo_function_63 : decode c_Mo_function 63 = .ok (.getfield 30, 3) := by decide +kernel
theorem d_Mo_function_66 : decode c_Mo_function 66 = .ok (.iload 4, 2) := by decide +kernel
theorem d_Mo_function_68 : decode c_Mo_function 68 = .ok (.aload_n 0, 1) := by decide +kernel
theorem d_Mo_function_69 : decode c_Mo_function 69 = .ok (.invokevirtual 215, 3) := by decide +kernel
theorem d_Mo_function_72 : decode c_Mo_function 72 = .ok (.iastore, 1) := by decide +kernel
theorem d_Mo_function_73 : decode c_Mo_function 73 = .ok (.goto 25, 3) := by decide +kernel
theorem d_Mo_function_76 : decode c_Mo_function 76 = .ok (.aload_n 0, 1) := by decide +kernel
theorem d_Mo_function_77 : decode c_Mo_function 77 = .ok (.bipush 60, 2) := by decide +kernel
theorem d_Mo_function_79 : decode c_Mo_function 79 = .ok (.invokevirtual 90, 3) := by decide +kernel
theorem d_Mo_function_82 : decode c_Mo_function 82 = .ok (.ifCond .ne 16, 3) := by decide +kernel
theorem d_Mo_function_85 : decode c_Mo_function 85 = .ok (.aload_n 0, 1) := by decide +kernel
theorem d_Mo_function_86 : decode c_Mo_function 86 = .ok (.getfield 30, 3) := by decide +kernel
theorem d_Mo_function_89 : decode c_Mo_function 89 = .ok (.iload 4, 2) := by decide +kernel
theorem d_Mo_function_91 : decode c_Mo_function 91 = .ok (.aload_n 0, 1) := by decide +kernel
theorem d_Mo_function_92 : decode c_Mo_function 92 = .ok (.invokevirtual 215, 3) := by decide +kernel
theorem d_Mo_function_95 : decode c_Mo_function 95 = .ok (.iconst 1, 1) := by decide +kernel
theorem d_Mo_function_96 : decode c_Mo_function 96 = .ok (.iadd, 1) := by decide +kernel
theorem d_Mo_function_97 : decode c_Mo_function 97 = .ok (.iastore, 1) := by decide +kernel
theorem d_Mo_function_98 : decode c_Mo_function 98 = .ok (.aload_n 0, 1) := by decide +kernel
theorem d_Mo_function_99 : decode c_Mo_function 99 = .ok (.bipush 60, 2) := by decide +kernel
theorem d_Mo_function_101 : decode c_Mo_function 101 = .ok (.invokevirtual 137, 3) := by decide +kernel
theorem d_Mo_function_104 : decode c_Mo_function 104 = .ok (.iload_n 1, 1) := by decide +kernel
theorem d_Mo_function_105 : decode c_Mo_function 105 = .ok (.bipush 49, 2) := by decide +kernel
theorem d_Mo_function_107 : decode c_Mo_function 107 = .ok (.if_icmp .ne 30, 3) := by decide +kernel
theorem d_Mo_function_110 : decode c_Mo_function 110 = .ok (.aload_n 0, 1) := by decide +kernel
theorem d_Mo_function_111 : decode c_Mo_function 111 = .ok (.getfield 84, 3) := by decide +kernel
theorem d_Mo_function_114 : decode c_Mo_function 114 = .ok (.istore 5, 2) := by decide +kernel
theorem d_Mo_function_116 : decode c_Mo_function 116 = .ok (.aload_n 0, 1) := by decide +kernel
theorem d_Mo_function_117 : decode c_Mo_function 117 = .ok (.iload 4, 2) := by decide +kernel
theorem d_Mo_function_119 : decode c_Mo_function 119 = .ok (.aload_n 0, 1) := by decide +kernel
theorem d_Mo_function_120 : decode c_Mo_function 120 = .ok (.bipush 25, 2) := by decide +kernel
theorem d_Mo_function_122 : decode c_Mo_function 122 = .ok (.aload_n 0, 1) := by decide +kernel
theorem d_Mo_function_123 : decode c_Mo_function 123 = .ok (.invokevirtual 215, 3) := by decide +kernel
theorem d_Mo_function_126 : decode c_Mo_function 126 = .ok (.iload 5, 2) := by decide +kernel
theorem d_Mo_function_128 : decode c_Mo_function 128 = .ok (.invokevirtual 115, 3) := by decide +kernel
theorem d_Mo_function_131 : decode c_Mo_function 131 = .ok (.invokevirtual 119, 3) := by decide +kernel
theorem d_Mo_function_134 : decode c_Mo_function 134 = .ok (.goto 15, 3) := by decide +kernel
theorem d_Mo_function_137 : decode c_Mo_function 137 = .ok (.iload_n 1, 1) := by decide +kernel
theorem d_Mo_function_138 : decode c_Mo_function 138 = .ok (.bipush 48, 2) := by decide +kernel
theorem d_Mo_function_140 : decode c_Mo_function 140 = .ok (.if_icmp .eq 9, 3) := by decide +kernel
theorem d_Mo_function_143 : decode c_Mo_function 143 = .ok (.aload_n 0, 1) := by decide +kernel
theorem d_Mo_function_144 : decode c_Mo_function 144 = .ok (.iload 4, 2) := by decide +kernel
theorem d_Mo_function_146 : decode c_Mo_function 146 = .ok (.invokestatic 218, 3) := by decide +kernel
theorem d_Mo_function_149 : decode c_Mo_function 149 = .ok (.aload_n 0, 1) := by decide +kernel
theorem d_Mo_function_150 : decode c_Mo_function 150 = .ok (.bipush 61, 2) := by decide +kernel
theorem d_Mo_function_152 : decode c_Mo_function 152 = .ok (.invokevirtual 137, 3) := by decide +kernel
theorem d_Mo_function_155 : decode c_Mo_function 155 = .ok (.aload_n 0, 1) := by decide +kernel
theorem d_Mo_function_156 : decode c_Mo_function 156 = .ok (.getfield 84, 3) := by decide +kernel
theorem d_Mo_function_159 : decode c_Mo_function 159 = .ok (.istore 5, 2) := by decide +kernel
theorem d_Mo_function_161 : decode c_Mo_function 161 = .ok (.aload_n 0, 1) := by decide +kernel
theorem d_Mo_function_162 : decode c_Mo_function 162 = .ok (.bipush 64, 2) := by decide +kernel
theorem d_Mo_function_164 : decode c_Mo_function 164 = .ok (.invokevirtual 137, 3) := by decide +kernel
theorem d_Mo_function_167 : decode c_Mo_function 167 = .ok (.aload_n 0, 1) := by decide +kernel
theorem d_Mo_function_168 : decode c_Mo_function 168 = .ok (.bipush 26, 2) := by decide +kernel
theorem d_Mo_function_170 : decode c_Mo_function 170 = .ok (.iconst 0, 1) := by decide +kernel
theorem d_Mo_function_171 : decode c_Mo_function 171 = .ok (.iload 5, 2) := by decide +kernel
theorem d_Mo_function_173 : decode c_Mo_function 173 = .ok (.invokevirtual 115, 3) := by decide +kernel
theorem d_Mo_function_176 : decode c_Mo_function 176 = .ok (.istore 6, 2) := by decide +kernel
theorem d_Mo_function_178 : decode c_Mo_function 178 = .ok (.aload_n 0, 1) := by decide +kernel
theorem d_Mo_function_179 : decode c_Mo_function 179 = .ok (.iload 4, 2) := by decide +kernel
theorem d_Mo_function_181 : decode c_Mo_function 181 = .ok (.iload 6, 2) := by decide +kernel
theorem d_Mo_function_183 : decode c_Mo_function 183 = .ok (.invokevirtual 119, 3) := by decide +kernel
theorem d_Mo_function_186 : decode c_Mo_function 186 = .ok (.aload_n 0, 1) := by decide +kernel
theorem d_Mo_function_187 : decode c_Mo_function 187 = .ok (.getfield 97, 3) := by decide +kernel
theorem d_Mo_function_190 : decode c_Mo_function 190 = .ok (.istore 7, 2) := by decide +kernel
theorem d_Mo_function_192 : decode c_Mo_function 192 = .ok (.aload_n 0, 1) := by decide +kernel
theorem d_Mo_function_193 : decode c_Mo_function 193 = .ok (.getfield 222, 3) := by decide +kernel
theorem d_Mo_function_196 : decode c_Mo_function 196 = .ok (.istore 8, 2) := by decide +kernel
theorem d_Mo_function_198 : decode c_Mo_function 198 = .ok (.aload_n 0, 1) := by decide +kernel
theorem d_Mo_function_199 : decode c_Mo_function 199 = .ok (.getfield 225, 3) := by decide +kernel
theorem d_Mo_function_202 : decode c_Mo_function 202 = .ok (.istore 9, 2) := by decide +kernel
theorem d_Mo_function_204 : decode c_Mo_function 204 = .ok (.aload_n 0, 1) := by decide +kernel
theorem d_Mo_function_205 : decode c_Mo_function 205 = .ok (.getfield 228, 3) := by decide +kernel
theorem d_Mo_function_208 : decode c_Mo_function 208 = .ok (.istore 10, 2) := by decide +kernel
theorem d_Mo_function_210 : decode c_Mo_function 210 = .ok (.aload_n 0, 1) := by decide +kernel
theorem d_Mo_function_211 : decode c_Mo_function 211 = .ok (.getfield 231, 3) := by decide +kernel
theorem d_Mo_function_214 : decode c_Mo_function 214 = .ok (.istore 11, 2) := by decide +kernel
theorem d_Mo_function_216 : decode c_Mo_function 216 = .ok (.aload_n 0, 1) := by decide +kernel
theorem d_Mo_function_217 : decode c_Mo_function 217 = .ok (.iconst 1, 1) := by decide +kernel
theorem d_Mo_function_218 : decode c_Mo_function 218 = .ok (.putfield 222, 3) := by decide +kernel
theorem d_Mo_function_221 : decode c_Mo_function 221 = .ok (.aload_n 0, 1) := by decide +kernel
theorem d_Mo_function_222 : decode c_Mo_function 222 = .ok (.aload_n 0, 1) := by decide +kernel
theorem d_Mo_function_223 : decode c_Mo_function 223 = .ok (.getfield 234, 3) := by decide +kernel
theorem d_Mo_function_226 : decode c_Mo_function 226 = .ok (.putfield 225, 3) := by decide +kernel
theorem d_Mo_function_229 : decode c_Mo_function 229 = .ok (.aload_n 0, 1) := by decide +kernel
theorem d_Mo_function_230 : decode c_Mo_function 230 = .ok (.iconst 0, 1) := by decide +kernel
theorem d_Mo_function_231 : decode c_Mo_function 231 = .ok (.putfield 228, 3) := by decide +kernel
theorem d_Mo_function_234 : decode c_Mo_function 234 = .ok (.aload_n 0, 1) := by decide +kernel
theorem d_Mo_function_235 : decode c_Mo_function 235 = .ok (.iconst 0, 1) := by decide +kernel
theorem d_Mo_function_236 : decode c_Mo_function 236 = .ok (.putfield 231, 3) := by decide +kernel
theorem d_Mo_function_239 : decode c_Mo_function 239 = .ok (.aload_n 0, 1) := by decide +kernel
theorem d_Mo_function_240 : decode c_Mo_function 240 = .ok (.iload 6, 2) := by decide +kernel
theorem d_Mo_function_242 : decode c_Mo_function 242 = .ok (.iload_n 2, 1) := by decide +kernel
theorem d_Mo_function_243 : decode c_Mo_function 243 = .ok (.iconst 1, 1) := by decide +kernel
theorem d_Mo_function_244 : decode c_Mo_function 244 = .ok (.iadd, 1) := by decide +kernel
theorem d_Mo_function_245 : decode c_Mo_function 245 = .ok (.iload 5, 2) := by decide +kernel
theorem d_Mo_function_247 : decode c_Mo_function 247 = .ok (.invokestatic 237, 3) := by decide +kernel
theorem d_Mo_function_250 : decode c_Mo_function 250 = .ok (.aload_n 0, 1) := by decide +kernel
theorem d_Mo_function_251 : decode c_Mo_function 251 = .ok (.bipush 65, 2) := by decide +kernel
theorem d_Mo_function_253 : decode c_Mo_function 253 = .ok (.invokevirtual 137, 3) := by decide +kernel
theorem d_Mo_function_256 : decode c_Mo_function 256 = .ok (.aload_n 0, 1) := by decide +kernel
theorem d_Mo_function_257 : decode c_Mo_function 257 = .ok (.getfield 30, 3) := by decide +kernel
theorem d_Mo_function_260 : decode c_Mo_function 260 = .ok (.iload 6, 2) := by decide +kernel
theorem d_Mo_function_262 : decode c_Mo_function 262 = .ok (.aload_n 0, 1) := by decide +kernel
theorem d_Mo_function_263 : decode c_Mo_function 263 = .ok (.getfield 97, 3) := by decide +kernel
theorem d_Mo_function_266 : decode c_Mo_function 266 = .ok (.ifCond .eq 7, 3) := by decide +kernel
theorem d_Mo_function_269 : decode c_Mo_function 269 = .ok (.iconst 1, 1) := by decide +kernel
theorem d_Mo_function_270 : decode c_Mo_function 270 = .ok (.goto 4, 3) := by decide +kernel
theorem d_Mo_function_273 : decode c_Mo_function 273 = .ok (.iconst 0, 1) := by decide +kernel
theorem d_Mo_function_274 : decode c_Mo_function 274 = .ok (.iastore, 1) := by decide +kernel
theorem d_Mo_function_275 : decode c_Mo_function 275 = .ok (.aload_n 0, 1) := by decide +kernel
theorem d_Mo_function_276 : decode c_Mo_function 276 = .ok (.iload 7, 2) := by decide +kernel
theorem d_Mo_function_278 : decode c_Mo_function 278 = .ok (.putfield 97, 3) := by decide +kernel
theorem d_Mo_function_281 : decode c_Mo_function 281 = .ok (.aload_n 0, 1) := by decide +kernel
theorem d_Mo_function_282 : decode c_Mo_function 282 = .ok (.iload 8, 2) := by decide +kernel
theorem d_Mo_function_284 : decode c_Mo_function 284 = .ok (.putfield 222, 3) := by decide +kernel
theorem d_Mo_function_287 : decode c_Mo_function 287 = .ok (.aload_n 0, 1) := by decide +kernel
theorem d_Mo_function_288 : decode c_Mo_function 288 = .ok (.iload 9, 2) := by decide +kernel
theorem d_Mo_function_290 : decode c_Mo_function 290 = .ok (.putfield 225, 3) := by decide +kernel
theorem d_Mo_function_293 : decode c_Mo_function 293 = .ok (.aload_n 0, 1) := by decide +kernel
theorem d_Mo_function_294 : decode c_Mo_function 294 = .ok (.iload 10, 2) := by decide +kernel
theorem d_Mo_function_296 : decode c_Mo_function 296 = .ok (.putfield 228, 3) := by decide +kernel
theorem d_Mo_function_299 : decode c_Mo_function 299 = .ok (.aload_n 0, 1) := by decide +kernel
theorem d_Mo_function_300 : decode c_Mo_function 300 = .ok (.iload 11, 2) := by decide +kernel
theorem d_Mo_function_302 : decode c_Mo_function 302 = .ok (.putfield 231, 3) := by decide +kernel
theorem d_Mo_function_305 : decode c_Mo_function 305 = .ok (.aload_n 0, 1) := by decide +kernel
theorem d_Mo_function_306 : decode c_Mo_function 306 = .ok (.iload_n 3, 1) := by decide +kernel
theorem d_Mo_function_307 : decode c_Mo_function 307 = .ok (.putfield 109, 3) := by decide +kernel
theorem d_Mo_function_310 : decode c_Mo_function 310 = .ok (.iload 4, 2) := by decide +kernel
theorem d_Mo_function_312 : decode c_Mo_function 312 = .ok (.ireturn, 1) := by decide +kernel
theorem d_Mo_statements_0 : decode c_Mo_statements 0 = .ok (.iconst 1, 1) := by decide +kernel
theorem d_Mo_statements_1 : decode c_Mo_statements 1 = .ok (.istore 4, 2) := by decide +kernel
theorem d_Mo_statements_3 : decode c_Mo_statements 3 = .ok (.aload_n 0, 1) := by decide +kernel
theorem d_Mo_statements_4 : decode c_Mo_statements 4 = .ok (.getfield 84, 3) := by decide +kernel
theorem d_Mo_statements_7 : decode c_Mo_statements 7 = .ok (.aload_n 0, 1) := by decide +kernel
theorem d_Mo_statements_8 : decode c_Mo_statements 8 = .ok (.getfield 74, 3) := by decide +kernel
theorem d_Mo_statements_11 : decode c_Mo_statements 11 = .ok (.if_icmp .ge 151, 3) := by decide +kernel
theorem d_Mo_statements_14 : decode c_Mo_statements 14 = .ok (.aload_n 0, 1) := by decide +kernel
theorem d_Mo_statements_15 : decode c_Mo_statements 15 = .ok (.bipush 65, 2) := by decide +kernel
theorem d_Mo_statements_17 : decode c_Mo_statements 17 = .ok (.invokevirtual 90, 3) := by decide +kernel
theorem d_Mo_statements_20 : decode c_Mo_statements 20 = .ok (.ifCond .ne 142, 3) := by decide +kernel
theorem d_Mo_statements_23 : decode c_Mo_statements 23 = .ok (.aload_n 0, 1) := by decide +kernel
theorem d_Mo_statements_24 : decode c_Mo_statements 24 = .ok (.getfield 84, 3) := by decide +kernel
theorem d_Mo_statements_27 : decode c_Mo_statements 27 = .ok (.istore 5, 2) := by decide +kernel
theorem d_Mo_statements_29 : decode c_Mo_statements 29 = .ok (.aload_n 0, 1) := by decide +kernel
theorem d_Mo_statements_30 : decode c_Mo_statements 30 = .ok (.iconst 3, 1) := by decide +kernel
theorem d_Mo_statements_31 : decode c_Mo_statements 31 = .ok (.invokevirtual 87, 3) := by decide +kernel
theorem d_Mo_statements_34 : decode c_Mo_statements 34 = .ok (.istore 6, 2) := by decide +kernel
theorem d_Mo_statements_36 : decode c_Mo_statements 36 = .ok (.aload_n 0, 1) := by decide +kernel
theorem d_Mo_statements_37 : decode c_Mo_statements 37 = .ok (.bipush 11, 2) := by decide +kernel
theorem d_Mo_statements_39 : decode c_Mo_statements 39 = .ok (.invokevirtual 143, 3) := by decide +kernel
theorem d_Mo_statements_42 : decode c_Mo_statements 42 = .ok (.ifCond .eq 11, 3) := by decide +kernel
theorem d_Mo_statements_45 : decode c_Mo_statements 45 = .ok (.aload_n 0, 1) := by decide +kernel
theorem d_Mo_statements_46 : decode c_Mo_statements 46 = .ok (.iload_n 2, 1) := by decide +kernel
theorem d_Mo_statements_47 : decode c_Mo_statements 47 = .ok (.invokestatic 240, 3) := by decide +kernel
theorem d_Mo_statements_50 : decode c_Mo_statements 50 = .ok (.goto 12, 3) := by decide +kernel
theorem d_Mo_statements_53 : decode c_Mo_statements 53 = .ok (.aload_n 0, 1) := by decide +kernel
theorem d_Mo_statements_54 : decode c_Mo_statements 54 = .ok (.iload_n 2, 1) := by decide +kernel
theorem d_Mo_statements_55 : decode c_Mo_statements 55 = .ok (.aload_n 0, 1) := by decide +kernel
theorem d_Mo_statements_56 : decode c_Mo_statements 56 = .ok (.getfield 234, 3) := by decide +kernel
theorem d_Mo_statements_59 : decode c_Mo_statements 59 = .ok (.invokestatic 243, 3) := by decide +kernel
theorem d_Mo_statements_62 : decode c_Mo_statements 62 = .ok (.istore 7, 2) := by decide +kernel
theorem d_Mo_statements_64 : decode c_Mo_statements 64 = .ok (.aload_n 0, 1) := by decide +kernel
theorem d_Mo_statements_65 : decode c_Mo_statements 65 = .ok (.iload_n 1, 1) := by decide +kernel
theorem d_Mo_statements_66 : decode c_Mo_statements 66 = .ok (.iload 7, 2) := by decide +kernel
theorem d_Mo_statements_68 : decode c_Mo_statements 68 = .ok (.invokevirtual 119, 3) := by decide +kernel
theorem d_Mo_statements_71 : decode c_Mo_statements 71 = .ok (.iload 4, 2) := by decide +kernel
theorem d_Mo_statements_73 : decode c_Mo_statements 73 = .ok (.ifCond .eq 40, 3) := by decide +kernel
theorem d_Mo_statements_76 : decode c_Mo_statements 76 = .ok (.iload 6, 2) := by decide +kernel
theorem d_Mo_statements_78 : decode c_Mo_statements 78 = .ok (.ifCond .eq 35, 3) := by decide +kernel
theorem d_Mo_statements_81 : decode c_Mo_statements 81 = .ok (.aload_n 0, 1) := by decide +kernel
theorem d_Mo_statements_82 : decode c_Mo_statements 82 = .ok (.getfield 27, 3) := by decide +kernel
theorem d_Mo_statements_85 : decode c_Mo_statements 85 = .ok (.iload 7, 2) := by decide +kernel
theorem d_Mo_statements_87 : decode c_Mo_statements 87 = .ok (.iaload, 1) := by decide +kernel
theorem d_Mo_statements_88 : decode c_Mo_statements 88 = .ok (.iconst 5, 1) := by decide +kernel
theorem d_Mo_statements_89 : decode c_Mo_statements 89 = .ok (.if_icmp .ne 24, 3) := by decide +kernel
theorem d_Mo_statements_92 : decode c_Mo_statements 92 = .ok (.aload_n 0, 1) := by decide +kernel
theorem d_Mo_statements_93 : decode c_Mo_statements 93 = .ok (.getfield 27, 3) := by decide +kernel
theorem d_Mo_statements_96 : decode c_Mo_statements 96 = .ok (.aload_n 0, 1) := by decide +kernel
theorem d_Mo_statements_97 : decode c_Mo_statements 97 = .ok (.getfield 36, 3) := by decide +kernel
theorem d_Mo_statements_100 : decode c_Mo_statements 100 = .ok (.iload 7, 2) := by decide +kernel
theorem d_Mo_statements_102 : decode c_Mo_statements 102 = .ok (.iaload, 1) := by decide +kernel
theorem d_Mo_statements_103 : decode c_Mo_statements 103 = .ok (.iaload, 1) := by decide +kernel
theorem d_Mo_statements_104 : decode c_Mo_statements 104 = .ok (.bipush 30, 2) := by decide +kernel
theorem d_Mo_statements_106 : decode c_Mo_statements 106 = .ok (.if_icmp .ne 7, 3) := by decide +kernel
theorem d_Mo_statements_109 : decode c_Mo_statements 109 = .ok (.iconst 1, 1) := by decide +kernel
theorem d_Mo_statements_110 : decode c_Mo_statements 110 = .ok (.goto 4, 3) := by decide +kernel
theorem d_Mo_statements_113 : decode c_Mo_statements 113 = .ok (.iconst 0, 1) := by decide +kernel
theorem d_Mo_statements_114 : decode c_Mo_statements 114 = .ok (.istore 4, 2) := by decide +kernel
theorem d_Mo_statements_116 : decode c_Mo_statements 116 = .ok (.iload 4, 2) := by decide +kernel
theorem d_Mo_statements_118 : decode c_Mo_statements 118 = .ok (.ifCond .eq (-115), 3) := by decide +kernel
theorem d_Mo_statements_121 : decode c_Mo_statements 121 = .ok (.aload_n 0, 1) := by decide +kernel
theorem d_Mo_statements_122 : decode c_Mo_statements 122 = .ok (.getfield 13, 3) := by decide +kernel
theorem d_Mo_statements_125 : decode c_Mo_statements 125 = .ok (.iload 5, 2) := by decide +kernel
theorem d_Mo_statements_127 : decode c_Mo_statements 127 = .ok (.iaload, 1) := by decide +kernel
theorem d_Mo_statements_128 : decode c_Mo_statements 128 = .ok (.iconst 1, 1) := by decide +kernel
theorem d_Mo_statements_129 : decode c_Mo_statements 129 = .ok (.if_icmp .ne (-126), 3) := by decide +kernel
theorem d_Mo_statements_132 : decode c_Mo_statements 132 = .ok (.aload_n 0, 1) := by decide +kernel
theorem d_Mo_statements_133 : decode c_Mo_statements 133 = .ok (.getfield 97, 3) := by decide +kernel
theorem d_Mo_statements_136 : decode c_Mo_statements 136 = .ok (.ifCond .eq 6, 3) := by decide +kernel
theorem d_Mo_statements_139 : decode c_Mo_statements 139 = .ok (.goto (-136), 3) := by decide +kernel
theorem d_Mo_statements_142 : decode c_Mo_statements 142 = .ok (.aload_n 0, 1) := by decide +kernel
theorem d_Mo_statements_143 : decode c_Mo_statements 143 = .ok (.iconst 1, 1) := by decide +kernel
theorem d_Mo_statements_144 : decode c_Mo_statements 144 = .ok (.putfield 97, 3) := by decide +kernel
theorem d_Mo_statements_147 : decode c_Mo_statements 147 = .ok (.aload_n 0, 1) := by decide +kernel
theorem d_Mo_statements_148 : decode c_Mo_statements 148 = .ok (.getfield 109, 3) := by decide +kernel
theorem d_Mo_statements_151 : decode c_Mo_statements 151 = .ok (.ifCond .eq 8, 3) := by decide +kernel
theorem d_Mo_statements_154 : decode c_Mo_statements 154 = .ok (.aload_n 0, 1) := by decide +kernel
theorem d_Mo_statements_155 : decode c_Mo_statements 155 = .ok (.iload_n 3, 1) := by decide +kernel
theorem d_Mo_statements_156 : decode c_Mo_statements 156 = .ok (.invokevirtual 93, 3) := by decide +kernel
theorem d_Mo_statements_159 : decode c_Mo_statements 159 = .ok (.goto (-156), 3) := by decide +kernel
theorem d_Mo_statements_162 : decode c_Mo_statements 162 = .ok (.return_, 1) := by decide +kernel
theorem d_Mo_declaration_0 : decode c_Mo_declaration 0 = .ok (.aload_n 0, 1) := by decide +kernel
theorem d_Mo_declaration_1 : decode c_Mo_declaration 1 = .ok (.iload_n 1, 1) := by decide +kernel
theorem d_Mo_declaration_2 : decode c_Mo_declaration 2 = .ok (.invokevirtual 130, 3) := by decide +kernel
theorem d_Mo_declaration_5 : decode c_Mo_declaration 5 = .ok (.aload_n 0, 1) := by decide +kernel
theorem d_Mo_declaration_6 : decode c_Mo_declaration 6 = .ok (.bipush 24, 2) := by decide +kernel
theorem d_Mo_declaration_8 : decode c_Mo_declaration 8 = .ok (.iload_n 1, 1) := by decide +kernel
theorem d_Mo_declaration_9 : decode c_Mo_declaration 9 = .ok (.invokestatic 189, 3) := by decide +kernel
theorem d_Mo_declaration_12 : decode c_Mo_declaration 12 = .ok (.ireturn, 1) := by decide +kernel
theorem d_Mo_statement_0 : decode c_Mo_statement 0 = .ok (.aload_n 0, 1) := by decide +kernel
theorem d_Mo_statement_1 : decode c_Mo_statement 1 = .ok (.iload_n 1, 1) := by decide +kernel
theorem d_Mo_statement_2 : decode c_Mo_statement 2 = .ok (.invokevirtual 130, 3) := by decide +kernel
theorem d_Mo_statement_5 : decode c_Mo_statement 5 = .ok (.aload_n 0, 1) := by decide +kernel
theorem d_Mo_statement_6 : decode c_Mo_statement 6 = .ok (.bipush 64, 2) := by decide +kernel
theorem d_Mo_statement_8 : decode c_Mo_statement 8 = .ok (.invokevirtual 90, 3) := by decide +kernel
theorem d_Mo_statement_11 : decode c_Mo_statement 11 = .ok (.ifCond .eq 9, 3) := by decide +kernel
theorem d_Mo_statement_14 : decode c_Mo_statement 14 = .ok (.aload_n 0, 1) := by decide +kernel
theorem d_Mo_statement_15 : decode c_Mo_statement 15 = .ok (.iload_n 1, 1) := by decide +kernel
theorem d_Mo_statement_16 : decode c_Mo_statement 16 = .ok (.invokestatic 246, 3) := by decide +kernel
theorem d_Mo_statement_19 : decode c_Mo_statement 19 = .ok (.ireturn, 1) := by decide +kernel
theorem d_Mo_statement_20 : decode c_Mo_statement 20 = .ok (.aload_n 0, 1) := by decide +kernel
theorem d_Mo_statement_21 : decode c_Mo_statement 21 = .ok (.bipush 67, 2) := by decide +kernel
theorem d_Mo_statement_23 : decode c_Mo_statement 23 = .ok (.invokevirtual 90, 3) := by decide +kernel
theorem d_Mo_statement_26 : decode c_Mo_statement 26 = .ok (.ifCond .eq 9, 3) := by decide +kernel
theorem d_Mo_statement_29 : decode c_Mo_statement 29 = .ok (.aload_n 0, 1) := by decide +kernel
theorem d_Mo_statement_30 : decode c_Mo_statement 30 = .ok (.iconst 4, 1) := by decide +kernel
theorem d_Mo_statement_31 : decode c_Mo_statement 31 = .ok (.invokevirtual 186, 3) := by decide +kernel
theorem d_Mo_statement_34 : decode c_Mo_statement 34 = .ok (.ireturn, 1) := by decide +kernel
theorem d_Mo_statement_35 : decode c_Mo_statement 35 = .ok (.aload_n 0, 1) := by decide +kernel
theorem d_Mo_statement_36 : decode c_Mo_statement 36 = .ok (.iconst 1, 1) := by decide +kernel
theorem d_Mo_statement_37 : decode c_Mo_statement 37 = .ok (.invokevirtual 87, 3) := by decide +kernel
theorem d_Mo_statement_40 : decode c_Mo_statement 40 = .ok (.ifCond .ne 10, 3) := by decide +kernel
theorem d_Mo_statement_43 : decode c_Mo_statement 43 = .ok (.aload_n 0, 1) := by decide +kernel
theorem d_Mo_statement_44 : decode c_Mo_statement 44 = .ok (.iload_n 1, 1) := by decide +kernel
theorem d_Mo_statement_45 : decode c_Mo_statement 45 = .ok (.iload_n 2, 1) := by decide +kernel
theorem d_Mo_statement_46 : decode c_Mo_statement 46 = .ok (.invokestatic 249, 3) := by decide +kernel
theorem d_Mo_statement_49 : decode c_Mo_statement 49 = .ok (.ireturn, 1) := by decide +kernel
theorem d_Mo_statement_50 : decode c_Mo_statement 50 = .ok (.aload_n 0, 1) := by decide +kernel
theorem d_Mo_statement_51 : decode c_Mo_statement 51 = .ok (.getfield 13, 3) := by decide +kernel
theorem d_Mo_statement_54 : decode c_Mo_statement 54 = .ok (.aload_n 0, 1) := by decide +kernel
theorem d_Mo_statement_55 : decode c_Mo_statement 55 = .ok (.getfield 84, 3) := by decide +kernel
theorem d_Mo_statement_58 : decode c_Mo_statement 58 = .ok (.iaload, 1) := by decide +kernel
theorem d_Mo_statement_59 : decode c_Mo_statement 59 = .ok (.tableswitch 209 0 25 #[117, 209, 209, 124, 131, 209, 209, 136, 209, 209, 143, 150, 160, 209, 209, 209, 166, 172, 209, 178, 184, 209, 190, 209, 196, 203], 117) := by decide +kernel
theorem d_Mo_statement_176 : decode c_Mo_statement 176 = .ok (.aload_n 0, 1) := by decide +kernel
theorem d_Mo_statement_177 : decode c_Mo_statement 177 = .ok (.bipush 12, 2) := by decide +kernel
theorem d_Mo_statement_179 : decode c_Mo_statement 179 = .ok (.invokestatic 252, 3) := by decide +kernel
theorem d_Mo_statement_182 : decode c_Mo_statement 182 = .ok (.ireturn, 1) := by decide +kernel
theorem d_Mo_statement_183 : decode c_Mo_statement 183 = .ok (.aload_n 0, 1) := by decide +kernel
theorem d_Mo_statement_184 : decode c_Mo_statement 184 = .ok (.bipush 11, 2) := by decide +kernel
theorem d_Mo_statement_186 : decode c_Mo_statement 186 = .ok (.invokestatic 252, 3) := by decide +kernel
theorem d_Mo_statement_189 : decode c_Mo_statement 189 = .ok (.ireturn, 1) := by decide +kernel
theorem d_Mo_statement_190 : decode c_Mo_statement 190 = .ok (.aload_n 0, 1) := by decide +kernel
theorem d_Mo_statement_191 : decode c_Mo_statement 191 = .ok (.invokestatic 255, 3) := by decide +kernel
theorem d_Mo_statement_194 : decode c_Mo_statement 194 = .ok (.ireturn, 1) := by decide +kernel
theorem d_Mo_statement_195 : decode c_Mo_statement 195 = .ok (.aload_n 0, 1) := by decide +kernel
theorem d_Mo_statement_196 : decode c_Mo_statement 196 = .ok (.iload_n 1, 1) := by decide +kernel
theorem d_Mo_statement_197 : decode c_Mo_statement 197 = .ok (.iload_n 2, 1) := by decide +kernel
theorem d_Mo_statement_198 : decode c_Mo_statement 198 = .ok (.invokestatic 259, 3) := by decide +kernel
theorem d_Mo_statement_201 : decode c_Mo_statement 201 = .ok (.ireturn, 1) := by decide +kernel
theorem d_Mo_statement_202 : decode c_Mo_statement 202 = .ok (.aload_n 0, 1) := by decide +kernel
theorem d_Mo_statement_203 : decode c_Mo_statement 203 = .ok (.iload_n 1, 1) := by decide +kernel
theorem d_Mo_statement_204 : decode c_Mo_statement 204 = .ok (.iload_n 2, 1) := by decide +kernel
theorem d_Mo_statement_205 : decode c_Mo_statement 205 = .ok (.invokestatic 262, 3) := by decide +kernel
theorem d_Mo_statement_208 : decode c_Mo_statement 208 = .ok (.ireturn, 1) := by decide +kernel
theorem d_Mo_statement_209 : decode c_Mo_statement 209 = .ok (.aload_n 0, 1) := by decide +kernel
theorem d_Mo_statement_210 : decode c_Mo_statement 210 = .ok (.aload_n 0, 1) := by decide +kernel
theorem d_Mo_statement_211 : decode c_Mo_statement 211 = .ok (.getfield 84, 3) := by decide +kernel
theorem d_Mo_statement_214 : decode c_Mo_statement 214 = .ok (.invokevirtual 93, 3) := by decide +kernel
theorem d_Mo_statement_217 : decode c_Mo_statement 217 = .ok (.iconst 0, 1) := by decide +kernel
theorem d_Mo_statement_218 : decode c_Mo_statement 218 = .ok (.ireturn, 1) := by decide +kernel
theorem d_Mo_statement_219 : decode c_Mo_statement 219 = .ok (.aload_n 0, 1) := by decide +kernel
theorem d_Mo_statement_220 : decode c_Mo_statement 220 = .ok (.iload_n 1, 1) := by decide +kernel
theorem d_Mo_statement_221 : decode c_Mo_statement 221 = .ok (.invokestatic 265, 3) := by decide +kernel
theorem d_Mo_statement_224 : decode c_Mo_statement 224 = .ok (.ireturn, 1) := by decide +kernel
theorem d_Mo_statement_225 : decode c_Mo_statement 225 = .ok (.aload_n 0, 1) := by decide +kernel
theorem d_Mo_statement_226 : decode c_Mo_statement 226 = .ok (.iload_n 1, 1) := by decide +kernel
theorem d_Mo_statement_227 : decode c_Mo_statement 227 = .ok (.invokestatic 268, 3) := by decide +kernel
theorem d_Mo_statement_230 : decode c_Mo_statement 230 = .ok (.ireturn, 1) := by decide +kernel
theorem d_Mo_statement_231 : decode c_Mo_statement 231 = .ok (.aload_n 0, 1) := by decide +kernel
theorem d_Mo_statement_232 : decode c_Mo_statement 232 = .ok (.iload_n 1, 1) := by decide +kernel
theorem d_Mo_statement_233 : decode c_Mo_statement 233 = .ok (.invokestatic 271, 3) := by decide +kernel
theorem d_Mo_statement_236 : decode c_Mo_statement 236 = .ok (.ireturn, 1) := by decide +kernel
theorem d_Mo_statement_237 : decode c_Mo_statement 237 = .ok (.aload_n 0, 1) := by decide +kernel
theorem d_Mo_statement_238 : decode c_Mo_statement 238 = .ok (.iload_n 1, 1) := by decide +kernel
theorem d_Mo_statement_239 : decode c_Mo_statement 239 = .ok (.invokestatic 274, 3) := by decide +kernel
theorem d_Mo_statement_242 : decode c_Mo_statement 242 = .ok (.ireturn, 1) := by decide +kernel
theorem d_Mo_statement_243 : decode c_Mo_statement 243 = .ok (.aload_n 0, 1) := by decide +kernel
theorem d_Mo_statement_244 : decode c_Mo_statement 244 = .ok (.iload_n 1, 1) := by decide +kernel
theorem d_Mo_statement_245 : decode c_Mo_statement 245 = .ok (.invokestatic 277, 3) := by decide +kernel
theorem d_Mo_statement_248 : decode c_Mo_statement 248 = .ok (.ireturn, 1) := by decide +kernel
theorem d_Mo_statement_249 : decode c_Mo_statement 249 = .ok (.aload_n 0, 1) := by decide +kernel
theorem d_Mo_statement_250 : decode c_Mo_statement 250 = .ok (.iload_n 1, 1) := by decide +kernel
theorem d_Mo_statement_251 : decode c_Mo_statement 251 = .ok (.invokestatic 280, 3) := by decide +kernel
theorem d_Mo_statement_254 : decode c_Mo_statement 254 = .ok (.ireturn, 1) := by decide +kernel
theorem d_Mo_statement_255 : decode c_Mo_statement 255 = .ok (.aload_n 0, 1) := by decide +kernel
theorem d_Mo_statement_256 : decode c_Mo_statement 256 = .ok (.iload_n 1, 1) := by decide +kernel
theorem d_Mo_statement_257 : decode c_Mo_statement 257 = .ok (.iload_n 2, 1) := by decide +kernel
theorem d_Mo_statement_258 : decode c_Mo_statement 258 = .ok (.invokestatic 283, 3) := by decide +kernel
theorem d_Mo_statement_261 : decode c_Mo_statement 261 = .ok (.ireturn, 1) := by decide +kernel
theorem d_Mo_statement_262 : decode c_Mo_statement 262 = .ok (.aload_n 0, 1) := by decide +kernel
theorem d_Mo_statement_263 : decode c_Mo_statement 263 = .ok (.iload_n 1, 1) := by decide +kernel
theorem d_Mo_statement_264 : decode c_Mo_statement 264 = .ok (.invokestatic 286, 3) := by decide +kernel
theorem d_Mo_statement_267 : decode c_Mo_statement 267 = .ok (.ireturn, 1) := by decide +kernel
theorem d_Mo_statement_268 : decode c_Mo_statement 268 = .ok (.aload_n 0, 1) := by decide +kernel
theorem d_Mo_statement_269 : decode c_Mo_statement 269 = .ok (.iload_n 1, 1) := by decide +kernel
theorem d_Mo_statement_270 : decode c_Mo_statement 270 = .ok (.iload_n 2, 1) := by decide +kernel
theorem d_Mo_statement_271 : decode c_Mo_statement 271 = .ok (.invokestatic 249, 3) := by decide +kernel
theorem d_Mo_statement_274 : decode c_Mo_statement 274 = .ok (.ireturn, 1) := by decide +kernel
theorem d_Mo_block_0 : decode c_Mo_block 0 = .ok (.aload_n 0, 1) := by decide +kernel
theorem d_Mo_block_1 : decode c_Mo_block 1 = .ok (.iload_n 1, 1) := by decide +kernel
theorem d_Mo_block_2 : decode c_Mo_block 2 = .ok (.invokevirtual 130, 3) := by decide +kernel
theorem d_Mo_block_5 : decode c_Mo_block 5 = .ok (.aload_n 0, 1) := by decide +kernel
theorem d_Mo_block_6 : decode c_Mo_block 6 = .ok (.getfield 84, 3) := by decide +kernel
theorem d_Mo_block_9 : decode c_Mo_block 9 = .ok (.istore_n 2, 1) := by decide +kernel
theorem d_Mo_block_10 : decode c_Mo_block 10 = .ok (.aload_n 0, 1) := by decide +kernel
theorem d_Mo_block_11 : decode c_Mo_block 11 = .ok (.bipush 64, 2) := by decide +kernel
theorem d_Mo_block_13 : decode c_Mo_block 13 = .ok (.invokevirtual 137, 3) := by decide +kernel
theorem d_Mo_block_16 : decode c_Mo_block 16 = .ok (.aload_n 0, 1) := by decide +kernel
theorem d_Mo_block_17 : decode c_Mo_block 17 = .ok (.iconst 1, 1) := by decide +kernel
theorem d_Mo_block_18 : decode c_Mo_block 18 = .ok (.iconst 0, 1) := by decide +kernel
theorem d_Mo_block_19 : decode c_Mo_block 19 = .ok (.iload_n 2, 1) := by decide +kernel
theorem d_Mo_block_20 : decode c_Mo_block 20 = .ok (.invokevirtual 115, 3) := by decide +kernel
theorem d_Mo_block_23 : decode c_Mo_block 23 = .ok (.istore_n 3, 1) := by decide +kernel
theorem d_Mo_block_24 : decode c_Mo_block 24 = .ok (.aload_n 0, 1) := by decide +kernel
theorem d_Mo_block_25 : decode c_Mo_block 25 = .ok (.bipush 65, 2) := by decide +kernel
theorem d_Mo_block_27 : decode c_Mo_block 27 = .ok (.invokevirtual 90, 3) := by decide +kernel
theorem d_Mo_block_30 : decode c_Mo_block 30 = .ok (.ifCond .ne 22, 3) := by decide +kernel
theorem d_Mo_block_33 : decode c_Mo_block 33 = .ok (.aload_n 0, 1) := by decide +kernel
theorem d_Mo_block_34 : decode c_Mo_block 34 = .ok (.iload_n 3, 1) := by decide +kernel
theorem d_Mo_block_35 : decode c_Mo_block 35 = .ok (.aload_n 0, 1) := by decide +kernel
theorem d_Mo_block_36 : decode c_Mo_block 36 = .ok (.iload_n 1, 1) := by decide +kernel
theorem d_Mo_block_37 : decode c_Mo_block 37 = .ok (.iconst 1, 1) := by decide +kernel
theorem d_Mo_block_38 : decode c_Mo_block 38 = .ok (.iadd, 1) := by decide +kernel
theorem d_Mo_block_39 : decode c_Mo_block 39 = .ok (.aload_n 0, 1) := by decide +kernel
theorem d_Mo_block_40 : decode c_Mo_block 40 = .ok (.getfield 234, 3) := by decide +kernel
theorem d_Mo_block_43 : decode c_Mo_block 43 = .ok (.invokestatic 243, 3) := by decide +kernel
theorem d_Mo_block_46 : decode c_Mo_block 46 = .ok (.invokevirtual 119, 3) := by decide +kernel
theorem d_Mo_block_49 : decode c_Mo_block 49 = .ok (.goto (-25), 3) := by decide +kernel
theorem d_Mo_block_52 : decode c_Mo_block 52 = .ok (.aload_n 0, 1) := by decide +kernel
theorem d_Mo_block_53 : decode c_Mo_block 53 = .ok (.dup, 1) := by decide +kernel
theorem d_Mo_block_54 : decode c_Mo_block 54 = .ok (.getfield 84, 3) := by decide +kernel
theorem d_Mo_block_57 : decode c_Mo_block 57 = .ok (.iconst 1, 1) := by decide +kernel
theorem d_Mo_block_58 : decode c_Mo_block 58 = .ok (.iadd, 1) := by decide +kernel
theorem d_Mo_block_59 : decode c_Mo_block 59 = .ok (.putfield 84, 3) := by decide +kernel
theorem d_Mo_block_62 : decode c_Mo_block 62 = .ok (.iload_n 3, 1) := by decide +kernel
theorem d_Mo_block_63 : decode c_Mo_block 63 = .ok (.ireturn, 1) := by decide +kernel
theorem d_Mo_debugger_0 : decode c_Mo_debugger 0 = .ok (.aload_n 0, 1) := by decide +kernel
theorem d_Mo_debugger_1 : decode c_Mo_debugger 1 = .ok (.bipush 23, 2) := by decide +kernel
theorem d_Mo_debugger_3 : decode c_Mo_debugger 3 = .ok (.invokevirtual 186, 3) := by decide +kernel
theorem d_Mo_debugger_6 : decode c_Mo_debugger 6 = .ok (.istore_n 1, 1) := by decide +kernel
theorem d_Mo_debugger_7 : decode c_Mo_debugger 7 = .ok (.aload_n 0, 1) := by decide +kernel
theorem d_Mo_debugger_8 : decode c_Mo_debugger 8 = .ok (.invokevirtual 289, 3) := by decide +kernel
theorem d_Mo_debugger_11 : decode c_Mo_debugger 11 = .ok (.iload_n 1, 1) := by decide +kernel
theorem d_Mo_debugger_12 : decode c_Mo_debugger 12 = .ok (.ireturn, 1) := by decide +kernel
theorem d_Mo_plainStatement_0 : decode c_Mo_plainStatement 0 = .ok (.aload_n 0, 1) := by decide +kernel
theorem d_Mo_plainStatement_1 : decode c_Mo_plainStatement 1 = .ok (.getfield 84, 3) := by decide +kernel
theorem d_Mo_plainStatement_4 : decode c_Mo_plainStatement 4 = .ok (.istore_n 3, 1) := by decide +kernel
theorem d_Mo_plainStatement_5 : decode c_Mo_plainStatement 5 = .ok (.aload_n 0, 1) := by decide +kernel
theorem d_Mo_plainStatement_6 : decode c_Mo_plainStatement 6 = .ok (.iconst 1, 1) := by decide +kernel
theorem d_Mo_plainStatement_7 : decode c_Mo_plainStatement 7 = .ok (.invokevirtual 87, 3) := by decide +kernel
theorem d_Mo_plainStatement_10 : decode c_Mo_plainStatement 10 = .ok (.istore 4, 2) := by decide +kernel
theorem d_Mo_plainStatement_12 : decode c_Mo_plainStatement 12 = .ok (.aload_n 0, 1) := by decide +kernel
theorem d_Mo_plainStatement_13 : decode c_Mo_plainStatement 13 = .ok (.iload_n 1, 1) := by decide +kernel
theorem d_Mo_plainStatement_14 : decode c_Mo_plainStatement 14 = .ok (.iconst 1, 1) := by decide +kernel
theorem d_Mo_plainStatement_15 : decode c_Mo_plainStatement 15 = .ok (.iadd, 1) := by decide +kernel
theorem d_Mo_plainStatement_16 : decode c_Mo_plainStatement 16 = .ok (.iconst 1, 1) := by decide +kernel
theorem d_Mo_plainStatement_17 : decode c_Mo_plainStatement 17 = .ok (.invokestatic 173, 3) := by decide +kernel
theorem d_Mo_plainStatement_20 : decode c_Mo_plainStatement 20 = .ok (.istore 5, 2) := by decide +kernel
theorem d_Mo_plainStatement_22 : decode c_Mo_plainStatement 22 = .ok (.iload 4, 2) := by decide +kernel
theorem d_Mo_plainStatement_24 : decode c_Mo_plainStatement 24 = .ok (.ifCond .eq 52, 3) := by decide +kernel
theorem d_Mo_plainStatement_27 : decode c_Mo_plainStatement 27 = .ok (.aload_n 0, 1) := by decide +kernel
theorem d_Mo_plainStatement_28 : decode c_Mo_plainStatement 28 = .ok (.getfield 27, 3) := by decide +kernel
theorem d_Mo_plainStatement_31 : decode c_Mo_plainStatement 31 = .ok (.iload 5, 2) := by decide +kernel
theorem d_Mo_plainStatement_33 : decode c_Mo_plainStatement 33 = .ok (.iaload, 1) := by decide +kernel
theorem d_Mo_plainStatement_34 : decode c_Mo_plainStatement 34 = .ok (.bipush 28, 2) := by decide +kernel
theorem d_Mo_plainStatement_36 : decode c_Mo_plainStatement 36 = .ok (.if_icmp .ne 40, 3) := by decide +kernel
theorem d_Mo_plainStatement_39 : decode c_Mo_plainStatement 39 = .ok (.aload_n 0, 1) := by decide +kernel
theorem d_Mo_plainStatement_40 : decode c_Mo_plainStatement 40 = .ok (.getfield 84, 3) := by decide +kernel
theorem d_Mo_plainStatement_43 : decode c_Mo_plainStatement 43 = .ok (.iload_n 3, 1) := by decide +kernel
theorem d_Mo_plainStatement_44 : decode c_Mo_plainStatement 44 = .ok (.iconst 1, 1) := by decide +kernel
theorem d_Mo_plainStatement_45 : decode c_Mo_plainStatement 45 = .ok (.iadd, 1) := by decide +kernel
theorem d_Mo_plainStatement_46 : decode c_Mo_plainStatement 46 = .ok (.if_icmp .ne 30, 3) := by decide +kernel
theorem d_Mo_plainStatement_49 : decode c_Mo_plainStatement 49 = .ok (.aload_n 0, 1) := by decide +kernel
theorem d_Mo_plainStatement_50 : decode c_Mo_plainStatement 50 = .ok (.bipush 70, 2) := by decide +kernel
theorem d_Mo_plainStatement_52 : decode c_Mo_plainStatement 52 = .ok (.invokevirtual 90, 3) := by decide +kernel
theorem d_Mo_plainStatement_55 : decode c_Mo_plainStatement 55 = .ok (.ifCond .eq 21, 3) := by decide +kernel
theorem d_Mo_plainStatement_58 : decode c_Mo_plainStatement 58 = .ok (.aload_n 0, 1) := by decide +kernel
theorem d_Mo_plainStatement_59 : decode c_Mo_plainStatement 59 = .ok (.dup, 1) := by decide +kernel
theorem d_Mo_plainStatement_60 : decode c_Mo_plainStatement 60 = .ok (.getfield 84, 3) := by decide +kernel
theorem d_Mo_plainStatement_63 : decode c_Mo_plainStatement 63 = .ok (.iconst 1, 1) := by decide +kernel
theorem d_Mo_plainStatement_64 : decode c_Mo_plainStatement 64 = .ok (.iadd, 1) := by decide +kernel
theorem d_Mo_plainStatement_65 : decode c_Mo_plainStatement 65 = .ok (.putfield 84, 3) := by decide +kernel
theorem d_Mo_plainStatement_68 : decode c_Mo_plainStatement 68 = .ok (.aload_n 0, 1) := by decide +kernel
theorem d_Mo_plainStatement_69 : decode c_Mo_plainStatement 69 = .ok (.iload_n 1, 1) := by decide +kernel
theorem d_Mo_plainStatement_70 : decode c_Mo_plainStatement 70 = .ok (.iload_n 2, 1) := by decide +kernel
theorem d_Mo_plainStatement_71 : decode c_Mo_plainStatement 71 = .ok (.iload_n 3, 1) := by decide +kernel
theorem d_Mo_plainStatement_72 : decode c_Mo_plainStatement 72 = .ok (.invokestatic 292, 3) := by decide +kernel
theorem d_Mo_plainStatement_75 : decode c_Mo_plainStatement 75 = .ok (.ireturn, 1) := by decide +kernel
theorem d_Mo_plainStatement_76 : decode c_Mo_plainStatement 76 = .ok (.aload_n 0, 1) := by decide +kernel
theorem d_Mo_plainStatement_77 : decode c_Mo_plainStatement 77 = .ok (.iconst 5, 1) := by decide +kernel
theorem d_Mo_plainStatement_78 : decode c_Mo_plainStatement 78 = .ok (.iconst 0, 1) := by decide +kernel
theorem d_Mo_plainStatement_79 : decode c_Mo_plainStatement 79 = .ok (.iload_n 3, 1) := by decide +kernel
theorem d_Mo_plainStatement_80 : decode c_Mo_plainStatement 80 = .ok (.invokevirtual 115, 3) := by decide +kernel
theorem d_Mo_plainStatement_83 : decode c_Mo_plainStatement 83 = .ok (.istore 6, 2) := by decide +kernel
theorem d_Mo_plainStatement_85 : decode c_Mo_plainStatement 85 = .ok (.aload_n 0, 1) := by decide +kernel
theorem d_Mo_plainStatement_86 : decode c_Mo_plainStatement 86 = .ok (.iload 6, 2) := by decide +kernel
theorem d_Mo_plainStatement_88 : decode c_Mo_plainStatement 88 = .ok (.iload 5, 2) := by decide +kernel
theorem d_Mo_plainStatement_90 : decode c_Mo_plainStatement 90 = .ok (.invokevirtual 119, 3) := by decide +kernel
theorem d_Mo_plainStatement_93 : decode c_Mo_plainStatement 93 = .ok (.aload_n 0, 1) := by decide +kernel
theorem d_Mo_plainStatement_94 : decode c_Mo_plainStatement 94 = .ok (.invokevirtual 289, 3) := by decide +kernel
theorem d_Mo_plainStatement_97 : decode c_Mo_plainStatement 97 = .ok (.iload 6, 2) := by decide +kernel
theorem d_Mo_plainStatement_99 : decode c_Mo_plainStatement 99 = .ok (.ireturn, 1) := by decide +kernel
theorem d_Mo_labelled_0 : decode c_Mo_labelled 0 = .ok (.aload_n 0, 1) := by decide +kernel
theorem d_Mo_labelled_1 : decode c_Mo_labelled 1 = .ok (.getfield 16, 3) := by decide +kernel
theorem d_Mo_labelled_4 : decode c_Mo_labelled 4 = .ok (.iload_n 3, 1) := by decide +kernel
theorem d_Mo_labelled_5 : decode c_Mo_labelled 5 = .ok (.iaload, 1) := by decide +kernel
theorem d_Mo_labelled_6 : decode c_Mo_labelled 6 = .ok (.istore 4, 2) := by decide +kernel
theorem d_Mo_labelled_8 : decode c_Mo_labelled 8 = .ok (.aload_n 0, 1) := by decide +kernel
theorem d_Mo_labelled_9 : decode c_Mo_labelled 9 = .ok (.getfield 225, 3) := by decide +kernel
theorem d_Mo_labelled_12 : decode c_Mo_labelled 12 = .ok (.istore 5, 2) := by decide +kernel
theorem d_Mo_labelled_14 : decode c_Mo_labelled 14 = .ok (.iload 5, 2) := by decide +kernel
theorem d_Mo_labelled_16 : decode c_Mo_labelled 16 = .ok (.aload_n 0, 1) := by decide +kernel
theorem d_Mo_labelled_17 : decode c_Mo_labelled 17 = .ok (.getfield 234, 3) := by decide +kernel
theorem d_Mo_labelled_20 : decode c_Mo_labelled 20 = .ok (.if_icmp .ge 26, 3) := by decide +kernel
theorem d_Mo_labelled_23 : decode c_Mo_labelled 23 = .ok (.aload_n 0, 1) := by decide +kernel
theorem d_Mo_labelled_24 : decode c_Mo_labelled 24 = .ok (.getfield 51, 3) := by decide +kernel
theorem d_Mo_labelled_27 : decode c_Mo_labelled 27 = .ok (.iload 5, 2) := by decide +kernel
theorem d_Mo_labelled_29 : decode c_Mo_labelled 29 = .ok (.iaload, 1) := by decide +kernel
theorem d_Mo_labelled_30 : decode c_Mo_labelled 30 = .ok (.iload 4, 2) := by decide +kernel
theorem d_Mo_labelled_32 : decode c_Mo_labelled 32 = .ok (.if_icmp .ne 8, 3) := by decide +kernel
theorem d_Mo_labelled_35 : decode c_Mo_labelled 35 = .ok (.aload_n 0, 1) := by decide +kernel
theorem d_Mo_labelled_36 : decode c_Mo_labelled 36 = .ok (.iload_n 3, 1) := by decide +kernel
theorem d_Mo_labelled_37 : decode c_Mo_labelled 37 = .ok (.invokevirtual 93, 3) := by decide +kernel
theorem d_Mo_labelled_40 : decode c_Mo_labelled 40 = .ok (.iinc 5 1, 3) := by decide +kernel
theorem d_Mo_labelled_43 : decode c_Mo_labelled 43 = .ok (.goto (-29), 3) := by decide +kernel
theorem d_Mo_labelled_46 : decode c_Mo_labelled 46 = .ok (.aload_n 0, 1) := by decide +kernel
theorem d_Mo_labelled_47 : decode c_Mo_labelled 47 = .ok (.bipush 18, 2) := by decide +kernel
theorem d_Mo_labelled_49 : decode c_Mo_labelled 49 = .ok (.iload 4, 2) := by decide +kernel
theorem d_Mo_labelled_51 : decode c_Mo_labelled 51 = .ok (.iload_n 3, 1) := by decide +kernel
theorem d_Mo_labelled_52 : decode c_Mo_labelled 52 = .ok (.invokevirtual 115, 3) := by decide +kernel
theorem d_Mo_labelled_55 : decode c_Mo_labelled 55 = .ok (.istore 5, 2) := by decide +kernel
theorem d_Mo_labelled_57 : decode c_Mo_labelled 57 = .ok (.aload_n 0, 1) := by decide +kernel
theorem d_Mo_labelled_58 : decode c_Mo_labelled 58 = .ok (.getfield 51, 3) := by decide +kernel
theorem d_Mo_labelled_61 : decode c_Mo_labelled 61 = .ok (.aload_n 0, 1) := by decide +kernel
theorem d_Mo_labelled_62 : decode c_Mo_labelled 62 = .ok (.getfield 234, 3) := by decide +kernel
theorem d_Mo_labelled_65 : decode c_Mo_labelled 65 = .ok (.iload 4, 2) := by decide +kernel
theorem d_Mo_labelled_67 : decode c_Mo_labelled 67 = .ok (.iastore, 1) := by decide +kernel
theorem d_Mo_labelled_68 : decode c_Mo_labelled 68 = .ok (.aload_n 0, 1) := by decide +kernel
theorem d_Mo_labelled_69 : decode c_Mo_labelled 69 = .ok (.getfield 54, 3) := by decide +kernel
theorem d_Mo_labelled_72 : decode c_Mo_labelled 72 = .ok (.aload_n 0, 1) := by decide +kernel
theorem d_Mo_labelled_73 : decode c_Mo_labelled 73 = .ok (.getfield 234, 3) := by decide +kernel
theorem d_Mo_labelled_76 : decode c_Mo_labelled 76 = .ok (.iconst 0, 1) := by decide +kernel
theorem d_Mo_labelled_77 : decode c_Mo_labelled 77 = .ok (.bastore, 1) := by decide +kernel
theorem d_Mo_labelled_78 : decode c_Mo_labelled 78 = .ok (.aload_n 0, 1) := by decide +kernel
theorem d_Mo_labelled_79 : decode c_Mo_labelled 79 = .ok (.dup, 1) := by decide +kernel
theorem d_Mo_labelled_80 : decode c_Mo_labelled 80 = .ok (.getfield 234, 3) := by decide +kernel
theorem d_Mo_labelled_83 : decode c_Mo_labelled 83 = .ok (.iconst 1, 1) := by decide +kernel
theorem d_Mo_labelled_84 : decode c_Mo_labelled 84 = .ok (.iadd, 1) := by decide +kernel
theorem d_Mo_labelled_85 : decode c_Mo_labelled 85 = .ok (.putfield 234, 3) := by decide +kernel
theorem d_Mo_labelled_88 : decode c_Mo_labelled 88 = .ok (.aload_n 0, 1) := by decide +kernel
theorem d_Mo_labelled_89 : decode c_Mo_labelled 89 = .ok (.iload 5, 2) := by decide +kernel
theorem d_Mo_labelled_91 : decode c_Mo_labelled 91 = .ok (.aload_n 0, 1) := by decide +kernel
theorem d_Mo_labelled_92 : decode c_Mo_labelled 92 = .ok (.iload_n 1, 1) := by decide +kernel
theorem d_Mo_labelled_93 : decode c_Mo_labelled 93 = .ok (.iconst 1, 1) := by decide +kernel
theorem d_Mo_labelled_94 : decode c_Mo_labelled 94 = .ok (.iadd, 1) := by decide +kernel
theorem d_Mo_labelled_95 : decode c_Mo_labelled 95 = .ok (.iload_n 2, 1) := by decide +kernel
theorem d_Mo_labelled_96 : decode c_Mo_labelled 96 = .ok (.invokestatic 243, 3) := by decide +kernel
theorem d_Mo_labelled_99 : decode c_Mo_labelled 99 = .ok (.invokevirtual 119, 3) := by decide +kernel
theorem d_Mo_labelled_102 : decode c_Mo_labelled 102 = .ok (.aload_n 0, 1) := by decide +kernel
theorem d_Mo_labelled_103 : decode c_Mo_labelled 103 = .ok (.dup, 1) := by decide +kernel
theorem d_Mo_labelled_104 : decode c_Mo_labelled 104 = .ok (.getfield 234, 3) := by decide +kernel
theorem d_Mo_labelled_107 : decode c_Mo_labelled 107 = .ok (.iconst 1, 1) := by decide +kernel
theorem d_Mo_labelled_108 : decode c_Mo_labelled 108 = .ok (.isub, 1) := by decide +kernel
theorem d_Mo_labelled_109 : decode c_Mo_labelled 109 = .ok (.putfield 234, 3) := by decide +kernel
theorem d_Mo_labelled_112 : decode c_Mo_labelled 112 = .ok (.iload 5, 2) := by decide +kernel
theorem d_Mo_labelled_114 : decode c_Mo_labelled 114 = .ok (.ireturn, 1) := by decide +kernel
theorem d_Mo_variables_0 : decode c_Mo_variables 0 = .ok (.aload_n 0, 1) := by decide +kernel
theorem d_Mo_variables_1 : decode c_Mo_variables 1 = .ok (.iconst 2, 1) := by decide +kernel
theorem d_Mo_variables_2 : decode c_Mo_variables 2 = .ok (.invokevirtual 186, 3) := by decide +kernel
theorem d_Mo_variables_5 : decode c_Mo_variables 5 = .ok (.istore_n 2, 1) := by decide +kernel
theorem d_Mo_variables_6 : decode c_Mo_variables 6 = .ok (.aload_n 0, 1) := by decide +kernel
theorem d_Mo_variables_7 : decode c_Mo_variables 7 = .ok (.iload_n 2, 1) := by decide +kernel
theorem d_Mo_variables_8 : decode c_Mo_variables 8 = .ok (.iload_n 1, 1) := by decide +kernel
theorem d_Mo_variables_9 : decode c_Mo_variables 9 = .ok (.iconst 1, 1) := by decide +kernel
theorem d_Mo_variables_10 : decode c_Mo_variables 10 = .ok (.invokestatic 296, 3) := by decide +kernel
theorem d_Mo_variables_13 : decode c_Mo_variables 13 = .ok (.pop, 1) := by decide +kernel
theorem d_Mo_variables_14 : decode c_Mo_variables 14 = .ok (.aload_n 0, 1) := by decide +kernel
theorem d_Mo_variables_15 : decode c_Mo_variables 15 = .ok (.invokevirtual 289, 3) := by decide +kernel
theorem d_Mo_variables_18 : decode c_Mo_variables 18 = .ok (.iload_n 2, 1) := by decide +kernel
theorem d_Mo_variables_19 : decode c_Mo_variables 19 = .ok (.ireturn, 1) := by decide +kernel
theorem d_Mo_declarations_0 : decode c_Mo_declarations 0 = .ok (.iconst 0, 1) := by decide +kernel
theorem d_Mo_declarations_1 : decode c_Mo_declarations 1 = .ok (.istore 4, 2) := by decide +kernel
theorem d_Mo_declarations_3 : decode c_Mo_declarations 3 = .ok (.iconst 1, 1) := by decide +kernel
theorem d_Mo_declarations_4 : decode c_Mo_declarations 4 = .ok (.istore 5, 2) := by decide +kernel
theorem d_Mo_declarations_6 : decode c_Mo_declarations 6 = .ok (.iload 5, 2) := by decide +kernel
theorem d_Mo_declarations_8 : decode c_Mo_declarations 8 = .ok (.ifCond .eq 103, 3) := by decide +kernel
theorem d_Mo_declarations_11 : decode c_Mo_declarations 11 = .ok (.aload_n 0, 1) := by decide +kernel
theorem d_Mo_declarations_12 : decode c_Mo_declarations 12 = .ok (.getfield 84, 3) := by decide +kernel
theorem d_Mo_declarations_15 : decode c_Mo_declarations 15 = .ok (.istore 6, 2) := by decide +kernel
theorem d_Mo_declarations_17 : decode c_Mo_declarations 17 = .ok (.aload_n 0, 1) := by decide +kernel
theorem d_Mo_declarations_18 : decode c_Mo_declarations 18 = .ok (.getfield 109, 3) := by decide +kernel
theorem d_Mo_declarations_21 : decode c_Mo_declarations 21 = .ok (.istore 7, 2) := by decide +kernel
theorem d_Mo_declarations_23 : decode c_Mo_declarations 23 = .ok (.aload_n 0, 1) := by decide +kernel
theorem d_Mo_declarations_24 : decode c_Mo_declarations 24 = .ok (.iconst 3, 1) := by decide +kernel
theorem d_Mo_declarations_25 : decode c_Mo_declarations 25 = .ok (.aload_n 0, 1) := by decide +kernel
theorem d_Mo_declarations_26 : decode c_Mo_declarations 26 = .ok (.invokevirtual 215, 3) := by decide +kernel
theorem d_Mo_declarations_29 : decode c_Mo_declarations 29 = .ok (.iload 6, 2) := by decide +kernel
theorem d_Mo_declarations_31 : decode c_Mo_declarations 31 = .ok (.invokevirtual 115, 3) := by decide +kernel
theorem d_Mo_declarations_34 : decode c_Mo_declarations 34 = .ok (.istore 8, 2) := by decide +kernel
theorem d_Mo_declarations_36 : decode c_Mo_declarations 36 = .ok (.aload_n 0, 1) := by decide +kernel
theorem d_Mo_declarations_37 : decode c_Mo_declarations 37 = .ok (.iload 7, 2) := by decide +kernel
theorem d_Mo_declarations_39 : decode c_Mo_declarations 39 = .ok (.putfield 109, 3) := by decide +kernel
theorem d_Mo_declarations_42 : decode c_Mo_declarations 42 = .ok (.aload_n 0, 1) := by decide +kernel
theorem d_Mo_declarations_43 : decode c_Mo_declarations 43 = .ok (.iload_n 1, 1) := by decide +kernel
theorem d_Mo_declarations_44 : decode c_Mo_declarations 44 = .ok (.iload 8, 2) := by decide +kernel
theorem d_Mo_declarations_46 : decode c_Mo_declarations 46 = .ok (.invokevirtual 119, 3) := by decide +kernel
theorem d_Mo_declarations_49 : decode c_Mo_declarations 49 = .ok (.aload_n 0, 1) := by decide +kernel
theorem d_Mo_declarations_50 : decode c_Mo_declarations 50 = .ok (.bipush 30, 2) := by decide +kernel
theorem d_Mo_declarations_52 : decode c_Mo_declarations 52 = .ok (.invokevirtual 90, 3) := by decide +kernel
theorem d_Mo_declarations_55 : decode c_Mo_declarations 55 = .ok (.ifCond .eq 27, 3) := by decide +kernel
theorem d_Mo_declarations_58 : decode c_Mo_declarations 58 = .ok (.aload_n 0, 1) := by decide +kernel
theorem d_Mo_declarations_59 : decode c_Mo_declarations 59 = .ok (.dup, 1) := by decide +kernel
theorem d_Mo_declarations_60 : decode c_Mo_declarations 60 = .ok (.getfield 84, 3) := by decide +kernel
theorem d_Mo_declarations_63 : decode c_Mo_declarations 63 = .ok (.iconst 1, 1) := by decide +kernel
theorem d_Mo_declarations_64 : decode c_Mo_declarations 64 = .ok (.iadd, 1) := by decide +kernel
theorem d_Mo_declarations_65 : decode c_Mo_declarations 65 = .ok (.putfield 84, 3) := by decide +kernel
theorem d_Mo_declarations_68 : decode c_Mo_declarations 68 = .ok (.aload_n 0, 1) := by decide +kernel
theorem d_Mo_declarations_69 : decode c_Mo_declarations 69 = .ok (.iload 8, 2) := by decide +kernel
theorem d_Mo_declarations_71 : decode c_Mo_declarations 71 = .ok (.aload_n 0, 1) := by decide +kernel
theorem d_Mo_declarations_72 : decode c_Mo_declarations 72 = .ok (.iload_n 2, 1) := by decide +kernel
theorem d_Mo_declarations_73 : decode c_Mo_declarations 73 = .ok (.iconst 1, 1) := by decide +kernel
theorem d_Mo_declarations_74 : decode c_Mo_declarations 74 = .ok (.iadd, 1) := by decide +kernel
theorem d_Mo_declarations_75 : decode c_Mo_declarations 75 = .ok (.iload_n 3, 1) := by decide +kernel
theorem d_Mo_declarations_76 : decode c_Mo_declarations 76 = .ok (.invokestatic 126, 3) := by decide +kernel
theorem d_Mo_declarations_79 : decode c_Mo_declarations 79 = .ok (.invokevirtual 119, 3) := by decide +kernel
theorem d_Mo_declarations_82 : decode c_Mo_declarations 82 = .ok (.iinc 4 1, 3) := by decide +kernel
theorem d_Mo_declarations_85 : decode c_Mo_declarations 85 = .ok (.aload_n 0, 1) := by decide +kernel
theorem d_Mo_declarations_86 : decode c_Mo_declarations 86 = .ok (.bipush 68, 2) := by decide +kernel
theorem d_Mo_declarations_88 : decode c_Mo_declarations 88 = .ok (.invokevirtual 90, 3) := by decide +kernel
theorem d_Mo_declarations_91 : decode c_Mo_declarations 91 = .ok (.istore 5, 2) := by decide +kernel
theorem d_Mo_declarations_93 : decode c_Mo_declarations 93 = .ok (.iload 5, 2) := by decide +kernel
theorem d_Mo_declarations_95 : decode c_Mo_declarations 95 = .ok (.ifCond .eq 13, 3) := by decide +kernel
theorem d_Mo_declarations_98 : decode c_Mo_declarations 98 = .ok (.aload_n 0, 1) := by decide +kernel
theorem d_Mo_declarations_99 : decode c_Mo_declarations 99 = .ok (.dup, 1) := by decide +kernel
theorem d_Mo_declarations_100 : decode c_Mo_declarations 100 = .ok (.getfield 84, 3) := by decide +kernel
theorem d_Mo_declarations_103 : decode c_Mo_declarations 103 = .ok (.iconst 1, 1) := by decide +kernel
theorem d_Mo_declarations_104 : decode c_Mo_declarations 104 = .ok (.iadd, 1) := by decide +kernel
theorem d_Mo_declarations_105 : decode c_Mo_declarations 105 = .ok (.putfield 84, 3) := by decide +kernel
theorem d_Mo_declarations_108 : decode c_Mo_declarations 108 = .ok (.goto (-102), 3) := by decide +kernel
theorem d_Mo_declarations_111 : decode c_Mo_declarations 111 = .ok (.iload 4, 2) := by decide +kernel
theorem d_Mo_declarations_113 : decode c_Mo_declarations 113 = .ok (.ireturn, 1) := by decide +kernel
theorem d_Mo_head_0 : decode c_Mo_head 0 = .ok (.aload_n 0, 1) := by decide +kernel
theorem d_Mo_head_1 : decode c_Mo_head 1 = .ok (.bipush 60, 2) := by decide +kernel
theorem d_Mo_head_3 : decode c_Mo_head 3 = .ok (.invokevirtual 137, 3) := by decide +kernel
theorem d_Mo_head_6 : decode c_Mo_head 6 = .ok (.aload_n 0, 1) := by decide +kernel
theorem d_Mo_head_7 : decode c_Mo_head 7 = .ok (.iload_n 1, 1) := by decide +kernel
theorem d_Mo_head_8 : decode c_Mo_head 8 = .ok (.iconst 1, 1) := by decide +kernel
theorem d_Mo_head_9 : decode c_Mo_head 9 = .ok (.iadd, 1) := by decide +kernel
theorem d_Mo_head_10 : decode c_Mo_head 10 = .ok (.iconst 1, 1) := by decide +kernel
theorem d_Mo_head_11 : decode c_Mo_head 11 = .ok (.invokestatic 173, 3) := by decide +kernel
theorem d_Mo_head_14 : decode c_Mo_head 14 = .ok (.istore_n 2, 1) := by decide +kernel
theorem d_Mo_head_15 : decode c_Mo_head 15 = .ok (.aload_n 0, 1) := by decide +kernel
theorem d_Mo_head_16 : decode c_Mo_head 16 = .ok (.bipush 61, 2) := by decide +kernel
theorem d_Mo_head_18 : decode c_Mo_head 18 = .ok (.invokevirtual 137, 3) := by decide +kernel
theorem d_Mo_head_21 : decode c_Mo_head 21 = .ok (.iload_n 2, 1) := by decide +kernel
theorem d_Mo_head_22 : decode c_Mo_head 22 = .ok (.ireturn, 1) := by decide +kernel
theorem d_Mo_condition_0 : decode c_Mo_condition 0 = .ok (.aload_n 0, 1) := by decide +kernel
theorem d_Mo_condition_1 : decode c_Mo_condition 1 = .ok (.bipush 6, 2) := by decide +kernel
theorem d_Mo_condition_3 : decode c_Mo_condition 3 = .ok (.invokevirtual 186, 3) := by decide +kernel
theorem d_Mo_condition_6 : decode c_Mo_condition 6 = .ok (.istore_n 2, 1) := by decide +kernel
theorem d_Mo_condition_7 : decode c_Mo_condition 7 = .ok (.aload_n 0, 1) := by decide +kernel
theorem d_Mo_condition_8 : decode c_Mo_condition 8 = .ok (.iload_n 2, 1) := by decide +kernel
theorem d_Mo_condition_9 : decode c_Mo_condition 9 = .ok (.aload_n 0, 1) := by decide +kernel
theorem d_Mo_condition_10 : decode c_Mo_condition 10 = .ok (.iload_n 1, 1) := by decide +kernel
theorem d_Mo_condition_11 : decode c_Mo_condition 11 = .ok (.invokestatic 300, 3) := by decide +kernel
theorem d_Mo_condition_14 : decode c_Mo_condition 14 = .ok (.invokevirtual 119, 3) := by decide +kernel
theorem d_Mo_condition_17 : decode c_Mo_condition 17 = .ok (.aload_n 0, 1) := by decide +kernel
theorem d_Mo_condition_18 : decode c_Mo_condition 18 = .ok (.iload_n 2, 1) := by decide +kernel
theorem d_Mo_condition_19 : decode c_Mo_condition 19 = .ok (.aload_n 0, 1) := by decide +kernel
theorem d_Mo_condition_20 : decode c_Mo_condition 20 = .ok (.iload_n 1, 1) := by decide +kernel
theorem d_Mo_condition_21 : decode c_Mo_condition 21 = .ok (.iconst 1, 1) := by decide +kernel
theorem d_Mo_condition_22 : decode c_Mo_condition 22 = .ok (.iadd, 1) := by decide +kernel
theorem d_Mo_condition_23 : decode c_Mo_condition 23 = .ok (.aload_n 0, 1) := by decide +kernel
theorem d_Mo_condition_24 : decode c_Mo_condition 24 = .ok (.getfield 234, 3) := by decide +kernel
theorem d_Mo_condition_27 : decode c_Mo_condition 27 = .ok (.invokestatic 243, 3) := by decide +kernel
theorem d_Mo_condition_30 : decode c_Mo_condition 30 = .ok (.invokevirtual 119, 3) := by decide +kernel
theorem d_Mo_condition_33 : decode c_Mo_condition 33 = .ok (.aload_n 0, 1) := by decide +kernel
theorem d_Mo_condition_34 : decode c_Mo_condition 34 = .ok (.bipush 8, 2) := by decide +kernel
theorem d_Mo_condition_36 : decode c_Mo_condition 36 = .ok (.invokevirtual 143, 3) := by decide +kernel
theorem d_Mo_condition_39 : decode c_Mo_condition 39 = .ok (.ifCond .ne 5, 3) := by decide +kernel
theorem d_Mo_condition_42 : decode c_Mo_condition 42 = .ok (.iload_n 2, 1) := by decide +kernel
theorem d_Mo_condition_43 : decode c_Mo_condition 43 = .ok (.ireturn, 1) := by decide +kernel
theorem d_Mo_condition_44 : decode c_Mo_condition 44 = .ok (.aload_n 0, 1) := by decide +kernel
theorem d_Mo_condition_45 : decode c_Mo_condition 45 = .ok (.dup, 1) := by decide +kernel
theorem d_Mo_condition_46 : decode c_Mo_condition 46 = .ok (.getfield 84, 3) := by decide +kernel
theorem d_Mo_condition_49 : decode c_Mo_condition 49 = .ok (.iconst 1, 1) := by decide +kernel
theorem d_Mo_condition_50 : decode c_Mo_condition 50 = .ok (.iadd, 1) := by decide +kernel
theorem d_Mo_condition_51 : decode c_Mo_condition 51 = .ok (.putfield 84, 3) := by decide +kernel
theorem d_Mo_condition_54 : decode c_Mo_condition 54 = .ok (.aload_n 0, 1) := by decide +kernel
theorem d_Mo_condition_55 : decode c_Mo_condition 55 = .ok (.iload_n 2, 1) := by decide +kernel
theorem d_Mo_condition_56 : decode c_Mo_condition 56 = .ok (.aload_n 0, 1) := by decide +kernel
theorem d_Mo_condition_57 : decode c_Mo_condition 57 = .ok (.iload_n 1, 1) := by decide +kernel
theorem d_Mo_condition_58 : decode c_Mo_condition 58 = .ok (.iconst 1, 1) := by decide +kernel
theorem d_Mo_condition_59 : decode c_Mo_condition 59 = .ok (.iadd, 1) := by decide +kernel
theorem d_Mo_condition_60 : decode c_Mo_condition 60 = .ok (.aload_n 0, 1) := by decide +kernel
theorem d_Mo_condition_61 : decode c_Mo_condition 61 = .ok (.getfield 234, 3) := by decide +kernel
theorem d_Mo_condition_64 : decode c_Mo_condition 64 = .ok (.invokestatic 243, 3) := by decide +kernel
theorem d_Mo_condition_67 : decode c_Mo_condition 67 = .ok (.invokevirtual 119, 3) := by decide +kernel
theorem d_Mo_condition_70 : decode c_Mo_condition 70 = .ok (.iload_n 2, 1) := by decide +kernel
theorem d_Mo_condition_71 : decode c_Mo_condition 71 = .ok (.ireturn, 1) := by decide +kernel
theorem d_Mo_body_0 : decode c_Mo_body 0 = .ok (.iload_n 2, 1) := by decide +kernel
theorem d_Mo_body_1 : decode c_Mo_body 1 = .ok (.istore_n 3, 1) := by decide +kernel
theorem d_Mo_body_2 : decode c_Mo_body 2 = .ok (.iload_n 3, 1) := by decide +kernel
theorem d_Mo_body_3 : decode c_Mo_body 3 = .ok (.aload_n 0, 1) := by decide +kernel
theorem d_Mo_body_4 : decode c_Mo_body 4 = .ok (.getfield 234, 3) := by decide +kernel
theorem d_Mo_body_7 : decode c_Mo_body 7 = .ok (.if_icmp .ge 16, 3) := by decide +kernel
theorem d_Mo_body_10 : decode c_Mo_body 10 = .ok (.aload_n 0, 1) := by decide +kernel
theorem d_Mo_body_11 : decode c_Mo_body 11 = .ok (.getfield 54, 3) := by decide +kernel
theorem d_Mo_body_14 : decode c_Mo_body 14 = .ok (.iload_n 3, 1) := by decide +kernel
theorem d_Mo_body_15 : decode c_Mo_body 15 = .ok (.iconst 1, 1) := by decide +kernel
theorem d_Mo_body_16 : decode c_Mo_body 16 = .ok (.bastore, 1) := by decide +kernel
theorem d_Mo_body_17 : decode c_Mo_body 17 = .ok (.iinc 3 1, 3) := by decide +kernel
theorem d_Mo_body_20 : decode c_Mo_body 20 = .ok (.goto (-18), 3) := by decide +kernel
theorem d_Mo_body_23 : decode c_Mo_body 23 = .ok (.aload_n 0, 1) := by decide +kernel
theorem d_Mo_body_24 : decode c_Mo_body 24 = .ok (.dup, 1) := by decide +kernel
theorem d_Mo_body_25 : decode c_Mo_body 25 = .ok (.getfield 228, 3) := by decide +kernel
theorem d_Mo_body_28 : decode c_Mo_body 28 = .ok (.iconst 1, 1) := by decide +kernel
theorem d_Mo_body_29 : decode c_Mo_body 29 = .ok (.iadd, 1) := by decide +kernel
theorem d_Mo_body_30 : decode c_Mo_body 30 = .ok (.putfield 228, 3) := by decide +kernel
theorem d_Mo_body_33 : decode c_Mo_body 33 = .ok (.aload_n 0, 1) := by decide +kernel
theorem d_Mo_body_34 : decode c_Mo_body 34 = .ok (.dup, 1) := by decide +kernel
theorem d_Mo_body_35 : decode c_Mo_body 35 = .ok (.getfield 231, 3) := by decide +kernel
theorem d_Mo_body_38 : decode c_Mo_body 38 = .ok (.iconst 1, 1) := by decide +kernel
theorem d_Mo_body_39 : decode c_Mo_body 39 = .ok (.iadd, 1) := by decide +kernel
theorem d_Mo_body_40 : decode c_Mo_body 40 = .ok (.putfield 231, 3) := by decide +kernel
theorem d_Mo_body_43 : decode c_Mo_body 43 = .ok (.aload_n 0, 1) := by decide +kernel
theorem d_Mo_body_44 : decode c_Mo_body 44 = .ok (.iload_n 1, 1) := by decide +kernel
theorem d_Mo_body_45 : decode c_Mo_body 45 = .ok (.iconst 1, 1) := by decide +kernel
theorem d_Mo_body_46 : decode c_Mo_body 46 = .ok (.iadd, 1) := by decide +kernel
theorem d_Mo_body_47 : decode c_Mo_body 47 = .ok (.aload_n 0, 1) := by decide +kernel
theorem d_Mo_body_48 : decode c_Mo_body 48 = .ok (.getfield 234, 3) := by decide +kernel
theorem d_Mo_body_51 : decode c_Mo_body 51 = .ok (.invokestatic 243, 3) := by decide +kernel
theorem d_Mo_body_54 : decode c_Mo_body 54 = .ok (.istore_n 3, 1) := by decide +kernel
theorem d_Mo_body_55 : decode c_Mo_body 55 = .ok (.aload_n 0, 1) := by decide +kernel
theorem d_Mo_body_56 : decode c_Mo_body 56 = .ok (.dup, 1) := by decide +kernel
theorem d_Mo_body_57 : decode c_Mo_body 57 = .ok (.getfield 228, 3) := by decide +kernel
theorem d_Mo_body_60 : decode c_Mo_body 60 = .ok (.iconst 1, 1) := by decide +kernel
theorem d_Mo_body_61 : decode c_Mo_body 61 = .ok (.isub, 1) := by decide +kernel
theorem d_Mo_body_62 : decode c_Mo_body 62 = .ok (.putfield 228, 3) := by decide +kernel
theorem d_Mo_body_65 : decode c_Mo_body 65 = .ok (.aload_n 0, 1) := by decide +kernel
theorem d_Mo_body_66 : decode c_Mo_body 66 = .ok (.dup, 1) := by decide +kernel
theorem d_Mo_body_67 : decode c_Mo_body 67 = .ok (.getfield 231, 3) := by decide +kernel
theorem d_Mo_body_70 : decode c_Mo_body 70 = .ok (.iconst 1, 1) := by decide +kernel
theorem d_Mo_body_71 : decode c_Mo_body 71 = .ok (.isub, 1) := by decide +kernel
theorem d_Mo_body_72 : decode c_Mo_body 72 = .ok (.putfield 231, 3) := by decide +kernel
theorem d_Mo_body_75 : decode c_Mo_body 75 = .ok (.iload_n 3, 1) := by decide +kernel
theorem d_Mo_body_76 : decode c_Mo_body 76 = .ok (.ireturn, 1) := by decide +kernel
