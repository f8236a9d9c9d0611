theorem d_Pa_returnStatement_0 : decode c_Pa_returnStatement 0 = .ok (.aload_n 0, 1) := by decide +kernel
theorem d_Pa_returnStatement_1 : decode c_Pa_returnStatement 1 = .ok (.getfield 37, 3) := by decide +kernel
theorem d_Pa_returnStatement_4 : decode c_Pa_returnStatement 4 = .ok (.getfield 279, 3) := by decide +kernel
theorem d_Pa_returnStatement_7 : decode c_Pa_returnStatement 7 = .ok (.ifCond .ne 11, 3) := by decide +kernel
theorem d_Pa_returnStatement_10 : decode c_Pa_returnStatement 10 = .ok (.aload_n 0, 1) := by decide +kernel
theorem d_Pa_returnStatement_11 : decode c_Pa_returnStatement 11 = .ok (.aload_n 0, 1) := by decide +kernel
theorem d_Pa_returnStatement_12 : decode c_Pa_returnStatement 12 = .ok (.getfield 26, 3) := by decide +kernel
theorem d_Pa_returnStatement_15 : decode c_Pa_returnStatement 15 = .ok (.invokevirtual 140, 3) := by decide +kernel
theorem d_Pa_returnStatement_18 : decode c_Pa_returnStatement 18 = .ok (.aload_n 0, 1) := by decide +kernel
theorem d_Pa_returnStatement_19 : decode c_Pa_returnStatement 19 = .ok (.getfield 22, 3) := by decide +kernel
theorem d_Pa_returnStatement_22 : decode c_Pa_returnStatement 22 = .ok (.bipush 13, 2) := by decide +kernel
theorem d_Pa_returnStatement_24 : decode c_Pa_returnStatement 24 = .ok (.iconst 0, 1) := by decide +kernel
theorem d_Pa_returnStatement_25 : decode c_Pa_returnStatement 25 = .ok (.aload_n 0, 1) := by decide +kernel
theorem d_Pa_returnStatement_26 : decode c_Pa_returnStatement 26 = .ok (.getfield 26, 3) := by decide +kernel
theorem d_Pa_returnStatement_29 : decode c_Pa_returnStatement 29 = .ok (.invokevirtual 54, 3) := by decide +kernel
theorem d_Pa_returnStatement_32 : decode c_Pa_returnStatement 32 = .ok (.istore_n 2, 1) := by decide +kernel
theorem d_Pa_returnStatement_33 : decode c_Pa_returnStatement 33 = .ok (.aload_n 0, 1) := by decide +kernel
theorem d_Pa_returnStatement_34 : decode c_Pa_returnStatement 34 = .ok (.dup, 1) := by decide +kernel
theorem d_Pa_returnStatement_35 : decode c_Pa_returnStatement 35 = .ok (.getfield 26, 3) := by decide +kernel
theorem d_Pa_returnStatement_38 : decode c_Pa_returnStatement 38 = .ok (.iconst 1, 1) := by decide +kernel
theorem d_Pa_returnStatement_39 : decode c_Pa_returnStatement 39 = .ok (.iadd, 1) := by decide +kernel
theorem d_Pa_returnStatement_40 : decode c_Pa_returnStatement 40 = .ok (.putfield 26, 3) := by decide +kernel
theorem d_Pa_returnStatement_43 : decode c_Pa_returnStatement 43 = .ok (.aload_n 0, 1) := by decide +kernel
theorem d_Pa_returnStatement_44 : decode c_Pa_returnStatement 44 = .ok (.invokevirtual 281, 3) := by decide +kernel
theorem d_Pa_returnStatement_47 : decode c_Pa_returnStatement 47 = .ok (.ifCond .ne 12, 3) := by decide +kernel
theorem d_Pa_returnStatement_50 : decode c_Pa_returnStatement 50 = .ok (.aload_n 0, 1) := by decide +kernel
theorem d_Pa_returnStatement_51 : decode c_Pa_returnStatement 51 = .ok (.iconst (-1), 1) := by decide +kernel
theorem d_Pa_returnStatement_52 : decode c_Pa_returnStatement 52 = .ok (.iload_n 1, 1) := by decide +kernel
theorem d_Pa_returnStatement_53 : decode c_Pa_returnStatement 53 = .ok (.iconst 1, 1) := by decide +kernel
theorem d_Pa_returnStatement_54 : decode c_Pa_returnStatement 54 = .ok (.iadd, 1) := by decide +kernel
theorem d_Pa_returnStatement_55 : decode c_Pa_returnStatement 55 = .ok (.iconst 1, 1) := by decide +kernel
theorem d_Pa_returnStatement_56 : decode c_Pa_returnStatement 56 = .ok (.invokevirtual 232, 3) := by decide +kernel
theorem d_Pa_returnStatement_59 : decode c_Pa_returnStatement 59 = .ok (.aload_n 0, 1) := by decide +kernel
theorem d_Pa_returnStatement_60 : decode c_Pa_returnStatement 60 = .ok (.invokevirtual 172, 3) := by decide +kernel
theorem d_Pa_returnStatement_63 : decode c_Pa_returnStatement 63 = .ok (.aload_n 0, 1) := by decide +kernel
theorem d_Pa_returnStatement_64 : decode c_Pa_returnStatement 64 = .ok (.getfield 22, 3) := by decide +kernel
theorem d_Pa_returnStatement_67 : decode c_Pa_returnStatement 67 = .ok (.iload_n 2, 1) := by decide +kernel
theorem d_Pa_returnStatement_68 : decode c_Pa_returnStatement 68 = .ok (.invokevirtual 98, 3) := by decide +kernel
theorem d_Pa_returnStatement_71 : decode c_Pa_returnStatement 71 = .ok (.return_, 1) := by decide +kernel
theorem d_Pa_throwStatement_0 : decode c_Pa_throwStatement 0 = .ok (.aload_n 0, 1) := by decide +kernel
theorem d_Pa_throwStatement_1 : decode c_Pa_throwStatement 1 = .ok (.getfield 22, 3) := by decide +kernel
theorem d_Pa_throwStatement_4 : decode c_Pa_throwStatement 4 = .ok (.bipush 19, 2) := by decide +kernel
theorem d_Pa_throwStatement_6 : decode c_Pa_throwStatement 6 = .ok (.iconst 0, 1) := by decide +kernel
theorem d_Pa_throwStatement_7 : decode c_Pa_throwStatement 7 = .ok (.aload_n 0, 1) := by decide +kernel
theorem d_Pa_throwStatement_8 : decode c_Pa_throwStatement 8 = .ok (.getfield 26, 3) := by decide +kernel
theorem d_Pa_throwStatement_11 : decode c_Pa_throwStatement 11 = .ok (.invokevirtual 54, 3) := by decide +kernel
theorem d_Pa_throwStatement_14 : decode c_Pa_throwStatement 14 = .ok (.istore_n 2, 1) := by decide +kernel
theorem d_Pa_throwStatement_15 : decode c_Pa_throwStatement 15 = .ok (.aload_n 0, 1) := by decide +kernel
theorem d_Pa_throwStatement_16 : decode c_Pa_throwStatement 16 = .ok (.dup, 1) := by decide +kernel
theorem d_Pa_throwStatement_17 : decode c_Pa_throwStatement 17 = .ok (.getfield 26, 3) := by decide +kernel
theorem d_Pa_throwStatement_20 : decode c_Pa_throwStatement 20 = .ok (.iconst 1, 1) := by decide +kernel
theorem d_Pa_throwStatement_21 : decode c_Pa_throwStatement 21 = .ok (.iadd, 1) := by decide +kernel
theorem d_Pa_throwStatement_22 : decode c_Pa_throwStatement 22 = .ok (.putfield 26, 3) := by decide +kernel
theorem d_Pa_throwStatement_25 : decode c_Pa_throwStatement 25 = .ok (.aload_n 0, 1) := by decide +kernel
theorem d_Pa_throwStatement_26 : decode c_Pa_throwStatement 26 = .ok (.getfield 84, 3) := by decide +kernel
theorem d_Pa_throwStatement_29 : decode c_Pa_throwStatement 29 = .ok (.aload_n 0, 1) := by decide +kernel
theorem d_Pa_throwStatement_30 : decode c_Pa_throwStatement 30 = .ok (.getfield 26, 3) := by decide +kernel
theorem d_Pa_throwStatement_33 : decode c_Pa_throwStatement 33 = .ok (.invokevirtual 270, 3) := by decide +kernel
theorem d_Pa_throwStatement_36 : decode c_Pa_throwStatement 36 = .ok (.ifCond .eq 11, 3) := by decide +kernel
theorem d_Pa_throwStatement_39 : decode c_Pa_throwStatement 39 = .ok (.aload_n 0, 1) := by decide +kernel
theorem d_Pa_throwStatement_40 : decode c_Pa_throwStatement 40 = .ok (.aload_n 0, 1) := by decide +kernel
theorem d_Pa_throwStatement_41 : decode c_Pa_throwStatement 41 = .ok (.getfield 26, 3) := by decide +kernel
theorem d_Pa_throwStatement_44 : decode c_Pa_throwStatement 44 = .ok (.invokevirtual 140, 3) := by decide +kernel
theorem d_Pa_throwStatement_47 : decode c_Pa_throwStatement 47 = .ok (.aload_n 0, 1) := by decide +kernel
theorem d_Pa_throwStatement_48 : decode c_Pa_throwStatement 48 = .ok (.iconst (-1), 1) := by decide +kernel
theorem d_Pa_throwStatement_49 : decode c_Pa_throwStatement 49 = .ok (.iload_n 1, 1) := by decide +kernel
theorem d_Pa_throwStatement_50 : decode c_Pa_throwStatement 50 = .ok (.iconst 1, 1) := by decide +kernel
theorem d_Pa_throwStatement_51 : decode c_Pa_throwStatement 51 = .ok (.iadd, 1) := by decide +kernel
theorem d_Pa_throwStatement_52 : decode c_Pa_throwStatement 52 = .ok (.iconst 1, 1) := by decide +kernel
theorem d_Pa_throwStatement_53 : decode c_Pa_throwStatement 53 = .ok (.invokevirtual 232, 3) := by decide +kernel
theorem d_Pa_throwStatement_56 : decode c_Pa_throwStatement 56 = .ok (.aload_n 0, 1) := by decide +kernel
theorem d_Pa_throwStatement_57 : decode c_Pa_throwStatement 57 = .ok (.invokevirtual 172, 3) := by decide +kernel
theorem d_Pa_throwStatement_60 : decode c_Pa_throwStatement 60 = .ok (.aload_n 0, 1) := by decide +kernel
theorem d_Pa_throwStatement_61 : decode c_Pa_throwStatement 61 = .ok (.getfield 22, 3) := by decide +kernel
theorem d_Pa_throwStatement_64 : decode c_Pa_throwStatement 64 = .ok (.iload_n 2, 1) := by decide +kernel
theorem d_Pa_throwStatement_65 : decode c_Pa_throwStatement 65 = .ok (.invokevirtual 98, 3) := by decide +kernel
theorem d_Pa_throwStatement_68 : decode c_Pa_throwStatement 68 = .ok (.return_, 1) := by decide +kernel
theorem d_Pa_withStatement_0 : decode c_Pa_withStatement 0 = .ok (.aload_n 0, 1) := by decide +kernel
theorem d_Pa_withStatement_1 : decode c_Pa_withStatement 1 = .ok (.getfield 37, 3) := by decide +kernel
theorem d_Pa_withStatement_4 : decode c_Pa_withStatement 4 = .ok (.getfield 91, 3) := by decide +kernel
theorem d_Pa_withStatement_7 : decode c_Pa_withStatement 7 = .ok (.ifCond .eq 11, 3) := by decide +kernel
theorem d_Pa_withStatement_10 : decode c_Pa_withStatement 10 = .ok (.aload_n 0, 1) := by decide +kernel
theorem d_Pa_withStatement_11 : decode c_Pa_withStatement 11 = .ok (.aload_n 0, 1) := by decide +kernel
theorem d_Pa_withStatement_12 : decode c_Pa_withStatement 12 = .ok (.getfield 26, 3) := by decide +kernel
theorem d_Pa_withStatement_15 : decode c_Pa_withStatement 15 = .ok (.invokevirtual 140, 3) := by decide +kernel
theorem d_Pa_withStatement_18 : decode c_Pa_withStatement 18 = .ok (.aload_n 0, 1) := by decide +kernel
theorem d_Pa_withStatement_19 : decode c_Pa_withStatement 19 = .ok (.getfield 22, 3) := by decide +kernel
theorem d_Pa_withStatement_22 : decode c_Pa_withStatement 22 = .ok (.bipush 14, 2) := by decide +kernel
theorem d_Pa_withStatement_24 : decode c_Pa_withStatement 24 = .ok (.iconst 0, 1) := by decide +kernel
theorem d_Pa_withStatement_25 : decode c_Pa_withStatement 25 = .ok (.aload_n 0, 1) := by decide +kernel
theorem d_Pa_withStatement_26 : decode c_Pa_withStatement 26 = .ok (.getfield 26, 3) := by decide +kernel
theorem d_Pa_withStatement_29 : decode c_Pa_withStatement 29 = .ok (.invokevirtual 54, 3) := by decide +kernel
theorem d_Pa_withStatement_32 : decode c_Pa_withStatement 32 = .ok (.istore_n 2, 1) := by decide +kernel
theorem d_Pa_withStatement_33 : decode c_Pa_withStatement 33 = .ok (.aload_n 0, 1) := by decide +kernel
theorem d_Pa_withStatement_34 : decode c_Pa_withStatement 34 = .ok (.dup, 1) := by decide +kernel
theorem d_Pa_withStatement_35 : decode c_Pa_withStatement 35 = .ok (.getfield 26, 3) := by decide +kernel
theorem d_Pa_withStatement_38 : decode c_Pa_withStatement 38 = .ok (.iconst 1, 1) := by decide +kernel
theorem d_Pa_withStatement_39 : decode c_Pa_withStatement 39 = .ok (.iadd, 1) := by decide +kernel
theorem d_Pa_withStatement_40 : decode c_Pa_withStatement 40 = .ok (.putfield 26, 3) := by decide +kernel
theorem d_Pa_withStatement_43 : decode c_Pa_withStatement 43 = .ok (.aload_n 0, 1) := by decide +kernel
theorem d_Pa_withStatement_44 : decode c_Pa_withStatement 44 = .ok (.bipush 60, 2) := by decide +kernel
theorem d_Pa_withStatement_46 : decode c_Pa_withStatement 46 = .ok (.invokevirtual 114, 3) := by decide +kernel
theorem d_Pa_withStatement_49 : decode c_Pa_withStatement 49 = .ok (.aload_n 0, 1) := by decide +kernel
theorem d_Pa_withStatement_50 : decode c_Pa_withStatement 50 = .ok (.iconst (-1), 1) := by decide +kernel
theorem d_Pa_withStatement_51 : decode c_Pa_withStatement 51 = .ok (.iload_n 1, 1) := by decide +kernel
theorem d_Pa_withStatement_52 : decode c_Pa_withStatement 52 = .ok (.iconst 1, 1) := by decide +kernel
theorem d_Pa_withStatement_53 : decode c_Pa_withStatement 53 = .ok (.iadd, 1) := by decide +kernel
theorem d_Pa_withStatement_54 : decode c_Pa_withStatement 54 = .ok (.iconst 1, 1) := by decide +kernel
theorem d_Pa_withStatement_55 : decode c_Pa_withStatement 55 = .ok (.invokevirtual 232, 3) := by decide +kernel
theorem d_Pa_withStatement_58 : decode c_Pa_withStatement 58 = .ok (.aload_n 0, 1) := by decide +kernel
theorem d_Pa_withStatement_59 : decode c_Pa_withStatement 59 = .ok (.bipush 61, 2) := by decide +kernel
theorem d_Pa_withStatement_61 : decode c_Pa_withStatement 61 = .ok (.invokevirtual 114, 3) := by decide +kernel
theorem d_Pa_withStatement_64 : decode c_Pa_withStatement 64 = .ok (.aload_n 0, 1) := by decide +kernel
theorem d_Pa_withStatement_65 : decode c_Pa_withStatement 65 = .ok (.iload_n 1, 1) := by decide +kernel
theorem d_Pa_withStatement_66 : decode c_Pa_withStatement 66 = .ok (.iconst 1, 1) := by decide +kernel
theorem d_Pa_withStatement_67 : decode c_Pa_withStatement 67 = .ok (.iadd, 1) := by decide +kernel
theorem d_Pa_withStatement_68 : decode c_Pa_withStatement 68 = .ok (.aload_n 0, 1) := by decide +kernel
theorem d_Pa_withStatement_69 : decode c_Pa_withStatement 69 = .ok (.getfield 12, 3) := by decide +kernel
theorem d_Pa_withStatement_72 : decode c_Pa_withStatement 72 = .ok (.invokevirtual 74, 3) := by decide +kernel
theorem d_Pa_withStatement_75 : decode c_Pa_withStatement 75 = .ok (.invokevirtual 78, 3) := by decide +kernel
theorem d_Pa_withStatement_78 : decode c_Pa_withStatement 78 = .ok (.aload_n 0, 1) := by decide +kernel
theorem d_Pa_withStatement_79 : decode c_Pa_withStatement 79 = .ok (.getfield 22, 3) := by decide +kernel
theorem d_Pa_withStatement_82 : decode c_Pa_withStatement 82 = .ok (.iload_n 2, 1) := by decide +kernel
theorem d_Pa_withStatement_83 : decode c_Pa_withStatement 83 = .ok (.invokevirtual 98, 3) := by decide +kernel
theorem d_Pa_withStatement_86 : decode c_Pa_withStatement 86 = .ok (.return_, 1) := by decide +kernel
theorem d_Pa_switchStatement_0 : decode c_Pa_switchStatement 0 = .ok (.aload_n 0, 1) := by decide +kernel
theorem d_Pa_switchStatement_1 : decode c_Pa_switchStatement 1 = .ok (.getfield 22, 3) := by decide +kernel
theorem d_Pa_switchStatement_4 : decode c_Pa_switchStatement 4 = .ok (.bipush 15, 2) := by decide +kernel
theorem d_Pa_switchStatement_6 : decode c_Pa_switchStatement 6 = .ok (.iconst 0, 1) := by decide +kernel
theorem d_Pa_switchStatement_7 : decode c_Pa_switchStatement 7 = .ok (.aload_n 0, 1) := by decide +kernel
theorem d_Pa_switchStatement_8 : decode c_Pa_switchStatement 8 = .ok (.getfield 26, 3) := by decide +kernel
theorem d_Pa_switchStatement_11 : decode c_Pa_switchStatement 11 = .ok (.invokevirtual 54, 3) := by decide +kernel
theorem d_Pa_switchStatement_14 : decode c_Pa_switchStatement 14 = .ok (.istore_n 2, 1) := by decide +kernel
theorem d_Pa_switchStatement_15 : decode c_Pa_switchStatement 15 = .ok (.aload_n 0, 1) := by decide +kernel
theorem d_Pa_switchStatement_16 : decode c_Pa_switchStatement 16 = .ok (.dup, 1) := by decide +kernel
theorem d_Pa_switchStatement_17 : decode c_Pa_switchStatement 17 = .ok (.getfield 26, 3) := by decide +kernel
theorem d_Pa_switchStatement_20 : decode c_Pa_switchStatement 20 = .ok (.iconst 1, 1) := by decide +kernel
theorem d_Pa_switchStatement_21 : decode c_Pa_switchStatement 21 = .ok (.iadd, 1) := by decide +kernel
theorem d_Pa_switchStatement_22 : decode c_Pa_switchStatement 22 = .ok (.putfield 26, 3) := by decide +kernel
theorem d_Pa_switchStatement_25 : decode c_Pa_switchStatement 25 = .ok (.aload_n 0, 1) := by decide +kernel
theorem d_Pa_switchStatement_26 : decode c_Pa_switchStatement 26 = .ok (.bipush 60, 2) := by decide +kernel
theorem d_Pa_switchStatement_28 : decode c_Pa_switchStatement 28 = .ok (.invokevirtual 114, 3) := by decide +kernel
theorem d_Pa_switchStatement_31 : decode c_Pa_switchStatement 31 = .ok (.aload_n 0, 1) := by decide +kernel
theorem d_Pa_switchStatement_32 : decode c_Pa_switchStatement 32 = .ok (.iconst (-1), 1) := by decide +kernel
theorem d_Pa_switchStatement_33 : decode c_Pa_switchStatement 33 = .ok (.iload_n 1, 1) := by decide +kernel
theorem d_Pa_switchStatement_34 : decode c_Pa_switchStatement 34 = .ok (.iconst 1, 1) := by decide +kernel
theorem d_Pa_switchStatement_35 : decode c_Pa_switchStatement 35 = .ok (.iadd, 1) := by decide +kernel
theorem d_Pa_switchStatement_36 : decode c_Pa_switchStatement 36 = .ok (.iconst 1, 1) := by decide +kernel
theorem d_Pa_switchStatement_37 : decode c_Pa_switchStatement 37 = .ok (.invokevirtual 232, 3) := by decide +kernel
theorem d_Pa_switchStatement_40 : decode c_Pa_switchStatement 40 = .ok (.aload_n 0, 1) := by decide +kernel
theorem d_Pa_switchStatement_41 : decode c_Pa_switchStatement 41 = .ok (.bipush 61, 2) := by decide +kernel
theorem d_Pa_switchStatement_43 : decode c_Pa_switchStatement 43 = .ok (.invokevirtual 114, 3) := by decide +kernel
theorem d_Pa_switchStatement_46 : decode c_Pa_switchStatement 46 = .ok (.aload_n 0, 1) := by decide +kernel
theorem d_Pa_switchStatement_47 : decode c_Pa_switchStatement 47 = .ok (.bipush 64, 2) := by decide +kernel
theorem d_Pa_switchStatement_49 : decode c_Pa_switchStatement 49 = .ok (.invokevirtual 114, 3) := by decide +kernel
theorem d_Pa_switchStatement_52 : decode c_Pa_switchStatement 52 = .ok (.aload_n 0, 1) := by decide +kernel
theorem d_Pa_switchStatement_53 : decode c_Pa_switchStatement 53 = .ok (.getfield 37, 3) := by decide +kernel
theorem d_Pa_switchStatement_56 : decode c_Pa_switchStatement 56 = .ok (.dup, 1) := by decide +kernel
theorem d_Pa_switchStatement_57 : decode c_Pa_switchStatement 57 = .ok (.getfield 276, 3) := by decide +kernel
theorem d_Pa_switchStatement_60 : decode c_Pa_switchStatement 60 = .ok (.iconst 1, 1) := by decide +kernel
theorem d_Pa_switchStatement_61 : decode c_Pa_switchStatement 61 = .ok (.iadd, 1) := by decide +kernel
theorem d_Pa_switchStatement_62 : decode c_Pa_switchStatement 62 = .ok (.putfield 276, 3) := by decide +kernel
theorem d_Pa_switchStatement_65 : decode c_Pa_switchStatement 65 = .ok (.iconst 0, 1) := by decide +kernel
theorem d_Pa_switchStatement_66 : decode c_Pa_switchStatement 66 = .ok (.istore_n 3, 1) := by decide +kernel
theorem d_Pa_switchStatement_67 : decode c_Pa_switchStatement 67 = .ok (.iconst 0, 1) := by decide +kernel
theorem d_Pa_switchStatement_68 : decode c_Pa_switchStatement 68 = .ok (.istore 4, 2) := by decide +kernel
theorem d_Pa_switchStatement_70 : decode c_Pa_switchStatement 70 = .ok (.iload 4, 2) := by decide +kernel
theorem d_Pa_switchStatement_72 : decode c_Pa_switchStatement 72 = .ok (.sipush 1000, 3) := by decide +kernel
theorem d_Pa_switchStatement_75 : decode c_Pa_switchStatement 75 = .ok (.if_icmp .gt 116, 3) := by decide +kernel
theorem d_Pa_switchStatement_78 : decode c_Pa_switchStatement 78 = .ok (.aload_n 0, 1) := by decide +kernel
theorem d_Pa_switchStatement_79 : decode c_Pa_switchStatement 79 = .ok (.bipush 65, 2) := by decide +kernel
theorem d_Pa_switchStatement_81 : decode c_Pa_switchStatement 81 = .ok (.invokevirtual 117, 3) := by decide +kernel
theorem d_Pa_switchStatement_84 : decode c_Pa_switchStatement 84 = .ok (.ifCond .ne 107, 3) := by decide +kernel
theorem d_Pa_switchStatement_87 : decode c_Pa_switchStatement 87 = .ok (.aload_n 0, 1) := by decide +kernel
theorem d_Pa_switchStatement_88 : decode c_Pa_switchStatement 88 = .ok (.iconst 5, 1) := by decide +kernel
theorem d_Pa_switchStatement_89 : decode c_Pa_switchStatement 89 = .ok (.invokevirtual 66, 3) := by decide +kernel
theorem d_Pa_switchStatement_92 : decode c_Pa_switchStatement 92 = .ok (.istore 5, 2) := by decide +kernel
theorem d_Pa_switchStatement_94 : decode c_Pa_switchStatement 94 = .ok (.aload_n 0, 1) := by decide +kernel
theorem d_Pa_switchStatement_95 : decode c_Pa_switchStatement 95 = .ok (.iload 5, 2) := by decide +kernel
theorem d_Pa_switchStatement_97 : decode c_Pa_switchStatement 97 = .ok (.iload_n 3, 1) := by decide +kernel
theorem d_Pa_switchStatement_98 : decode c_Pa_switchStatement 98 = .ok (.invokevirtual 284, 3) := by decide +kernel
theorem d_Pa_switchStatement_101 : decode c_Pa_switchStatement 101 = .ok (.istore 6, 2) := by decide +kernel
theorem d_Pa_switchStatement_103 : decode c_Pa_switchStatement 103 = .ok (.iload_n 3, 1) := by decide +kernel
theorem d_Pa_switchStatement_104 : decode c_Pa_switchStatement 104 = .ok (.ifCond .ne 8, 3) := by decide +kernel
theorem d_Pa_switchStatement_107 : decode c_Pa_switchStatement 107 = .ok (.iload 5, 2) := by decide +kernel
theorem d_Pa_switchStatement_109 : decode c_Pa_switchStatement 109 = .ok (.ifCond .eq 7, 3) := by decide +kernel
theorem d_Pa_switchStatement_112 : decode c_Pa_switchStatement 112 = .ok (.iconst 1, 1) := by decide +kernel
theorem d_Pa_switchStatement_113 : decode c_Pa_switchStatement 113 = .ok (.goto 4, 3) := by decide +kernel
theorem d_Pa_switchStatement_116 : decode c_Pa_switchStatement 116 = .ok (.iconst 0, 1) := by decide +kernel
theorem d_Pa_switchStatement_117 : decode c_Pa_switchStatement 117 = .ok (.istore_n 3, 1) := by decide +kernel
theorem d_Pa_switchStatement_118 : decode c_Pa_switchStatement 118 = .ok (.iload 5, 2) := by decide +kernel
theorem d_Pa_switchStatement_120 : decode c_Pa_switchStatement 120 = .ok (.ifCond .ne 12, 3) := by decide +kernel
theorem d_Pa_switchStatement_123 : decode c_Pa_switchStatement 123 = .ok (.aload_n 0, 1) := by decide +kernel
theorem d_Pa_switchStatement_124 : decode c_Pa_switchStatement 124 = .ok (.iconst (-1), 1) := by decide +kernel
theorem d_Pa_switchStatement_125 : decode c_Pa_switchStatement 125 = .ok (.iload_n 1, 1) := by decide +kernel
theorem d_Pa_switchStatement_126 : decode c_Pa_switchStatement 126 = .ok (.iconst 1, 1) := by decide +kernel
theorem d_Pa_switchStatement_127 : decode c_Pa_switchStatement 127 = .ok (.iadd, 1) := by decide +kernel
theorem d_Pa_switchStatement_128 : decode c_Pa_switchStatement 128 = .ok (.iconst 1, 1) := by decide +kernel
theorem d_Pa_switchStatement_129 : decode c_Pa_switchStatement 129 = .ok (.invokevirtual 232, 3) := by decide +kernel
theorem d_Pa_switchStatement_132 : decode c_Pa_switchStatement 132 = .ok (.aload_n 0, 1) := by decide +kernel
theorem d_Pa_switchStatement_133 : decode c_Pa_switchStatement 133 = .ok (.bipush 70, 2) := by decide +kernel
theorem d_Pa_switchStatement_135 : decode c_Pa_switchStatement 135 = .ok (.invokevirtual 114, 3) := by decide +kernel
theorem d_Pa_switchStatement_138 : decode c_Pa_switchStatement 138 = .ok (.iconst 0, 1) := by decide +kernel
theorem d_Pa_switchStatement_139 : decode c_Pa_switchStatement 139 = .ok (.istore 7, 2) := by decide +kernel
theorem d_Pa_switchStatement_141 : decode c_Pa_switchStatement 141 = .ok (.iload 7, 2) := by decide +kernel
theorem d_Pa_switchStatement_143 : decode c_Pa_switchStatement 143 = .ok (.sipush 1000, 3) := by decide +kernel
theorem d_Pa_switchStatement_146 : decode c_Pa_switchStatement 146 = .ok (.if_icmp .gt 30, 3) := by decide +kernel
theorem d_Pa_switchStatement_149 : decode c_Pa_switchStatement 149 = .ok (.aload_n 0, 1) := by decide +kernel
theorem d_Pa_switchStatement_150 : decode c_Pa_switchStatement 150 = .ok (.invokevirtual 288, 3) := by decide +kernel
theorem d_Pa_switchStatement_153 : decode c_Pa_switchStatement 153 = .ok (.ifCond .ne 23, 3) := by decide +kernel
theorem d_Pa_switchStatement_156 : decode c_Pa_switchStatement 156 = .ok (.aload_n 0, 1) := by decide +kernel
theorem d_Pa_switchStatement_157 : decode c_Pa_switchStatement 157 = .ok (.iload_n 1, 1) := by decide +kernel
theorem d_Pa_switchStatement_158 : decode c_Pa_switchStatement 158 = .ok (.iconst 1, 1) := by decide +kernel
theorem d_Pa_switchStatement_159 : decode c_Pa_switchStatement 159 = .ok (.iadd, 1) := by decide +kernel
theorem d_Pa_switchStatement_160 : decode c_Pa_switchStatement 160 = .ok (.aload_n 0, 1) := by decide +kernel
theorem d_Pa_switchStatement_161 : decode c_Pa_switchStatement 161 = .ok (.getfield 12, 3) := by decide +kernel
theorem d_Pa_switchStatement_164 : decode c_Pa_switchStatement 164 = .ok (.invokevirtual 74, 3) := by decide +kernel
theorem d_Pa_switchStatement_167 : decode c_Pa_switchStatement 167 = .ok (.invokevirtual 78, 3) := by decide +kernel
theorem d_Pa_switchStatement_170 : decode c_Pa_switchStatement 170 = .ok (.iinc 7 1, 3) := by decide +kernel
theorem d_Pa_switchStatement_173 : decode c_Pa_switchStatement 173 = .ok (.goto (-32), 3) := by decide +kernel
theorem d_Pa_switchStatement_176 : decode c_Pa_switchStatement 176 = .ok (.aload_n 0, 1) := by decide +kernel
theorem d_Pa_switchStatement_177 : decode c_Pa_switchStatement 177 = .ok (.getfield 22, 3) := by decide +kernel
theorem d_Pa_switchStatement_180 : decode c_Pa_switchStatement 180 = .ok (.iload 6, 2) := by decide +kernel
theorem d_Pa_switchStatement_182 : decode c_Pa_switchStatement 182 = .ok (.invokevirtual 98, 3) := by decide +kernel
theorem d_Pa_switchStatement_185 : decode c_Pa_switchStatement 185 = .ok (.iinc 4 1, 3) := by decide +kernel
theorem d_Pa_switchStatement_188 : decode c_Pa_switchStatement 188 = .ok (.goto (-118), 3) := by decide +kernel
theorem d_Pa_switchStatement_191 : decode c_Pa_switchStatement 191 = .ok (.aload_n 0, 1) := by decide +kernel
theorem d_Pa_switchStatement_192 : decode c_Pa_switchStatement 192 = .ok (.getfield 37, 3) := by decide +kernel
theorem d_Pa_switchStatement_195 : decode c_Pa_switchStatement 195 = .ok (.dup, 1) := by decide +kernel
theorem d_Pa_switchStatement_196 : decode c_Pa_switchStatement 196 = .ok (.getfield 276, 3) := by decide +kernel
theorem d_Pa_switchStatement_199 : decode c_Pa_switchStatement 199 = .ok (.iconst 1, 1) := by decide +kernel
theorem d_Pa_switchStatement_200 : decode c_Pa_switchStatement 200 = .ok (.isub, 1) := by decide +kernel
theorem d_Pa_switchStatement_201 : decode c_Pa_switchStatement 201 = .ok (.putfield 276, 3) := by decide +kernel
theorem d_Pa_switchStatement_204 : decode c_Pa_switchStatement 204 = .ok (.aload_n 0, 1) := by decide +kernel
theorem d_Pa_switchStatement_205 : decode c_Pa_switchStatement 205 = .ok (.getfield 22, 3) := by decide +kernel
theorem d_Pa_switchStatement_208 : decode c_Pa_switchStatement 208 = .ok (.iload_n 2, 1) := by decide +kernel
theorem d_Pa_switchStatement_209 : decode c_Pa_switchStatement 209 = .ok (.invokevirtual 98, 3) := by decide +kernel
theorem d_Pa_switchStatement_212 : decode c_Pa_switchStatement 212 = .ok (.return_, 1) := by decide +kernel
theorem d_Pa_openClause_0 : decode c_Pa_openClause 0 = .ok (.iload_n 1, 1) := by decide +kernel
theorem d_Pa_openClause_1 : decode c_Pa_openClause 1 = .ok (.ifCond .eq 15, 3) := by decide +kernel
theorem d_Pa_openClause_4 : decode c_Pa_openClause 4 = .ok (.iload_n 2, 1) := by decide +kernel
theorem d_Pa_openClause_5 : decode c_Pa_openClause 5 = .ok (.ifCond .eq 11, 3) := by decide +kernel
theorem d_Pa_openClause_8 : decode c_Pa_openClause 8 = .ok (.aload_n 0, 1) := by decide +kernel
theorem d_Pa_openClause_9 : decode c_Pa_openClause 9 = .ok (.aload_n 0, 1) := by decide +kernel
theorem d_Pa_openClause_10 : decode c_Pa_openClause 10 = .ok (.getfield 26, 3) := by decide +kernel
theorem d_Pa_openClause_13 : decode c_Pa_openClause 13 = .ok (.invokevirtual 140, 3) := by decide +kernel
theorem d_Pa_openClause_16 : decode c_Pa_openClause 16 = .ok (.aload_n 0, 1) := by decide +kernel
theorem d_Pa_openClause_17 : decode c_Pa_openClause 17 = .ok (.getfield 22, 3) := by decide +kernel
theorem d_Pa_openClause_20 : decode c_Pa_openClause 20 = .ok (.iload_n 1, 1) := by decide +kernel
theorem d_Pa_openClause_21 : decode c_Pa_openClause 21 = .ok (.ifCond .eq 8, 3) := by decide +kernel
theorem d_Pa_openClause_24 : decode c_Pa_openClause 24 = .ok (.bipush 17, 2) := by decide +kernel
theorem d_Pa_openClause_26 : decode c_Pa_openClause 26 = .ok (.goto 5, 3) := by decide +kernel
theorem d_Pa_openClause_29 : decode c_Pa_openClause 29 = .ok (.bipush 16, 2) := by decide +kernel
theorem d_Pa_openClause_31 : decode c_Pa_openClause 31 = .ok (.iconst 0, 1) := by decide +kernel
theorem d_Pa_openClause_32 : decode c_Pa_openClause 32 = .ok (.aload_n 0, 1) := by decide +kernel
theorem d_Pa_openClause_33 : decode c_Pa_openClause 33 = .ok (.getfield 26, 3) := by decide +kernel
theorem d_Pa_openClause_36 : decode c_Pa_openClause 36 = .ok (.invokevirtual 54, 3) := by decide +kernel
theorem d_Pa_openClause_39 : decode c_Pa_openClause 39 = .ok (.istore_n 3, 1) := by decide +kernel
theorem d_Pa_openClause_40 : decode c_Pa_openClause 40 = .ok (.aload_n 0, 1) := by decide +kernel
theorem d_Pa_openClause_41 : decode c_Pa_openClause 41 = .ok (.iload_n 1, 1) := by decide +kernel
theorem d_Pa_openClause_42 : decode c_Pa_openClause 42 = .ok (.ifCond .eq 7, 3) := by decide +kernel
theorem d_Pa_openClause_45 : decode c_Pa_openClause 45 = .ok (.iconst 5, 1) := by decide +kernel
theorem d_Pa_openClause_46 : decode c_Pa_openClause 46 = .ok (.goto 4, 3) := by decide +kernel
theorem d_Pa_openClause_49 : decode c_Pa_openClause 49 = .ok (.iconst 1, 1) := by decide +kernel
theorem d_Pa_openClause_50 : decode c_Pa_openClause 50 = .ok (.invokevirtual 255, 3) := by decide +kernel
theorem d_Pa_openClause_53 : decode c_Pa_openClause 53 = .ok (.iload_n 3, 1) := by decide +kernel
theorem d_Pa_openClause_54 : decode c_Pa_openClause 54 = .ok (.ireturn, 1) := by decide +kernel
theorem d_Pa_atClauseEnd_0 : decode c_Pa_atClauseEnd 0 = .ok (.aload_n 0, 1) := by decide +kernel
theorem d_Pa_atClauseEnd_1 : decode c_Pa_atClauseEnd 1 = .ok (.iconst 1, 1) := by decide +kernel
theorem d_Pa_atClauseEnd_2 : decode c_Pa_atClauseEnd 2 = .ok (.invokevirtual 66, 3) := by decide +kernel
theorem d_Pa_atClauseEnd_5 : decode c_Pa_atClauseEnd 5 = .ok (.ifCond .ne 20, 3) := by decide +kernel
theorem d_Pa_atClauseEnd_8 : decode c_Pa_atClauseEnd 8 = .ok (.aload_n 0, 1) := by decide +kernel
theorem d_Pa_atClauseEnd_9 : decode c_Pa_atClauseEnd 9 = .ok (.iconst 5, 1) := by decide +kernel
theorem d_Pa_atClauseEnd_10 : decode c_Pa_atClauseEnd 10 = .ok (.invokevirtual 66, 3) := by decide +kernel
theorem d_Pa_atClauseEnd_13 : decode c_Pa_atClauseEnd 13 = .ok (.ifCond .ne 12, 3) := by decide +kernel
theorem d_Pa_atClauseEnd_16 : decode c_Pa_atClauseEnd 16 = .ok (.aload_n 0, 1) := by decide +kernel
theorem d_Pa_atClauseEnd_17 : decode c_Pa_atClauseEnd 17 = .ok (.bipush 65, 2) := by decide +kernel
theorem d_Pa_atClauseEnd_19 : decode c_Pa_atClauseEnd 19 = .ok (.invokevirtual 126, 3) := by decide +kernel
theorem d_Pa_atClauseEnd_22 : decode c_Pa_atClauseEnd 22 = .ok (.ifCond .eq 7, 3) := by decide +kernel
theorem d_Pa_atClauseEnd_25 : decode c_Pa_atClauseEnd 25 = .ok (.iconst 1, 1) := by decide +kernel
theorem d_Pa_atClauseEnd_26 : decode c_Pa_atClauseEnd 26 = .ok (.goto 4, 3) := by decide +kernel
theorem d_Pa_atClauseEnd_29 : decode c_Pa_atClauseEnd 29 = .ok (.iconst 0, 1) := by decide +kernel
theorem d_Pa_atClauseEnd_30 : decode c_Pa_atClauseEnd 30 = .ok (.ireturn, 1) := by decide +kernel
theorem d_Pa_tryStatement_0 : decode c_Pa_tryStatement 0 = .ok (.aload_n 0, 1) := by decide +kernel
theorem d_Pa_tryStatement_1 : decode c_Pa_tryStatement 1 = .ok (.getfield 22, 3) := by decide +kernel
theorem d_Pa_tryStatement_4 : decode c_Pa_tryStatement 4 = .ok (.bipush 20, 2) := by decide +kernel
theorem d_Pa_tryStatement_6 : decode c_Pa_tryStatement 6 = .ok (.iconst 0, 1) := by decide +kernel
theorem d_Pa_tryStatement_7 : decode c_Pa_tryStatement 7 = .ok (.aload_n 0, 1) := by decide +kernel
theorem d_Pa_tryStatement_8 : decode c_Pa_tryStatement 8 = .ok (.getfield 26, 3) := by decide +kernel
theorem d_Pa_tryStatement_11 : decode c_Pa_tryStatement 11 = .ok (.invokevirtual 54, 3) := by decide +kernel
theorem d_Pa_tryStatement_14 : decode c_Pa_tryStatement 14 = .ok (.istore_n 2, 1) := by decide +kernel
theorem d_Pa_tryStatement_15 : decode c_Pa_tryStatement 15 = .ok (.aload_n 0, 1) := by decide +kernel
theorem d_Pa_tryStatement_16 : decode c_Pa_tryStatement 16 = .ok (.dup, 1) := by decide +kernel
theorem d_Pa_tryStatement_17 : decode c_Pa_tryStatement 17 = .ok (.getfield 26, 3) := by decide +kernel
theorem d_Pa_tryStatement_20 : decode c_Pa_tryStatement 20 = .ok (.iconst 1, 1) := by decide +kernel
theorem d_Pa_tryStatement_21 : decode c_Pa_tryStatement 21 = .ok (.iadd, 1) := by decide +kernel
theorem d_Pa_tryStatement_22 : decode c_Pa_tryStatement 22 = .ok (.putfield 26, 3) := by decide +kernel
theorem d_Pa_tryStatement_25 : decode c_Pa_tryStatement 25 = .ok (.aload_n 0, 1) := by decide +kernel
theorem d_Pa_tryStatement_26 : decode c_Pa_tryStatement 26 = .ok (.iload_n 1, 1) := by decide +kernel
theorem d_Pa_tryStatement_27 : decode c_Pa_tryStatement 27 = .ok (.iconst 1, 1) := by decide +kernel
theorem d_Pa_tryStatement_28 : decode c_Pa_tryStatement 28 = .ok (.iadd, 1) := by decide +kernel
theorem d_Pa_tryStatement_29 : decode c_Pa_tryStatement 29 = .ok (.invokevirtual 214, 3) := by decide +kernel
theorem d_Pa_tryStatement_32 : decode c_Pa_tryStatement 32 = .ok (.aload_n 0, 1) := by decide +kernel
theorem d_Pa_tryStatement_33 : decode c_Pa_tryStatement 33 = .ok (.iconst 2, 1) := by decide +kernel
theorem d_Pa_tryStatement_34 : decode c_Pa_tryStatement 34 = .ok (.invokevirtual 66, 3) := by decide +kernel
theorem d_Pa_tryStatement_37 : decode c_Pa_tryStatement 37 = .ok (.ifCond .ne 20, 3) := by decide +kernel
theorem d_Pa_tryStatement_40 : decode c_Pa_tryStatement 40 = .ok (.aload_n 0, 1) := by decide +kernel
theorem d_Pa_tryStatement_41 : decode c_Pa_tryStatement 41 = .ok (.bipush 9, 2) := by decide +kernel
theorem d_Pa_tryStatement_43 : decode c_Pa_tryStatement 43 = .ok (.invokevirtual 66, 3) := by decide +kernel
theorem d_Pa_tryStatement_46 : decode c_Pa_tryStatement 46 = .ok (.ifCond .ne 11, 3) := by decide +kernel
theorem d_Pa_tryStatement_49 : decode c_Pa_tryStatement 49 = .ok (.aload_n 0, 1) := by decide +kernel
theorem d_Pa_tryStatement_50 : decode c_Pa_tryStatement 50 = .ok (.aload_n 0, 1) := by decide +kernel
theorem d_Pa_tryStatement_51 : decode c_Pa_tryStatement 51 = .ok (.getfield 26, 3) := by decide +kernel
theorem d_Pa_tryStatement_54 : decode c_Pa_tryStatement 54 = .ok (.invokevirtual 140, 3) := by decide +kernel
theorem d_Pa_tryStatement_57 : decode c_Pa_tryStatement 57 = .ok (.aload_n 0, 1) := by decide +kernel
theorem d_Pa_tryStatement_58 : decode c_Pa_tryStatement 58 = .ok (.iconst 2, 1) := by decide +kernel
theorem d_Pa_tryStatement_59 : decode c_Pa_tryStatement 59 = .ok (.invokevirtual 66, 3) := by decide +kernel
theorem d_Pa_tryStatement_62 : decode c_Pa_tryStatement 62 = .ok (.ifCond .eq 67, 3) := by decide +kernel
theorem d_Pa_tryStatement_65 : decode c_Pa_tryStatement 65 = .ok (.aload_n 0, 1) := by decide +kernel
theorem d_Pa_tryStatement_66 : decode c_Pa_tryStatement 66 = .ok (.getfield 22, 3) := by decide +kernel
theorem d_Pa_tryStatement_69 : decode c_Pa_tryStatement 69 = .ok (.bipush 21, 2) := by decide +kernel
theorem d_Pa_tryStatement_71 : decode c_Pa_tryStatement 71 = .ok (.iconst 0, 1) := by decide +kernel
theorem d_Pa_tryStatement_72 : decode c_Pa_tryStatement 72 = .ok (.aload_n 0, 1) := by decide +kernel
theorem d_Pa_tryStatement_73 : decode c_Pa_tryStatement 73 = .ok (.getfield 26, 3) := by decide +kernel
theorem d_Pa_tryStatement_76 : decode c_Pa_tryStatement 76 = .ok (.invokevirtual 54, 3) := by decide +kernel
theorem d_Pa_tryStatement_79 : decode c_Pa_tryStatement 79 = .ok (.istore_n 3, 1) := by decide +kernel
theorem d_Pa_tryStatement_80 : decode c_Pa_tryStatement 80 = .ok (.aload_n 0, 1) := by decide +kernel
theorem d_Pa_tryStatement_81 : decode c_Pa_tryStatement 81 = .ok (.dup, 1) := by decide +kernel
theorem d_Pa_tryStatement_82 : decode c_Pa_tryStatement 82 = .ok (.getfield 26, 3) := by decide +kernel
theorem d_Pa_tryStatement_85 : decode c_Pa_tryStatement 85 = .ok (.iconst 1, 1) := by decide +kernel
theorem d_Pa_tryStatement_86 : decode c_Pa_tryStatement 86 = .ok (.iadd, 1) := by decide +kernel
theorem d_Pa_tryStatement_87 : decode c_Pa_tryStatement 87 = .ok (.putfield 26, 3) := by decide +kernel
theorem d_Pa_tryStatement_90 : decode c_Pa_tryStatement 90 = .ok (.aload_n 0, 1) := by decide +kernel
theorem d_Pa_tryStatement_91 : decode c_Pa_tryStatement 91 = .ok (.bipush 60, 2) := by decide +kernel
theorem d_Pa_tryStatement_93 : decode c_Pa_tryStatement 93 = .ok (.invokevirtual 114, 3) := by decide +kernel
theorem d_Pa_tryStatement_96 : decode c_Pa_tryStatement 96 = .ok (.aload_n 0, 1) := by decide +kernel
theorem d_Pa_tryStatement_97 : decode c_Pa_tryStatement 97 = .ok (.getfield 22, 3) := by decide +kernel
theorem d_Pa_tryStatement_100 : decode c_Pa_tryStatement 100 = .ok (.iload_n 3, 1) := by decide +kernel
theorem d_Pa_tryStatement_101 : decode c_Pa_tryStatement 101 = .ok (.aload_n 0, 1) := by decide +kernel
theorem d_Pa_tryStatement_102 : decode c_Pa_tryStatement 102 = .ok (.invokevirtual 123, 3) := by decide +kernel
theorem d_Pa_tryStatement_105 : decode c_Pa_tryStatement 105 = .ok (.invokevirtual 95, 3) := by decide +kernel
theorem d_Pa_tryStatement_108 : decode c_Pa_tryStatement 108 = .ok (.aload_n 0, 1) := by decide +kernel
theorem d_Pa_tryStatement_109 : decode c_Pa_tryStatement 109 = .ok (.bipush 61, 2) := by decide +kernel
theorem d_Pa_tryStatement_111 : decode c_Pa_tryStatement 111 = .ok (.invokevirtual 114, 3) := by decide +kernel
theorem d_Pa_tryStatement_114 : decode c_Pa_tryStatement 114 = .ok (.aload_n 0, 1) := by decide +kernel
theorem d_Pa_tryStatement_115 : decode c_Pa_tryStatement 115 = .ok (.iload_n 1, 1) := by decide +kernel
theorem d_Pa_tryStatement_116 : decode c_Pa_tryStatement 116 = .ok (.iconst 1, 1) := by decide +kernel
theorem d_Pa_tryStatement_117 : decode c_Pa_tryStatement 117 = .ok (.iadd, 1) := by decide +kernel
theorem d_Pa_tryStatement_118 : decode c_Pa_tryStatement 118 = .ok (.invokevirtual 214, 3) := by decide +kernel
theorem d_Pa_tryStatement_121 : decode c_Pa_tryStatement 121 = .ok (.aload_n 0, 1) := by decide +kernel
theorem d_Pa_tryStatement_122 : decode c_Pa_tryStatement 122 = .ok (.getfield 22, 3) := by decide +kernel
theorem d_Pa_tryStatement_125 : decode c_Pa_tryStatement 125 = .ok (.iload_n 3, 1) := by decide +kernel
theorem d_Pa_tryStatement_126 : decode c_Pa_tryStatement 126 = .ok (.invokevirtual 98, 3) := by decide +kernel
theorem d_Pa_tryStatement_129 : decode c_Pa_tryStatement 129 = .ok (.aload_n 0, 1) := by decide +kernel
theorem d_Pa_tryStatement_130 : decode c_Pa_tryStatement 130 = .ok (.bipush 9, 2) := by decide +kernel
theorem d_Pa_tryStatement_132 : decode c_Pa_tryStatement 132 = .ok (.invokevirtual 66, 3) := by decide +kernel
theorem d_Pa_tryStatement_135 : decode c_Pa_tryStatement 135 = .ok (.ifCond .eq 43, 3) := by decide +kernel
theorem d_Pa_tryStatement_138 : decode c_Pa_tryStatement 138 = .ok (.aload_n 0, 1) := by decide +kernel
theorem d_Pa_tryStatement_139 : decode c_Pa_tryStatement 139 = .ok (.getfield 22, 3) := by decide +kernel
theorem d_Pa_tryStatement_142 : decode c_Pa_tryStatement 142 = .ok (.bipush 22, 2) := by decide +kernel
theorem d_Pa_tryStatement_144 : decode c_Pa_tryStatement 144 = .ok (.iconst 0, 1) := by decide +kernel
theorem d_Pa_tryStatement_145 : decode c_Pa_tryStatement 145 = .ok (.aload_n 0, 1) := by decide +kernel
theorem d_Pa_tryStatement_146 : decode c_Pa_tryStatement 146 = .ok (.getfield 26, 3) := by decide +kernel
theorem d_Pa_tryStatement_149 : decode c_Pa_tryStatement 149 = .ok (.invokevirtual 54, 3) := by decide +kernel
theorem d_Pa_tryStatement_152 : decode c_Pa_tryStatement 152 = .ok (.istore_n 3, 1) := by decide +kernel
theorem d_Pa_tryStatement_153 : decode c_Pa_tryStatement 153 = .ok (.aload_n 0, 1) := by decide +kernel
theorem d_Pa_tryStatement_154 : decode c_Pa_tryStatement 154 = .ok (.dup, 1) := by decide +kernel
theorem d_Pa_tryStatement_155 : decode c_Pa_tryStatement 155 = .ok (.getfield 26, 3) := by decide +kernel
theorem d_Pa_tryStatement_158 : decode c_Pa_tryStatement 158 = .ok (.iconst 1, 1) := by decide +kernel
theorem d_Pa_tryStatement_159 : decode c_Pa_tryStatement 159 = .ok (.iadd, 1) := by decide +kernel
theorem d_Pa_tryStatement_160 : decode c_Pa_tryStatement 160 = .ok (.putfield 26, 3) := by decide +kernel
theorem d_Pa_tryStatement_163 : decode c_Pa_tryStatement 163 = .ok (.aload_n 0, 1) := by decide +kernel
theorem d_Pa_tryStatement_164 : decode c_Pa_tryStatement 164 = .ok (.iload_n 1, 1) := by decide +kernel
theorem d_Pa_tryStatement_165 : decode c_Pa_tryStatement 165 = .ok (.iconst 1, 1) := by decide +kernel
theorem d_Pa_tryStatement_166 : decode c_Pa_tryStatement 166 = .ok (.iadd, 1) := by decide +kernel
theorem d_Pa_tryStatement_167 : decode c_Pa_tryStatement 167 = .ok (.invokevirtual 214, 3) := by decide +kernel
theorem d_Pa_tryStatement_170 : decode c_Pa_tryStatement 170 = .ok (.aload_n 0, 1) := by decide +kernel
theorem d_Pa_tryStatement_171 : decode c_Pa_tryStatement 171 = .ok (.getfield 22, 3) := by decide +kernel
theorem d_Pa_tryStatement_174 : decode c_Pa_tryStatement 174 = .ok (.iload_n 3, 1) := by decide +kernel
theorem d_Pa_tryStatement_175 : decode c_Pa_tryStatement 175 = .ok (.invokevirtual 98, 3) := by decide +kernel
theorem d_Pa_tryStatement_178 : decode c_Pa_tryStatement 178 = .ok (.aload_n 0, 1) := by decide +kernel
theorem d_Pa_tryStatement_179 : decode c_Pa_tryStatement 179 = .ok (.getfield 22, 3) := by decide +kernel
theorem d_Pa_tryStatement_182 : decode c_Pa_tryStatement 182 = .ok (.iload_n 2, 1) := by decide +kernel
theorem d_Pa_tryStatement_183 : decode c_Pa_tryStatement 183 = .ok (.invokevirtual 98, 3) := by decide +kernel
theorem d_Pa_tryStatement_186 : decode c_Pa_tryStatement 186 = .ok (.return_, 1) := by decide +kernel
theorem d_Pa_expression_0 : decode c_Pa_expression 0 = .ok (.aload_n 0, 1) := by decide +kernel
theorem d_Pa_expression_1 : decode c_Pa_expression 1 = .ok (.iload_n 2, 1) := by decide +kernel
theorem d_Pa_expression_2 : decode c_Pa_expression 2 = .ok (.invokevirtual 102, 3) := by decide +kernel
theorem d_Pa_expression_5 : decode c_Pa_expression 5 = .ok (.aload_n 0, 1) := by decide +kernel
theorem d_Pa_expression_6 : decode c_Pa_expression 6 = .ok (.getfield 22, 3) := by decide +kernel
theorem d_Pa_expression_9 : decode c_Pa_expression 9 = .ok (.invokevirtual 135, 3) := by decide +kernel
theorem d_Pa_expression_12 : decode c_Pa_expression 12 = .ok (.istore 4, 2) := by decide +kernel
theorem d_Pa_expression_14 : decode c_Pa_expression 14 = .ok (.iload_n 1, 1) := by decide +kernel
theorem d_Pa_expression_15 : decode c_Pa_expression 15 = .ok (.bipush 12, 2) := by decide +kernel
theorem d_Pa_expression_17 : decode c_Pa_expression 17 = .ok (.if_icmp .ge 10, 3) := by decide +kernel
theorem d_Pa_expression_20 : decode c_Pa_expression 20 = .ok (.aload_n 0, 1) := by decide +kernel
theorem d_Pa_expression_21 : decode c_Pa_expression 21 = .ok (.invokevirtual 291, 3) := by decide +kernel
theorem d_Pa_expression_24 : decode c_Pa_expression 24 = .ok (.goto 4, 3) := by decide +kernel
theorem d_Pa_expression_27 : decode c_Pa_expression 27 = .ok (.iconst (-1), 1) := by decide +kernel
theorem d_Pa_expression_28 : decode c_Pa_expression 28 = .ok (.istore 5, 2) := by decide +kernel
theorem d_Pa_expression_30 : decode c_Pa_expression 30 = .ok (.iload 5, 2) := by decide +kernel
theorem d_Pa_expression_32 : decode c_Pa_expression 32 = .ok (.iconst (-1), 1) := by decide +kernel
theorem d_Pa_expression_33 : decode c_Pa_expression 33 = .ok (.if_icmp .eq 13, 3) := by decide +kernel
theorem d_Pa_expression_36 : decode c_Pa_expression 36 = .ok (.aload_n 0, 1) := by decide +kernel
theorem d_Pa_expression_37 : decode c_Pa_expression 37 = .ok (.iload 5, 2) := by decide +kernel
theorem d_Pa_expression_39 : decode c_Pa_expression 39 = .ok (.iload_n 2, 1) := by decide +kernel
theorem d_Pa_expression_40 : decode c_Pa_expression 40 = .ok (.invokevirtual 294, 3) := by decide +kernel
theorem d_Pa_expression_43 : decode c_Pa_expression 43 = .ok (.goto 94, 3) := by decide +kernel
theorem d_Pa_expression_46 : decode c_Pa_expression 46 = .ok (.aload_n 0, 1) := by decide +kernel
theorem d_Pa_expression_47 : decode c_Pa_expression 47 = .ok (.bipush 60, 2) := by decide +kernel
theorem d_Pa_expression_49 : decode c_Pa_expression 49 = .ok (.invokevirtual 126, 3) := by decide +kernel
theorem d_Pa_expression_52 : decode c_Pa_expression 52 = .ok (.ifCond .eq 11, 3) := by decide +kernel
theorem d_Pa_expression_55 : decode c_Pa_expression 55 = .ok (.aload_n 0, 1) := by decide +kernel
theorem d_Pa_expression_56 : decode c_Pa_expression 56 = .ok (.iload_n 2, 1) := by decide +kernel
theorem d_Pa_expression_57 : decode c_Pa_expression 57 = .ok (.invokevirtual 297, 3) := by decide +kernel
theorem d_Pa_expression_60 : decode c_Pa_expression 60 = .ok (.goto 77, 3) := by decide +kernel
theorem d_Pa_expression_63 : decode c_Pa_expression 63 = .ok (.aload_n 0, 1) := by decide +kernel
theorem d_Pa_expression_64 : decode c_Pa_expression 64 = .ok (.bipush 62, 2) := by decide +kernel
theorem d_Pa_expression_66 : decode c_Pa_expression 66 = .ok (.invokevirtual 126, 3) := by decide +kernel
theorem d_Pa_expression_69 : decode c_Pa_expression 69 = .ok (.ifCond .eq 11, 3) := by decide +kernel
theorem d_Pa_expression_72 : decode c_Pa_expression 72 = .ok (.aload_n 0, 1) := by decide +kernel
theorem d_Pa_expression_73 : decode c_Pa_expression 73 = .ok (.iload_n 2, 1) := by decide +kernel
theorem d_Pa_expression_74 : decode c_Pa_expression 74 = .ok (.invokevirtual 300, 3) := by decide +kernel
theorem d_Pa_expression_77 : decode c_Pa_expression 77 = .ok (.goto 60, 3) := by decide +kernel
theorem d_Pa_expression_80 : decode c_Pa_expression 80 = .ok (.aload_n 0, 1) := by decide +kernel
theorem d_Pa_expression_81 : decode c_Pa_expression 81 = .ok (.bipush 64, 2) := by decide +kernel
theorem d_Pa_expression_83 : decode c_Pa_expression 83 = .ok (.invokevirtual 126, 3) := by decide +kernel
theorem d_Pa_expression_86 : decode c_Pa_expression 86 = .ok (.ifCond .eq 11, 3) := by decide +kernel
theorem d_Pa_expression_89 : decode c_Pa_expression 89 = .ok (.aload_n 0, 1) := by decide +kernel
theorem d_Pa_expression_90 : decode c_Pa_expression 90 = .ok (.iload_n 2, 1) := by decide +kernel
theorem d_Pa_expression_91 : decode c_Pa_expression 91 = .ok (.invokevirtual 303, 3) := by decide +kernel
theorem d_Pa_expression_94 : decode c_Pa_expression 94 = .ok (.goto 43, 3) := by decide +kernel
theorem d_Pa_expression_97 : decode c_Pa_expression 97 = .ok (.aload_n 0, 1) := by decide +kernel
theorem d_Pa_expression_98 : decode c_Pa_expression 98 = .ok (.bipush 11, 2) := by decide +kernel
theorem d_Pa_expression_100 : decode c_Pa_expression 100 = .ok (.invokevirtual 66, 3) := by decide +kernel
theorem d_Pa_expression_103 : decode c_Pa_expression 103 = .ok (.ifCond .eq 13, 3) := by decide +kernel
theorem d_Pa_expression_106 : decode c_Pa_expression 106 = .ok (.aload_n 0, 1) := by decide +kernel
theorem d_Pa_expression_107 : decode c_Pa_expression 107 = .ok (.bipush 50, 2) := by decide +kernel
theorem d_Pa_expression_109 : decode c_Pa_expression 109 = .ok (.iload_n 2, 1) := by decide +kernel
theorem d_Pa_expression_110 : decode c_Pa_expression 110 = .ok (.invokevirtual 70, 3) := by decide +kernel
theorem d_Pa_expression_113 : decode c_Pa_expression 113 = .ok (.goto 24, 3) := by decide +kernel
theorem d_Pa_expression_116 : decode c_Pa_expression 116 = .ok (.aload_n 0, 1) := by decide +kernel
theorem d_Pa_expression_117 : decode c_Pa_expression 117 = .ok (.bipush 15, 2) := by decide +kernel
theorem d_Pa_expression_119 : decode c_Pa_expression 119 = .ok (.invokevirtual 66, 3) := by decide +kernel
theorem d_Pa_expression_122 : decode c_Pa_expression 122 = .ok (.ifCond .eq 11, 3) := by decide +kernel
theorem d_Pa_expression_125 : decode c_Pa_expression 125 = .ok (.aload_n 0, 1) := by decide +kernel
theorem d_Pa_expression_126 : decode c_Pa_expression 126 = .ok (.iload_n 2, 1) := by decide +kernel
theorem d_Pa_expression_127 : decode c_Pa_expression 127 = .ok (.invokevirtual 306, 3) := by decide +kernel
theorem d_Pa_expression_130 : decode c_Pa_expression 130 = .ok (.goto 7, 3) := by decide +kernel
theorem d_Pa_expression_133 : decode c_Pa_expression 133 = .ok (.aload_n 0, 1) := by decide +kernel
theorem d_Pa_expression_134 : decode c_Pa_expression 134 = .ok (.invokevirtual 309, 3) := by decide +kernel
theorem d_Pa_expression_137 : decode c_Pa_expression 137 = .ok (.iload 5, 2) := by decide +kernel
theorem d_Pa_expression_139 : decode c_Pa_expression 139 = .ok (.iconst (-1), 1) := by decide +kernel
theorem d_Pa_expression_140 : decode c_Pa_expression 140 = .ok (.if_icmp .ne 21, 3) := by decide +kernel
theorem d_Pa_expression_143 : decode c_Pa_expression 143 = .ok (.aload_n 0, 1) := by decide +kernel
theorem d_Pa_expression_144 : decode c_Pa_expression 144 = .ok (.iload 4, 2) := by decide +kernel
theorem d_Pa_expression_146 : decode c_Pa_expression 146 = .ok (.iload_n 2, 1) := by decide +kernel
theorem d_Pa_expression_147 : decode c_Pa_expression 147 = .ok (.iload_n 1, 1) := by decide +kernel
theorem d_Pa_expression_148 : decode c_Pa_expression 148 = .ok (.bipush 12, 2) := by decide +kernel
theorem d_Pa_expression_150 : decode c_Pa_expression 150 = .ok (.if_icmp .ge 7, 3) := by decide +kernel
theorem d_Pa_expression_153 : decode c_Pa_expression 153 = .ok (.iconst 1, 1) := by decide +kernel
theorem d_Pa_expression_154 : decode c_Pa_expression 154 = .ok (.goto 4, 3) := by decide +kernel
theorem d_Pa_expression_157 : decode c_Pa_expression 157 = .ok (.iconst 0, 1) := by decide +kernel
theorem d_Pa_expression_158 : decode c_Pa_expression 158 = .ok (.invokevirtual 312, 3) := by decide +kernel
theorem d_Pa_expression_161 : decode c_Pa_expression 161 = .ok (.iload_n 1, 1) := by decide +kernel
theorem d_Pa_expression_162 : decode c_Pa_expression 162 = .ok (.bipush 10, 2) := by decide +kernel
theorem d_Pa_expression_164 : decode c_Pa_expression 164 = .ok (.if_icmp .gt 16, 3) := by decide +kernel
theorem d_Pa_expression_167 : decode c_Pa_expression 167 = .ok (.aload_n 0, 1) := by decide +kernel
theorem d_Pa_expression_168 : decode c_Pa_expression 168 = .ok (.iload 4, 2) := by decide +kernel
theorem d_Pa_expression_170 : decode c_Pa_expression 170 = .ok (.iload_n 1, 1) := by decide +kernel
theorem d_Pa_expression_171 : decode c_Pa_expression 171 = .ok (.iconst 1, 1) := by decide +kernel
theorem d_Pa_expression_172 : decode c_Pa_expression 172 = .ok (.invokestatic 315, 3) := by decide +kernel
theorem d_Pa_expression_175 : decode c_Pa_expression 175 = .ok (.iload_n 2, 1) := by decide +kernel
theorem d_Pa_expression_176 : decode c_Pa_expression 176 = .ok (.iload_n 3, 1) := by decide +kernel
theorem d_Pa_expression_177 : decode c_Pa_expression 177 = .ok (.invokevirtual 320, 3) := by decide +kernel
theorem d_Pa_expression_180 : decode c_Pa_expression 180 = .ok (.iload_n 1, 1) := by decide +kernel
theorem d_Pa_expression_181 : decode c_Pa_expression 181 = .ok (.ifCond .gt 19, 3) := by decide +kernel
theorem d_Pa_expression_184 : decode c_Pa_expression 184 = .ok (.aload_n 0, 1) := by decide +kernel
theorem d_Pa_expression_185 : decode c_Pa_expression 185 = .ok (.iload 4, 2) := by decide +kernel
theorem d_Pa_expression_187 : decode c_Pa_expression 187 = .ok (.iload_n 2, 1) := by decide +kernel
theorem d_Pa_expression_188 : decode c_Pa_expression 188 = .ok (.iload_n 3, 1) := by decide +kernel
theorem d_Pa_expression_189 : decode c_Pa_expression 189 = .ok (.invokevirtual 324, 3) := by decide +kernel
theorem d_Pa_expression_192 : decode c_Pa_expression 192 = .ok (.aload_n 0, 1) := by decide +kernel
theorem d_Pa_expression_193 : decode c_Pa_expression 193 = .ok (.iload 4, 2) := by decide +kernel
theorem d_Pa_expression_195 : decode c_Pa_expression 195 = .ok (.iload_n 2, 1) := by decide +kernel
theorem d_Pa_expression_196 : decode c_Pa_expression 196 = .ok (.iload_n 3, 1) := by decide +kernel
theorem d_Pa_expression_197 : decode c_Pa_expression 197 = .ok (.invokevirtual 327, 3) := by decide +kernel
theorem d_Pa_expression_200 : decode c_Pa_expression 200 = .ok (.iload_n 1, 1) := by decide +kernel
theorem d_Pa_expression_201 : decode c_Pa_expression 201 = .ok (.iconst (-1), 1) := by decide +kernel
theorem d_Pa_expression_202 : decode c_Pa_expression 202 = .ok (.if_icmp .ne 11, 3) := by decide +kernel
theorem d_Pa_expression_205 : decode c_Pa_expression 205 = .ok (.aload_n 0, 1) := by decide +kernel
theorem d_Pa_expression_206 : decode c_Pa_expression 206 = .ok (.iload 4, 2) := by decide +kernel
theorem d_Pa_expression_208 : decode c_Pa_expression 208 = .ok (.iload_n 2, 1) := by decide +kernel
theorem d_Pa_expression_209 : decode c_Pa_expression 209 = .ok (.iload_n 3, 1) := by decide +kernel
theorem d_Pa_expression_210 : decode c_Pa_expression 210 = .ok (.invokevirtual 330, 3) := by decide +kernel
theorem d_Pa_expression_213 : decode c_Pa_expression 213 = .ok (.return_, 1) := by decide +kernel
theorem d_Pa_prefixOperator_0 : decode c_Pa_prefixOperator 0 = .ok (.aload_n 0, 1) := by decide +kernel
theorem d_Pa_prefixOperator_1 : decode c_Pa_prefixOperator 1 = .ok (.getfield 84, 3) := by decide +kernel
theorem d_Pa_prefixOperator_4 : decode c_Pa_prefixOperator 4 = .ok (.aload_n 0, 1) := by decide +kernel
theorem d_Pa_prefixOperator_5 : decode c_Pa_prefixOperator 5 = .ok (.getfield 26, 3) := by decide +kernel
theorem d_Pa_prefixOperator_8 : decode c_Pa_prefixOperator 8 = .ok (.invokevirtual 165, 3) := by decide +kernel
theorem d_Pa_prefixOperator_11 : decode c_Pa_prefixOperator 11 = .ok (.lookupswitch 39 #[(6, 33), (21, 37), (23, 35)], 33) := by decide +kernel
theorem d_Pa_prefixOperator_44 : decode c_Pa_prefixOperator 44 = .ok (.iconst 0, 1) := by decide +kernel
theorem d_Pa_prefixOperator_45 : decode c_Pa_prefixOperator 45 = .ok (.ireturn, 1) := by decide +kernel
theorem d_Pa_prefixOperator_46 : decode c_Pa_prefixOperator 46 = .ok (.iconst 1, 1) := by decide +kernel
theorem d_Pa_prefixOperator_47 : decode c_Pa_prefixOperator 47 = .ok (.ireturn, 1) := by decide +kernel
theorem d_Pa_prefixOperator_48 : decode c_Pa_prefixOperator 48 = .ok (.iconst 2, 1) := by decide +kernel
theorem d_Pa_prefixOperator_49 : decode c_Pa_prefixOperator 49 = .ok (.ireturn, 1) := by decide +kernel
theorem d_Pa_prefixOperator_50 : decode c_Pa_prefixOperator 50 = .ok (.aload_n 0, 1) := by decide +kernel
theorem d_Pa_prefixOperator_51 : decode c_Pa_prefixOperator 51 = .ok (.getfield 84, 3) := by decide +kernel
theorem d_Pa_prefixOperator_54 : decode c_Pa_prefixOperator 54 = .ok (.aload_n 0, 1) := by decide +kernel
theorem d_Pa_prefixOperator_55 : decode c_Pa_prefixOperator 55 = .ok (.getfield 26, 3) := by decide +kernel
theorem d_Pa_prefixOperator_58 : decode c_Pa_prefixOperator 58 = .ok (.invokevirtual 223, 3) := by decide +kernel
theorem d_Pa_prefixOperator_61 : decode c_Pa_prefixOperator 61 = .ok (.lookupswitch 74 #[(19, 63), (20, 65), (71, 71), (72, 68), (73, 59), (74, 61)], 59) := by decide +kernel
theorem d_Pa_prefixOperator_120 : decode c_Pa_prefixOperator 120 = .ok (.iconst 3, 1) := by decide +kernel
theorem d_Pa_prefixOperator_121 : decode c_Pa_prefixOperator 121 = .ok (.ireturn, 1) := by decide +kernel
theorem d_Pa_prefixOperator_122 : decode c_Pa_prefixOperator 122 = .ok (.iconst 4, 1) := by decide +kernel
theorem d_Pa_prefixOperator_123 : decode c_Pa_prefixOperator 123 = .ok (.ireturn, 1) := by decide +kernel
theorem d_Pa_prefixOperator_124 : decode c_Pa_prefixOperator 124 = .ok (.iconst 5, 1) := by decide +kernel
theorem d_Pa_prefixOperator_125 : decode c_Pa_prefixOperator 125 = .ok (.ireturn, 1) := by decide +kernel
theorem d_Pa_prefixOperator_126 : decode c_Pa_prefixOperator 126 = .ok (.bipush 6, 2) := by decide +kernel
theorem d_Pa_prefixOperator_128 : decode c_Pa_prefixOperator 128 = .ok (.ireturn, 1) := by decide +kernel
theorem d_Pa_prefixOperator_129 : decode c_Pa_prefixOperator 129 = .ok (.bipush 7, 2) := by decide +kernel
theorem d_Pa_prefixOperator_131 : decode c_Pa_prefixOperator 131 = .ok (.ireturn, 1) := by decide +kernel
theorem d_Pa_prefixOperator_132 : decode c_Pa_prefixOperator 132 = .ok (.bipush 8, 2) := by decide +kernel
theorem d_Pa_prefixOperator_134 : decode c_Pa_prefixOperator 134 = .ok (.ireturn, 1) := by decide +kernel
theorem d_Pa_prefixOperator_135 : decode c_Pa_prefixOperator 135 = .ok (.iconst (-1), 1) := by decide +kernel
theorem d_Pa_prefixOperator_136 : decode c_Pa_prefixOperator 136 = .ok (.ireturn, 1) := by decide +kernel
theorem d_Pa_prefix_0 : decode c_Pa_prefix 0 = .ok (.aload_n 0, 1) := by decide +kernel
theorem d_Pa_prefix_1 : decode c_Pa_prefix 1 = .ok (.getfield 26, 3) := by decide +kernel
theorem d_Pa_prefix_4 : decode c_Pa_prefix 4 = .ok (.istore_n 3, 1) := by decide +kernel
theorem d_Pa_prefix_5 : decode c_Pa_prefix 5 = .ok (.aload_n 0, 1) := by decide +kernel
theorem d_Pa_prefix_6 : decode c_Pa_prefix 6 = .ok (.getfield 22, 3) := by decide +kernel
theorem d_Pa_prefix_9 : decode c_Pa_prefix 9 = .ok (.bipush 43, 2) := by decide +kernel
theorem d_Pa_prefix_11 : decode c_Pa_prefix 11 = .ok (.iload_n 1, 1) := by decide +kernel
theorem d_Pa_prefix_12 : decode c_Pa_prefix 12 = .ok (.iload_n 3, 1) := by decide +kernel
theorem d_Pa_prefix_13 : decode c_Pa_prefix 13 = .ok (.invokevirtual 54, 3) := by decide +kernel
theorem d_Pa_prefix_16 : decode c_Pa_prefix 16 = .ok (.istore 4, 2) := by decide +kernel
theorem d_Pa_prefix_18 : decode c_Pa_prefix 18 = .ok (.aload_n 0, 1) := by decide +kernel
theorem d_Pa_prefix_19 : decode c_Pa_prefix 19 = .ok (.dup, 1) := by decide +kernel
theorem d_Pa_prefix_20 : decode c_Pa_prefix 20 = .ok (.getfield 26, 3) := by decide +kernel
theorem d_Pa_prefix_23 : decode c_Pa_prefix 23 = .ok (.iconst 1, 1) := by decide +kernel
theorem d_Pa_prefix_24 : decode c_Pa_prefix 24 = .ok (.iadd, 1) := by decide +kernel
theorem d_Pa_prefix_25 : decode c_Pa_prefix 25 = .ok (.putfield 26, 3) := by decide +kernel
theorem d_Pa_prefix_28 : decode c_Pa_prefix 28 = .ok (.aload_n 0, 1) := by decide +kernel
theorem d_Pa_prefix_29 : decode c_Pa_prefix 29 = .ok (.bipush 11, 2) := by decide +kernel
theorem d_Pa_prefix_31 : decode c_Pa_prefix 31 = .ok (.iload_n 2, 1) := by decide +kernel
theorem d_Pa_prefix_32 : decode c_Pa_prefix 32 = .ok (.iconst 1, 1) := by decide +kernel
theorem d_Pa_prefix_33 : decode c_Pa_prefix 33 = .ok (.iadd, 1) := by decide +kernel
theorem d_Pa_prefix_34 : decode c_Pa_prefix 34 = .ok (.iconst 1, 1) := by decide +kernel
theorem d_Pa_prefix_35 : decode c_Pa_prefix 35 = .ok (.invokevirtual 232, 3) := by decide +kernel
theorem d_Pa_prefix_38 : decode c_Pa_prefix 38 = .ok (.aload_n 0, 1) := by decide +kernel
theorem d_Pa_prefix_39 : decode c_Pa_prefix 39 = .ok (.getfield 22, 3) := by decide +kernel
theorem d_Pa_prefix_42 : decode c_Pa_prefix 42 = .ok (.iload 4, 2) := by decide +kernel
theorem d_Pa_prefix_44 : decode c_Pa_prefix 44 = .ok (.invokevirtual 98, 3) := by decide +kernel
theorem d_Pa_prefix_47 : decode c_Pa_prefix 47 = .ok (.iload_n 1, 1) := by decide +kernel
theorem d_Pa_prefix_48 : decode c_Pa_prefix 48 = .ok (.iconst 3, 1) := by decide +kernel
theorem d_Pa_prefix_49 : decode c_Pa_prefix 49 = .ok (.if_icmp .eq 8, 3) := by decide +kernel
theorem d_Pa_prefix_52 : decode c_Pa_prefix 52 = .ok (.iload_n 1, 1) := by decide +kernel
theorem d_Pa_prefix_53 : decode c_Pa_prefix 53 = .ok (.iconst 4, 1) := by decide +kernel
theorem d_Pa_prefix_54 : decode c_Pa_prefix 54 = .ok (.if_icmp .ne 7, 3) := by decide +kernel
theorem d_Pa_prefix_57 : decode c_Pa_prefix 57 = .ok (.iconst 1, 1) := by decide +kernel
theorem d_Pa_prefix_58 : decode c_Pa_prefix 58 = .ok (.goto 4, 3) := by decide +kernel
theorem d_Pa_prefix_61 : decode c_Pa_prefix 61 = .ok (.iconst 0, 1) := by decide +kernel
theorem d_Pa_prefix_62 : decode c_Pa_prefix 62 = .ok (.istore 5, 2) := by decide +kernel
theorem d_Pa_prefix_64 : decode c_Pa_prefix 64 = .ok (.iload_n 1, 1) := by decide +kernel
theorem d_Pa_prefix_65 : decode c_Pa_prefix 65 = .ok (.ifCond .ne 17, 3) := by decide +kernel
theorem d_Pa_prefix_68 : decode c_Pa_prefix 68 = .ok (.aload_n 0, 1) := by decide +kernel
theorem d_Pa_prefix_69 : decode c_Pa_prefix 69 = .ok (.getfield 37, 3) := by decide +kernel
theorem d_Pa_prefix_72 : decode c_Pa_prefix 72 = .ok (.getfield 91, 3) := by decide +kernel
theorem d_Pa_prefix_75 : decode c_Pa_prefix 75 = .ok (.ifCond .eq 7, 3) := by decide +kernel
theorem d_Pa_prefix_78 : decode c_Pa_prefix 78 = .ok (.iconst 1, 1) := by decide +kernel
theorem d_Pa_prefix_79 : decode c_Pa_prefix 79 = .ok (.goto 4, 3) := by decide +kernel
theorem d_Pa_prefix_82 : decode c_Pa_prefix 82 = .ok (.iconst 0, 1) := by decide +kernel
theorem d_Pa_prefix_83 : decode c_Pa_prefix 83 = .ok (.istore 6, 2) := by decide +kernel
theorem d_Pa_prefix_85 : decode c_Pa_prefix 85 = .ok (.iload 5, 2) := by decide +kernel
theorem d_Pa_prefix_87 : decode c_Pa_prefix 87 = .ok (.ifCond .eq 14, 3) := by decide +kernel
theorem d_Pa_prefix_90 : decode c_Pa_prefix 90 = .ok (.aload_n 0, 1) := by decide +kernel
theorem d_Pa_prefix_91 : decode c_Pa_prefix 91 = .ok (.iload 4, 2) := by decide +kernel
theorem d_Pa_prefix_93 : decode c_Pa_prefix 93 = .ok (.iconst 1, 1) := by decide +kernel
theorem d_Pa_prefix_94 : decode c_Pa_prefix 94 = .ok (.iadd, 1) := by decide +kernel
theorem d_Pa_prefix_95 : decode c_Pa_prefix 95 = .ok (.invokevirtual 267, 3) := by decide +kernel
theorem d_Pa_prefix_98 : decode c_Pa_prefix 98 = .ok (.ifCond .eq 24, 3) := by decide +kernel
theorem d_Pa_prefix_101 : decode c_Pa_prefix 101 = .ok (.iload 6, 2) := by decide +kernel
theorem d_Pa_prefix_103 : decode c_Pa_prefix 103 = .ok (.ifCond .eq 24, 3) := by decide +kernel
theorem d_Pa_prefix_106 : decode c_Pa_prefix 106 = .ok (.aload_n 0, 1) := by decide +kernel
theorem d_Pa_prefix_107 : decode c_Pa_prefix 107 = .ok (.getfield 22, 3) := by decide +kernel
theorem d_Pa_prefix_110 : decode c_Pa_prefix 110 = .ok (.iload 4, 2) := by decide +kernel
theorem d_Pa_prefix_112 : decode c_Pa_prefix 112 = .ok (.iconst 1, 1) := by decide +kernel
theorem d_Pa_prefix_113 : decode c_Pa_prefix 113 = .ok (.iadd, 1) := by decide +kernel
theorem d_Pa_prefix_114 : decode c_Pa_prefix 114 = .ok (.invokevirtual 143, 3) := by decide +kernel
theorem d_Pa_prefix_117 : decode c_Pa_prefix 117 = .ok (.bipush 28, 2) := by decide +kernel
theorem d_Pa_prefix_119 : decode c_Pa_prefix 119 = .ok (.if_icmp .ne 8, 3) := by decide +kernel
theorem d_Pa_prefix_122 : decode c_Pa_prefix 122 = .ok (.aload_n 0, 1) := by decide +kernel
theorem d_Pa_prefix_123 : decode c_Pa_prefix 123 = .ok (.iload_n 3, 1) := by decide +kernel
theorem d_Pa_prefix_124 : decode c_Pa_prefix 124 = .ok (.invokevirtual 140, 3) := by decide +kernel
theorem d_Pa_prefix_127 : decode c_Pa_prefix 127 = .ok (.return_, 1) := by decide +kernel
theorem d_Pa_group_0 : decode c_Pa_group 0 = .ok (.aload_n 0, 1) := by decide +kernel
theorem d_Pa_group_1 : decode c_Pa_group 1 = .ok (.dup, 1) := by decide +kernel
theorem d_Pa_group_2 : decode c_Pa_group 2 = .ok (.getfield 26, 3) := by decide +kernel
theorem d_Pa_group_5 : decode c_Pa_group 5 = .ok (.iconst 1, 1) := by decide +kernel
theorem d_Pa_group_6 : decode c_Pa_group 6 = .ok (.iadd, 1) := by decide +kernel
theorem d_Pa_group_7 : decode c_Pa_group 7 = .ok (.putfield 26, 3) := by decide +kernel
theorem d_Pa_group_10 : decode c_Pa_group 10 = .ok (.aload_n 0, 1) := by decide +kernel
theorem d_Pa_group_11 : decode c_Pa_group 11 = .ok (.iconst (-1), 1) := by decide +kernel
theorem d_Pa_group_12 : decode c_Pa_group 12 = .ok (.iload_n 1, 1) := by decide +kernel
theorem d_Pa_group_13 : decode c_Pa_group 13 = .ok (.iconst 1, 1) := by decide +kernel
theorem d_Pa_group_14 : decode c_Pa_group 14 = .ok (.iadd, 1) := by decide +kernel
theorem d_Pa_group_15 : decode c_Pa_group 15 = .ok (.iconst 1, 1) := by decide +kernel
theorem d_Pa_group_16 : decode c_Pa_group 16 = .ok (.invokevirtual 232, 3) := by decide +kernel
theorem d_Pa_group_19 : decode c_Pa_group 19 = .ok (.aload_n 0, 1) := by decide +kernel
theorem d_Pa_group_20 : decode c_Pa_group 20 = .ok (.bipush 61, 2) := by decide +kernel
theorem d_Pa_group_22 : decode c_Pa_group 22 = .ok (.invokevirtual 114, 3) := by decide +kernel
theorem d_Pa_group_25 : decode c_Pa_group 25 = .ok (.return_, 1) := by decide +kernel
theorem d_Pa_array_0 : decode c_Pa_array 0 = .ok (.aload_n 0, 1) := by decide +kernel
theorem d_Pa_array_1 : decode c_Pa_array 1 = .ok (.getfield 22, 3) := by decide +kernel
theorem d_Pa_array_4 : decode c_Pa_array 4 = .ok (.bipush 35, 2) := by decide +kernel
theorem d_Pa_array_6 : decode c_Pa_array 6 = .ok (.iconst 0, 1) := by decide +kernel
theorem d_Pa_array_7 : decode c_Pa_array 7 = .ok (.aload_n 0, 1) := by decide +kernel
theorem d_Pa_array_8 : decode c_Pa_array 8 = .ok (.getfield 26, 3) := by decide +kernel
theorem d_Pa_array_11 : decode c_Pa_array 11 = .ok (.invokevirtual 54, 3) := by decide +kernel
theorem d_Pa_array_14 : decode c_Pa_array 14 = .ok (.istore_n 2, 1) := by decide +kernel
theorem d_Pa_array_15 : decode c_Pa_array 15 = .ok (.aload_n 0, 1) := by decide +kernel
theorem d_Pa_array_16 : decode c_Pa_array 16 = .ok (.dup, 1) := by decide +kernel
theorem d_Pa_array_17 : decode c_Pa_array 17 = .ok (.getfield 26, 3) := by decide +kernel
theorem d_Pa_array_20 : decode c_Pa_array 20 = .ok (.iconst 1, 1) := by decide +kernel
theorem d_Pa_array_21 : decode c_Pa_array 21 = .ok (.iadd, 1) := by decide +kernel
theorem d_Pa_array_22 : decode c_Pa_array 22 = .ok (.putfield 26, 3) := by decide +kernel
theorem d_Pa_array_25 : decode c_Pa_array 25 = .ok (.iconst 0, 1) := by decide +kernel
theorem d_Pa_array_26 : decode c_Pa_array 26 = .ok (.istore_n 3, 1) := by decide +kernel
theorem d_Pa_array_27 : decode c_Pa_array 27 = .ok (.iload_n 3, 1) := by decide +kernel
theorem d_Pa_array_28 : decode c_Pa_array 28 = .ok (.sipush 1000, 3) := by decide +kernel
theorem d_Pa_array_31 : decode c_Pa_array 31 = .ok (.if_icmp .gt 69, 3) := by decide +kernel
theorem d_Pa_array_34 : decode c_Pa_array 34 = .ok (.aload_n 0, 1) := by decide +kernel
theorem d_Pa_array_35 : decode c_Pa_array 35 = .ok (.bipush 63, 2) := by decide +kernel
theorem d_Pa_array_37 : decode c_Pa_array 37 = .ok (.invokevirtual 117, 3) := by decide +kernel
theorem d_Pa_array_40 : decode c_Pa_array 40 = .ok (.ifCond .ne 60, 3) := by decide +kernel
theorem d_Pa_array_43 : decode c_Pa_array 43 = .ok (.aload_n 0, 1) := by decide +kernel
theorem d_Pa_array_44 : decode c_Pa_array 44 = .ok (.bipush 68, 2) := by decide +kernel
theorem d_Pa_array_46 : decode c_Pa_array 46 = .ok (.invokevirtual 126, 3) := by decide +kernel
theorem d_Pa_array_49 : decode c_Pa_array 49 = .ok (.ifCond .eq 21, 3) := by decide +kernel
theorem d_Pa_array_52 : decode c_Pa_array 52 = .ok (.aload_n 0, 1) := by decide +kernel
theorem d_Pa_array_53 : decode c_Pa_array 53 = .ok (.getfield 22, 3) := by decide +kernel
theorem d_Pa_array_56 : decode c_Pa_array 56 = .ok (.bipush 59, 2) := by decide +kernel
theorem d_Pa_array_58 : decode c_Pa_array 58 = .ok (.iconst 0, 1) := by decide +kernel
theorem d_Pa_array_59 : decode c_Pa_array 59 = .ok (.aload_n 0, 1) := by decide +kernel
theorem d_Pa_array_60 : decode c_Pa_array 60 = .ok (.getfield 26, 3) := by decide +kernel
theorem d_Pa_array_63 : decode c_Pa_array 63 = .ok (.invokevirtual 54, 3) := by decide +kernel
theorem d_Pa_array_66 : decode c_Pa_array 66 = .ok (.pop, 1) := by decide +kernel
theorem d_Pa_array_67 : decode c_Pa_array 67 = .ok (.goto 12, 3) := by decide +kernel
theorem d_Pa_array_70 : decode c_Pa_array 70 = .ok (.aload_n 0, 1) := by decide +kernel
theorem d_Pa_array_71 : decode c_Pa_array 71 = .ok (.iconst 0, 1) := by decide +kernel
theorem d_Pa_array_72 : decode c_Pa_array 72 = .ok (.iload_n 1, 1) := by decide +kernel
theorem d_Pa_array_73 : decode c_Pa_array 73 = .ok (.iconst 1, 1) := by decide +kernel
theorem d_Pa_array_74 : decode c_Pa_array 74 = .ok (.iadd, 1) := by decide +kernel
theorem d_Pa_array_75 : decode c_Pa_array 75 = .ok (.iconst 1, 1) := by decide +kernel
theorem d_Pa_array_76 : decode c_Pa_array 76 = .ok (.invokevirtual 232, 3) := by decide +kernel
theorem d_Pa_array_79 : decode c_Pa_array 79 = .ok (.aload_n 0, 1) := by decide +kernel
theorem d_Pa_array_80 : decode c_Pa_array 80 = .ok (.bipush 63, 2) := by decide +kernel
theorem d_Pa_array_82 : decode c_Pa_array 82 = .ok (.invokevirtual 126, 3) := by decide +kernel
theorem d_Pa_array_85 : decode c_Pa_array 85 = .ok (.ifCond .ne 9, 3) := by decide +kernel
theorem d_Pa_array_88 : decode c_Pa_array 88 = .ok (.aload_n 0, 1) := by decide +kernel
theorem d_Pa_array_89 : decode c_Pa_array 89 = .ok (.bipush 68, 2) := by decide +kernel
theorem d_Pa_array_91 : decode c_Pa_array 91 = .ok (.invokevirtual 114, 3) := by decide +kernel
theorem d_Pa_array_94 : decode c_Pa_array 94 = .ok (.iinc 3 1, 3) := by decide +kernel
theorem d_Pa_array_97 : decode c_Pa_array 97 = .ok (.goto (-70), 3) := by decide +kernel
theorem d_Pa_array_100 : decode c_Pa_array 100 = .ok (.aload_n 0, 1) := by decide +kernel
theorem d_Pa_array_101 : decode c_Pa_array 101 = .ok (.getfield 22, 3) := by decide +kernel
theorem d_Pa_array_104 : decode c_Pa_array 104 = .ok (.iload_n 2, 1) := by decide +kernel
theorem d_Pa_array_105 : decode c_Pa_array 105 = .ok (.invokevirtual 98, 3) := by decide +kernel
theorem d_Pa_array_108 : decode c_Pa_array 108 = .ok (.return_, 1) := by decide +kernel
theorem d_Pa_object_0 : decode c_Pa_object 0 = .ok (.aload_n 0, 1) := by decide +kernel
theorem d_Pa_object_1 : decode c_Pa_object 1 = .ok (.getfield 22, 3) := by decide +kernel
theorem d_Pa_object_4 : decode c_Pa_object 4 = .ok (.bipush 46, 2) := by decide +kernel
theorem d_Pa_object_6 : decode c_Pa_object 6 = .ok (.iconst 0, 1) := by decide +kernel
theorem d_Pa_object_7 : decode c_Pa_object 7 = .ok (.aload_n 0, 1) := by decide +kernel
theorem d_Pa_object_8 : decode c_Pa_object 8 = .ok (.getfield 26, 3) := by decide +kernel
theorem d_Pa_object_11 : decode c_Pa_object 11 = .ok (.invokevirtual 54, 3) := by decide +kernel
theorem d_Pa_object_14 : decode c_Pa_object 14 = .ok (.istore_n 2, 1) := by decide +kernel
theorem d_Pa_object_15 : decode c_Pa_object 15 = .ok (.aload_n 0, 1) := by decide +kernel
theorem d_Pa_object_16 : decode c_Pa_object 16 = .ok (.dup, 1) := by decide +kernel
theorem d_Pa_object_17 : decode c_Pa_object 17 = .ok (.getfield 26, 3) := by decide +kernel
theorem d_Pa_object_20 : decode c_Pa_object 20 = .ok (.iconst 1, 1) := by decide +kernel
theorem d_Pa_object_21 : decode c_Pa_object 21 = .ok (.iadd, 1) := by decide +kernel
theorem d_Pa_object_22 : decode c_Pa_object 22 = .ok (.putfield 26, 3) := by decide +kernel
theorem d_Pa_object_25 : decode c_Pa_object 25 = .ok (.iconst 0, 1) := by decide +kernel
theorem d_Pa_object_26 : decode c_Pa_object 26 = .ok (.istore_n 3, 1) := by decide +kernel
theorem d_Pa_object_27 : decode c_Pa_object 27 = .ok (.iload_n 3, 1) := by decide +kernel
theorem d_Pa_object_28 : decode c_Pa_object 28 = .ok (.sipush 1000, 3) := by decide +kernel
theorem d_Pa_object_31 : decode c_Pa_object 31 = .ok (.if_icmp .gt 70, 3) := by decide +kernel
theorem d_Pa_object_34 : decode c_Pa_object 34 = .ok (.aload_n 0, 1) := by decide +kernel
theorem d_Pa_object_35 : decode c_Pa_object 35 = .ok (.iload_n 3, 1) := by decide +kernel
theorem d_Pa_object_36 : decode c_Pa_object 36 = .ok (.invokevirtual 333, 3) := by decide +kernel
theorem d_Pa_object_39 : decode c_Pa_object 39 = .ok (.ifCond .eq 62, 3) := by decide +kernel
theorem d_Pa_object_42 : decode c_Pa_object 42 = .ok (.aload_n 0, 1) := by decide +kernel
theorem d_Pa_object_43 : decode c_Pa_object 43 = .ok (.iload_n 2, 1) := by decide +kernel
theorem d_Pa_object_44 : decode c_Pa_object 44 = .ok (.invokevirtual 336, 3) := by decide +kernel
theorem d_Pa_object_47 : decode c_Pa_object 47 = .ok (.istore 4, 2) := by decide +kernel
theorem d_Pa_object_49 : decode c_Pa_object 49 = .ok (.aload_n 0, 1) := by decide +kernel
theorem d_Pa_object_50 : decode c_Pa_object 50 = .ok (.getfield 22, 3) := by decide +kernel
theorem d_Pa_object_53 : decode c_Pa_object 53 = .ok (.iload 4, 2) := by decide +kernel
theorem d_Pa_object_55 : decode c_Pa_object 55 = .ok (.invokevirtual 143, 3) := by decide +kernel
theorem d_Pa_object_58 : decode c_Pa_object 58 = .ok (.istore 5, 2) := by decide +kernel
theorem d_Pa_object_60 : decode c_Pa_object 60 = .ok (.iload 5, 2) := by decide +kernel
theorem d_Pa_object_62 : decode c_Pa_object 62 = .ok (.bipush 47, 2) := by decide +kernel
theorem d_Pa_object_64 : decode c_Pa_object 64 = .ok (.if_icmp .ne 15, 3) := by decide +kernel
theorem d_Pa_object_67 : decode c_Pa_object 67 = .ok (.aload_n 0, 1) := by decide +kernel
theorem d_Pa_object_68 : decode c_Pa_object 68 = .ok (.iconst 0, 1) := by decide +kernel
theorem d_Pa_object_69 : decode c_Pa_object 69 = .ok (.iload_n 1, 1) := by decide +kernel
theorem d_Pa_object_70 : decode c_Pa_object 70 = .ok (.iconst 1, 1) := by decide +kernel
theorem d_Pa_object_71 : decode c_Pa_object 71 = .ok (.iadd, 1) := by decide +kernel
theorem d_Pa_object_72 : decode c_Pa_object 72 = .ok (.iconst 1, 1) := by decide +kernel
theorem d_Pa_object_73 : decode c_Pa_object 73 = .ok (.invokevirtual 232, 3) := by decide +kernel
theorem d_Pa_object_76 : decode c_Pa_object 76 = .ok (.goto 10, 3) := by decide +kernel
theorem d_Pa_object_79 : decode c_Pa_object 79 = .ok (.aload_n 0, 1) := by decide +kernel
theorem d_Pa_object_80 : decode c_Pa_object 80 = .ok (.iload 5, 2) := by decide +kernel
theorem d_Pa_object_82 : decode c_Pa_object 82 = .ok (.iload_n 1, 1) := by decide +kernel
theorem d_Pa_object_83 : decode c_Pa_object 83 = .ok (.invokevirtual 70, 3) := by decide +kernel
theorem d_Pa_object_86 : decode c_Pa_object 86 = .ok (.aload_n 0, 1) := by decide +kernel
theorem d_Pa_object_87 : decode c_Pa_object 87 = .ok (.getfield 22, 3) := by decide +kernel
theorem d_Pa_object_90 : decode c_Pa_object 90 = .ok (.iload 4, 2) := by decide +kernel
theorem d_Pa_object_92 : decode c_Pa_object 92 = .ok (.invokevirtual 98, 3) := by decide +kernel
theorem d_Pa_object_95 : decode c_Pa_object 95 = .ok (.iinc 3 1, 3) := by decide +kernel
theorem d_Pa_object_98 : decode c_Pa_object 98 = .ok (.goto (-71), 3) := by decide +kernel
theorem d_Pa_object_101 : decode c_Pa_object 101 = .ok (.aload_n 0, 1) := by decide +kernel
theorem d_Pa_object_102 : decode c_Pa_object 102 = .ok (.getfield 22, 3) := by decide +kernel
theorem d_Pa_object_105 : decode c_Pa_object 105 = .ok (.iload_n 2, 1) := by decide +kernel
theorem d_Pa_object_106 : decode c_Pa_object 106 = .ok (.invokevirtual 98, 3) := by decide +kernel
theorem d_Pa_object_109 : decode c_Pa_object 109 = .ok (.return_, 1) := by decide +kernel
theorem d_Pa_openProperty_0 : decode c_Pa_openProperty 0 = .ok (.aload_n 0, 1) := by decide +kernel
theorem d_Pa_openProperty_1 : decode c_Pa_openProperty 1 = .ok (.getfield 26, 3) := by decide +kernel
theorem d_Pa_openProperty_4 : decode c_Pa_openProperty 4 = .ok (.istore_n 2, 1) := by decide +kernel
theorem d_Pa_openProperty_5 : decode c_Pa_openProperty 5 = .ok (.aload_n 0, 1) := by decide +kernel
theorem d_Pa_openProperty_6 : decode c_Pa_openProperty 6 = .ok (.invokevirtual 339, 3) := by decide +kernel
theorem d_Pa_openProperty_9 : decode c_Pa_openProperty 9 = .ok (.istore_n 3, 1) := by decide +kernel
theorem d_Pa_openProperty_10 : decode c_Pa_openProperty 10 = .ok (.iload_n 3, 1) := by decide +kernel
theorem d_Pa_openProperty_11 : decode c_Pa_openProperty 11 = .ok (.bipush 47, 2) := by decide +kernel
theorem d_Pa_openProperty_13 : decode c_Pa_openProperty 13 = .ok (.if_icmp .eq 13, 3) := by decide +kernel
theorem d_Pa_openProperty_16 : decode c_Pa_openProperty 16 = .ok (.aload_n 0, 1) := by decide +kernel
theorem d_Pa_openProperty_17 : decode c_Pa_openProperty 17 = .ok (.dup, 1) := by decide +kernel
theorem d_Pa_openProperty_18 : decode c_Pa_openProperty 18 = .ok (.getfield 26, 3) := by decide +kernel
theorem d_Pa_openProperty_21 : decode c_Pa_openProperty 21 = .ok (.iconst 1, 1) := by decide +kernel
theorem d_Pa_openProperty_22 : decode c_Pa_openProperty 22 = .ok (.iadd, 1) := by decide +kernel
theorem d_Pa_openProperty_23 : decode c_Pa_openProperty 23 = .ok (.putfield 26, 3) := by decide +kernel
theorem d_Pa_openProperty_26 : decode c_Pa_openProperty 26 = .ok (.aload_n 0, 1) := by decide +kernel
theorem d_Pa_openProperty_27 : decode c_Pa_openProperty 27 = .ok (.getfield 26, 3) := by decide +kernel
theorem d_Pa_openProperty_30 : decode c_Pa_openProperty 30 = .ok (.istore 4, 2) := by decide +kernel
theorem d_Pa_openProperty_32 : decode c_Pa_openProperty 32 = .ok (.aload_n 0, 1) := by decide +kernel
theorem d_Pa_openProperty_33 : decode c_Pa_openProperty 33 = .ok (.getfield 84, 3) := by decide +kernel
theorem d_Pa_openProperty_36 : decode c_Pa_openProperty 36 = .ok (.iload 4, 2) := by decide +kernel
theorem d_Pa_openProperty_38 : decode c_Pa_openProperty 38 = .ok (.invokevirtual 342, 3) := by decide +kernel
theorem d_Pa_openProperty_41 : decode c_Pa_openProperty 41 = .ok (.ifCond .ne 9, 3) := by decide +kernel
theorem d_Pa_openProperty_44 : decode c_Pa_openProperty 44 = .ok (.aload_n 0, 1) := by decide +kernel
theorem d_Pa_openProperty_45 : decode c_Pa_openProperty 45 = .ok (.iload 4, 2) := by decide +kernel
theorem d_Pa_openProperty_47 : decode c_Pa_openProperty 47 = .ok (.invokevirtual 140, 3) := by decide +kernel
theorem d_Pa_openProperty_50 : decode c_Pa_openProperty 50 = .ok (.aload_n 0, 1) := by decide +kernel
theorem d_Pa_openProperty_51 : decode c_Pa_openProperty 51 = .ok (.dup, 1) := by decide +kernel
theorem d_Pa_openProperty_52 : decode c_Pa_openProperty 52 = .ok (.getfield 26, 3) := by decide +kernel
theorem d_Pa_openProperty_55 : decode c_Pa_openProperty 55 = .ok (.iconst 1, 1) := by decide +kernel
theorem d_Pa_openProperty_56 : decode c_Pa_openProperty 56 = .ok (.iadd, 1) := by decide +kernel
theorem d_Pa_openProperty_57 : decode c_Pa_openProperty 57 = .ok (.putfield 26, 3) := by decide +kernel
theorem d_Pa_openProperty_60 : decode c_Pa_openProperty 60 = .ok (.iload_n 3, 1) := by decide +kernel
theorem d_Pa_openProperty_61 : decode c_Pa_openProperty 61 = .ok (.bipush 47, 2) := by decide +kernel
theorem d_Pa_openProperty_63 : decode c_Pa_openProperty 63 = .ok (.if_icmp .ne 9, 3) := by decide +kernel
theorem d_Pa_openProperty_66 : decode c_Pa_openProperty 66 = .ok (.aload_n 0, 1) := by decide +kernel
theorem d_Pa_openProperty_67 : decode c_Pa_openProperty 67 = .ok (.bipush 70, 2) := by decide +kernel
theorem d_Pa_openProperty_69 : decode c_Pa_openProperty 69 = .ok (.invokevirtual 114, 3) := by decide +kernel
theorem d_Pa_openProperty_72 : decode c_Pa_openProperty 72 = .ok (.aload_n 0, 1) := by decide +kernel
theorem d_Pa_openProperty_73 : decode c_Pa_openProperty 73 = .ok (.getfield 84, 3) := by decide +kernel
theorem d_Pa_openProperty_76 : decode c_Pa_openProperty 76 = .ok (.iload 4, 2) := by decide +kernel
theorem d_Pa_openProperty_78 : decode c_Pa_openProperty 78 = .ok (.invokevirtual 159, 3) := by decide +kernel
theorem d_Pa_openProperty_81 : decode c_Pa_openProperty 81 = .ok (.istore 5, 2) := by decide +kernel
theorem d_Pa_openProperty_83 : decode c_Pa_openProperty 83 = .ok (.aload_n 0, 1) := by decide +kernel
theorem d_Pa_openProperty_84 : decode c_Pa_openProperty 84 = .ok (.iload_n 1, 1) := by decide +kernel
theorem d_Pa_openProperty_85 : decode c_Pa_openProperty 85 = .ok (.iload_n 3, 1) := by decide +kernel
theorem d_Pa_openProperty_86 : decode c_Pa_openProperty 86 = .ok (.iload 5, 2) := by decide +kernel
theorem d_Pa_openProperty_88 : decode c_Pa_openProperty 88 = .ok (.invokevirtual 345, 3) := by decide +kernel
theorem d_Pa_openProperty_91 : decode c_Pa_openProperty 91 = .ok (.ifCond .eq 9, 3) := by decide +kernel
theorem d_Pa_openProperty_94 : decode c_Pa_openProperty 94 = .ok (.aload_n 0, 1) := by decide +kernel
theorem d_Pa_openProperty_95 : decode c_Pa_openProperty 95 = .ok (.iload 4, 2) := by decide +kernel
theorem d_Pa_openProperty_97 : decode c_Pa_openProperty 97 = .ok (.invokevirtual 140, 3) := by decide +kernel
theorem d_Pa_openProperty_100 : decode c_Pa_openProperty 100 = .ok (.aload_n 0, 1) := by decide +kernel
theorem d_Pa_openProperty_101 : decode c_Pa_openProperty 101 = .ok (.getfield 22, 3) := by decide +kernel
theorem d_Pa_openProperty_104 : decode c_Pa_openProperty 104 = .ok (.iload_n 3, 1) := by decide +kernel
theorem d_Pa_openProperty_105 : decode c_Pa_openProperty 105 = .ok (.iload 5, 2) := by decide +kernel
theorem d_Pa_openProperty_107 : decode c_Pa_openProperty 107 = .ok (.iload_n 2, 1) := by decide +kernel
theorem d_Pa_openProperty_108 : decode c_Pa_openProperty 108 = .ok (.invokevirtual 54, 3) := by decide +kernel
theorem d_Pa_openProperty_111 : decode c_Pa_openProperty 111 = .ok (.ireturn, 1) := by decide +kernel
theorem d_Pa_propertyKind_0 : decode c_Pa_propertyKind 0 = .ok (.aload_n 0, 1) := by decide +kernel
theorem d_Pa_propertyKind_1 : decode c_Pa_propertyKind 1 = .ok (.getfield 84, 3) := by decide +kernel
theorem d_Pa_propertyKind_4 : decode c_Pa_propertyKind 4 = .ok (.aload_n 0, 1) := by decide +kernel
theorem d_Pa_propertyKind_5 : decode c_Pa_propertyKind 5 = .ok (.getfield 26, 3) := by decide +kernel
theorem d_Pa_propertyKind_8 : decode c_Pa_propertyKind 8 = .ok (.invokevirtual 348, 3) := by decide +kernel
theorem d_Pa_propertyKind_11 : decode c_Pa_propertyKind 11 = .ok (.iconst 1, 1) := by decide +kernel
theorem d_Pa_propertyKind_12 : decode c_Pa_propertyKind 12 = .ok (.if_icmp .ne 23, 3) := by decide +kernel
theorem d_Pa_propertyKind_15 : decode c_Pa_propertyKind 15 = .ok (.aload_n 0, 1) := by decide +kernel
theorem d_Pa_propertyKind_16 : decode c_Pa_propertyKind 16 = .ok (.getfield 84, 3) := by decide +kernel
theorem d_Pa_propertyKind_19 : decode c_Pa_propertyKind 19 = .ok (.aload_n 0, 1) := by decide +kernel
theorem d_Pa_propertyKind_20 : decode c_Pa_propertyKind 20 = .ok (.getfield 26, 3) := by decide +kernel
theorem d_Pa_propertyKind_23 : decode c_Pa_propertyKind 23 = .ok (.iconst 1, 1) := by decide +kernel
theorem d_Pa_propertyKind_24 : decode c_Pa_propertyKind 24 = .ok (.iadd, 1) := by decide +kernel
theorem d_Pa_propertyKind_25 : decode c_Pa_propertyKind 25 = .ok (.invokevirtual 342, 3) := by decide +kernel
theorem d_Pa_propertyKind_28 : decode c_Pa_propertyKind 28 = .ok (.ifCond .eq 7, 3) := by decide +kernel
theorem d_Pa_propertyKind_31 : decode c_Pa_propertyKind 31 = .ok (.iconst 1, 1) := by decide +kernel
theorem d_Pa_propertyKind_32 : decode c_Pa_propertyKind 32 = .ok (.goto 4, 3) := by decide +kernel
theorem d_Pa_propertyKind_35 : decode c_Pa_propertyKind 35 = .ok (.iconst 0, 1) := by decide +kernel
theorem d_Pa_propertyKind_36 : decode c_Pa_propertyKind 36 = .ok (.istore_n 1, 1) := by decide +kernel
theorem d_Pa_propertyKind_37 : decode c_Pa_propertyKind 37 = .ok (.iload_n 1, 1) := by decide +kernel
theorem d_Pa_propertyKind_38 : decode c_Pa_propertyKind 38 = .ok (.ifCond .eq 21, 3) := by decide +kernel
theorem d_Pa_propertyKind_41 : decode c_Pa_propertyKind 41 = .ok (.aload_n 0, 1) := by decide +kernel
theorem d_Pa_propertyKind_42 : decode c_Pa_propertyKind 42 = .ok (.getfield 84, 3) := by decide +kernel
theorem d_Pa_propertyKind_45 : decode c_Pa_propertyKind 45 = .ok (.aload_n 0, 1) := by decide +kernel
theorem d_Pa_propertyKind_46 : decode c_Pa_propertyKind 46 = .ok (.getfield 26, 3) := by decide +kernel
theorem d_Pa_propertyKind_49 : decode c_Pa_propertyKind 49 = .ok (.invokevirtual 159, 3) := by decide +kernel
theorem d_Pa_propertyKind_52 : decode c_Pa_propertyKind 52 = .ok (.iconst 2, 1) := by decide +kernel
theorem d_Pa_propertyKind_53 : decode c_Pa_propertyKind 53 = .ok (.if_icmp .ne 6, 3) := by decide +kernel
theorem d_Pa_propertyKind_56 : decode c_Pa_propertyKind 56 = .ok (.bipush 48, 2) := by decide +kernel
theorem d_Pa_propertyKind_58 : decode c_Pa_propertyKind 58 = .ok (.ireturn, 1) := by decide +kernel
theorem d_Pa_propertyKind_59 : decode c_Pa_propertyKind 59 = .ok (.iload_n 1, 1) := by decide +kernel
theorem d_Pa_propertyKind_60 : decode c_Pa_propertyKind 60 = .ok (.ifCond .eq 21, 3) := by decide +kernel
theorem d_Pa_propertyKind_63 : decode c_Pa_propertyKind 63 = .ok (.aload_n 0, 1) := by decide +kernel
theorem d_Pa_propertyKind_64 : decode c_Pa_propertyKind 64 = .ok (.getfield 84, 3) := by decide +kernel
theorem d_Pa_propertyKind_67 : decode c_Pa_propertyKind 67 = .ok (.aload_n 0, 1) := by decide +kernel
theorem d_Pa_propertyKind_68 : decode c_Pa_propertyKind 68 = .ok (.getfield 26, 3) := by decide +kernel
theorem d_Pa_propertyKind_71 : decode c_Pa_propertyKind 71 = .ok (.invokevirtual 159, 3) := by decide +kernel
theorem d_Pa_propertyKind_74 : decode c_Pa_propertyKind 74 = .ok (.iconst 3, 1) := by decide +kernel
theorem d_Pa_propertyKind_75 : decode c_Pa_propertyKind 75 = .ok (.if_icmp .ne 6, 3) := by decide +kernel
theorem d_Pa_propertyKind_78 : decode c_Pa_propertyKind 78 = .ok (.bipush 49, 2) := by decide +kernel
theorem d_Pa_propertyKind_80 : decode c_Pa_propertyKind 80 = .ok (.ireturn, 1) := by decide +kernel
theorem d_Pa_propertyKind_81 : decode c_Pa_propertyKind 81 = .ok (.bipush 47, 2) := by decide +kernel
theorem d_Pa_propertyKind_83 : decode c_Pa_propertyKind 83 = .ok (.ireturn, 1) := by decide +kernel
theorem d_Pa_clashes_0 : decode c_Pa_clashes 0 = .ok (.aload_n 0, 1) := by decide +kernel
theorem d_Pa_clashes_1 : decode c_Pa_clashes 1 = .ok (.getfield 22, 3) := by decide +kernel
theorem d_Pa_clashes_4 : decode c_Pa_clashes 4 = .ok (.invokevirtual 135, 3) := by decide +kernel
theorem d_Pa_clashes_7 : decode c_Pa_clashes 7 = .ok (.istore 4, 2) := by decide +kernel
theorem d_Pa_clashes_9 : decode c_Pa_clashes 9 = .ok (.iload_n 1, 1) := by decide +kernel
theorem d_Pa_clashes_10 : decode c_Pa_clashes 10 = .ok (.iconst 1, 1) := by decide +kernel
theorem d_Pa_clashes_11 : decode c_Pa_clashes 11 = .ok (.iadd, 1) := by decide +kernel
theorem d_Pa_clashes_12 : decode c_Pa_clashes 12 = .ok (.istore 5, 2) := by decide +kernel
theorem d_Pa_clashes_14 : decode c_Pa_clashes 14 = .ok (.iconst 0, 1) := by decide +kernel
theorem d_Pa_clashes_15 : decode c_Pa_clashes 15 = .ok (.istore 6, 2) := by decide +kernel
theorem d_Pa_clashes_17 : decode c_Pa_clashes 17 = .ok (.iload 6, 2) := by decide +kernel
theorem d_Pa_clashes_19 : decode c_Pa_clashes 19 = .ok (.iload 4, 2) := by decide +kernel
theorem d_Pa_clashes_21 : decode c_Pa_clashes 21 = .ok (.if_icmp .ge 59, 3) := by decide +kernel
theorem d_Pa_clashes_24 : decode c_Pa_clashes 24 = .ok (.iload 5, 2) := by decide +kernel
theorem d_Pa_clashes_26 : decode c_Pa_clashes 26 = .ok (.iload 4, 2) := by decide +kernel
theorem d_Pa_clashes_28 : decode c_Pa_clashes 28 = .ok (.if_icmp .ge 52, 3) := by decide +kernel
theorem d_Pa_clashes_31 : decode c_Pa_clashes 31 = .ok (.aload_n 0, 1) := by decide +kernel
theorem d_Pa_clashes_32 : decode c_Pa_clashes 32 = .ok (.getfield 22, 3) := by decide +kernel
theorem d_Pa_clashes_35 : decode c_Pa_clashes 35 = .ok (.iload 5, 2) := by decide +kernel
theorem d_Pa_clashes_37 : decode c_Pa_clashes 37 = .ok (.invokevirtual 146, 3) := by decide +kernel
theorem d_Pa_clashes_40 : decode c_Pa_clashes 40 = .ok (.iload_n 3, 1) := by decide +kernel
theorem d_Pa_clashes_41 : decode c_Pa_clashes 41 = .ok (.if_icmp .ne 22, 3) := by decide +kernel
theorem d_Pa_clashes_44 : decode c_Pa_clashes 44 = .ok (.aload_n 0, 1) := by decide +kernel
theorem d_Pa_clashes_45 : decode c_Pa_clashes 45 = .ok (.aload_n 0, 1) := by decide +kernel
theorem d_Pa_clashes_46 : decode c_Pa_clashes 46 = .ok (.getfield 22, 3) := by decide +kernel
theorem d_Pa_clashes_49 : decode c_Pa_clashes 49 = .ok (.iload 5, 2) := by decide +kernel
theorem d_Pa_clashes_51 : decode c_Pa_clashes 51 = .ok (.invokevirtual 143, 3) := by decide +kernel
theorem d_Pa_clashes_54 : decode c_Pa_clashes 54 = .ok (.iload_n 2, 1) := by decide +kernel
theorem d_Pa_clashes_55 : decode c_Pa_clashes 55 = .ok (.invokevirtual 349, 3) := by decide +kernel
theorem d_Pa_clashes_58 : decode c_Pa_clashes 58 = .ok (.ifCond .eq 5, 3) := by decide +kernel
theorem d_Pa_clashes_61 : decode c_Pa_clashes 61 = .ok (.iconst 1, 1) := by decide +kernel
theorem d_Pa_clashes_62 : decode c_Pa_clashes 62 = .ok (.ireturn, 1) := by decide +kernel
theorem d_Pa_clashes_63 : decode c_Pa_clashes 63 = .ok (.aload_n 0, 1) := by decide +kernel
theorem d_Pa_clashes_64 : decode c_Pa_clashes 64 = .ok (.getfield 22, 3) := by decide +kernel
theorem d_Pa_clashes_67 : decode c_Pa_clashes 67 = .ok (.iload 5, 2) := by decide +kernel
theorem d_Pa_clashes_69 : decode c_Pa_clashes 69 = .ok (.invokevirtual 353, 3) := by decide +kernel
theorem d_Pa_clashes_72 : decode c_Pa_clashes 72 = .ok (.istore 5, 2) := by decide +kernel
theorem d_Pa_clashes_74 : decode c_Pa_clashes 74 = .ok (.iinc 6 1, 3) := by decide +kernel
theorem d_Pa_clashes_77 : decode c_Pa_clashes 77 = .ok (.goto (-60), 3) := by decide +kernel
theorem d_Pa_clashes_80 : decode c_Pa_clashes 80 = .ok (.iconst 0, 1) := by decide +kernel
theorem d_Pa_clashes_81 : decode c_Pa_clashes 81 = .ok (.ireturn, 1) := by decide +kernel
theorem d_Pa_kindsClash_0 : decode c_Pa_kindsClash 0 = .ok (.iload_n 1, 1) := by decide +kernel
theorem d_Pa_kindsClash_1 : decode c_Pa_kindsClash 1 = .ok (.bipush 47, 2) := by decide +kernel
theorem d_Pa_kindsClash_3 : decode c_Pa_kindsClash 3 = .ok (.if_icmp .ne 17, 3) := by decide +kernel
theorem d_Pa_kindsClash_6 : decode c_Pa_kindsClash 6 = .ok (.iload_n 2, 1) := by decide +kernel
theorem d_Pa_kindsClash_7 : decode c_Pa_kindsClash 7 = .ok (.bipush 47, 2) := by decide +kernel
theorem d_Pa_kindsClash_9 : decode c_Pa_kindsClash 9 = .ok (.if_icmp .ne 11, 3) := by decide +kernel
theorem d_Pa_kindsClash_12 : decode c_Pa_kindsClash 12 = .ok (.aload_n 0, 1) := by decide +kernel
theorem d_Pa_kindsClash_13 : decode c_Pa_kindsClash 13 = .ok (.getfield 37, 3) := by decide +kernel
theorem d_Pa_kindsClash_16 : decode c_Pa_kindsClash 16 = .ok (.getfield 91, 3) := by decide +kernel
theorem d_Pa_kindsClash_19 : decode c_Pa_kindsClash 19 = .ok (.ireturn, 1) := by decide +kernel
theorem d_Pa_kindsClash_20 : decode c_Pa_kindsClash 20 = .ok (.iload_n 1, 1) := by decide +kernel
theorem d_Pa_kindsClash_21 : decode c_Pa_kindsClash 21 = .ok (.iload_n 2, 1) := by decide +kernel
theorem d_Pa_kindsClash_22 : decode c_Pa_kindsClash 22 = .ok (.if_icmp .eq 15, 3) := by decide +kernel
theorem d_Pa_kindsClash_25 : decode c_Pa_kindsClash 25 = .ok (.iload_n 1, 1) := by decide +kernel
theorem d_Pa_kindsClash_26 : decode c_Pa_kindsClash 26 = .ok (.bipush 47, 2) := by decide +kernel
theorem d_Pa_kindsClash_28 : decode c_Pa_kindsClash 28 = .ok (.if_icmp .eq 9, 3) := by decide +kernel
theorem d_Pa_kindsClash_31 : decode c_Pa_kindsClash 31 = .ok (.iload_n 2, 1) := by decide +kernel
theorem d_Pa_kindsClash_32 : decode c_Pa_kindsClash 32 = .ok (.bipush 47, 2) := by decide +kernel
theorem d_Pa_kindsClash_34 : decode c_Pa_kindsClash 34 = .ok (.if_icmp .ne 7, 3) := by decide +kernel
theorem d_Pa_kindsClash_37 : decode c_Pa_kindsClash 37 = .ok (.iconst 1, 1) := by decide +kernel
theorem d_Pa_kindsClash_38 : decode c_Pa_kindsClash 38 = .ok (.goto 4, 3) := by decide +kernel
theorem d_Pa_kindsClash_41 : decode c_Pa_kindsClash 41 = .ok (.iconst 0, 1) := by decide +kernel
theorem d_Pa_kindsClash_42 : decode c_Pa_kindsClash 42 = .ok (.ireturn, 1) := by decide +kernel
theorem d_Pa_construction_0 : decode c_Pa_construction 0 = .ok (.aload_n 0, 1) := by decide +kernel
theorem d_Pa_construction_1 : decode c_Pa_construction 1 = .ok (.getfield 22, 3) := by decide +kernel
theorem d_Pa_construction_4 : decode c_Pa_construction 4 = .ok (.bipush 39, 2) := by decide +kernel
theorem d_Pa_construction_6 : decode c_Pa_construction 6 = .ok (.iconst 0, 1) := by decide +kernel
theorem d_Pa_construction_7 : decode c_Pa_construction 7 = .ok (.aload_n 0, 1) := by decide +kernel
theorem d_Pa_construction_8 : decode c_Pa_construction 8 = .ok (.getfield 26, 3) := by decide +kernel
theorem d_Pa_construction_11 : decode c_Pa_construction 11 = .ok (.invokevirtual 54, 3) := by decide +kernel
theorem d_Pa_construction_14 : decode c_Pa_construction 14 = .ok (.istore_n 2, 1) := by decide +kernel
theorem d_Pa_construction_15 : decode c_Pa_construction 15 = .ok (.aload_n 0, 1) := by decide +kernel
theorem d_Pa_construction_16 : decode c_Pa_construction 16 = .ok (.dup, 1) := by decide +kernel
theorem d_Pa_construction_17 : decode c_Pa_construction 17 = .ok (.getfield 26, 3) := by decide +kernel
theorem d_Pa_construction_20 : decode c_Pa_construction 20 = .ok (.iconst 1, 1) := by decide +kernel
theorem d_Pa_construction_21 : decode c_Pa_construction 21 = .ok (.iadd, 1) := by decide +kernel
theorem d_Pa_construction_22 : decode c_Pa_construction 22 = .ok (.putfield 26, 3) := by decide +kernel
theorem d_Pa_construction_25 : decode c_Pa_construction 25 = .ok (.aload_n 0, 1) := by decide +kernel
theorem d_Pa_construction_26 : decode c_Pa_construction 26 = .ok (.bipush 12, 2) := by decide +kernel
theorem d_Pa_construction_28 : decode c_Pa_construction 28 = .ok (.iload_n 1, 1) := by decide +kernel
theorem d_Pa_construction_29 : decode c_Pa_construction 29 = .ok (.iconst 1, 1) := by decide +kernel
theorem d_Pa_construction_30 : decode c_Pa_construction 30 = .ok (.iadd, 1) := by decide +kernel
theorem d_Pa_construction_31 : decode c_Pa_construction 31 = .ok (.iconst 1, 1) := by decide +kernel
theorem d_Pa_construction_32 : decode c_Pa_construction 32 = .ok (.invokevirtual 232, 3) := by decide +kernel
theorem d_Pa_construction_35 : decode c_Pa_construction 35 = .ok (.aload_n 0, 1) := by decide +kernel
theorem d_Pa_construction_36 : decode c_Pa_construction 36 = .ok (.bipush 60, 2) := by decide +kernel
theorem d_Pa_construction_38 : decode c_Pa_construction 38 = .ok (.invokevirtual 117, 3) := by decide +kernel
theorem d_Pa_construction_41 : decode c_Pa_construction 41 = .ok (.ifCond .eq 35, 3) := by decide +kernel
theorem d_Pa_construction_44 : decode c_Pa_construction 44 = .ok (.iconst 0, 1) := by decide +kernel
theorem d_Pa_construction_45 : decode c_Pa_construction 45 = .ok (.istore_n 3, 1) := by decide +kernel
theorem d_Pa_construction_46 : decode c_Pa_construction 46 = .ok (.iload_n 3, 1) := by decide +kernel
theorem d_Pa_construction_47 : decode c_Pa_construction 47 = .ok (.sipush 1000, 3) := by decide +kernel
theorem d_Pa_construction_50 : decode c_Pa_construction 50 = .ok (.if_icmp .gt 26, 3) := by decide +kernel
theorem d_Pa_construction_53 : decode c_Pa_construction 53 = .ok (.aload_n 0, 1) := by decide +kernel
theorem d_Pa_construction_54 : decode c_Pa_construction 54 = .ok (.iload_n 3, 1) := by decide +kernel
theorem d_Pa_construction_55 : decode c_Pa_construction 55 = .ok (.invokevirtual 132, 3) := by decide +kernel
theorem d_Pa_construction_58 : decode c_Pa_construction 58 = .ok (.ifCond .eq 18, 3) := by decide +kernel
theorem d_Pa_construction_61 : decode c_Pa_construction 61 = .ok (.aload_n 0, 1) := by decide +kernel
theorem d_Pa_construction_62 : decode c_Pa_construction 62 = .ok (.iconst 0, 1) := by decide +kernel
theorem d_Pa_construction_63 : decode c_Pa_construction 63 = .ok (.iload_n 1, 1) := by decide +kernel
theorem d_Pa_construction_64 : decode c_Pa_construction 64 = .ok (.iconst 1, 1) := by decide +kernel
theorem d_Pa_construction_65 : decode c_Pa_construction 65 = .ok (.iadd, 1) := by decide +kernel
theorem d_Pa_construction_66 : decode c_Pa_construction 66 = .ok (.iconst 1, 1) := by decide +kernel
theorem d_Pa_construction_67 : decode c_Pa_construction 67 = .ok (.invokevirtual 232, 3) := by decide +kernel
theorem d_Pa_construction_70 : decode c_Pa_construction 70 = .ok (.iinc 3 1, 3) := by decide +kernel
theorem d_Pa_construction_73 : decode c_Pa_construction 73 = .ok (.goto (-27), 3) := by decide +kernel
theorem d_Pa_construction_76 : decode c_Pa_construction 76 = .ok (.aload_n 0, 1) := by decide +kernel
theorem d_Pa_construction_77 : decode c_Pa_construction 77 = .ok (.getfield 22, 3) := by decide +kernel
theorem d_Pa_construction_80 : decode c_Pa_construction 80 = .ok (.iload_n 2, 1) := by decide +kernel
theorem d_Pa_construction_81 : decode c_Pa_construction 81 = .ok (.invokevirtual 98, 3) := by decide +kernel
theorem d_Pa_construction_84 : decode c_Pa_construction 84 = .ok (.return_, 1) := by decide +kernel
theorem d_Pa_leaf_0 : decode c_Pa_leaf 0 = .ok (.aload_n 0, 1) := by decide +kernel
theorem d_Pa_leaf_1 : decode c_Pa_leaf 1 = .ok (.invokevirtual 356, 3) := by decide +kernel
theorem d_Pa_leaf_4 : decode c_Pa_leaf 4 = .ok (.istore_n 1, 1) := by decide +kernel
theorem d_Pa_leaf_5 : decode c_Pa_leaf 5 = .ok (.iload_n 1, 1) := by decide +kernel
theorem d_Pa_leaf_6 : decode c_Pa_leaf 6 = .ok (.lookupswitch 118 #[(28, 61), (29, 88), (30, 88), (31, 88), (59, 50)], 50) := by decide +kernel
theorem d_Pa_leaf_56 : decode c_Pa_leaf 56 = .ok (.aload_n 0, 1) := by decide +kernel
theorem d_Pa_leaf_57 : decode c_Pa_leaf 57 = .ok (.aload_n 0, 1) := by decide +kernel
theorem d_Pa_leaf_58 : decode c_Pa_leaf 58 = .ok (.getfield 26, 3) := by decide +kernel
theorem d_Pa_leaf_61 : decode c_Pa_leaf 61 = .ok (.invokevirtual 140, 3) := by decide +kernel
theorem d_Pa_leaf_64 : decode c_Pa_leaf 64 = .ok (.goto 74, 3) := by decide +kernel
theorem d_Pa_leaf_67 : decode c_Pa_leaf 67 = .ok (.aload_n 0, 1) := by decide +kernel
theorem d_Pa_leaf_68 : decode c_Pa_leaf 68 = .ok (.getfield 22, 3) := by decide +kernel
theorem d_Pa_leaf_71 : decode c_Pa_leaf 71 = .ok (.iload_n 1, 1) := by decide +kernel
theorem d_Pa_leaf_72 : decode c_Pa_leaf 72 = .ok (.aload_n 0, 1) := by decide +kernel
theorem d_Pa_leaf_73 : decode c_Pa_leaf 73 = .ok (.getfield 84, 3) := by decide +kernel
theorem d_Pa_leaf_76 : decode c_Pa_leaf 76 = .ok (.aload_n 0, 1) := by decide +kernel
theorem d_Pa_leaf_77 : decode c_Pa_leaf 77 = .ok (.getfield 26, 3) := by decide +kernel
theorem d_Pa_leaf_80 : decode c_Pa_leaf 80 = .ok (.invokevirtual 159, 3) := by decide +kernel
theorem d_Pa_leaf_83 : decode c_Pa_leaf 83 = .ok (.aload_n 0, 1) := by decide +kernel
theorem d_Pa_leaf_84 : decode c_Pa_leaf 84 = .ok (.getfield 26, 3) := by decide +kernel
theorem d_Pa_leaf_87 : decode c_Pa_leaf 87 = .ok (.invokevirtual 54, 3) := by decide +kernel
theorem d_Pa_leaf_90 : decode c_Pa_leaf 90 = .ok (.pop, 1) := by decide +kernel
theorem d_Pa_leaf_91 : decode c_Pa_leaf 91 = .ok (.goto 47, 3) := by decide +kernel
theorem d_Pa_leaf_94 : decode c_Pa_leaf 94 = .ok (.aload_n 0, 1) := by decide +kernel
theorem d_Pa_leaf_95 : decode c_Pa_leaf 95 = .ok (.getfield 22, 3) := by decide +kernel
theorem d_Pa_leaf_98 : decode c_Pa_leaf 98 = .ok (.iload_n 1, 1) := by decide +kernel
theorem d_Pa_leaf_99 : decode c_Pa_leaf 99 = .ok (.aload_n 0, 1) := by decide +kernel
theorem d_Pa_leaf_100 : decode c_Pa_leaf 100 = .ok (.getfield 18, 3) := by decide +kernel
theorem d_Pa_leaf_103 : decode c_Pa_leaf 103 = .ok (.aload_n 0, 1) := by decide +kernel
theorem d_Pa_leaf_104 : decode c_Pa_leaf 104 = .ok (.getfield 26, 3) := by decide +kernel
theorem d_Pa_leaf_107 : decode c_Pa_leaf 107 = .ok (.invokevirtual 54, 3) := by decide +kernel
theorem d_Pa_leaf_110 : decode c_Pa_leaf 110 = .ok (.pop, 1) := by decide +kernel
theorem d_Pa_leaf_111 : decode c_Pa_leaf 111 = .ok (.aload_n 0, 1) := by decide +kernel
theorem d_Pa_leaf_112 : decode c_Pa_leaf 112 = .ok (.dup, 1) := by decide +kernel
theorem d_Pa_leaf_113 : decode c_Pa_leaf 113 = .ok (.getfield 18, 3) := by decide +kernel
theorem d_Pa_leaf_116 : decode c_Pa_leaf 116 = .ok (.iconst 1, 1) := by decide +kernel
theorem d_Pa_leaf_117 : decode c_Pa_leaf 117 = .ok (.iadd, 1) := by decide +kernel
theorem d_Pa_leaf_118 : decode c_Pa_leaf 118 = .ok (.putfield 18, 3) := by decide +kernel
theorem d_Pa_leaf_121 : decode c_Pa_leaf 121 = .ok (.goto 17, 3) := by decide +kernel
theorem d_Pa_leaf_124 : decode c_Pa_leaf 124 = .ok (.aload_n 0, 1) := by decide +kernel
theorem d_Pa_leaf_125 : decode c_Pa_leaf 125 = .ok (.getfield 22, 3) := by decide +kernel
theorem d_Pa_leaf_128 : decode c_Pa_leaf 128 = .ok (.iload_n 1, 1) := by decide +kernel
theorem d_Pa_leaf_129 : decode c_Pa_leaf 129 = .ok (.iconst 0, 1) := by decide +kernel
theorem d_Pa_leaf_130 : decode c_Pa_leaf 130 = .ok (.aload_n 0, 1) := by decide +kernel
theorem d_Pa_leaf_131 : decode c_Pa_leaf 131 = .ok (.getfield 26, 3) := by decide +kernel
theorem d_Pa_leaf_134 : decode c_Pa_leaf 134 = .ok (.invokevirtual 54, 3) := by decide +kernel
theorem d_Pa_leaf_137 : decode c_Pa_leaf 137 = .ok (.pop, 1) := by decide +kernel
theorem d_Pa_leaf_138 : decode c_Pa_leaf 138 = .ok (.aload_n 0, 1) := by decide +kernel
theorem d_Pa_leaf_139 : decode c_Pa_leaf 139 = .ok (.dup, 1) := by decide +kernel
theorem d_Pa_leaf_140 : decode c_Pa_leaf 140 = .ok (.getfield 26, 3) := by decide +kernel
theorem d_Pa_leaf_143 : decode c_Pa_leaf 143 = .ok (.iconst 1, 1) := by decide +kernel
theorem d_Pa_leaf_144 : decode c_Pa_leaf 144 = .ok (.iadd, 1) := by decide +kernel
theorem d_Pa_leaf_145 : decode c_Pa_leaf 145 = .ok (.putfield 26, 3) := by decide +kernel
theorem d_Pa_leaf_148 : decode c_Pa_leaf 148 = .ok (.return_, 1) := by decide +kernel
theorem d_Pa_leafKind_0 : decode c_Pa_leafKind 0 = .ok (.aload_n 0, 1) := by decide +kernel
theorem d_Pa_leafKind_1 : decode c_Pa_leafKind 1 = .ok (.getfield 84, 3) := by decide +kernel
theorem d_Pa_leafKind_4 : decode c_Pa_leafKind 4 = .ok (.aload_n 0, 1) := by decide +kernel
theorem d_Pa_leafKind_5 : decode c_Pa_leafKind 5 = .ok (.getfield 26, 3) := by decide +kernel
theorem d_Pa_leafKind_8 : decode c_Pa_leafKind 8 = .ok (.invokevirtual 348, 3) := by decide +kernel
theorem d_Pa_leafKind_11 : decode c_Pa_leafKind 11 = .ok (.tableswitch 59 1 5 #[33, 50, 53, 59, 56], 33) := by decide +kernel
theorem d_Pa_leafKind_44 : decode c_Pa_leafKind 44 = .ok (.aload_n 0, 1) := by decide +kernel
theorem d_Pa_leafKind_45 : decode c_Pa_leafKind 45 = .ok (.invokevirtual 220, 3) := by decide +kernel
theorem d_Pa_leafKind_48 : decode c_Pa_leafKind 48 = .ok (.ifCond .eq 8, 3) := by decide +kernel
theorem d_Pa_leafKind_51 : decode c_Pa_leafKind 51 = .ok (.bipush 28, 2) := by decide +kernel
theorem d_Pa_leafKind_53 : decode c_Pa_leafKind 53 = .ok (.goto 7, 3) := by decide +kernel
theorem d_Pa_leafKind_56 : decode c_Pa_leafKind 56 = .ok (.aload_n 0, 1) := by decide +kernel
theorem d_Pa_leafKind_57 : decode c_Pa_leafKind 57 = .ok (.invokevirtual 359, 3) := by decide +kernel
theorem d_Pa_leafKind_60 : decode c_Pa_leafKind 60 = .ok (.ireturn, 1) := by decide +kernel
theorem d_Pa_leafKind_61 : decode c_Pa_leafKind 61 = .ok (.bipush 29, 2) := by decide +kernel
theorem d_Pa_leafKind_63 : decode c_Pa_leafKind 63 = .ok (.ireturn, 1) := by decide +kernel
theorem d_Pa_leafKind_64 : decode c_Pa_leafKind 64 = .ok (.bipush 30, 2) := by decide +kernel
theorem d_Pa_leafKind_66 : decode c_Pa_leafKind 66 = .ok (.ireturn, 1) := by decide +kernel
theorem d_Pa_leafKind_67 : decode c_Pa_leafKind 67 = .ok (.bipush 31, 2) := by decide +kernel
theorem d_Pa_leafKind_69 : decode c_Pa_leafKind 69 = .ok (.ireturn, 1) := by decide +kernel
theorem d_Pa_leafKind_70 : decode c_Pa_leafKind 70 = .ok (.bipush 59, 2) := by decide +kernel
theorem d_Pa_leafKind_72 : decode c_Pa_leafKind 72 = .ok (.ireturn, 1) := by decide +kernel
theorem d_Pa_wordKind_0 : decode c_Pa_wordKind 0 = .ok (.aload_n 0, 1) := by decide +kernel
theorem d_Pa_wordKind_1 : decode c_Pa_wordKind 1 = .ok (.getfield 84, 3) := by decide +kernel
theorem d_Pa_wordKind_4 : decode c_Pa_wordKind 4 = .ok (.aload_n 0, 1) := by decide +kernel
theorem d_Pa_wordKind_5 : decode c_Pa_wordKind 5 = .ok (.getfield 26, 3) := by decide +kernel
theorem d_Pa_wordKind_8 : decode c_Pa_wordKind 8 = .ok (.invokevirtual 165, 3) := by decide +kernel
theorem d_Pa_wordKind_11 : decode c_Pa_wordKind 11 = .ok (.lookupswitch 53 #[(18, 41), (26, 50), (27, 44), (28, 47)], 41) := by decide +kernel
theorem d_Pa_wordKind_52 : decode c_Pa_wordKind 52 = .ok (.bipush 27, 2) := by decide +kernel
theorem d_Pa_wordKind_54 : decode c_Pa_wordKind 54 = .ok (.ireturn, 1) := by decide +kernel
theorem d_Pa_wordKind_55 : decode c_Pa_wordKind 55 = .ok (.bipush 32, 2) := by decide +kernel
theorem d_Pa_wordKind_57 : decode c_Pa_wordKind 57 = .ok (.ireturn, 1) := by decide +kernel
theorem d_Pa_wordKind_58 : decode c_Pa_wordKind 58 = .ok (.bipush 33, 2) := by decide +kernel
theorem d_Pa_wordKind_60 : decode c_Pa_wordKind 60 = .ok (.ireturn, 1) := by decide +kernel
theorem d_Pa_wordKind_61 : decode c_Pa_wordKind 61 = .ok (.bipush 34, 2) := by decide +kernel
theorem d_Pa_wordKind_63 : decode c_Pa_wordKind 63 = .ok (.ireturn, 1) := by decide +kernel
theorem d_Pa_wordKind_64 : decode c_Pa_wordKind 64 = .ok (.bipush 59, 2) := by decide +kernel
theorem d_Pa_wordKind_66 : decode c_Pa_wordKind 66 = .ok (.ireturn, 1) := by decide +kernel
theorem d_Pa_tails_0 : decode c_Pa_tails 0 = .ok (.iconst 1, 1) := by decide +kernel
theorem d_Pa_tails_1 : decode c_Pa_tails 1 = .ok (.istore 4, 2) := by decide +kernel
theorem d_Pa_tails_3 : decode c_Pa_tails 3 = .ok (.iconst 0, 1) := by decide +kernel
theorem d_Pa_tails_4 : decode c_Pa_tails 4 = .ok (.istore 5, 2) := by decide +kernel
theorem d_Pa_tails_6 : decode c_Pa_tails 6 = .ok (.iload 5, 2) := by decide +kernel
theorem d_Pa_tails_8 : decode c_Pa_tails 8 = .ok (.sipush 1000, 3) := by decide +kernel
theorem d_Pa_tails_11 : decode c_Pa_tails 11 = .ok (.if_icmp .gt 146, 3) := by decide +kernel
theorem d_Pa_tails_14 : decode c_Pa_tails 14 = .ok (.iload 4, 2) := by decide +kernel
theorem d_Pa_tails_16 : decode c_Pa_tails 16 = .ok (.ifCond .eq 141, 3) := by decide +kernel
theorem d_Pa_tails_19 : decode c_Pa_tails 19 = .ok (.aload_n 0, 1) := by decide +kernel
theorem d_Pa_tails_20 : decode c_Pa_tails 20 = .ok (.getfield 26, 3) := by decide +kernel
theorem d_Pa_tails_23 : decode c_Pa_tails 23 = .ok (.istore 6, 2) := by decide +kernel
theorem d_Pa_tails_25 : decode c_Pa_tails 25 = .ok (.aload_n 0, 1) := by decide +kernel
theorem d_Pa_tails_26 : decode c_Pa_tails 26 = .ok (.bipush 66, 2) := by decide +kernel
theorem d_Pa_tails_28 : decode c_Pa_tails 28 = .ok (.invokevirtual 117, 3) := by decide +kernel
theorem d_Pa_tails_31 : decode c_Pa_tails 31 = .ok (.ifCond .eq 13, 3) := by decide +kernel
theorem d_Pa_tails_34 : decode c_Pa_tails 34 = .ok (.aload_n 0, 1) := by decide +kernel
theorem d_Pa_tails_35 : decode c_Pa_tails 35 = .ok (.iload_n 1, 1) := by decide +kernel
theorem d_Pa_tails_36 : decode c_Pa_tails 36 = .ok (.iload 6, 2) := by decide +kernel
theorem d_Pa_tails_38 : decode c_Pa_tails 38 = .ok (.invokevirtual 362, 3) := by decide +kernel
theorem d_Pa_tails_41 : decode c_Pa_tails 41 = .ok (.goto 110, 3) := by decide +kernel
theorem d_Pa_tails_44 : decode c_Pa_tails 44 = .ok (.aload_n 0, 1) := by decide +kernel
theorem d_Pa_tails_45 : decode c_Pa_tails 45 = .ok (.bipush 62, 2) := by decide +kernel
theorem d_Pa_tails_47 : decode c_Pa_tails 47 = .ok (.invokevirtual 117, 3) := by decide +kernel
theorem d_Pa_tails_50 : decode c_Pa_tails 50 = .ok (.ifCond .eq 34, 3) := by decide +kernel
theorem d_Pa_tails_53 : decode c_Pa_tails 53 = .ok (.aload_n 0, 1) := by decide +kernel
theorem d_Pa_tails_54 : decode c_Pa_tails 54 = .ok (.iconst (-1), 1) := by decide +kernel
theorem d_Pa_tails_55 : decode c_Pa_tails 55 = .ok (.iload_n 2, 1) := by decide +kernel
theorem d_Pa_tails_56 : decode c_Pa_tails 56 = .ok (.iconst 1, 1) := by decide +kernel
theorem d_Pa_tails_57 : decode c_Pa_tails 57 = .ok (.iadd, 1) := by decide +kernel
theorem d_Pa_tails_58 : decode c_Pa_tails 58 = .ok (.iconst 1, 1) := by decide +kernel
theorem d_Pa_tails_59 : decode c_Pa_tails 59 = .ok (.invokevirtual 232, 3) := by decide +kernel
theorem d_Pa_tails_62 : decode c_Pa_tails 62 = .ok (.aload_n 0, 1) := by decide +kernel
theorem d_Pa_tails_63 : decode c_Pa_tails 63 = .ok (.bipush 63, 2) := by decide +kernel
theorem d_Pa_tails_65 : decode c_Pa_tails 65 = .ok (.invokevirtual 114, 3) := by decide +kernel
theorem d_Pa_tails_68 : decode c_Pa_tails 68 = .ok (.aload_n 0, 1) := by decide +kernel
theorem d_Pa_tails_69 : decode c_Pa_tails 69 = .ok (.getfield 22, 3) := by decide +kernel
theorem d_Pa_tails_72 : decode c_Pa_tails 72 = .ok (.iload_n 1, 1) := by decide +kernel
theorem d_Pa_tails_73 : decode c_Pa_tails 73 = .ok (.bipush 37, 2) := by decide +kernel
theorem d_Pa_tails_75 : decode c_Pa_tails 75 = .ok (.iconst 0, 1) := by decide +kernel
theorem d_Pa_tails_76 : decode c_Pa_tails 76 = .ok (.iload 6, 2) := by decide +kernel
theorem d_Pa_tails_78 : decode c_Pa_tails 78 = .ok (.invokevirtual 365, 3) := by decide +kernel
theorem d_Pa_tails_81 : decode c_Pa_tails 81 = .ok (.goto 70, 3) := by decide +kernel
theorem d_Pa_tails_84 : decode c_Pa_tails 84 = .ok (.iload_n 3, 1) := by decide +kernel
theorem d_Pa_tails_85 : decode c_Pa_tails 85 = .ok (.ifCond .eq 63, 3) := by decide +kernel
theorem d_Pa_tails_88 : decode c_Pa_tails 88 = .ok (.aload_n 0, 1) := by decide +kernel
theorem d_Pa_tails_89 : decode c_Pa_tails 89 = .ok (.bipush 60, 2) := by decide +kernel
theorem d_Pa_tails_91 : decode c_Pa_tails 91 = .ok (.invokevirtual 117, 3) := by decide +kernel
theorem d_Pa_tails_94 : decode c_Pa_tails 94 = .ok (.ifCond .eq 54, 3) := by decide +kernel
theorem d_Pa_tails_97 : decode c_Pa_tails 97 = .ok (.iconst 0, 1) := by decide +kernel
theorem d_Pa_tails_98 : decode c_Pa_tails 98 = .ok (.istore 7, 2) := by decide +kernel
theorem d_Pa_tails_100 : decode c_Pa_tails 100 = .ok (.iload 7, 2) := by decide +kernel
theorem d_Pa_tails_102 : decode c_Pa_tails 102 = .ok (.sipush 1000, 3) := by decide +kernel
theorem d_Pa_tails_105 : decode c_Pa_tails 105 = .ok (.if_icmp .gt 27, 3) := by decide +kernel
theorem d_Pa_tails_108 : decode c_Pa_tails 108 = .ok (.aload_n 0, 1) := by decide +kernel
theorem d_Pa_tails_109 : decode c_Pa_tails 109 = .ok (.iload 7, 2) := by decide +kernel
theorem d_Pa_tails_111 : decode c_Pa_tails 111 = .ok (.invokevirtual 132, 3) := by decide +kernel
theorem d_Pa_tails_114 : decode c_Pa_tails 114 = .ok (.ifCond .eq 18, 3) := by decide +kernel
theorem d_Pa_tails_117 : decode c_Pa_tails 117 = .ok (.aload_n 0, 1) := by decide +kernel
theorem d_Pa_tails_118 : decode c_Pa_tails 118 = .ok (.iconst 0, 1) := by decide +kernel
theorem d_Pa_tails_119 : decode c_Pa_tails 119 = .ok (.iload_n 2, 1) := by decide +kernel
theorem d_Pa_tails_120 : decode c_Pa_tails 120 = .ok (.iconst 1, 1) := by decide +kernel
theorem d_Pa_tails_121 : decode c_Pa_tails 121 = .ok (.iadd, 1) := by decide +kernel
theorem d_Pa_tails_122 : decode c_Pa_tails 122 = .ok (.iconst 1, 1) := by decide +kernel
theorem d_Pa_tails_123 : decode c_Pa_tails 123 = .ok (.invokevirtual 232, 3) := by decide +kernel
theorem d_Pa_tails_126 : decode c_Pa_tails 126 = .ok (.iinc 7 1, 3) := by decide +kernel
theorem d_Pa_tails_129 : decode c_Pa_tails 129 = .ok (.goto (-29), 3) := by decide +kernel
theorem d_Pa_tails_132 : decode c_Pa_tails 132 = .ok (.aload_n 0, 1) := by decide +kernel
theorem d_Pa_tails_133 : decode c_Pa_tails 133 = .ok (.getfield 22, 3) := by decide +kernel
theorem d_Pa_tails_136 : decode c_Pa_tails 136 = .ok (.iload_n 1, 1) := by decide +kernel
theorem d_Pa_tails_137 : decode c_Pa_tails 137 = .ok (.bipush 38, 2) := by decide +kernel
theorem d_Pa_tails_139 : decode c_Pa_tails 139 = .ok (.iconst 0, 1) := by decide +kernel
theorem d_Pa_tails_140 : decode c_Pa_tails 140 = .ok (.iload 6, 2) := by decide +kernel
theorem d_Pa_tails_142 : decode c_Pa_tails 142 = .ok (.invokevirtual 365, 3) := by decide +kernel
theorem d_Pa_tails_145 : decode c_Pa_tails 145 = .ok (.goto 6, 3) := by decide +kernel
theorem d_Pa_tails_148 : decode c_Pa_tails 148 = .ok (.iconst 0, 1) := by decide +kernel
theorem d_Pa_tails_149 : decode c_Pa_tails 149 = .ok (.istore 4, 2) := by decide +kernel
theorem d_Pa_tails_151 : decode c_Pa_tails 151 = .ok (.iinc 5 1, 3) := by decide +kernel
theorem d_Pa_tails_154 : decode c_Pa_tails 154 = .ok (.goto (-148), 3) := by decide +kernel
theorem d_Pa_tails_157 : decode c_Pa_tails 157 = .ok (.iload_n 3, 1) := by decide +kernel
theorem d_Pa_tails_158 : decode c_Pa_tails 158 = .ok (.ifCond .eq 8, 3) := by decide +kernel
theorem d_Pa_tails_161 : decode c_Pa_tails 161 = .ok (.aload_n 0, 1) := by decide +kernel
theorem d_Pa_tails_162 : decode c_Pa_tails 162 = .ok (.iload_n 1, 1) := by decide +kernel
theorem d_Pa_tails_163 : decode c_Pa_tails 163 = .ok (.invokevirtual 369, 3) := by decide +kernel
theorem d_Pa_tails_166 : decode c_Pa_tails 166 = .ok (.return_, 1) := by decide +kernel
theorem d_Pa_member_0 : decode c_Pa_member 0 = .ok (.aload_n 0, 1) := by decide +kernel
theorem d_Pa_member_1 : decode c_Pa_member 1 = .ok (.getfield 84, 3) := by decide +kernel
theorem d_Pa_member_4 : decode c_Pa_member 4 = .ok (.aload_n 0, 1) := by decide +kernel
theorem d_Pa_member_5 : decode c_Pa_member 5 = .ok (.getfield 26, 3) := by decide +kernel
theorem d_Pa_member_8 : decode c_Pa_member 8 = .ok (.invokevirtual 348, 3) := by decide +kernel
theorem d_Pa_member_11 : decode c_Pa_member 11 = .ok (.iconst 1, 1) := by decide +kernel
theorem d_Pa_member_12 : decode c_Pa_member 12 = .ok (.if_icmp .eq 11, 3) := by decide +kernel
theorem d_Pa_member_15 : decode c_Pa_member 15 = .ok (.aload_n 0, 1) := by decide +kernel
theorem d_Pa_member_16 : decode c_Pa_member 16 = .ok (.aload_n 0, 1) := by decide +kernel
theorem d_Pa_member_17 : decode c_Pa_member 17 = .ok (.getfield 26, 3) := by decide +kernel
theorem d_Pa_member_20 : decode c_Pa_member 20 = .ok (.invokevirtual 140, 3) := by decide +kernel
theorem d_Pa_member_23 : decode c_Pa_member 23 = .ok (.aload_n 0, 1) := by decide +kernel
theorem d_Pa_member_24 : decode c_Pa_member 24 = .ok (.getfield 22, 3) := by decide +kernel
theorem d_Pa_member_27 : decode c_Pa_member 27 = .ok (.iload_n 1, 1) := by decide +kernel
theorem d_Pa_member_28 : decode c_Pa_member 28 = .ok (.bipush 36, 2) := by decide +kernel
theorem d_Pa_member_30 : decode c_Pa_member 30 = .ok (.aload_n 0, 1) := by decide +kernel
theorem d_Pa_member_31 : decode c_Pa_member 31 = .ok (.getfield 84, 3) := by decide +kernel
theorem d_Pa_member_34 : decode c_Pa_member 34 = .ok (.aload_n 0, 1) := by decide +kernel
theorem d_Pa_member_35 : decode c_Pa_member 35 = .ok (.getfield 26, 3) := by decide +kernel
theorem d_Pa_member_38 : decode c_Pa_member 38 = .ok (.invokevirtual 159, 3) := by decide +kernel
theorem d_Pa_member_41 : decode c_Pa_member 41 = .ok (.iload_n 2, 1) := by decide +kernel
theorem d_Pa_member_42 : decode c_Pa_member 42 = .ok (.invokevirtual 365, 3) := by decide +kernel
theorem d_Pa_member_45 : decode c_Pa_member 45 = .ok (.aload_n 0, 1) := by decide +kernel
theorem d_Pa_member_46 : decode c_Pa_member 46 = .ok (.dup, 1) := by decide +kernel
theorem d_Pa_member_47 : decode c_Pa_member 47 = .ok (.getfield 26, 3) := by decide +kernel
theorem d_Pa_member_50 : decode c_Pa_member 50 = .ok (.iconst 1, 1) := by decide +kernel
theorem d_Pa_member_51 : decode c_Pa_member 51 = .ok (.iadd, 1) := by decide +kernel
theorem d_Pa_member_52 : decode c_Pa_member 52 = .ok (.putfield 26, 3) := by decide +kernel
theorem d_Pa_member_55 : decode c_Pa_member 55 = .ok (.return_, 1) := by decide +kernel
theorem d_Pa_postfix_0 : decode c_Pa_postfix 0 = .ok (.aload_n 0, 1) := by decide +kernel
theorem d_Pa_postfix_1 : decode c_Pa_postfix 1 = .ok (.bipush 73, 2) := by decide +kernel
theorem d_Pa_postfix_3 : decode c_Pa_postfix 3 = .ok (.invokevirtual 126, 3) := by decide +kernel
theorem d_Pa_postfix_6 : decode c_Pa_postfix 6 = .ok (.istore_n 2, 1) := by decide +kernel
theorem d_Pa_postfix_7 : decode c_Pa_postfix 7 = .ok (.aload_n 0, 1) := by decide +kernel
theorem d_Pa_postfix_8 : decode c_Pa_postfix 8 = .ok (.getfield 84, 3) := by decide +kernel
theorem d_Pa_postfix_11 : decode c_Pa_postfix 11 = .ok (.aload_n 0, 1) := by decide +kernel
theorem d_Pa_postfix_12 : decode c_Pa_postfix 12 = .ok (.getfield 26, 3) := by decide +kernel
theorem d_Pa_postfix_15 : decode c_Pa_postfix 15 = .ok (.invokevirtual 270, 3) := by decide +kernel
theorem d_Pa_postfix_18 : decode c_Pa_postfix 18 = .ok (.ifCond .ne 16, 3) := by decide +kernel
theorem d_Pa_postfix_21 : decode c_Pa_postfix 21 = .ok (.iload_n 2, 1) := by decide +kernel
theorem d_Pa_postfix_22 : decode c_Pa_postfix 22 = .ok (.ifCond .ne 13, 3) := by decide +kernel
theorem d_Pa_postfix_25 : decode c_Pa_postfix 25 = .ok (.aload_n 0, 1) := by decide +kernel
theorem d_Pa_postfix_26 : decode c_Pa_postfix 26 = .ok (.bipush 74, 2) := by decide +kernel
theorem d_Pa_postfix_28 : decode c_Pa_postfix 28 = .ok (.invokevirtual 126, 3) := by decide +kernel
theorem d_Pa_postfix_31 : decode c_Pa_postfix 31 = .ok (.ifCond .ne 4, 3) := by decide +kernel
theorem d_Pa_postfix_34 : decode c_Pa_postfix 34 = .ok (.return_, 1) := by decide +kernel
theorem d_Pa_postfix_35 : decode c_Pa_postfix 35 = .ok (.aload_n 0, 1) := by decide +kernel
theorem d_Pa_postfix_36 : decode c_Pa_postfix 36 = .ok (.iload_n 1, 1) := by decide +kernel
theorem d_Pa_postfix_37 : decode c_Pa_postfix 37 = .ok (.invokevirtual 267, 3) := by decide +kernel
theorem d_Pa_postfix_40 : decode c_Pa_postfix 40 = .ok (.ifCond .ne 11, 3) := by decide +kernel
theorem d_Pa_postfix_43 : decode c_Pa_postfix 43 = .ok (.aload_n 0, 1) := by decide +kernel
theorem d_Pa_postfix_44 : decode c_Pa_postfix 44 = .ok (.aload_n 0, 1) := by decide +kernel
theorem d_Pa_postfix_45 : decode c_Pa_postfix 45 = .ok (.getfield 26, 3) := by decide +kernel
theorem d_Pa_postfix_48 : decode c_Pa_postfix 48 = .ok (.invokevirtual 140, 3) := by decide +kernel
theorem d_Pa_postfix_51 : decode c_Pa_postfix 51 = .ok (.aload_n 0, 1) := by decide +kernel
theorem d_Pa_postfix_52 : decode c_Pa_postfix 52 = .ok (.getfield 22, 3) := by decide +kernel
theorem d_Pa_postfix_55 : decode c_Pa_postfix 55 = .ok (.iload_n 1, 1) := by decide +kernel
theorem d_Pa_postfix_56 : decode c_Pa_postfix 56 = .ok (.bipush 44, 2) := by decide +kernel
theorem d_Pa_postfix_58 : decode c_Pa_postfix 58 = .ok (.iload_n 2, 1) := by decide +kernel
theorem d_Pa_postfix_59 : decode c_Pa_postfix 59 = .ok (.ifCond .eq 7, 3) := by decide +kernel
theorem d_Pa_postfix_62 : decode c_Pa_postfix 62 = .ok (.iconst 3, 1) := by decide +kernel
theorem d_Pa_postfix_63 : decode c_Pa_postfix 63 = .ok (.goto 4, 3) := by decide +kernel
theorem d_Pa_postfix_66 : decode c_Pa_postfix 66 = .ok (.iconst 4, 1) := by decide +kernel
theorem d_Pa_postfix_67 : decode c_Pa_postfix 67 = .ok (.aload_n 0, 1) := by decide +kernel
theorem d_Pa_postfix_68 : decode c_Pa_postfix 68 = .ok (.getfield 26, 3) := by decide +kernel
theorem d_Pa_postfix_71 : decode c_Pa_postfix 71 = .ok (.invokevirtual 365, 3) := by decide +kernel
theorem d_Pa_postfix_74 : decode c_Pa_postfix 74 = .ok (.aload_n 0, 1) := by decide +kernel
theorem d_Pa_postfix_75 : decode c_Pa_postfix 75 = .ok (.dup, 1) := by decide +kernel
theorem d_Pa_postfix_76 : decode c_Pa_postfix 76 = .ok (.getfield 26, 3) := by decide +kernel
theorem d_Pa_postfix_79 : decode c_Pa_postfix 79 = .ok (.iconst 1, 1) := by decide +kernel
theorem d_Pa_postfix_80 : decode c_Pa_postfix 80 = .ok (.iadd, 1) := by decide +kernel
theorem d_Pa_postfix_81 : decode c_Pa_postfix 81 = .ok (.putfield 26, 3) := by decide +kernel
theorem d_Pa_postfix_84 : decode c_Pa_postfix 84 = .ok (.return_, 1) := by decide +kernel
theorem d_Pa_binaries_0 : decode c_Pa_binaries 0 = .ok (.aload_n 0, 1) := by decide +kernel
theorem d_Pa_binaries_1 : decode c_Pa_binaries 1 = .ok (.iload 4, 2) := by decide +kernel
theorem d_Pa_binaries_3 : decode c_Pa_binaries 3 = .ok (.invokevirtual 372, 3) := by decide +kernel
theorem d_Pa_binaries_6 : decode c_Pa_binaries 6 = .ok (.istore 5, 2) := by decide +kernel
theorem d_Pa_binaries_8 : decode c_Pa_binaries 8 = .ok (.iconst 0, 1) := by decide +kernel
theorem d_Pa_binaries_9 : decode c_Pa_binaries 9 = .ok (.istore 6, 2) := by decide +kernel
theorem d_Pa_binaries_11 : decode c_Pa_binaries 11 = .ok (.iload 6, 2) := by decide +kernel
theorem d_Pa_binaries_13 : decode c_Pa_binaries 13 = .ok (.sipush 1000, 3) := by decide +kernel
theorem d_Pa_binaries_16 : decode c_Pa_binaries 16 = .ok (.if_icmp .gt 72, 3) := by decide +kernel
theorem d_Pa_binaries_19 : decode c_Pa_binaries 19 = .ok (.iload 5, 2) := by decide +kernel
theorem d_Pa_binaries_21 : decode c_Pa_binaries 21 = .ok (.invokestatic 376, 3) := by decide +kernel
theorem d_Pa_binaries_24 : decode c_Pa_binaries 24 = .ok (.iload_n 2, 1) := by decide +kernel
theorem d_Pa_binaries_25 : decode c_Pa_binaries 25 = .ok (.if_icmp .lt 63, 3) := by decide +kernel
theorem d_Pa_binaries_28 : decode c_Pa_binaries 28 = .ok (.aload_n 0, 1) := by decide +kernel
theorem d_Pa_binaries_29 : decode c_Pa_binaries 29 = .ok (.getfield 26, 3) := by decide +kernel
theorem d_Pa_binaries_32 : decode c_Pa_binaries 32 = .ok (.istore 7, 2) := by decide +kernel
theorem d_Pa_binaries_34 : decode c_Pa_binaries 34 = .ok (.aload_n 0, 1) := by decide +kernel
theorem d_Pa_binaries_35 : decode c_Pa_binaries 35 = .ok (.dup, 1) := by decide +kernel
theorem d_Pa_binaries_36 : decode c_Pa_binaries 36 = .ok (.getfield 26, 3) := by decide +kernel
theorem d_Pa_binaries_39 : decode c_Pa_binaries 39 = .ok (.iconst 1, 1) := by decide +kernel
theorem d_Pa_binaries_40 : decode c_Pa_binaries 40 = .ok (.iadd, 1) := by decide +kernel
theorem d_Pa_binaries_41 : decode c_Pa_binaries 41 = .ok (.putfield 26, 3) := by decide +kernel
theorem d_Pa_binaries_44 : decode c_Pa_binaries 44 = .ok (.aload_n 0, 1) := by decide +kernel
theorem d_Pa_binaries_45 : decode c_Pa_binaries 45 = .ok (.iload 5, 2) := by decide +kernel
theorem d_Pa_binaries_47 : decode c_Pa_binaries 47 = .ok (.invokestatic 376, 3) := by decide +kernel
theorem d_Pa_binaries_50 : decode c_Pa_binaries 50 = .ok (.iconst 1, 1) := by decide +kernel
theorem d_Pa_binaries_51 : decode c_Pa_binaries 51 = .ok (.iadd, 1) := by decide +kernel
theorem d_Pa_binaries_52 : decode c_Pa_binaries 52 = .ok (.iload_n 3, 1) := by decide +kernel
theorem d_Pa_binaries_53 : decode c_Pa_binaries 53 = .ok (.iconst 1, 1) := by decide +kernel
theorem d_Pa_binaries_54 : decode c_Pa_binaries 54 = .ok (.iadd, 1) := by decide +kernel
theorem d_Pa_binaries_55 : decode c_Pa_binaries 55 = .ok (.iload 4, 2) := by decide +kernel
theorem d_Pa_binaries_57 : decode c_Pa_binaries 57 = .ok (.invokevirtual 232, 3) := by decide +kernel
theorem d_Pa_binaries_60 : decode c_Pa_binaries 60 = .ok (.aload_n 0, 1) := by decide +kernel
theorem d_Pa_binaries_61 : decode c_Pa_binaries 61 = .ok (.getfield 22, 3) := by decide +kernel
theorem d_Pa_binaries_64 : decode c_Pa_binaries 64 = .ok (.iload_n 1, 1) := by decide +kernel
theorem d_Pa_binaries_65 : decode c_Pa_binaries 65 = .ok (.bipush 41, 2) := by decide +kernel
theorem d_Pa_binaries_67 : decode c_Pa_binaries 67 = .ok (.iload 5, 2) := by decide +kernel
theorem d_Pa_binaries_69 : decode c_Pa_binaries 69 = .ok (.iload 7, 2) := by decide +kernel
theorem d_Pa_binaries_71 : decode c_Pa_binaries 71 = .ok (.invokevirtual 365, 3) := by decide +kernel
theorem d_Pa_binaries_74 : decode c_Pa_binaries 74 = .ok (.aload_n 0, 1) := by decide +kernel
theorem d_Pa_binaries_75 : decode c_Pa_binaries 75 = .ok (.iload 4, 2) := by decide +kernel
theorem d_Pa_binaries_77 : decode c_Pa_binaries 77 = .ok (.invokevirtual 372, 3) := by decide +kernel
theorem d_Pa_binaries_80 : decode c_Pa_binaries 80 = .ok (.istore 5, 2) := by decide +kernel
theorem d_Pa_binaries_82 : decode c_Pa_binaries 82 = .ok (.iinc 6 1, 3) := by decide +kernel
theorem d_Pa_binaries_85 : decode c_Pa_binaries 85 = .ok (.goto (-74), 3) := by decide +kernel
theorem d_Pa_binaries_88 : decode c_Pa_binaries 88 = .ok (.return_, 1) := by decide +kernel
theorem d_Pa_rank_0 : decode c_Pa_rank 0 = .ok (.iload_n 0, 1) := by decide +kernel
theorem d_Pa_rank_1 : decode c_Pa_rank 1 = .ok (.ifCond .lt 19, 3) := by decide +kernel
theorem d_Pa_rank_4 : decode c_Pa_rank 4 = .ok (.iload_n 0, 1) := by decide +kernel
theorem d_Pa_rank_5 : decode c_Pa_rank 5 = .ok (.getstatic 379, 3) := by decide +kernel
theorem d_Pa_rank_8 : decode c_Pa_rank 8 = .ok (.arraylength, 1) := by decide +kernel
theorem d_Pa_rank_9 : decode c_Pa_rank 9 = .ok (.if_icmp .ge 11, 3) := by decide +kernel
theorem d_Pa_rank_12 : decode c_Pa_rank 12 = .ok (.getstatic 379, 3) := by decide +kernel
theorem d_Pa_rank_15 : decode c_Pa_rank 15 = .ok (.iload_n 0, 1) := by decide +kernel
theorem d_Pa_rank_16 : decode c_Pa_rank 16 = .ok (.iaload, 1) := by decide +kernel
theorem d_Pa_rank_17 : decode c_Pa_rank 17 = .ok (.goto 4, 3) := by decide +kernel
theorem d_Pa_rank_20 : decode c_Pa_rank 20 = .ok (.iconst 0, 1) := by decide +kernel
theorem d_Pa_rank_21 : decode c_Pa_rank 21 = .ok (.ireturn, 1) := by decide +kernel
theorem d_Pa_conditional_0 : decode c_Pa_conditional 0 = .ok (.aload_n 0, 1) := by decide +kernel
theorem d_Pa_conditional_1 : decode c_Pa_conditional 1 = .ok (.getfield 26, 3) := by decide +kernel
theorem d_Pa_conditional_4 : decode c_Pa_conditional 4 = .ok (.istore 4, 2) := by decide +kernel
theorem d_Pa_conditional_6 : decode c_Pa_conditional 6 = .ok (.aload_n 0, 1) := by decide +kernel
theorem d_Pa_conditional_7 : decode c_Pa_conditional 7 = .ok (.bipush 69, 2) := by decide +kernel
theorem d_Pa_conditional_9 : decode c_Pa_conditional 9 = .ok (.invokevirtual 117, 3) := by decide +kernel
theorem d_Pa_conditional_12 : decode c_Pa_conditional 12 = .ok (.ifCond .eq 40, 3) := by decide +kernel
theorem d_Pa_conditional_15 : decode c_Pa_conditional 15 = .ok (.aload_n 0, 1) := by decide +kernel
theorem d_Pa_conditional_16 : decode c_Pa_conditional 16 = .ok (.iconst 0, 1) := by decide +kernel
theorem d_Pa_conditional_17 : decode c_Pa_conditional 17 = .ok (.iload_n 2, 1) := by decide +kernel
theorem d_Pa_conditional_18 : decode c_Pa_conditional 18 = .ok (.iconst 1, 1) := by decide +kernel
theorem d_Pa_conditional_19 : decode c_Pa_conditional 19 = .ok (.iadd, 1) := by decide +kernel
theorem d_Pa_conditional_20 : decode c_Pa_conditional 20 = .ok (.iconst 1, 1) := by decide +kernel
theorem d_Pa_conditional_21 : decode c_Pa_conditional 21 = .ok (.invokevirtual 232, 3) := by decide +kernel
theorem d_Pa_conditional_24 : decode c_Pa_conditional 24 = .ok (.aload_n 0, 1) := by decide +kernel
theorem d_Pa_conditional_25 : decode c_Pa_conditional 25 = .ok (.bipush 70, 2) := by decide +kernel
theorem d_Pa_conditional_27 : decode c_Pa_conditional 27 = .ok (.invokevirtual 114, 3) := by decide +kernel
theorem d_Pa_conditional_30 : decode c_Pa_conditional 30 = .ok (.aload_n 0, 1) := by decide +kernel
theorem d_Pa_conditional_31 : decode c_Pa_conditional 31 = .ok (.iconst 0, 1) := by decide +kernel
theorem d_Pa_conditional_32 : decode c_Pa_conditional 32 = .ok (.iload_n 2, 1) := by decide +kernel
theorem d_Pa_conditional_33 : decode c_Pa_conditional 33 = .ok (.iconst 1, 1) := by decide +kernel
theorem d_Pa_conditional_34 : decode c_Pa_conditional 34 = .ok (.iadd, 1) := by decide +kernel
theorem d_Pa_conditional_35 : decode c_Pa_conditional 35 = .ok (.iload_n 3, 1) := by decide +kernel
theorem d_Pa_conditional_36 : decode c_Pa_conditional 36 = .ok (.invokevirtual 232, 3) := by decide +kernel
theorem d_Pa_conditional_39 : decode c_Pa_conditional 39 = .ok (.aload_n 0, 1) := by decide +kernel
theorem d_Pa_conditional_40 : decode c_Pa_conditional 40 = .ok (.getfield 22, 3) := by decide +kernel
theorem d_Pa_conditional_43 : decode c_Pa_conditional 43 = .ok (.iload_n 1, 1) := by decide +kernel
theorem d_Pa_conditional_44 : decode c_Pa_conditional 44 = .ok (.bipush 40, 2) := by decide +kernel
theorem d_Pa_conditional_46 : decode c_Pa_conditional 46 = .ok (.iconst 0, 1) := by decide +kernel
theorem d_Pa_conditional_47 : decode c_Pa_conditional 47 = .ok (.iload 4, 2) := by decide +kernel
theorem d_Pa_conditional_49 : decode c_Pa_conditional 49 = .ok (.invokevirtual 365, 3) := by decide +kernel
theorem d_Pa_conditional_52 : decode c_Pa_conditional 52 = .ok (.return_, 1) := by decide +kernel
theorem d_Pa_assignment_0 : decode c_Pa_assignment 0 = .ok (.aload_n 0, 1) := by decide +kernel
theorem d_Pa_assignment_1 : decode c_Pa_assignment 1 = .ok (.getfield 26, 3) := by decide +kernel
theorem d_Pa_assignment_4 : decode c_Pa_assignment 4 = .ok (.istore 4, 2) := by decide +kernel
theorem d_Pa_assignment_6 : decode c_Pa_assignment 6 = .ok (.aload_n 0, 1) := by decide +kernel
theorem d_Pa_assignment_7 : decode c_Pa_assignment 7 = .ok (.getfield 84, 3) := by decide +kernel
theorem d_Pa_assignment_10 : decode c_Pa_assignment 10 = .ok (.iload 4, 2) := by decide +kernel
theorem d_Pa_assignment_12 : decode c_Pa_assignment 12 = .ok (.invokevirtual 223, 3) := by decide +kernel
theorem d_Pa_assignment_15 : decode c_Pa_assignment 15 = .ok (.istore 5, 2) := by decide +kernel
theorem d_Pa_assignment_17 : decode c_Pa_assignment 17 = .ok (.iload 5, 2) := by decide +kernel
theorem d_Pa_assignment_19 : decode c_Pa_assignment 19 = .ok (.bipush 30, 2) := by decide +kernel
theorem d_Pa_assignment_21 : decode c_Pa_assignment 21 = .ok (.if_icmp .lt 60, 3) := by decide +kernel
theorem d_Pa_assignment_24 : decode c_Pa_assignment 24 = .ok (.iload 5, 2) := by decide +kernel
theorem d_Pa_assignment_26 : decode c_Pa_assignment 26 = .ok (.bipush 53, 2) := by decide +kernel
theorem d_Pa_assignment_28 : decode c_Pa_assignment 28 = .ok (.if_icmp .gt 53, 3) := by decide +kernel
theorem d_Pa_assignment_31 : decode c_Pa_assignment 31 = .ok (.aload_n 0, 1) := by decide +kernel
theorem d_Pa_assignment_32 : decode c_Pa_assignment 32 = .ok (.iload_n 1, 1) := by decide +kernel
theorem d_Pa_assignment_33 : decode c_Pa_assignment 33 = .ok (.invokevirtual 267, 3) := by decide +kernel
theorem d_Pa_assignment_36 : decode c_Pa_assignment 36 = .ok (.ifCond .ne 9, 3) := by decide +kernel
theorem d_Pa_assignment_39 : decode c_Pa_assignment 39 = .ok (.aload_n 0, 1) := by decide +kernel
theorem d_Pa_assignment_40 : decode c_Pa_assignment 40 = .ok (.iload 4, 2) := by decide +kernel
theorem d_Pa_assignment_42 : decode c_Pa_assignment 42 = .ok (.invokevirtual 140, 3) := by decide +kernel
theorem d_Pa_assignment_45 : decode c_Pa_assignment 45 = .ok (.aload_n 0, 1) := by decide +kernel
theorem d_Pa_assignment_46 : decode c_Pa_assignment 46 = .ok (.dup, 1) := by decide +kernel
theorem d_Pa_assignment_47 : decode c_Pa_assignment 47 = .ok (.getfield 26, 3) := by decide +kernel
theorem d_Pa_assignment_50 : decode c_Pa_assignment 50 = .ok (.iconst 1, 1) := by decide +kernel
theorem d_Pa_assignment_51 : decode c_Pa_assignment 51 = .ok (.iadd, 1) := by decide +kernel
theorem d_Pa_assignment_52 : decode c_Pa_assignment 52 = .ok (.putfield 26, 3) := by decide +kernel
theorem d_Pa_assignment_55 : decode c_Pa_assignment 55 = .ok (.aload_n 0, 1) := by decide +kernel
theorem d_Pa_assignment_56 : decode c_Pa_assignment 56 = .ok (.iconst 0, 1) := by decide +kernel
theorem d_Pa_assignment_57 : decode c_Pa_assignment 57 = .ok (.iload_n 2, 1) := by decide +kernel
theorem d_Pa_assignment_58 : decode c_Pa_assignment 58 = .ok (.iconst 1, 1) := by decide +kernel
theorem d_Pa_assignment_59 : decode c_Pa_assignment 59 = .ok (.iadd, 1) := by decide +kernel
theorem d_Pa_assignment_60 : decode c_Pa_assignment 60 = .ok (.iload_n 3, 1) := by decide +kernel
theorem d_Pa_assignment_61 : decode c_Pa_assignment 61 = .ok (.invokevirtual 232, 3) := by decide +kernel
theorem d_Pa_assignment_64 : decode c_Pa_assignment 64 = .ok (.aload_n 0, 1) := by decide +kernel
theorem d_Pa_assignment_65 : decode c_Pa_assignment 65 = .ok (.getfield 22, 3) := by decide +kernel
theorem d_Pa_assignment_68 : decode c_Pa_assignment 68 = .ok (.iload_n 1, 1) := by decide +kernel
theorem d_Pa_assignment_69 : decode c_Pa_assignment 69 = .ok (.bipush 42, 2) := by decide +kernel
theorem d_Pa_assignment_71 : decode c_Pa_assignment 71 = .ok (.iload 5, 2) := by decide +kernel
theorem d_Pa_assignment_73 : decode c_Pa_assignment 73 = .ok (.bipush 30, 2) := by decide +kernel
theorem d_Pa_assignment_75 : decode c_Pa_assignment 75 = .ok (.isub, 1) := by decide +kernel
theorem d_Pa_assignment_76 : decode c_Pa_assignment 76 = .ok (.iload 4, 2) := by decide +kernel
theorem d_Pa_assignment_78 : decode c_Pa_assignment 78 = .ok (.invokevirtual 365, 3) := by decide +kernel
theorem d_Pa_assignment_81 : decode c_Pa_assignment 81 = .ok (.return_, 1) := by decide +kernel
