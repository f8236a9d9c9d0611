theorem d_Sy_init_0 : decode c_Sy_init 0 = .ok (.aload_n 0, 1) := by decide +kernel
theorem d_Sy_init_1 : decode c_Sy_init 1 = .ok (.invokespecial 1, 3) := by decide +kernel
theorem d_Sy_init_4 : decode c_Sy_init 4 = .ok (.aload_n 0, 1) := by decide +kernel
theorem d_Sy_init_5 : decode c_Sy_init 5 = .ok (.new 7, 3) := by decide +kernel
theorem d_Sy_init_8 : decode c_Sy_init 8 = .ok (.dup, 1) := by decide +kernel
theorem d_Sy_init_9 : decode c_Sy_init 9 = .ok (.invokespecial 9, 3) := by decide +kernel
theorem d_Sy_init_12 : decode c_Sy_init 12 = .ok (.putfield 10, 3) := by decide +kernel
theorem d_Sy_init_15 : decode c_Sy_init 15 = .ok (.aload_n 0, 1) := by decide +kernel
theorem d_Sy_init_16 : decode c_Sy_init 16 = .ok (.new 16, 3) := by decide +kernel
theorem d_Sy_init_19 : decode c_Sy_init 19 = .ok (.dup, 1) := by decide +kernel
theorem d_Sy_init_20 : decode c_Sy_init 20 = .ok (.invokespecial 18, 3) := by decide +kernel
theorem d_Sy_init_23 : decode c_Sy_init 23 = .ok (.putfield 19, 3) := by decide +kernel
theorem d_Sy_init_26 : decode c_Sy_init 26 = .ok (.aload_n 0, 1) := by decide +kernel
theorem d_Sy_init_27 : decode c_Sy_init 27 = .ok (.new 23, 3) := by decide +kernel
theorem d_Sy_init_30 : decode c_Sy_init 30 = .ok (.dup, 1) := by decide +kernel
theorem d_Sy_init_31 : decode c_Sy_init 31 = .ok (.aload_n 0, 1) := by decide +kernel
theorem d_Sy_init_32 : decode c_Sy_init 32 = .ok (.getfield 10, 3) := by decide +kernel
theorem d_Sy_init_35 : decode c_Sy_init 35 = .ok (.aload_n 0, 1) := by decide +kernel
theorem d_Sy_init_36 : decode c_Sy_init 36 = .ok (.getfield 19, 3) := by decide +kernel
theorem d_Sy_init_39 : decode c_Sy_init 39 = .ok (.invokespecial 25, 3) := by decide +kernel
theorem d_Sy_init_42 : decode c_Sy_init 42 = .ok (.putfield 28, 3) := by decide +kernel
theorem d_Sy_init_45 : decode c_Sy_init 45 = .ok (.aload_n 0, 1) := by decide +kernel
theorem d_Sy_init_46 : decode c_Sy_init 46 = .ok (.iconst (-1), 1) := by decide +kernel
theorem d_Sy_init_47 : decode c_Sy_init 47 = .ok (.putfield 34, 3) := by decide +kernel
theorem d_Sy_init_50 : decode c_Sy_init 50 = .ok (.return_, 1) := by decide +kernel
theorem d_Sy_token_0 : decode c_Sy_token 0 = .ok (.iload_n 1, 1) := by decide +kernel
theorem d_Sy_token_1 : decode c_Sy_token 1 = .ok (.iload_n 2, 1) := by decide +kernel
theorem d_Sy_token_2 : decode c_Sy_token 2 = .ok (.iload_n 3, 1) := by decide +kernel
theorem d_Sy_token_3 : decode c_Sy_token 3 = .ok (.invokestatic 38, 3) := by decide +kernel
theorem d_Sy_token_6 : decode c_Sy_token 6 = .ok (.ifCond .ne 13, 3) := by decide +kernel
theorem d_Sy_token_9 : decode c_Sy_token 9 = .ok (.new 42, 3) := by decide +kernel
theorem d_Sy_token_12 : decode c_Sy_token 12 = .ok (.dup, 1) := by decide +kernel
theorem d_Sy_token_13 : decode c_Sy_token 13 = .ok (.ldc 44, 2) := by decide +kernel
theorem d_Sy_token_15 : decode c_Sy_token 15 = .ok (.invokespecial 46, 3) := by decide +kernel
theorem d_Sy_token_18 : decode c_Sy_token 18 = .ok (.athrow, 1) := by decide +kernel
theorem d_Sy_token_19 : decode c_Sy_token 19 = .ok (.aload_n 0, 1) := by decide +kernel
theorem d_Sy_token_20 : decode c_Sy_token 20 = .ok (.getfield 10, 3) := by decide +kernel
theorem d_Sy_token_23 : decode c_Sy_token 23 = .ok (.invokevirtual 49, 3) := by decide +kernel
theorem d_Sy_token_26 : decode c_Sy_token 26 = .ok (.sipush 1000, 3) := by decide +kernel
theorem d_Sy_token_29 : decode c_Sy_token 29 = .ok (.if_icmp .lt 13, 3) := by decide +kernel
theorem d_Sy_token_32 : decode c_Sy_token 32 = .ok (.new 53, 3) := by decide +kernel
theorem d_Sy_token_35 : decode c_Sy_token 35 = .ok (.dup, 1) := by decide +kernel
theorem d_Sy_token_36 : decode c_Sy_token 36 = .ok (.ldc 55, 2) := by decide +kernel
theorem d_Sy_token_38 : decode c_Sy_token 38 = .ok (.invokespecial 57, 3) := by decide +kernel
theorem d_Sy_token_41 : decode c_Sy_token 41 = .ok (.athrow, 1) := by decide +kernel
theorem d_Sy_token_42 : decode c_Sy_token 42 = .ok (.aload_n 0, 1) := by decide +kernel
theorem d_Sy_token_43 : decode c_Sy_token 43 = .ok (.getfield 10, 3) := by decide +kernel
theorem d_Sy_token_46 : decode c_Sy_token 46 = .ok (.iload_n 1, 1) := by decide +kernel
theorem d_Sy_token_47 : decode c_Sy_token 47 = .ok (.iload_n 2, 1) := by decide +kernel
theorem d_Sy_token_48 : decode c_Sy_token 48 = .ok (.iload_n 3, 1) := by decide +kernel
theorem d_Sy_token_49 : decode c_Sy_token 49 = .ok (.iload 4, 2) := by decide +kernel
theorem d_Sy_token_51 : decode c_Sy_token 51 = .ok (.invokevirtual 58, 3) := by decide +kernel
theorem d_Sy_token_54 : decode c_Sy_token 54 = .ok (.aload_n 0, 1) := by decide +kernel
theorem d_Sy_token_55 : decode c_Sy_token 55 = .ok (.getfield 10, 3) := by decide +kernel
theorem d_Sy_token_58 : decode c_Sy_token 58 = .ok (.invokevirtual 49, 3) := by decide +kernel
theorem d_Sy_token_61 : decode c_Sy_token 61 = .ok (.ireturn, 1) := by decide +kernel
theorem d_Sy_read_0 : decode c_Sy_read 0 = .ok (.aload_n 0, 1) := by decide +kernel
theorem d_Sy_read_1 : decode c_Sy_read 1 = .ok (.aload_n 0, 1) := by decide +kernel
theorem d_Sy_read_2 : decode c_Sy_read 2 = .ok (.getfield 28, 3) := by decide +kernel
theorem d_Sy_read_5 : decode c_Sy_read 5 = .ok (.invokevirtual 62, 3) := by decide +kernel
theorem d_Sy_read_8 : decode c_Sy_read 8 = .ok (.putfield 34, 3) := by decide +kernel
theorem d_Sy_read_11 : decode c_Sy_read 11 = .ok (.aload_n 0, 1) := by decide +kernel
theorem d_Sy_read_12 : decode c_Sy_read 12 = .ok (.getfield 10, 3) := by decide +kernel
theorem d_Sy_read_15 : decode c_Sy_read 15 = .ok (.invokevirtual 65, 3) := by decide +kernel
theorem d_Sy_read_18 : decode c_Sy_read 18 = .ok (.aload_n 0, 1) := by decide +kernel
theorem d_Sy_read_19 : decode c_Sy_read 19 = .ok (.getfield 34, 3) := by decide +kernel
theorem d_Sy_read_22 : decode c_Sy_read 22 = .ok (.iconst (-1), 1) := by decide +kernel
theorem d_Sy_read_23 : decode c_Sy_read 23 = .ok (.if_icmp .eq 20, 3) := by decide +kernel
theorem d_Sy_read_26 : decode c_Sy_read 26 = .ok (.aload_n 0, 1) := by decide +kernel
theorem d_Sy_read_27 : decode c_Sy_read 27 = .ok (.getfield 19, 3) := by decide +kernel
theorem d_Sy_read_30 : decode c_Sy_read 30 = .ok (.invokevirtual 68, 3) := by decide +kernel
theorem d_Sy_read_33 : decode c_Sy_read 33 = .ok (.new 42, 3) := by decide +kernel
theorem d_Sy_read_36 : decode c_Sy_read 36 = .ok (.dup, 1) := by decide +kernel
theorem d_Sy_read_37 : decode c_Sy_read 37 = .ok (.ldc 69, 2) := by decide +kernel
theorem d_Sy_read_39 : decode c_Sy_read 39 = .ok (.invokespecial 46, 3) := by decide +kernel
theorem d_Sy_read_42 : decode c_Sy_read 42 = .ok (.athrow, 1) := by decide +kernel
theorem d_Sy_read_43 : decode c_Sy_read 43 = .ok (.aload_n 0, 1) := by decide +kernel
theorem d_Sy_read_44 : decode c_Sy_read 44 = .ok (.getfield 19, 3) := by decide +kernel
theorem d_Sy_read_47 : decode c_Sy_read 47 = .ok (.invokevirtual 71, 3) := by decide +kernel
theorem d_Sy_read_50 : decode c_Sy_read 50 = .ok (.ireturn, 1) := by decide +kernel
theorem d_Sy_place_0 : decode c_Sy_place 0 = .ok (.aload_n 0, 1) := by decide +kernel
theorem d_Sy_place_1 : decode c_Sy_place 1 = .ok (.getfield 34, 3) := by decide +kernel
theorem d_Sy_place_4 : decode c_Sy_place 4 = .ok (.ireturn, 1) := by decide +kernel
theorem d_Sy_node_0 : decode c_Sy_node 0 = .ok (.iload_n 2, 1) := by decide +kernel
theorem d_Sy_node_1 : decode c_Sy_node 1 = .ok (.ifCond .lt 8, 3) := by decide +kernel
theorem d_Sy_node_4 : decode c_Sy_node 4 = .ok (.iload_n 2, 1) := by decide +kernel
theorem d_Sy_node_5 : decode c_Sy_node 5 = .ok (.iconst 3, 1) := by decide +kernel
theorem d_Sy_node_6 : decode c_Sy_node 6 = .ok (.if_icmp .le 13, 3) := by decide +kernel
theorem d_Sy_node_9 : decode c_Sy_node 9 = .ok (.new 42, 3) := by decide +kernel
theorem d_Sy_node_12 : decode c_Sy_node 12 = .ok (.dup, 1) := by decide +kernel
theorem d_Sy_node_13 : decode c_Sy_node 13 = .ok (.ldc 72, 2) := by decide +kernel
theorem d_Sy_node_15 : decode c_Sy_node 15 = .ok (.invokespecial 46, 3) := by decide +kernel
theorem d_Sy_node_18 : decode c_Sy_node 18 = .ok (.athrow, 1) := by decide +kernel
theorem d_Sy_node_19 : decode c_Sy_node 19 = .ok (.aload_n 0, 1) := by decide +kernel
theorem d_Sy_node_20 : decode c_Sy_node 20 = .ok (.getfield 19, 3) := by decide +kernel
theorem d_Sy_node_23 : decode c_Sy_node 23 = .ok (.iload_n 1, 1) := by decide +kernel
theorem d_Sy_node_24 : decode c_Sy_node 24 = .ok (.invokevirtual 74, 3) := by decide +kernel
theorem d_Sy_node_27 : decode c_Sy_node 27 = .ok (.ifCond .ne 13, 3) := by decide +kernel
theorem d_Sy_node_30 : decode c_Sy_node 30 = .ok (.new 78, 3) := by decide +kernel
theorem d_Sy_node_33 : decode c_Sy_node 33 = .ok (.dup, 1) := by decide +kernel
theorem d_Sy_node_34 : decode c_Sy_node 34 = .ok (.ldc 80, 2) := by decide +kernel
theorem d_Sy_node_36 : decode c_Sy_node 36 = .ok (.invokespecial 82, 3) := by decide +kernel
theorem d_Sy_node_39 : decode c_Sy_node 39 = .ok (.athrow, 1) := by decide +kernel
theorem d_Sy_node_40 : decode c_Sy_node 40 = .ok (.iload_n 2, 1) := by decide +kernel
theorem d_Sy_node_41 : decode c_Sy_node 41 = .ok (.tableswitch 54 0 2 #[27, 36, 45], 27) := by decide +kernel
theorem d_Sy_node_68 : decode c_Sy_node 68 = .ok (.aload_n 0, 1) := by decide +kernel
theorem d_Sy_node_69 : decode c_Sy_node 69 = .ok (.getfield 19, 3) := by decide +kernel
theorem d_Sy_node_72 : decode c_Sy_node 72 = .ok (.iload_n 1, 1) := by decide +kernel
theorem d_Sy_node_73 : decode c_Sy_node 73 = .ok (.invokevirtual 83, 3) := by decide +kernel
theorem d_Sy_node_76 : decode c_Sy_node 76 = .ok (.ireturn, 1) := by decide +kernel
theorem d_Sy_node_77 : decode c_Sy_node 77 = .ok (.aload_n 0, 1) := by decide +kernel
theorem d_Sy_node_78 : decode c_Sy_node 78 = .ok (.getfield 19, 3) := by decide +kernel
theorem d_Sy_node_81 : decode c_Sy_node 81 = .ok (.iload_n 1, 1) := by decide +kernel
theorem d_Sy_node_82 : decode c_Sy_node 82 = .ok (.invokevirtual 87, 3) := by decide +kernel
theorem d_Sy_node_85 : decode c_Sy_node 85 = .ok (.ireturn, 1) := by decide +kernel
theorem d_Sy_node_86 : decode c_Sy_node 86 = .ok (.aload_n 0, 1) := by decide +kernel
theorem d_Sy_node_87 : decode c_Sy_node 87 = .ok (.getfield 19, 3) := by decide +kernel
theorem d_Sy_node_90 : decode c_Sy_node 90 = .ok (.iload_n 1, 1) := by decide +kernel
theorem d_Sy_node_91 : decode c_Sy_node 91 = .ok (.invokevirtual 90, 3) := by decide +kernel
theorem d_Sy_node_94 : decode c_Sy_node 94 = .ok (.ireturn, 1) := by decide +kernel
theorem d_Sy_node_95 : decode c_Sy_node 95 = .ok (.aload_n 0, 1) := by decide +kernel
theorem d_Sy_node_96 : decode c_Sy_node 96 = .ok (.getfield 19, 3) := by decide +kernel
theorem d_Sy_node_99 : decode c_Sy_node 99 = .ok (.iload_n 1, 1) := by decide +kernel
theorem d_Sy_node_100 : decode c_Sy_node 100 = .ok (.invokevirtual 93, 3) := by decide +kernel
theorem d_Sy_node_103 : decode c_Sy_node 103 = .ok (.ireturn, 1) := by decide +kernel
theorem d_Sy_child_0 : decode c_Sy_child 0 = .ok (.aload_n 0, 1) := by decide +kernel
theorem d_Sy_child_1 : decode c_Sy_child 1 = .ok (.getfield 19, 3) := by decide +kernel
theorem d_Sy_child_4 : decode c_Sy_child 4 = .ok (.iload_n 1, 1) := by decide +kernel
theorem d_Sy_child_5 : decode c_Sy_child 5 = .ok (.iload_n 2, 1) := by decide +kernel
theorem d_Sy_child_6 : decode c_Sy_child 6 = .ok (.invokevirtual 96, 3) := by decide +kernel
theorem d_Sy_child_9 : decode c_Sy_child 9 = .ok (.istore_n 3, 1) := by decide +kernel
theorem d_Sy_child_10 : decode c_Sy_child 10 = .ok (.iload_n 3, 1) := by decide +kernel
theorem d_Sy_child_11 : decode c_Sy_child 11 = .ok (.iconst (-1), 1) := by decide +kernel
theorem d_Sy_child_12 : decode c_Sy_child 12 = .ok (.if_icmp .ne 13, 3) := by decide +kernel
theorem d_Sy_child_15 : decode c_Sy_child 15 = .ok (.new 78, 3) := by decide +kernel
theorem d_Sy_child_18 : decode c_Sy_child 18 = .ok (.dup, 1) := by decide +kernel
theorem d_Sy_child_19 : decode c_Sy_child 19 = .ok (.ldc 100, 2) := by decide +kernel
theorem d_Sy_child_21 : decode c_Sy_child 21 = .ok (.invokespecial 82, 3) := by decide +kernel
theorem d_Sy_child_24 : decode c_Sy_child 24 = .ok (.athrow, 1) := by decide +kernel
theorem d_Sy_child_25 : decode c_Sy_child 25 = .ok (.iload_n 3, 1) := by decide +kernel
theorem d_Sy_child_26 : decode c_Sy_child 26 = .ok (.ireturn, 1) := by decide +kernel
theorem d_Mo_init_0 : decode c_Mo_init 0 = .ok (.aload_n 0, 1) := by decide +kernel
theorem d_Mo_init_1 : decode c_Mo_init 1 = .ok (.invokespecial 1, 3) := by decide +kernel
theorem d_Mo_init_4 : decode c_Mo_init 4 = .ok (.aload_n 0, 1) := by decide +kernel
theorem d_Mo_init_5 : decode c_Mo_init 5 = .ok (.sipush 1001, 3) := by decide +kernel
theorem d_Mo_init_8 : decode c_Mo_init 8 = .ok (.newarray .int, 2) := by decide +kernel
theorem d_Mo_init_10 : decode c_Mo_init 10 = .ok (.putfield 9, 3) := by decide +kernel
theorem d_Mo_init_13 : decode c_Mo_init 13 = .ok (.aload_n 0, 1) := by decide +kernel
theorem d_Mo_init_14 : decode c_Mo_init 14 = .ok (.sipush 1001, 3) := by decide +kernel
theorem d_Mo_init_17 : decode c_Mo_init 17 = .ok (.newarray .int, 2) := by decide +kernel
theorem d_Mo_init_19 : decode c_Mo_init 19 = .ok (.putfield 13, 3) := by decide +kernel
theorem d_Mo_init_22 : decode c_Mo_init 22 = .ok (.aload_n 0, 1) := by decide +kernel
theorem d_Mo_init_23 : decode c_Mo_init 23 = .ok (.sipush 1001, 3) := by decide +kernel
theorem d_Mo_init_26 : decode c_Mo_init 26 = .ok (.newarray .int, 2) := by decide +kernel
theorem d_Mo_init_28 : decode c_Mo_init 28 = .ok (.putfield 16, 3) := by decide +kernel
theorem d_Mo_init_31 : decode c_Mo_init 31 = .ok (.aload_n 0, 1) := by decide +kernel
theorem d_Mo_init_32 : decode c_Mo_init 32 = .ok (.sipush 1001, 3) := by decide +kernel
theorem d_Mo_init_35 : decode c_Mo_init 35 = .ok (.newarray .boolean, 2) := by decide +kernel
theorem d_Mo_init_37 : decode c_Mo_init 37 = .ok (.putfield 19, 3) := by decide +kernel
theorem d_Mo_init_40 : decode c_Mo_init 40 = .ok (.aload_n 0, 1) := by decide +kernel
theorem d_Mo_init_41 : decode c_Mo_init 41 = .ok (.iconst (-1), 1) := by decide +kernel
theorem d_Mo_init_42 : decode c_Mo_init 42 = .ok (.putfield 23, 3) := by decide +kernel
theorem d_Mo_init_45 : decode c_Mo_init 45 = .ok (.aload_n 0, 1) := by decide +kernel
theorem d_Mo_init_46 : decode c_Mo_init 46 = .ok (.sipush 2600, 3) := by decide +kernel
theorem d_Mo_init_49 : decode c_Mo_init 49 = .ok (.newarray .int, 2) := by decide +kernel
theorem d_Mo_init_51 : decode c_Mo_init 51 = .ok (.putfield 27, 3) := by decide +kernel
theorem d_Mo_init_54 : decode c_Mo_init 54 = .ok (.aload_n 0, 1) := by decide +kernel
theorem d_Mo_init_55 : decode c_Mo_init 55 = .ok (.sipush 2600, 3) := by decide +kernel
theorem d_Mo_init_58 : decode c_Mo_init 58 = .ok (.newarray .int, 2) := by decide +kernel
theorem d_Mo_init_60 : decode c_Mo_init 60 = .ok (.putfield 30, 3) := by decide +kernel
theorem d_Mo_init_63 : decode c_Mo_init 63 = .ok (.aload_n 0, 1) := by decide +kernel
theorem d_Mo_init_64 : decode c_Mo_init 64 = .ok (.sipush 2600, 3) := by decide +kernel
theorem d_Mo_init_67 : decode c_Mo_init 67 = .ok (.newarray .int, 2) := by decide +kernel
theorem d_Mo_init_69 : decode c_Mo_init 69 = .ok (.putfield 33, 3) := by decide +kernel
theorem d_Mo_init_72 : decode c_Mo_init 72 = .ok (.aload_n 0, 1) := by decide +kernel
theorem d_Mo_init_73 : decode c_Mo_init 73 = .ok (.sipush 2600, 3) := by decide +kernel
theorem d_Mo_init_76 : decode c_Mo_init 76 = .ok (.newarray .int, 2) := by decide +kernel
theorem d_Mo_init_78 : decode c_Mo_init 78 = .ok (.putfield 36, 3) := by decide +kernel
theorem d_Mo_init_81 : decode c_Mo_init 81 = .ok (.aload_n 0, 1) := by decide +kernel
theorem d_Mo_init_82 : decode c_Mo_init 82 = .ok (.sipush 2600, 3) := by decide +kernel
theorem d_Mo_init_85 : decode c_Mo_init 85 = .ok (.newarray .int, 2) := by decide +kernel
theorem d_Mo_init_87 : decode c_Mo_init 87 = .ok (.putfield 39, 3) := by decide +kernel
theorem d_Mo_init_90 : decode c_Mo_init 90 = .ok (.aload_n 0, 1) := by decide +kernel
theorem d_Mo_init_91 : decode c_Mo_init 91 = .ok (.sipush 2600, 3) := by decide +kernel
theorem d_Mo_init_94 : decode c_Mo_init 94 = .ok (.newarray .int, 2) := by decide +kernel
theorem d_Mo_init_96 : decode c_Mo_init 96 = .ok (.putfield 42, 3) := by decide +kernel
theorem d_Mo_init_99 : decode c_Mo_init 99 = .ok (.aload_n 0, 1) := by decide +kernel
theorem d_Mo_init_100 : decode c_Mo_init 100 = .ok (.sipush 2600, 3) := by decide +kernel
theorem d_Mo_init_103 : decode c_Mo_init 103 = .ok (.newarray .int, 2) := by decide +kernel
theorem d_Mo_init_105 : decode c_Mo_init 105 = .ok (.putfield 45, 3) := by decide +kernel
theorem d_Mo_init_108 : decode c_Mo_init 108 = .ok (.aload_n 0, 1) := by decide +kernel
theorem d_Mo_init_109 : decode c_Mo_init 109 = .ok (.sipush 2600, 3) := by decide +kernel
theorem d_Mo_init_112 : decode c_Mo_init 112 = .ok (.newarray .int, 2) := by decide +kernel
theorem d_Mo_init_114 : decode c_Mo_init 114 = .ok (.putfield 48, 3) := by decide +kernel
theorem d_Mo_init_117 : decode c_Mo_init 117 = .ok (.aload_n 0, 1) := by decide +kernel
theorem d_Mo_init_118 : decode c_Mo_init 118 = .ok (.sipush 1000, 3) := by decide +kernel
theorem d_Mo_init_121 : decode c_Mo_init 121 = .ok (.newarray .int, 2) := by decide +kernel
theorem d_Mo_init_123 : decode c_Mo_init 123 = .ok (.putfield 51, 3) := by decide +kernel
theorem d_Mo_init_126 : decode c_Mo_init 126 = .ok (.aload_n 0, 1) := by decide +kernel
theorem d_Mo_init_127 : decode c_Mo_init 127 = .ok (.sipush 1000, 3) := by decide +kernel
theorem d_Mo_init_130 : decode c_Mo_init 130 = .ok (.newarray .boolean, 2) := by decide +kernel
theorem d_Mo_init_132 : decode c_Mo_init 132 = .ok (.putfield 54, 3) := by decide +kernel
theorem d_Mo_init_135 : decode c_Mo_init 135 = .ok (.aload_n 0, 1) := by decide +kernel
theorem d_Mo_init_136 : decode c_Mo_init 136 = .ok (.sipush 1000, 3) := by decide +kernel
theorem d_Mo_init_139 : decode c_Mo_init 139 = .ok (.newarray .int, 2) := by decide +kernel
theorem d_Mo_init_141 : decode c_Mo_init 141 = .ok (.putfield 57, 3) := by decide +kernel
theorem d_Mo_init_144 : decode c_Mo_init 144 = .ok (.aload_n 0, 1) := by decide +kernel
theorem d_Mo_init_145 : decode c_Mo_init 145 = .ok (.sipush 1000, 3) := by decide +kernel
theorem d_Mo_init_148 : decode c_Mo_init 148 = .ok (.newarray .int, 2) := by decide +kernel
theorem d_Mo_init_150 : decode c_Mo_init 150 = .ok (.putfield 60, 3) := by decide +kernel
theorem d_Mo_init_153 : decode c_Mo_init 153 = .ok (.return_, 1) := by decide +kernel
theorem d_Mo_thrown_0 : decode c_Mo_thrown 0 = .ok (.aload_n 0, 1) := by decide +kernel
theorem d_Mo_thrown_1 : decode c_Mo_thrown 1 = .ok (.getfield 63, 3) := by decide +kernel
theorem d_Mo_thrown_4 : decode c_Mo_thrown 4 = .ok (.ireturn, 1) := by decide +kernel
theorem d_Mo_throwing_0 : decode c_Mo_throwing 0 = .ok (.aload_n 0, 1) := by decide +kernel
theorem d_Mo_throwing_1 : decode c_Mo_throwing 1 = .ok (.iload_n 1, 1) := by decide +kernel
theorem d_Mo_throwing_2 : decode c_Mo_throwing 2 = .ok (.ifCond .eq 7, 3) := by decide +kernel
theorem d_Mo_throwing_5 : decode c_Mo_throwing 5 = .ok (.iconst 1, 1) := by decide +kernel
theorem d_Mo_throwing_6 : decode c_Mo_throwing 6 = .ok (.goto 12, 3) := by decide +kernel
theorem d_Mo_throwing_9 : decode c_Mo_throwing 9 = .ok (.iload_n 2, 1) := by decide +kernel
theorem d_Mo_throwing_10 : decode c_Mo_throwing 10 = .ok (.ifCond .eq 7, 3) := by decide +kernel
theorem d_Mo_throwing_13 : decode c_Mo_throwing 13 = .ok (.iconst 2, 1) := by decide +kernel
theorem d_Mo_throwing_14 : decode c_Mo_throwing 14 = .ok (.goto 4, 3) := by decide +kernel
theorem d_Mo_throwing_17 : decode c_Mo_throwing 17 = .ok (.iconst 0, 1) := by decide +kernel
theorem d_Mo_throwing_18 : decode c_Mo_throwing 18 = .ok (.putfield 63, 3) := by decide +kernel
theorem d_Mo_throwing_21 : decode c_Mo_throwing 21 = .ok (.aload_n 0, 1) := by decide +kernel
theorem d_Mo_throwing_22 : decode c_Mo_throwing 22 = .ok (.getfield 63, 3) := by decide +kernel
theorem d_Mo_throwing_25 : decode c_Mo_throwing 25 = .ok (.ifCond .le 7, 3) := by decide +kernel
theorem d_Mo_throwing_28 : decode c_Mo_throwing 28 = .ok (.iconst 1, 1) := by decide +kernel
theorem d_Mo_throwing_29 : decode c_Mo_throwing 29 = .ok (.goto 4, 3) := by decide +kernel
theorem d_Mo_throwing_32 : decode c_Mo_throwing 32 = .ok (.iconst 0, 1) := by decide +kernel
theorem d_Mo_throwing_33 : decode c_Mo_throwing 33 = .ok (.ireturn, 1) := by decide +kernel
theorem d_Mo_isIn_0 : decode c_Mo_isIn 0 = .ok (.iload_n 0, 1) := by decide +kernel
theorem d_Mo_isIn_1 : decode c_Mo_isIn 1 = .ok (.iload_n 1, 1) := by decide +kernel
theorem d_Mo_isIn_2 : decode c_Mo_isIn 2 = .ok (.if_icmp .lt 12, 3) := by decide +kernel
theorem d_Mo_isIn_5 : decode c_Mo_isIn 5 = .ok (.iload_n 0, 1) := by decide +kernel
theorem d_Mo_isIn_6 : decode c_Mo_isIn 6 = .ok (.iload_n 2, 1) := by decide +kernel
theorem d_Mo_isIn_7 : decode c_Mo_isIn 7 = .ok (.if_icmp .gt 7, 3) := by decide +kernel
theorem d_Mo_isIn_10 : decode c_Mo_isIn 10 = .ok (.iconst 1, 1) := by decide +kernel
theorem d_Mo_isIn_11 : decode c_Mo_isIn 11 = .ok (.goto 4, 3) := by decide +kernel
theorem d_Mo_isIn_14 : decode c_Mo_isIn 14 = .ok (.iconst 0, 1) := by decide +kernel
theorem d_Mo_isIn_15 : decode c_Mo_isIn 15 = .ok (.ireturn, 1) := by decide +kernel
theorem d_Mo_isSignNumber_0 : decode c_Mo_isSignNumber 0 = .ok (.iload_n 0, 1) := by decide +kernel
theorem d_Mo_isSignNumber_1 : decode c_Mo_isSignNumber 1 = .ok (.iconst 1, 1) := by decide +kernel
theorem d_Mo_isSignNumber_2 : decode c_Mo_isSignNumber 2 = .ok (.bipush 13, 2) := by decide +kernel
theorem d_Mo_isSignNumber_4 : decode c_Mo_isSignNumber 4 = .ok (.invokestatic 66, 3) := by decide +kernel
theorem d_Mo_isSignNumber_7 : decode c_Mo_isSignNumber 7 = .ok (.ifCond .ne 53, 3) := by decide +kernel
theorem d_Mo_isSignNumber_10 : decode c_Mo_isSignNumber 10 = .ok (.iload_n 0, 1) := by decide +kernel
theorem d_Mo_isSignNumber_11 : decode c_Mo_isSignNumber 11 = .ok (.bipush 16, 2) := by decide +kernel
theorem d_Mo_isSignNumber_13 : decode c_Mo_isSignNumber 13 = .ok (.bipush 23, 2) := by decide +kernel
theorem d_Mo_isSignNumber_15 : decode c_Mo_isSignNumber 15 = .ok (.invokestatic 66, 3) := by decide +kernel
theorem d_Mo_isSignNumber_18 : decode c_Mo_isSignNumber 18 = .ok (.ifCond .ne 42, 3) := by decide +kernel
theorem d_Mo_isSignNumber_21 : decode c_Mo_isSignNumber 21 = .ok (.iload_n 0, 1) := by decide +kernel
theorem d_Mo_isSignNumber_22 : decode c_Mo_isSignNumber 22 = .ok (.bipush 30, 2) := by decide +kernel
theorem d_Mo_isSignNumber_24 : decode c_Mo_isSignNumber 24 = .ok (.if_icmp .eq 36, 3) := by decide +kernel
theorem d_Mo_isSignNumber_27 : decode c_Mo_isSignNumber 27 = .ok (.iload_n 0, 1) := by decide +kernel
theorem d_Mo_isSignNumber_28 : decode c_Mo_isSignNumber 28 = .ok (.bipush 33, 2) := by decide +kernel
theorem d_Mo_isSignNumber_30 : decode c_Mo_isSignNumber 30 = .ok (.bipush 35, 2) := by decide +kernel
theorem d_Mo_isSignNumber_32 : decode c_Mo_isSignNumber 32 = .ok (.invokestatic 66, 3) := by decide +kernel
theorem d_Mo_isSignNumber_35 : decode c_Mo_isSignNumber 35 = .ok (.ifCond .ne 25, 3) := by decide +kernel
theorem d_Mo_isSignNumber_38 : decode c_Mo_isSignNumber 38 = .ok (.iload_n 0, 1) := by decide +kernel
theorem d_Mo_isSignNumber_39 : decode c_Mo_isSignNumber 39 = .ok (.bipush 46, 2) := by decide +kernel
theorem d_Mo_isSignNumber_41 : decode c_Mo_isSignNumber 41 = .ok (.bipush 53, 2) := by decide +kernel
theorem d_Mo_isSignNumber_43 : decode c_Mo_isSignNumber 43 = .ok (.invokestatic 66, 3) := by decide +kernel
theorem d_Mo_isSignNumber_46 : decode c_Mo_isSignNumber 46 = .ok (.ifCond .ne 14, 3) := by decide +kernel
theorem d_Mo_isSignNumber_49 : decode c_Mo_isSignNumber 49 = .ok (.iload_n 0, 1) := by decide +kernel
theorem d_Mo_isSignNumber_50 : decode c_Mo_isSignNumber 50 = .ok (.bipush 60, 2) := by decide +kernel
theorem d_Mo_isSignNumber_52 : decode c_Mo_isSignNumber 52 = .ok (.bipush 74, 2) := by decide +kernel
theorem d_Mo_isSignNumber_54 : decode c_Mo_isSignNumber 54 = .ok (.invokestatic 66, 3) := by decide +kernel
theorem d_Mo_isSignNumber_57 : decode c_Mo_isSignNumber 57 = .ok (.ifCond .eq 7, 3) := by decide +kernel
theorem d_Mo_isSignNumber_60 : decode c_Mo_isSignNumber 60 = .ok (.iconst 1, 1) := by decide +kernel
theorem d_Mo_isSignNumber_61 : decode c_Mo_isSignNumber 61 = .ok (.goto 4, 3) := by decide +kernel
theorem d_Mo_isSignNumber_64 : decode c_Mo_isSignNumber 64 = .ok (.iconst 0, 1) := by decide +kernel
theorem d_Mo_isSignNumber_65 : decode c_Mo_isSignNumber 65 = .ok (.ireturn, 1) := by decide +kernel
theorem d_Mo_token_0 : decode c_Mo_token 0 = .ok (.iload_n 1, 1) := by decide +kernel
theorem d_Mo_token_1 : decode c_Mo_token 1 = .ok (.iconst 1, 1) := by decide +kernel
theorem d_Mo_token_2 : decode c_Mo_token 2 = .ok (.iconst 5, 1) := by decide +kernel
theorem d_Mo_token_3 : decode c_Mo_token 3 = .ok (.invokestatic 66, 3) := by decide +kernel
theorem d_Mo_token_6 : decode c_Mo_token 6 = .ok (.istore 5, 2) := by decide +kernel
theorem d_Mo_token_8 : decode c_Mo_token 8 = .ok (.iload_n 1, 1) := by decide +kernel
theorem d_Mo_token_9 : decode c_Mo_token 9 = .ok (.iconst 1, 1) := by decide +kernel
theorem d_Mo_token_10 : decode c_Mo_token 10 = .ok (.if_icmp .ne 32, 3) := by decide +kernel
theorem d_Mo_token_13 : decode c_Mo_token 13 = .ok (.iload_n 2, 1) := by decide +kernel
theorem d_Mo_token_14 : decode c_Mo_token 14 = .ok (.iconst (-1), 1) := by decide +kernel
theorem d_Mo_token_15 : decode c_Mo_token 15 = .ok (.bipush 44, 2) := by decide +kernel
theorem d_Mo_token_17 : decode c_Mo_token 17 = .ok (.invokestatic 66, 3) := by decide +kernel
theorem d_Mo_token_20 : decode c_Mo_token 20 = .ok (.ifCond .ne 15, 3) := by decide +kernel
theorem d_Mo_token_23 : decode c_Mo_token 23 = .ok (.iload_n 2, 1) := by decide +kernel
theorem d_Mo_token_24 : decode c_Mo_token 24 = .ok (.bipush 100, 2) := by decide +kernel
theorem d_Mo_token_26 : decode c_Mo_token 26 = .ok (.sipush 144, 3) := by decide +kernel
theorem d_Mo_token_29 : decode c_Mo_token 29 = .ok (.invokestatic 66, 3) := by decide +kernel
theorem d_Mo_token_32 : decode c_Mo_token 32 = .ok (.ifCond .eq 7, 3) := by decide +kernel
theorem d_Mo_token_35 : decode c_Mo_token 35 = .ok (.iconst 1, 1) := by decide +kernel
theorem d_Mo_token_36 : decode c_Mo_token 36 = .ok (.goto 4, 3) := by decide +kernel
theorem d_Mo_token_39 : decode c_Mo_token 39 = .ok (.iconst 0, 1) := by decide +kernel
theorem d_Mo_token_40 : decode c_Mo_token 40 = .ok (.istore 5, 2) := by decide +kernel
theorem d_Mo_token_42 : decode c_Mo_token 42 = .ok (.iload_n 1, 1) := by decide +kernel
theorem d_Mo_token_43 : decode c_Mo_token 43 = .ok (.iconst 4, 1) := by decide +kernel
theorem d_Mo_token_44 : decode c_Mo_token 44 = .ok (.if_icmp .ne 9, 3) := by decide +kernel
theorem d_Mo_token_47 : decode c_Mo_token 47 = .ok (.iload_n 2, 1) := by decide +kernel
theorem d_Mo_token_48 : decode c_Mo_token 48 = .ok (.invokestatic 70, 3) := by decide +kernel
theorem d_Mo_token_51 : decode c_Mo_token 51 = .ok (.istore 5, 2) := by decide +kernel
theorem d_Mo_token_53 : decode c_Mo_token 53 = .ok (.iload_n 1, 1) := by decide +kernel
theorem d_Mo_token_54 : decode c_Mo_token 54 = .ok (.iconst 3, 1) := by decide +kernel
theorem d_Mo_token_55 : decode c_Mo_token 55 = .ok (.if_icmp .ne 11, 3) := by decide +kernel
theorem d_Mo_token_58 : decode c_Mo_token 58 = .ok (.iload_n 2, 1) := by decide +kernel
theorem d_Mo_token_59 : decode c_Mo_token 59 = .ok (.iconst 0, 1) := by decide +kernel
theorem d_Mo_token_60 : decode c_Mo_token 60 = .ok (.iconst 1, 1) := by decide +kernel
theorem d_Mo_token_61 : decode c_Mo_token 61 = .ok (.invokestatic 66, 3) := by decide +kernel
theorem d_Mo_token_64 : decode c_Mo_token 64 = .ok (.istore 5, 2) := by decide +kernel
theorem d_Mo_token_66 : decode c_Mo_token 66 = .ok (.iload_n 1, 1) := by decide +kernel
theorem d_Mo_token_67 : decode c_Mo_token 67 = .ok (.iconst 1, 1) := by decide +kernel
theorem d_Mo_token_68 : decode c_Mo_token 68 = .ok (.if_icmp .eq 13, 3) := by decide +kernel
theorem d_Mo_token_71 : decode c_Mo_token 71 = .ok (.iload_n 1, 1) := by decide +kernel
theorem d_Mo_token_72 : decode c_Mo_token 72 = .ok (.iconst 2, 1) := by decide +kernel
theorem d_Mo_token_73 : decode c_Mo_token 73 = .ok (.if_icmp .eq 8, 3) := by decide +kernel
theorem d_Mo_token_76 : decode c_Mo_token 76 = .ok (.iload_n 1, 1) := by decide +kernel
theorem d_Mo_token_77 : decode c_Mo_token 77 = .ok (.iconst 3, 1) := by decide +kernel
theorem d_Mo_token_78 : decode c_Mo_token 78 = .ok (.if_icmp .ne 26, 3) := by decide +kernel
theorem d_Mo_token_81 : decode c_Mo_token 81 = .ok (.iload 5, 2) := by decide +kernel
theorem d_Mo_token_83 : decode c_Mo_token 83 = .ok (.ifCond .eq 18, 3) := by decide +kernel
theorem d_Mo_token_86 : decode c_Mo_token 86 = .ok (.iload_n 3, 1) := by decide +kernel
theorem d_Mo_token_87 : decode c_Mo_token 87 = .ok (.iconst 0, 1) := by decide +kernel
theorem d_Mo_token_88 : decode c_Mo_token 88 = .ok (.sipush 999, 3) := by decide +kernel
theorem d_Mo_token_91 : decode c_Mo_token 91 = .ok (.invokestatic 66, 3) := by decide +kernel
theorem d_Mo_token_94 : decode c_Mo_token 94 = .ok (.ifCond .eq 7, 3) := by decide +kernel
theorem d_Mo_token_97 : decode c_Mo_token 97 = .ok (.iconst 1, 1) := by decide +kernel
theorem d_Mo_token_98 : decode c_Mo_token 98 = .ok (.goto 4, 3) := by decide +kernel
theorem d_Mo_token_101 : decode c_Mo_token 101 = .ok (.iconst 0, 1) := by decide +kernel
theorem d_Mo_token_102 : decode c_Mo_token 102 = .ok (.istore 5, 2) := by decide +kernel
theorem d_Mo_token_104 : decode c_Mo_token 104 = .ok (.aload_n 0, 1) := by decide +kernel
theorem d_Mo_token_105 : decode c_Mo_token 105 = .ok (.iload 5, 2) := by decide +kernel
theorem d_Mo_token_107 : decode c_Mo_token 107 = .ok (.ifCond .ne 7, 3) := by decide +kernel
theorem d_Mo_token_110 : decode c_Mo_token 110 = .ok (.iconst 1, 1) := by decide +kernel
theorem d_Mo_token_111 : decode c_Mo_token 111 = .ok (.goto 4, 3) := by decide +kernel
theorem d_Mo_token_114 : decode c_Mo_token 114 = .ok (.iconst 0, 1) := by decide +kernel
theorem d_Mo_token_115 : decode c_Mo_token 115 = .ok (.iload 5, 2) := by decide +kernel
theorem d_Mo_token_117 : decode c_Mo_token 117 = .ok (.ifCond .eq 17, 3) := by decide +kernel
theorem d_Mo_token_120 : decode c_Mo_token 120 = .ok (.aload_n 0, 1) := by decide +kernel
theorem d_Mo_token_121 : decode c_Mo_token 121 = .ok (.getfield 74, 3) := by decide +kernel
theorem d_Mo_token_124 : decode c_Mo_token 124 = .ok (.sipush 1000, 3) := by decide +kernel
theorem d_Mo_token_127 : decode c_Mo_token 127 = .ok (.if_icmp .ne 7, 3) := by decide +kernel
theorem d_Mo_token_130 : decode c_Mo_token 130 = .ok (.iconst 1, 1) := by decide +kernel
theorem d_Mo_token_131 : decode c_Mo_token 131 = .ok (.goto 4, 3) := by decide +kernel
theorem d_Mo_token_134 : decode c_Mo_token 134 = .ok (.iconst 0, 1) := by decide +kernel
theorem d_Mo_token_135 : decode c_Mo_token 135 = .ok (.invokevirtual 77, 3) := by decide +kernel
theorem d_Mo_token_138 : decode c_Mo_token 138 = .ok (.ifCond .eq 5, 3) := by decide +kernel
theorem d_Mo_token_141 : decode c_Mo_token 141 = .ok (.iconst 0, 1) := by decide +kernel
theorem d_Mo_token_142 : decode c_Mo_token 142 = .ok (.ireturn, 1) := by decide +kernel
theorem d_Mo_token_143 : decode c_Mo_token 143 = .ok (.aload_n 0, 1) := by decide +kernel
theorem d_Mo_token_144 : decode c_Mo_token 144 = .ok (.getfield 9, 3) := by decide +kernel
theorem d_Mo_token_147 : decode c_Mo_token 147 = .ok (.aload_n 0, 1) := by decide +kernel
theorem d_Mo_token_148 : decode c_Mo_token 148 = .ok (.getfield 74, 3) := by decide +kernel
theorem d_Mo_token_151 : decode c_Mo_token 151 = .ok (.iload_n 1, 1) := by decide +kernel
theorem d_Mo_token_152 : decode c_Mo_token 152 = .ok (.iastore, 1) := by decide +kernel
theorem d_Mo_token_153 : decode c_Mo_token 153 = .ok (.aload_n 0, 1) := by decide +kernel
theorem d_Mo_token_154 : decode c_Mo_token 154 = .ok (.getfield 13, 3) := by decide +kernel
theorem d_Mo_token_157 : decode c_Mo_token 157 = .ok (.aload_n 0, 1) := by decide +kernel
theorem d_Mo_token_158 : decode c_Mo_token 158 = .ok (.getfield 74, 3) := by decide +kernel
theorem d_Mo_token_161 : decode c_Mo_token 161 = .ok (.iload_n 2, 1) := by decide +kernel
theorem d_Mo_token_162 : decode c_Mo_token 162 = .ok (.iastore, 1) := by decide +kernel
theorem d_Mo_token_163 : decode c_Mo_token 163 = .ok (.aload_n 0, 1) := by decide +kernel
theorem d_Mo_token_164 : decode c_Mo_token 164 = .ok (.getfield 16, 3) := by decide +kernel
theorem d_Mo_token_167 : decode c_Mo_token 167 = .ok (.aload_n 0, 1) := by decide +kernel
theorem d_Mo_token_168 : decode c_Mo_token 168 = .ok (.getfield 74, 3) := by decide +kernel
theorem d_Mo_token_171 : decode c_Mo_token 171 = .ok (.iload_n 3, 1) := by decide +kernel
theorem d_Mo_token_172 : decode c_Mo_token 172 = .ok (.iastore, 1) := by decide +kernel
theorem d_Mo_token_173 : decode c_Mo_token 173 = .ok (.aload_n 0, 1) := by decide +kernel
theorem d_Mo_token_174 : decode c_Mo_token 174 = .ok (.getfield 19, 3) := by decide +kernel
theorem d_Mo_token_177 : decode c_Mo_token 177 = .ok (.aload_n 0, 1) := by decide +kernel
theorem d_Mo_token_178 : decode c_Mo_token 178 = .ok (.getfield 74, 3) := by decide +kernel
theorem d_Mo_token_181 : decode c_Mo_token 181 = .ok (.iload 4, 2) := by decide +kernel
theorem d_Mo_token_183 : decode c_Mo_token 183 = .ok (.bastore, 1) := by decide +kernel
theorem d_Mo_token_184 : decode c_Mo_token 184 = .ok (.aload_n 0, 1) := by decide +kernel
theorem d_Mo_token_185 : decode c_Mo_token 185 = .ok (.dup, 1) := by decide +kernel
theorem d_Mo_token_186 : decode c_Mo_token 186 = .ok (.getfield 74, 3) := by decide +kernel
theorem d_Mo_token_189 : decode c_Mo_token 189 = .ok (.iconst 1, 1) := by decide +kernel
theorem d_Mo_token_190 : decode c_Mo_token 190 = .ok (.iadd, 1) := by decide +kernel
theorem d_Mo_token_191 : decode c_Mo_token 191 = .ok (.putfield 74, 3) := by decide +kernel
theorem d_Mo_token_194 : decode c_Mo_token 194 = .ok (.aload_n 0, 1) := by decide +kernel
theorem d_Mo_token_195 : decode c_Mo_token 195 = .ok (.getfield 74, 3) := by decide +kernel
theorem d_Mo_token_198 : decode c_Mo_token 198 = .ok (.ireturn, 1) := by decide +kernel
theorem d_Mo_refuse_0 : decode c_Mo_refuse 0 = .ok (.aload_n 0, 1) := by decide +kernel
theorem d_Mo_refuse_1 : decode c_Mo_refuse 1 = .ok (.iload_n 1, 1) := by decide +kernel
theorem d_Mo_refuse_2 : decode c_Mo_refuse 2 = .ok (.putfield 23, 3) := by decide +kernel
theorem d_Mo_refuse_5 : decode c_Mo_refuse 5 = .ok (.new 81, 3) := by decide +kernel
theorem d_Mo_refuse_8 : decode c_Mo_refuse 8 = .ok (.dup, 1) := by decide +kernel
theorem d_Mo_refuse_9 : decode c_Mo_refuse 9 = .ok (.invokespecial 83, 3) := by decide +kernel
theorem d_Mo_refuse_12 : decode c_Mo_refuse 12 = .ok (.athrow, 1) := by decide +kernel
theorem d_Mo_isKind_0 : decode c_Mo_isKind 0 = .ok (.aload_n 0, 1) := by decide +kernel
theorem d_Mo_isKind_1 : decode c_Mo_isKind 1 = .ok (.getfield 84, 3) := by decide +kernel
theorem d_Mo_isKind_4 : decode c_Mo_isKind 4 = .ok (.aload_n 0, 1) := by decide +kernel
theorem d_Mo_isKind_5 : decode c_Mo_isKind 5 = .ok (.getfield 74, 3) := by decide +kernel
theorem d_Mo_isKind_8 : decode c_Mo_isKind 8 = .ok (.if_icmp .ge 20, 3) := by decide +kernel
theorem d_Mo_isKind_11 : decode c_Mo_isKind 11 = .ok (.aload_n 0, 1) := by decide +kernel
theorem d_Mo_isKind_12 : decode c_Mo_isKind 12 = .ok (.getfield 9, 3) := by decide +kernel
theorem d_Mo_isKind_15 : decode c_Mo_isKind 15 = .ok (.aload_n 0, 1) := by decide +kernel
theorem d_Mo_isKind_16 : decode c_Mo_isKind 16 = .ok (.getfield 84, 3) := by decide +kernel
theorem d_Mo_isKind_19 : decode c_Mo_isKind 19 = .ok (.iaload, 1) := by decide +kernel
theorem d_Mo_isKind_20 : decode c_Mo_isKind 20 = .ok (.iload_n 1, 1) := by decide +kernel
theorem d_Mo_isKind_21 : decode c_Mo_isKind 21 = .ok (.if_icmp .ne 7, 3) := by decide +kernel
theorem d_Mo_isKind_24 : decode c_Mo_isKind 24 = .ok (.iconst 1, 1) := by decide +kernel
theorem d_Mo_isKind_25 : decode c_Mo_isKind 25 = .ok (.goto 4, 3) := by decide +kernel
theorem d_Mo_isKind_28 : decode c_Mo_isKind 28 = .ok (.iconst 0, 1) := by decide +kernel
theorem d_Mo_isKind_29 : decode c_Mo_isKind 29 = .ok (.ireturn, 1) := by decide +kernel
theorem d_Mo_isSign_0 : decode c_Mo_isSign 0 = .ok (.aload_n 0, 1) := by decide +kernel
theorem d_Mo_isSign_1 : decode c_Mo_isSign 1 = .ok (.iconst 4, 1) := by decide +kernel
theorem d_Mo_isSign_2 : decode c_Mo_isSign 2 = .ok (.invokevirtual 87, 3) := by decide +kernel
theorem d_Mo_isSign_5 : decode c_Mo_isSign 5 = .ok (.ifCond .eq 20, 3) := by decide +kernel
theorem d_Mo_isSign_8 : decode c_Mo_isSign 8 = .ok (.aload_n 0, 1) := by decide +kernel
theorem d_Mo_isSign_9 : decode c_Mo_isSign 9 = .ok (.getfield 13, 3) := by decide +kernel
theorem d_Mo_isSign_12 : decode c_Mo_isSign 12 = .ok (.aload_n 0, 1) := by decide +kernel
theorem d_Mo_isSign_13 : decode c_Mo_isSign 13 = .ok (.getfield 84, 3) := by decide +kernel
theorem d_Mo_isSign_16 : decode c_Mo_isSign 16 = .ok (.iaload, 1) := by decide +kernel
theorem d_Mo_isSign_17 : decode c_Mo_isSign 17 = .ok (.iload_n 1, 1) := by decide +kernel
theorem d_Mo_isSign_18 : decode c_Mo_isSign 18 = .ok (.if_icmp .ne 7, 3) := by decide +kernel
theorem d_Mo_isSign_21 : decode c_Mo_isSign 21 = .ok (.iconst 1, 1) := by decide +kernel
theorem d_Mo_isSign_22 : decode c_Mo_isSign 22 = .ok (.goto 4, 3) := by decide +kernel
theorem d_Mo_isSign_25 : decode c_Mo_isSign 25 = .ok (.iconst 0, 1) := by decide +kernel
theorem d_Mo_isSign_26 : decode c_Mo_isSign 26 = .ok (.ireturn, 1) := by decide +kernel
theorem d_Mo_isWord_0 : decode c_Mo_isWord 0 = .ok (.aload_n 0, 1) := by decide +kernel
theorem d_Mo_isWord_1 : decode c_Mo_isWord 1 = .ok (.iconst 1, 1) := by decide +kernel
theorem d_Mo_isWord_2 : decode c_Mo_isWord 2 = .ok (.invokevirtual 87, 3) := by decide +kernel
theorem d_Mo_isWord_5 : decode c_Mo_isWord 5 = .ok (.ifCond .eq 20, 3) := by decide +kernel
theorem d_Mo_isWord_8 : decode c_Mo_isWord 8 = .ok (.aload_n 0, 1) := by decide +kernel
theorem d_Mo_isWord_9 : decode c_Mo_isWord 9 = .ok (.getfield 13, 3) := by decide +kernel
theorem d_Mo_isWord_12 : decode c_Mo_isWord 12 = .ok (.aload_n 0, 1) := by decide +kernel
theorem d_Mo_isWord_13 : decode c_Mo_isWord 13 = .ok (.getfield 84, 3) := by decide +kernel
theorem d_Mo_isWord_16 : decode c_Mo_isWord 16 = .ok (.iaload, 1) := by decide +kernel
theorem d_Mo_isWord_17 : decode c_Mo_isWord 17 = .ok (.iload_n 1, 1) := by decide +kernel
theorem d_Mo_isWord_18 : decode c_Mo_isWord 18 = .ok (.if_icmp .ne 7, 3) := by decide +kernel
theorem d_Mo_isWord_21 : decode c_Mo_isWord 21 = .ok (.iconst 1, 1) := by decide +kernel
theorem d_Mo_isWord_22 : decode c_Mo_isWord 22 = .ok (.goto 4, 3) := by decide +kernel
theorem d_Mo_isWord_25 : decode c_Mo_isWord 25 = .ok (.iconst 0, 1) := by decide +kernel
theorem d_Mo_isWord_26 : decode c_Mo_isWord 26 = .ok (.ireturn, 1) := by decide +kernel
theorem d_Mo_expect_0 : decode c_Mo_expect 0 = .ok (.aload_n 0, 1) := by decide +kernel
theorem d_Mo_expect_1 : decode c_Mo_expect 1 = .ok (.iload_n 1, 1) := by decide +kernel
theorem d_Mo_expect_2 : decode c_Mo_expect 2 = .ok (.invokevirtual 90, 3) := by decide +kernel
theorem d_Mo_expect_5 : decode c_Mo_expect 5 = .ok (.ifCond .ne 11, 3) := by decide +kernel
theorem d_Mo_expect_8 : decode c_Mo_expect 8 = .ok (.aload_n 0, 1) := by decide +kernel
theorem d_Mo_expect_9 : decode c_Mo_expect 9 = .ok (.aload_n 0, 1) := by decide +kernel
theorem d_Mo_expect_10 : decode c_Mo_expect 10 = .ok (.getfield 84, 3) := by decide +kernel
theorem d_Mo_expect_13 : decode c_Mo_expect 13 = .ok (.invokevirtual 93, 3) := by decide +kernel
theorem d_Mo_expect_16 : decode c_Mo_expect 16 = .ok (.aload_n 0, 1) := by decide +kernel
theorem d_Mo_expect_17 : decode c_Mo_expect 17 = .ok (.dup, 1) := by decide +kernel
theorem d_Mo_expect_18 : decode c_Mo_expect 18 = .ok (.getfield 84, 3) := by decide +kernel
theorem d_Mo_expect_21 : decode c_Mo_expect 21 = .ok (.iconst 1, 1) := by decide +kernel
theorem d_Mo_expect_22 : decode c_Mo_expect 22 = .ok (.iadd, 1) := by decide +kernel
theorem d_Mo_expect_23 : decode c_Mo_expect 23 = .ok (.putfield 84, 3) := by decide +kernel
theorem d_Mo_expect_26 : decode c_Mo_expect 26 = .ok (.return_, 1) := by decide +kernel
theorem d_Mo_isReserved_0 : decode c_Mo_isReserved 0 = .ok (.aload_n 0, 1) := by decide +kernel
theorem d_Mo_isReserved_1 : decode c_Mo_isReserved 1 = .ok (.getfield 13, 3) := by decide +kernel
theorem d_Mo_isReserved_4 : decode c_Mo_isReserved 4 = .ok (.aload_n 0, 1) := by decide +kernel
theorem d_Mo_isReserved_5 : decode c_Mo_isReserved 5 = .ok (.getfield 84, 3) := by decide +kernel
theorem d_Mo_isReserved_8 : decode c_Mo_isReserved 8 = .ok (.iaload, 1) := by decide +kernel
theorem d_Mo_isReserved_9 : decode c_Mo_isReserved 9 = .ok (.ifCond .ge 7, 3) := by decide +kernel
theorem d_Mo_isReserved_12 : decode c_Mo_isReserved 12 = .ok (.iconst (-1), 1) := by decide +kernel
theorem d_Mo_isReserved_13 : decode c_Mo_isReserved 13 = .ok (.goto 15, 3) := by decide +kernel
theorem d_Mo_isReserved_16 : decode c_Mo_isReserved 16 = .ok (.aload_n 0, 1) := by decide +kernel
theorem d_Mo_isReserved_17 : decode c_Mo_isReserved 17 = .ok (.getfield 13, 3) := by decide +kernel
theorem d_Mo_isReserved_20 : decode c_Mo_isReserved 20 = .ok (.aload_n 0, 1) := by decide +kernel
theorem d_Mo_isReserved_21 : decode c_Mo_isReserved 21 = .ok (.getfield 84, 3) := by decide +kernel
theorem d_Mo_isReserved_24 : decode c_Mo_isReserved 24 = .ok (.iaload, 1) := by decide +kernel
theorem d_Mo_isReserved_25 : decode c_Mo_isReserved 25 = .ok (.bipush 100, 2) := by decide +kernel
theorem d_Mo_isReserved_27 : decode c_Mo_isReserved 27 = .ok (.irem, 1) := by decide +kernel
theorem d_Mo_isReserved_28 : decode c_Mo_isReserved 28 = .ok (.istore_n 2, 1) := by decide +kernel
theorem d_Mo_isReserved_29 : decode c_Mo_isReserved 29 = .ok (.iload_n 2, 1) := by decide +kernel
theorem d_Mo_isReserved_30 : decode c_Mo_isReserved 30 = .ok (.iconst 0, 1) := by decide +kernel
theorem d_Mo_isReserved_31 : decode c_Mo_isReserved 31 = .ok (.bipush 35, 2) := by decide +kernel
theorem d_Mo_isReserved_33 : decode c_Mo_isReserved 33 = .ok (.invokestatic 66, 3) := by decide +kernel
theorem d_Mo_isReserved_36 : decode c_Mo_isReserved 36 = .ok (.ifCond .ne 13, 3) := by decide +kernel
theorem d_Mo_isReserved_39 : decode c_Mo_isReserved 39 = .ok (.iload_n 1, 1) := by decide +kernel
theorem d_Mo_isReserved_40 : decode c_Mo_isReserved 40 = .ok (.ifCond .eq 13, 3) := by decide +kernel
theorem d_Mo_isReserved_43 : decode c_Mo_isReserved 43 = .ok (.iload_n 2, 1) := by decide +kernel
theorem d_Mo_isReserved_44 : decode c_Mo_isReserved 44 = .ok (.bipush 35, 2) := by decide +kernel
theorem d_Mo_isReserved_46 : decode c_Mo_isReserved 46 = .ok (.if_icmp .le 7, 3) := by decide +kernel
theorem d_Mo_isReserved_49 : decode c_Mo_isReserved 49 = .ok (.iconst 1, 1) := by decide +kernel
theorem d_Mo_isReserved_50 : decode c_Mo_isReserved 50 = .ok (.goto 4, 3) := by decide +kernel
theorem d_Mo_isReserved_53 : decode c_Mo_isReserved 53 = .ok (.iconst 0, 1) := by decide +kernel
theorem d_Mo_isReserved_54 : decode c_Mo_isReserved 54 = .ok (.ireturn, 1) := by decide +kernel
theorem d_Mo_identifier_0 : decode c_Mo_identifier 0 = .ok (.aload_n 0, 1) := by decide +kernel
theorem d_Mo_identifier_1 : decode c_Mo_identifier 1 = .ok (.iconst 1, 1) := by decide +kernel
theorem d_Mo_identifier_2 : decode c_Mo_identifier 2 = .ok (.invokevirtual 87, 3) := by decide +kernel
theorem d_Mo_identifier_5 : decode c_Mo_identifier 5 = .ok (.ifCond .eq 14, 3) := by decide +kernel
theorem d_Mo_identifier_8 : decode c_Mo_identifier 8 = .ok (.aload_n 0, 1) := by decide +kernel
theorem d_Mo_identifier_9 : decode c_Mo_identifier 9 = .ok (.aload_n 0, 1) := by decide +kernel
theorem d_Mo_identifier_10 : decode c_Mo_identifier 10 = .ok (.getfield 97, 3) := by decide +kernel
theorem d_Mo_identifier_13 : decode c_Mo_identifier 13 = .ok (.invokevirtual 101, 3) := by decide +kernel
theorem d_Mo_identifier_16 : decode c_Mo_identifier 16 = .ok (.ifCond .eq 11, 3) := by decide +kernel
theorem d_Mo_identifier_19 : decode c_Mo_identifier 19 = .ok (.aload_n 0, 1) := by decide +kernel
theorem d_Mo_identifier_20 : decode c_Mo_identifier 20 = .ok (.aload_n 0, 1) := by decide +kernel
theorem d_Mo_identifier_21 : decode c_Mo_identifier 21 = .ok (.getfield 84, 3) := by decide +kernel
theorem d_Mo_identifier_24 : decode c_Mo_identifier 24 = .ok (.invokevirtual 93, 3) := by decide +kernel
theorem d_Mo_identifier_27 : decode c_Mo_identifier 27 = .ok (.aload_n 0, 1) := by decide +kernel
theorem d_Mo_identifier_28 : decode c_Mo_identifier 28 = .ok (.dup, 1) := by decide +kernel
theorem d_Mo_identifier_29 : decode c_Mo_identifier 29 = .ok (.getfield 84, 3) := by decide +kernel
theorem d_Mo_identifier_32 : decode c_Mo_identifier 32 = .ok (.iconst 1, 1) := by decide +kernel
theorem d_Mo_identifier_33 : decode c_Mo_identifier 33 = .ok (.iadd, 1) := by decide +kernel
theorem d_Mo_identifier_34 : decode c_Mo_identifier 34 = .ok (.putfield 84, 3) := by decide +kernel
theorem d_Mo_identifier_37 : decode c_Mo_identifier 37 = .ok (.aload_n 0, 1) := by decide +kernel
theorem d_Mo_identifier_38 : decode c_Mo_identifier 38 = .ok (.getfield 16, 3) := by decide +kernel
theorem d_Mo_identifier_41 : decode c_Mo_identifier 41 = .ok (.aload_n 0, 1) := by decide +kernel
theorem d_Mo_identifier_42 : decode c_Mo_identifier 42 = .ok (.getfield 84, 3) := by decide +kernel
theorem d_Mo_identifier_45 : decode c_Mo_identifier 45 = .ok (.iconst 1, 1) := by decide +kernel
theorem d_Mo_identifier_46 : decode c_Mo_identifier 46 = .ok (.isub, 1) := by decide +kernel
theorem d_Mo_identifier_47 : decode c_Mo_identifier 47 = .ok (.iaload, 1) := by decide +kernel
theorem d_Mo_identifier_48 : decode c_Mo_identifier 48 = .ok (.ireturn, 1) := by decide +kernel
theorem d_Mo_declared_0 : decode c_Mo_declared 0 = .ok (.aload_n 0, 1) := by decide +kernel
theorem d_Mo_declared_1 : decode c_Mo_declared 1 = .ok (.iconst 1, 1) := by decide +kernel
theorem d_Mo_declared_2 : decode c_Mo_declared 2 = .ok (.invokevirtual 87, 3) := by decide +kernel
theorem d_Mo_declared_5 : decode c_Mo_declared 5 = .ok (.ifCond .eq 28, 3) := by decide +kernel
theorem d_Mo_declared_8 : decode c_Mo_declared 8 = .ok (.aload_n 0, 1) := by decide +kernel
theorem d_Mo_declared_9 : decode c_Mo_declared 9 = .ok (.iconst 1, 1) := by decide +kernel
theorem d_Mo_declared_10 : decode c_Mo_declared 10 = .ok (.invokevirtual 101, 3) := by decide +kernel
theorem d_Mo_declared_13 : decode c_Mo_declared 13 = .ok (.ifCond .ne 16, 3) := by decide +kernel
theorem d_Mo_declared_16 : decode c_Mo_declared 16 = .ok (.aload_n 0, 1) := by decide +kernel
theorem d_Mo_declared_17 : decode c_Mo_declared 17 = .ok (.getfield 16, 3) := by decide +kernel
theorem d_Mo_declared_20 : decode c_Mo_declared 20 = .ok (.aload_n 0, 1) := by decide +kernel
theorem d_Mo_declared_21 : decode c_Mo_declared 21 = .ok (.getfield 84, 3) := by decide +kernel
theorem d_Mo_declared_24 : decode c_Mo_declared 24 = .ok (.iaload, 1) := by decide +kernel
theorem d_Mo_declared_25 : decode c_Mo_declared 25 = .ok (.iconst 2, 1) := by decide +kernel
theorem d_Mo_declared_26 : decode c_Mo_declared 26 = .ok (.if_icmp .ge 7, 3) := by decide +kernel
theorem d_Mo_declared_29 : decode c_Mo_declared 29 = .ok (.iconst 1, 1) := by decide +kernel
theorem d_Mo_declared_30 : decode c_Mo_declared 30 = .ok (.goto 4, 3) := by decide +kernel
theorem d_Mo_declared_33 : decode c_Mo_declared 33 = .ok (.iconst 0, 1) := by decide +kernel
theorem d_Mo_declared_34 : decode c_Mo_declared 34 = .ok (.istore_n 1, 1) := by decide +kernel
theorem d_Mo_declared_35 : decode c_Mo_declared 35 = .ok (.aload_n 0, 1) := by decide +kernel
theorem d_Mo_declared_36 : decode c_Mo_declared 36 = .ok (.invokevirtual 105, 3) := by decide +kernel
theorem d_Mo_declared_39 : decode c_Mo_declared 39 = .ok (.istore_n 2, 1) := by decide +kernel
theorem d_Mo_declared_40 : decode c_Mo_declared 40 = .ok (.aload_n 0, 1) := by decide +kernel
theorem d_Mo_declared_41 : decode c_Mo_declared 41 = .ok (.getfield 97, 3) := by decide +kernel
theorem d_Mo_declared_44 : decode c_Mo_declared 44 = .ok (.ifCond .eq 18, 3) := by decide +kernel
theorem d_Mo_declared_47 : decode c_Mo_declared 47 = .ok (.iload_n 2, 1) := by decide +kernel
theorem d_Mo_declared_48 : decode c_Mo_declared 48 = .ok (.iconst 2, 1) := by decide +kernel
theorem d_Mo_declared_49 : decode c_Mo_declared 49 = .ok (.if_icmp .ge 13, 3) := by decide +kernel
theorem d_Mo_declared_52 : decode c_Mo_declared 52 = .ok (.aload_n 0, 1) := by decide +kernel
theorem d_Mo_declared_53 : decode c_Mo_declared 53 = .ok (.aload_n 0, 1) := by decide +kernel
theorem d_Mo_declared_54 : decode c_Mo_declared 54 = .ok (.getfield 84, 3) := by decide +kernel
theorem d_Mo_declared_57 : decode c_Mo_declared 57 = .ok (.iconst 1, 1) := by decide +kernel
theorem d_Mo_declared_58 : decode c_Mo_declared 58 = .ok (.isub, 1) := by decide +kernel
theorem d_Mo_declared_59 : decode c_Mo_declared 59 = .ok (.invokevirtual 93, 3) := by decide +kernel
theorem d_Mo_declared_62 : decode c_Mo_declared 62 = .ok (.aload_n 0, 1) := by decide +kernel
theorem d_Mo_declared_63 : decode c_Mo_declared 63 = .ok (.aload_n 0, 1) := by decide +kernel
theorem d_Mo_declared_64 : decode c_Mo_declared 64 = .ok (.getfield 109, 3) := by decide +kernel
theorem d_Mo_declared_67 : decode c_Mo_declared 67 = .ok (.ifCond .ne 7, 3) := by decide +kernel
theorem d_Mo_declared_70 : decode c_Mo_declared 70 = .ok (.iload_n 1, 1) := by decide +kernel
theorem d_Mo_declared_71 : decode c_Mo_declared 71 = .ok (.ifCond .eq 7, 3) := by decide +kernel
theorem d_Mo_declared_74 : decode c_Mo_declared 74 = .ok (.iconst 1, 1) := by decide +kernel
theorem d_Mo_declared_75 : decode c_Mo_declared 75 = .ok (.goto 4, 3) := by decide +kernel
theorem d_Mo_declared_78 : decode c_Mo_declared 78 = .ok (.iconst 0, 1) := by decide +kernel
theorem d_Mo_declared_79 : decode c_Mo_declared 79 = .ok (.putfield 109, 3) := by decide +kernel
theorem d_Mo_declared_82 : decode c_Mo_declared 82 = .ok (.iload_n 2, 1) := by decide +kernel
theorem d_Mo_declared_83 : decode c_Mo_declared 83 = .ok (.ireturn, 1) := by decide +kernel
theorem d_Mo_semicolon_0 : decode c_Mo_semicolon 0 = .ok (.aload_n 0, 1) := by decide +kernel
theorem d_Mo_semicolon_1 : decode c_Mo_semicolon 1 = .ok (.bipush 67, 2) := by decide +kernel
theorem d_Mo_semicolon_3 : decode c_Mo_semicolon 3 = .ok (.invokevirtual 90, 3) := by decide +kernel
theorem d_Mo_semicolon_6 : decode c_Mo_semicolon 6 = .ok (.ifCond .eq 16, 3) := by decide +kernel
theorem d_Mo_semicolon_9 : decode c_Mo_semicolon 9 = .ok (.aload_n 0, 1) := by decide +kernel
theorem d_Mo_semicolon_10 : decode c_Mo_semicolon 10 = .ok (.dup, 1) := by decide +kernel
theorem d_Mo_semicolon_11 : decode c_Mo_semicolon 11 = .ok (.getfield 84, 3) := by decide +kernel
theorem d_Mo_semicolon_14 : decode c_Mo_semicolon 14 = .ok (.iconst 1, 1) := by decide +kernel
theorem d_Mo_semicolon_15 : decode c_Mo_semicolon 15 = .ok (.iadd, 1) := by decide +kernel
theorem d_Mo_semicolon_16 : decode c_Mo_semicolon 16 = .ok (.putfield 84, 3) := by decide +kernel
theorem d_Mo_semicolon_19 : decode c_Mo_semicolon 19 = .ok (.goto 43, 3) := by decide +kernel
theorem d_Mo_semicolon_22 : decode c_Mo_semicolon 22 = .ok (.aload_n 0, 1) := by decide +kernel
theorem d_Mo_semicolon_23 : decode c_Mo_semicolon 23 = .ok (.getfield 84, 3) := by decide +kernel
theorem d_Mo_semicolon_26 : decode c_Mo_semicolon 26 = .ok (.aload_n 0, 1) := by decide +kernel
theorem d_Mo_semicolon_27 : decode c_Mo_semicolon 27 = .ok (.getfield 74, 3) := by decide +kernel
theorem d_Mo_semicolon_30 : decode c_Mo_semicolon 30 = .ok (.if_icmp .ge 32, 3) := by decide +kernel
theorem d_Mo_semicolon_33 : decode c_Mo_semicolon 33 = .ok (.aload_n 0, 1) := by decide +kernel
theorem d_Mo_semicolon_34 : decode c_Mo_semicolon 34 = .ok (.bipush 65, 2) := by decide +kernel
theorem d_Mo_semicolon_36 : decode c_Mo_semicolon 36 = .ok (.invokevirtual 90, 3) := by decide +kernel
theorem d_Mo_semicolon_39 : decode c_Mo_semicolon 39 = .ok (.ifCond .ne 23, 3) := by decide +kernel
theorem d_Mo_semicolon_42 : decode c_Mo_semicolon 42 = .ok (.aload_n 0, 1) := by decide +kernel
theorem d_Mo_semicolon_43 : decode c_Mo_semicolon 43 = .ok (.getfield 19, 3) := by decide +kernel
theorem d_Mo_semicolon_46 : decode c_Mo_semicolon 46 = .ok (.aload_n 0, 1) := by decide +kernel
theorem d_Mo_semicolon_47 : decode c_Mo_semicolon 47 = .ok (.getfield 84, 3) := by decide +kernel
theorem d_Mo_semicolon_50 : decode c_Mo_semicolon 50 = .ok (.baload, 1) := by decide +kernel
theorem d_Mo_semicolon_51 : decode c_Mo_semicolon 51 = .ok (.ifCond .ne 11, 3) := by decide +kernel
theorem d_Mo_semicolon_54 : decode c_Mo_semicolon 54 = .ok (.aload_n 0, 1) := by decide +kernel
theorem d_Mo_semicolon_55 : decode c_Mo_semicolon 55 = .ok (.aload_n 0, 1) := by decide +kernel
theorem d_Mo_semicolon_56 : decode c_Mo_semicolon 56 = .ok (.getfield 84, 3) := by decide +kernel
theorem d_Mo_semicolon_59 : decode c_Mo_semicolon 59 = .ok (.invokevirtual 93, 3) := by decide +kernel
theorem d_Mo_semicolon_62 : decode c_Mo_semicolon 62 = .ok (.return_, 1) := by decide +kernel
theorem d_Mo_make_0 : decode c_Mo_make 0 = .ok (.aload_n 0, 1) := by decide +kernel
theorem d_Mo_make_1 : decode c_Mo_make 1 = .ok (.getfield 27, 3) := by decide +kernel
theorem d_Mo_make_4 : decode c_Mo_make 4 = .ok (.aload_n 0, 1) := by decide +kernel
theorem d_Mo_make_5 : decode c_Mo_make 5 = .ok (.getfield 112, 3) := by decide +kernel
theorem d_Mo_make_8 : decode c_Mo_make 8 = .ok (.iload_n 1, 1) := by decide +kernel
theorem d_Mo_make_9 : decode c_Mo_make 9 = .ok (.iastore, 1) := by decide +kernel
theorem d_Mo_make_10 : decode c_Mo_make 10 = .ok (.aload_n 0, 1) := by decide +kernel
theorem d_Mo_make_11 : decode c_Mo_make 11 = .ok (.getfield 30, 3) := by decide +kernel
theorem d_Mo_make_14 : decode c_Mo_make 14 = .ok (.aload_n 0, 1) := by decide +kernel
theorem d_Mo_make_15 : decode c_Mo_make 15 = .ok (.getfield 112, 3) := by decide +kernel
theorem d_Mo_make_18 : decode c_Mo_make 18 = .ok (.iload_n 2, 1) := by decide +kernel
theorem d_Mo_make_19 : decode c_Mo_make 19 = .ok (.iastore, 1) := by decide +kernel
theorem d_Mo_make_20 : decode c_Mo_make 20 = .ok (.aload_n 0, 1) := by decide +kernel
theorem d_Mo_make_21 : decode c_Mo_make 21 = .ok (.getfield 33, 3) := by decide +kernel
theorem d_Mo_make_24 : decode c_Mo_make 24 = .ok (.aload_n 0, 1) := by decide +kernel
theorem d_Mo_make_25 : decode c_Mo_make 25 = .ok (.getfield 112, 3) := by decide +kernel
theorem d_Mo_make_28 : decode c_Mo_make 28 = .ok (.iload_n 3, 1) := by decide +kernel
theorem d_Mo_make_29 : decode c_Mo_make 29 = .ok (.iastore, 1) := by decide +kernel
theorem d_Mo_make_30 : decode c_Mo_make 30 = .ok (.aload_n 0, 1) := by decide +kernel
theorem d_Mo_make_31 : decode c_Mo_make 31 = .ok (.getfield 36, 3) := by decide +kernel
theorem d_Mo_make_34 : decode c_Mo_make 34 = .ok (.aload_n 0, 1) := by decide +kernel
theorem d_Mo_make_35 : decode c_Mo_make 35 = .ok (.getfield 112, 3) := by decide +kernel
theorem d_Mo_make_38 : decode c_Mo_make 38 = .ok (.iconst (-1), 1) := by decide +kernel
theorem d_Mo_make_39 : decode c_Mo_make 39 = .ok (.iastore, 1) := by decide +kernel
theorem d_Mo_make_40 : decode c_Mo_make 40 = .ok (.aload_n 0, 1) := by decide +kernel
theorem d_Mo_make_41 : decode c_Mo_make 41 = .ok (.getfield 39, 3) := by decide +kernel
theorem d_Mo_make_44 : decode c_Mo_make 44 = .ok (.aload_n 0, 1) := by decide +kernel
theorem d_Mo_make_45 : decode c_Mo_make 45 = .ok (.getfield 112, 3) := by decide +kernel
theorem d_Mo_make_48 : decode c_Mo_make 48 = .ok (.iconst (-1), 1) := by decide +kernel
theorem d_Mo_make_49 : decode c_Mo_make 49 = .ok (.iastore, 1) := by decide +kernel
theorem d_Mo_make_50 : decode c_Mo_make 50 = .ok (.aload_n 0, 1) := by decide +kernel
theorem d_Mo_make_51 : decode c_Mo_make 51 = .ok (.getfield 42, 3) := by decide +kernel
theorem d_Mo_make_54 : decode c_Mo_make 54 = .ok (.aload_n 0, 1) := by decide +kernel
theorem d_Mo_make_55 : decode c_Mo_make 55 = .ok (.getfield 112, 3) := by decide +kernel
theorem d_Mo_make_58 : decode c_Mo_make 58 = .ok (.iconst (-1), 1) := by decide +kernel
theorem d_Mo_make_59 : decode c_Mo_make 59 = .ok (.iastore, 1) := by decide +kernel
theorem d_Mo_make_60 : decode c_Mo_make 60 = .ok (.aload_n 0, 1) := by decide +kernel
theorem d_Mo_make_61 : decode c_Mo_make 61 = .ok (.dup, 1) := by decide +kernel
theorem d_Mo_make_62 : decode c_Mo_make 62 = .ok (.getfield 112, 3) := by decide +kernel
theorem d_Mo_make_65 : decode c_Mo_make 65 = .ok (.iconst 1, 1) := by decide +kernel
theorem d_Mo_make_66 : decode c_Mo_make 66 = .ok (.iadd, 1) := by decide +kernel
theorem d_Mo_make_67 : decode c_Mo_make 67 = .ok (.putfield 112, 3) := by decide +kernel
theorem d_Mo_make_70 : decode c_Mo_make 70 = .ok (.aload_n 0, 1) := by decide +kernel
theorem d_Mo_make_71 : decode c_Mo_make 71 = .ok (.getfield 112, 3) := by decide +kernel
theorem d_Mo_make_74 : decode c_Mo_make 74 = .ok (.iconst 1, 1) := by decide +kernel
theorem d_Mo_make_75 : decode c_Mo_make 75 = .ok (.isub, 1) := by decide +kernel
theorem d_Mo_make_76 : decode c_Mo_make 76 = .ok (.ireturn, 1) := by decide +kernel
theorem d_Mo_hang_0 : decode c_Mo_hang 0 = .ok (.aload_n 0, 1) := by decide +kernel
theorem d_Mo_hang_1 : decode c_Mo_hang 1 = .ok (.getfield 36, 3) := by decide +kernel
theorem d_Mo_hang_4 : decode c_Mo_hang 4 = .ok (.iload_n 1, 1) := by decide +kernel
theorem d_Mo_hang_5 : decode c_Mo_hang 5 = .ok (.iaload, 1) := by decide +kernel
theorem d_Mo_hang_6 : decode c_Mo_hang 6 = .ok (.ifCond .ge 13, 3) := by decide +kernel
theorem d_Mo_hang_9 : decode c_Mo_hang 9 = .ok (.aload_n 0, 1) := by decide +kernel
theorem d_Mo_hang_10 : decode c_Mo_hang 10 = .ok (.getfield 36, 3) := by decide +kernel
theorem d_Mo_hang_13 : decode c_Mo_hang 13 = .ok (.iload_n 1, 1) := by decide +kernel
theorem d_Mo_hang_14 : decode c_Mo_hang 14 = .ok (.iload_n 2, 1) := by decide +kernel
theorem d_Mo_hang_15 : decode c_Mo_hang 15 = .ok (.iastore, 1) := by decide +kernel
theorem d_Mo_hang_16 : decode c_Mo_hang 16 = .ok (.goto 15, 3) := by decide +kernel
theorem d_Mo_hang_19 : decode c_Mo_hang 19 = .ok (.aload_n 0, 1) := by decide +kernel
theorem d_Mo_hang_20 : decode c_Mo_hang 20 = .ok (.getfield 42, 3) := by decide +kernel
theorem d_Mo_hang_23 : decode c_Mo_hang 23 = .ok (.aload_n 0, 1) := by decide +kernel
theorem d_Mo_hang_24 : decode c_Mo_hang 24 = .ok (.getfield 39, 3) := by decide +kernel
theorem d_Mo_hang_27 : decode c_Mo_hang 27 = .ok (.iload_n 1, 1) := by decide +kernel
theorem d_Mo_hang_28 : decode c_Mo_hang 28 = .ok (.iaload, 1) := by decide +kernel
theorem d_Mo_hang_29 : decode c_Mo_hang 29 = .ok (.iload_n 2, 1) := by decide +kernel
theorem d_Mo_hang_30 : decode c_Mo_hang 30 = .ok (.iastore, 1) := by decide +kernel
theorem d_Mo_hang_31 : decode c_Mo_hang 31 = .ok (.aload_n 0, 1) := by decide +kernel
theorem d_Mo_hang_32 : decode c_Mo_hang 32 = .ok (.getfield 39, 3) := by decide +kernel
theorem d_Mo_hang_35 : decode c_Mo_hang 35 = .ok (.iload_n 1, 1) := by decide +kernel
theorem d_Mo_hang_36 : decode c_Mo_hang 36 = .ok (.iload_n 2, 1) := by decide +kernel
theorem d_Mo_hang_37 : decode c_Mo_hang 37 = .ok (.iastore, 1) := by decide +kernel
theorem d_Mo_hang_38 : decode c_Mo_hang 38 = .ok (.return_, 1) := by decide +kernel
theorem d_Mo_none_0 : decode c_Mo_none 0 = .ok (.aload_n 0, 1) := by decide +kernel
theorem d_Mo_none_1 : decode c_Mo_none 1 = .ok (.iload_n 1, 1) := by decide +kernel
theorem d_Mo_none_2 : decode c_Mo_none 2 = .ok (.aload_n 0, 1) := by decide +kernel
theorem d_Mo_none_3 : decode c_Mo_none 3 = .ok (.bipush 59, 2) := by decide +kernel
theorem d_Mo_none_5 : decode c_Mo_none 5 = .ok (.iconst 0, 1) := by decide +kernel
theorem d_Mo_none_6 : decode c_Mo_none 6 = .ok (.aload_n 0, 1) := by decide +kernel
theorem d_Mo_none_7 : decode c_Mo_none 7 = .ok (.getfield 84, 3) := by decide +kernel
theorem d_Mo_none_10 : decode c_Mo_none 10 = .ok (.invokevirtual 115, 3) := by decide +kernel
theorem d_Mo_none_13 : decode c_Mo_none 13 = .ok (.invokevirtual 119, 3) := by decide +kernel
theorem d_Mo_none_16 : decode c_Mo_none 16 = .ok (.return_, 1) := by decide +kernel
theorem d_Mo_deep_0 : decode c_Mo_deep 0 = .ok (.iload_n 1, 1) := by decide +kernel
theorem d_Mo_deep_1 : decode c_Mo_deep 1 = .ok (.bipush 100, 2) := by decide +kernel
theorem d_Mo_deep_3 : decode c_Mo_deep 3 = .ok (.if_icmp .le 11, 3) := by decide +kernel
theorem d_Mo_deep_6 : decode c_Mo_deep 6 = .ok (.aload_n 0, 1) := by decide +kernel
theorem d_Mo_deep_7 : decode c_Mo_deep 7 = .ok (.aload_n 0, 1) := by decide +kernel
theorem d_Mo_deep_8 : decode c_Mo_deep 8 = .ok (.getfield 84, 3) := by decide +kernel
theorem d_Mo_deep_11 : decode c_Mo_deep 11 = .ok (.invokevirtual 93, 3) := by decide +kernel
theorem d_Mo_deep_14 : decode c_Mo_deep 14 = .ok (.return_, 1) := by decide +kernel
theorem d_Mo_isPlace_0 : decode c_Mo_isPlace 0 = .ok (.aload_n 0, 1) := by decide +kernel
theorem d_Mo_isPlace_1 : decode c_Mo_isPlace 1 = .ok (.getfield 27, 3) := by decide +kernel
theorem d_Mo_isPlace_4 : decode c_Mo_isPlace 4 = .ok (.iload_n 1, 1) := by decide +kernel
theorem d_Mo_isPlace_5 : decode c_Mo_isPlace 5 = .ok (.iaload, 1) := by decide +kernel
theorem d_Mo_isPlace_6 : decode c_Mo_isPlace 6 = .ok (.bipush 28, 2) := by decide +kernel
theorem d_Mo_isPlace_8 : decode c_Mo_isPlace 8 = .ok (.if_icmp .eq 25, 3) := by decide +kernel
theorem d_Mo_isPlace_11 : decode c_Mo_isPlace 11 = .ok (.aload_n 0, 1) := by decide +kernel
theorem d_Mo_isPlace_12 : decode c_Mo_isPlace 12 = .ok (.getfield 27, 3) := by decide +kernel
theorem d_Mo_isPlace_15 : decode c_Mo_isPlace 15 = .ok (.iload_n 1, 1) := by decide +kernel
theorem d_Mo_isPlace_16 : decode c_Mo_isPlace 16 = .ok (.iaload, 1) := by decide +kernel
theorem d_Mo_isPlace_17 : decode c_Mo_isPlace 17 = .ok (.bipush 36, 2) := by decide +kernel
theorem d_Mo_isPlace_19 : decode c_Mo_isPlace 19 = .ok (.if_icmp .eq 14, 3) := by decide +kernel
theorem d_Mo_isPlace_22 : decode c_Mo_isPlace 22 = .ok (.aload_n 0, 1) := by decide +kernel
theorem d_Mo_isPlace_23 : decode c_Mo_isPlace 23 = .ok (.getfield 27, 3) := by decide +kernel
theorem d_Mo_isPlace_26 : decode c_Mo_isPlace 26 = .ok (.iload_n 1, 1) := by decide +kernel
theorem d_Mo_isPlace_27 : decode c_Mo_isPlace 27 = .ok (.iaload, 1) := by decide +kernel
theorem d_Mo_isPlace_28 : decode c_Mo_isPlace 28 = .ok (.bipush 37, 2) := by decide +kernel
theorem d_Mo_isPlace_30 : decode c_Mo_isPlace 30 = .ok (.if_icmp .ne 7, 3) := by decide +kernel
theorem d_Mo_isPlace_33 : decode c_Mo_isPlace 33 = .ok (.iconst 1, 1) := by decide +kernel
theorem d_Mo_isPlace_34 : decode c_Mo_isPlace 34 = .ok (.goto 4, 3) := by decide +kernel
theorem d_Mo_isPlace_37 : decode c_Mo_isPlace 37 = .ok (.iconst 0, 1) := by decide +kernel
theorem d_Mo_isPlace_38 : decode c_Mo_isPlace 38 = .ok (.ireturn, 1) := by decide +kernel
theorem d_Mo_changed_0 : decode c_Mo_changed 0 = .ok (.aload_n 0, 1) := by decide +kernel
theorem d_Mo_changed_1 : decode c_Mo_changed 1 = .ok (.iload_n 1, 1) := by decide +kernel
theorem d_Mo_changed_2 : decode c_Mo_changed 2 = .ok (.invokevirtual 123, 3) := by decide +kernel
theorem d_Mo_changed_5 : decode c_Mo_changed 5 = .ok (.ifCond .eq 31, 3) := by decide +kernel
theorem d_Mo_changed_8 : decode c_Mo_changed 8 = .ok (.aload_n 0, 1) := by decide +kernel
theorem d_Mo_changed_9 : decode c_Mo_changed 9 = .ok (.getfield 97, 3) := by decide +kernel
theorem d_Mo_changed_12 : decode c_Mo_changed 12 = .ok (.ifCond .eq 29, 3) := by decide +kernel
theorem d_Mo_changed_15 : decode c_Mo_changed 15 = .ok (.aload_n 0, 1) := by decide +kernel
theorem d_Mo_changed_16 : decode c_Mo_changed 16 = .ok (.getfield 27, 3) := by decide +kernel
theorem d_Mo_changed_19 : decode c_Mo_changed 19 = .ok (.iload_n 1, 1) := by decide +kernel
theorem d_Mo_changed_20 : decode c_Mo_changed 20 = .ok (.iaload, 1) := by decide +kernel
theorem d_Mo_changed_21 : decode c_Mo_changed 21 = .ok (.bipush 28, 2) := by decide +kernel
theorem d_Mo_changed_23 : decode c_Mo_changed 23 = .ok (.if_icmp .ne 18, 3) := by decide +kernel
theorem d_Mo_changed_26 : decode c_Mo_changed 26 = .ok (.aload_n 0, 1) := by decide +kernel
theorem d_Mo_changed_27 : decode c_Mo_changed 27 = .ok (.getfield 30, 3) := by decide +kernel
theorem d_Mo_changed_30 : decode c_Mo_changed 30 = .ok (.iload_n 1, 1) := by decide +kernel
theorem d_Mo_changed_31 : decode c_Mo_changed 31 = .ok (.iaload, 1) := by decide +kernel
theorem d_Mo_changed_32 : decode c_Mo_changed 32 = .ok (.iconst 2, 1) := by decide +kernel
theorem d_Mo_changed_33 : decode c_Mo_changed 33 = .ok (.if_icmp .ge 8, 3) := by decide +kernel
theorem d_Mo_changed_36 : decode c_Mo_changed 36 = .ok (.aload_n 0, 1) := by decide +kernel
theorem d_Mo_changed_37 : decode c_Mo_changed 37 = .ok (.iload_n 2, 1) := by decide +kernel
theorem d_Mo_changed_38 : decode c_Mo_changed 38 = .ok (.invokevirtual 93, 3) := by decide +kernel
theorem d_Mo_changed_41 : decode c_Mo_changed 41 = .ok (.return_, 1) := by decide +kernel
theorem d_Mo_expression_0 : decode c_Mo_expression 0 = .ok (.aload_n 0, 1) := by decide +kernel
theorem d_Mo_expression_1 : decode c_Mo_expression 1 = .ok (.iload_n 1, 1) := by decide +kernel
theorem d_Mo_expression_2 : decode c_Mo_expression 2 = .ok (.iload_n 2, 1) := by decide +kernel
theorem d_Mo_expression_3 : decode c_Mo_expression 3 = .ok (.invokestatic 126, 3) := by decide +kernel
theorem d_Mo_expression_6 : decode c_Mo_expression 6 = .ok (.istore_n 3, 1) := by decide +kernel
theorem d_Mo_expression_7 : decode c_Mo_expression 7 = .ok (.aload_n 0, 1) := by decide +kernel
theorem d_Mo_expression_8 : decode c_Mo_expression 8 = .ok (.bipush 68, 2) := by decide +kernel
theorem d_Mo_expression_10 : decode c_Mo_expression 10 = .ok (.invokevirtual 90, 3) := by decide +kernel
theorem d_Mo_expression_13 : decode c_Mo_expression 13 = .ok (.ifCond .eq 53, 3) := by decide +kernel
theorem d_Mo_expression_16 : decode c_Mo_expression 16 = .ok (.aload_n 0, 1) := by decide +kernel
theorem d_Mo_expression_17 : decode c_Mo_expression 17 = .ok (.bipush 45, 2) := by decide +kernel
theorem d_Mo_expression_19 : decode c_Mo_expression 19 = .ok (.iconst 0, 1) := by decide +kernel
theorem d_Mo_expression_20 : decode c_Mo_expression 20 = .ok (.aload_n 0, 1) := by decide +kernel
theorem d_Mo_expression_21 : decode c_Mo_expression 21 = .ok (.getfield 84, 3) := by decide +kernel
theorem d_Mo_expression_24 : decode c_Mo_expression 24 = .ok (.invokevirtual 115, 3) := by decide +kernel
theorem d_Mo_expression_27 : decode c_Mo_expression 27 = .ok (.istore 4, 2) := by decide +kernel
theorem d_Mo_expression_29 : decode c_Mo_expression 29 = .ok (.aload_n 0, 1) := by decide +kernel
theorem d_Mo_expression_30 : decode c_Mo_expression 30 = .ok (.dup, 1) := by decide +kernel
theorem d_Mo_expression_31 : decode c_Mo_expression 31 = .ok (.getfield 84, 3) := by decide +kernel
theorem d_Mo_expression_34 : decode c_Mo_expression 34 = .ok (.iconst 1, 1) := by decide +kernel
theorem d_Mo_expression_35 : decode c_Mo_expression 35 = .ok (.iadd, 1) := by decide +kernel
theorem d_Mo_expression_36 : decode c_Mo_expression 36 = .ok (.putfield 84, 3) := by decide +kernel
theorem d_Mo_expression_39 : decode c_Mo_expression 39 = .ok (.aload_n 0, 1) := by decide +kernel
theorem d_Mo_expression_40 : decode c_Mo_expression 40 = .ok (.iload 4, 2) := by decide +kernel
theorem d_Mo_expression_42 : decode c_Mo_expression 42 = .ok (.iload_n 3, 1) := by decide +kernel
theorem d_Mo_expression_43 : decode c_Mo_expression 43 = .ok (.invokevirtual 119, 3) := by decide +kernel
theorem d_Mo_expression_46 : decode c_Mo_expression 46 = .ok (.aload_n 0, 1) := by decide +kernel
theorem d_Mo_expression_47 : decode c_Mo_expression 47 = .ok (.iload 4, 2) := by decide +kernel
theorem d_Mo_expression_49 : decode c_Mo_expression 49 = .ok (.aload_n 0, 1) := by decide +kernel
theorem d_Mo_expression_50 : decode c_Mo_expression 50 = .ok (.iload_n 1, 1) := by decide +kernel
theorem d_Mo_expression_51 : decode c_Mo_expression 51 = .ok (.iconst 1, 1) := by decide +kernel
theorem d_Mo_expression_52 : decode c_Mo_expression 52 = .ok (.iadd, 1) := by decide +kernel
theorem d_Mo_expression_53 : decode c_Mo_expression 53 = .ok (.iload_n 2, 1) := by decide +kernel
theorem d_Mo_expression_54 : decode c_Mo_expression 54 = .ok (.invokestatic 126, 3) := by decide +kernel
theorem d_Mo_expression_57 : decode c_Mo_expression 57 = .ok (.invokevirtual 119, 3) := by decide +kernel
theorem d_Mo_expression_60 : decode c_Mo_expression 60 = .ok (.iload 4, 2) := by decide +kernel
theorem d_Mo_expression_62 : decode c_Mo_expression 62 = .ok (.istore_n 3, 1) := by decide +kernel
theorem d_Mo_expression_63 : decode c_Mo_expression 63 = .ok (.goto (-56), 3) := by decide +kernel
theorem d_Mo_expression_66 : decode c_Mo_expression 66 = .ok (.iload_n 3, 1) := by decide +kernel
theorem d_Mo_expression_67 : decode c_Mo_expression 67 = .ok (.ireturn, 1) := by decide +kernel
theorem d_Mo_assignment_0 : decode c_Mo_assignment 0 = .ok (.aload_n 0, 1) := by decide +kernel
theorem d_Mo_assignment_1 : decode c_Mo_assignment 1 = .ok (.iload_n 1, 1) := by decide +kernel
theorem d_Mo_assignment_2 : decode c_Mo_assignment 2 = .ok (.invokevirtual 130, 3) := by decide +kernel
theorem d_Mo_assignment_5 : decode c_Mo_assignment 5 = .ok (.aload_n 0, 1) := by decide +kernel
theorem d_Mo_assignment_6 : decode c_Mo_assignment 6 = .ok (.iload_n 1, 1) := by decide +kernel
theorem d_Mo_assignment_7 : decode c_Mo_assignment 7 = .ok (.iload_n 2, 1) := by decide +kernel
theorem d_Mo_assignment_8 : decode c_Mo_assignment 8 = .ok (.iconst 1, 1) := by decide +kernel
theorem d_Mo_assignment_9 : decode c_Mo_assignment 9 = .ok (.invokestatic 133, 3) := by decide +kernel
theorem d_Mo_assignment_12 : decode c_Mo_assignment 12 = .ok (.istore_n 3, 1) := by decide +kernel
theorem d_Mo_assignment_13 : decode c_Mo_assignment 13 = .ok (.aload_n 0, 1) := by decide +kernel
theorem d_Mo_assignment_14 : decode c_Mo_assignment 14 = .ok (.bipush 69, 2) := by decide +kernel
theorem d_Mo_assignment_16 : decode c_Mo_assignment 16 = .ok (.invokevirtual 90, 3) := by decide +kernel
theorem d_Mo_assignment_19 : decode c_Mo_assignment 19 = .ok (.ifCond .eq 70, 3) := by decide +kernel
theorem d_Mo_assignment_22 : decode c_Mo_assignment 22 = .ok (.aload_n 0, 1) := by decide +kernel
theorem d_Mo_assignment_23 : decode c_Mo_assignment 23 = .ok (.bipush 40, 2) := by decide +kernel
theorem d_Mo_assignment_25 : decode c_Mo_assignment 25 = .ok (.iconst 0, 1) := by decide +kernel
theorem d_Mo_assignment_26 : decode c_Mo_assignment 26 = .ok (.aload_n 0, 1) := by decide +kernel
theorem d_Mo_assignment_27 : decode c_Mo_assignment 27 = .ok (.getfield 84, 3) := by decide +kernel
theorem d_Mo_assignment_30 : decode c_Mo_assignment 30 = .ok (.invokevirtual 115, 3) := by decide +kernel
theorem d_Mo_assignment_33 : decode c_Mo_assignment 33 = .ok (.istore 4, 2) := by decide +kernel
theorem d_Mo_assignment_35 : decode c_Mo_assignment 35 = .ok (.aload_n 0, 1) := by decide +kernel
theorem d_Mo_assignment_36 : decode c_Mo_assignment 36 = .ok (.dup, 1) := by decide +kernel
theorem d_Mo_assignment_37 : decode c_Mo_assignment 37 = .ok (.getfield 84, 3) := by decide +kernel
theorem d_Mo_assignment_40 : decode c_Mo_assignment 40 = .ok (.iconst 1, 1) := by decide +kernel
theorem d_Mo_assignment_41 : decode c_Mo_assignment 41 = .ok (.iadd, 1) := by decide +kernel
theorem d_Mo_assignment_42 : decode c_Mo_assignment 42 = .ok (.putfield 84, 3) := by decide +kernel
theorem d_Mo_assignment_45 : decode c_Mo_assignment 45 = .ok (.aload_n 0, 1) := by decide +kernel
theorem d_Mo_assignment_46 : decode c_Mo_assignment 46 = .ok (.iload 4, 2) := by decide +kernel
theorem d_Mo_assignment_48 : decode c_Mo_assignment 48 = .ok (.iload_n 3, 1) := by decide +kernel
theorem d_Mo_assignment_49 : decode c_Mo_assignment 49 = .ok (.invokevirtual 119, 3) := by decide +kernel
theorem d_Mo_assignment_52 : decode c_Mo_assignment 52 = .ok (.aload_n 0, 1) := by decide +kernel
theorem d_Mo_assignment_53 : decode c_Mo_assignment 53 = .ok (.iload 4, 2) := by decide +kernel
theorem d_Mo_assignment_55 : decode c_Mo_assignment 55 = .ok (.aload_n 0, 1) := by decide +kernel
theorem d_Mo_assignment_56 : decode c_Mo_assignment 56 = .ok (.iload_n 1, 1) := by decide +kernel
theorem d_Mo_assignment_57 : decode c_Mo_assignment 57 = .ok (.iconst 1, 1) := by decide +kernel
theorem d_Mo_assignment_58 : decode c_Mo_assignment 58 = .ok (.iadd, 1) := by decide +kernel
theorem d_Mo_assignment_59 : decode c_Mo_assignment 59 = .ok (.iconst 1, 1) := by decide +kernel
theorem d_Mo_assignment_60 : decode c_Mo_assignment 60 = .ok (.invokestatic 126, 3) := by decide +kernel
theorem d_Mo_assignment_63 : decode c_Mo_assignment 63 = .ok (.invokevirtual 119, 3) := by decide +kernel
theorem d_Mo_assignment_66 : decode c_Mo_assignment 66 = .ok (.aload_n 0, 1) := by decide +kernel
theorem d_Mo_assignment_67 : decode c_Mo_assignment 67 = .ok (.bipush 70, 2) := by decide +kernel
theorem d_Mo_assignment_69 : decode c_Mo_assignment 69 = .ok (.invokevirtual 137, 3) := by decide +kernel
theorem d_Mo_assignment_72 : decode c_Mo_assignment 72 = .ok (.aload_n 0, 1) := by decide +kernel
theorem d_Mo_assignment_73 : decode c_Mo_assignment 73 = .ok (.iload 4, 2) := by decide +kernel
theorem d_Mo_assignment_75 : decode c_Mo_assignment 75 = .ok (.aload_n 0, 1) := by decide +kernel
theorem d_Mo_assignment_76 : decode c_Mo_assignment 76 = .ok (.iload_n 1, 1) := by decide +kernel
theorem d_Mo_assignment_77 : decode c_Mo_assignment 77 = .ok (.iconst 1, 1) := by decide +kernel
theorem d_Mo_assignment_78 : decode c_Mo_assignment 78 = .ok (.iadd, 1) := by decide +kernel
theorem d_Mo_assignment_79 : decode c_Mo_assignment 79 = .ok (.iload_n 2, 1) := by decide +kernel
theorem d_Mo_assignment_80 : decode c_Mo_assignment 80 = .ok (.invokestatic 126, 3) := by decide +kernel
theorem d_Mo_assignment_83 : decode c_Mo_assignment 83 = .ok (.invokevirtual 119, 3) := by decide +kernel
theorem d_Mo_assignment_86 : decode c_Mo_assignment 86 = .ok (.iload 4, 2) := by decide +kernel
theorem d_Mo_assignment_88 : decode c_Mo_assignment 88 = .ok (.ireturn, 1) := by decide +kernel
theorem d_Mo_assignment_89 : decode c_Mo_assignment 89 = .ok (.aload_n 0, 1) := by decide +kernel
theorem d_Mo_assignment_90 : decode c_Mo_assignment 90 = .ok (.iconst 4, 1) := by decide +kernel
theorem d_Mo_assignment_91 : decode c_Mo_assignment 91 = .ok (.invokevirtual 87, 3) := by decide +kernel
theorem d_Mo_assignment_94 : decode c_Mo_assignment 94 = .ok (.ifCond .eq 22, 3) := by decide +kernel
theorem d_Mo_assignment_97 : decode c_Mo_assignment 97 = .ok (.aload_n 0, 1) := by decide +kernel
theorem d_Mo_assignment_98 : decode c_Mo_assignment 98 = .ok (.getfield 13, 3) := by decide +kernel
theorem d_Mo_assignment_101 : decode c_Mo_assignment 101 = .ok (.aload_n 0, 1) := by decide +kernel
theorem d_Mo_assignment_102 : decode c_Mo_assignment 102 = .ok (.getfield 84, 3) := by decide +kernel
theorem d_Mo_assignment_105 : decode c_Mo_assignment 105 = .ok (.iaload, 1) := by decide +kernel
theorem d_Mo_assignment_106 : decode c_Mo_assignment 106 = .ok (.bipush 30, 2) := by decide +kernel
theorem d_Mo_assignment_108 : decode c_Mo_assignment 108 = .ok (.bipush 53, 2) := by decide +kernel
theorem d_Mo_assignment_110 : decode c_Mo_assignment 110 = .ok (.invokestatic 66, 3) := by decide +kernel
theorem d_Mo_assignment_113 : decode c_Mo_assignment 113 = .ok (.ifCond .ne 5, 3) := by decide +kernel
theorem d_Mo_assignment_116 : decode c_Mo_assignment 116 = .ok (.iload_n 3, 1) := by decide +kernel
theorem d_Mo_assignment_117 : decode c_Mo_assignment 117 = .ok (.ireturn, 1) := by decide +kernel
theorem d_Mo_assignment_118 : decode c_Mo_assignment 118 = .ok (.aload_n 0, 1) := by decide +kernel
theorem d_Mo_assignment_119 : decode c_Mo_assignment 119 = .ok (.iload_n 3, 1) := by decide +kernel
theorem d_Mo_assignment_120 : decode c_Mo_assignment 120 = .ok (.aload_n 0, 1) := by decide +kernel
theorem d_Mo_assignment_121 : decode c_Mo_assignment 121 = .ok (.getfield 84, 3) := by decide +kernel
theorem d_Mo_assignment_124 : decode c_Mo_assignment 124 = .ok (.invokevirtual 140, 3) := by decide +kernel
theorem d_Mo_assignment_127 : decode c_Mo_assignment 127 = .ok (.aload_n 0, 1) := by decide +kernel
theorem d_Mo_assignment_128 : decode c_Mo_assignment 128 = .ok (.bipush 42, 2) := by decide +kernel
theorem d_Mo_assignment_130 : decode c_Mo_assignment 130 = .ok (.aload_n 0, 1) := by decide +kernel
theorem d_Mo_assignment_131 : decode c_Mo_assignment 131 = .ok (.getfield 13, 3) := by decide +kernel
theorem d_Mo_assignment_134 : decode c_Mo_assignment 134 = .ok (.aload_n 0, 1) := by decide +kernel
theorem d_Mo_assignment_135 : decode c_Mo_assignment 135 = .ok (.getfield 84, 3) := by decide +kernel
theorem d_Mo_assignment_138 : decode c_Mo_assignment 138 = .ok (.iaload, 1) := by decide +kernel
theorem d_Mo_assignment_139 : decode c_Mo_assignment 139 = .ok (.bipush 30, 2) := by decide +kernel
theorem d_Mo_assignment_141 : decode c_Mo_assignment 141 = .ok (.isub, 1) := by decide +kernel
theorem d_Mo_assignment_142 : decode c_Mo_assignment 142 = .ok (.aload_n 0, 1) := by decide +kernel
theorem d_Mo_assignment_143 : decode c_Mo_assignment 143 = .ok (.getfield 84, 3) := by decide +kernel
theorem d_Mo_assignment_146 : decode c_Mo_assignment 146 = .ok (.invokevirtual 115, 3) := by decide +kernel
theorem d_Mo_assignment_149 : decode c_Mo_assignment 149 = .ok (.istore 4, 2) := by decide +kernel
theorem d_Mo_assignment_151 : decode c_Mo_assignment 151 = .ok (.aload_n 0, 1) := by decide +kernel
theorem d_Mo_assignment_152 : decode c_Mo_assignment 152 = .ok (.dup, 1) := by decide +kernel
theorem d_Mo_assignment_153 : decode c_Mo_assignment 153 = .ok (.getfield 84, 3) := by decide +kernel
theorem d_Mo_assignment_156 : decode c_Mo_assignment 156 = .ok (.iconst 1, 1) := by decide +kernel
theorem d_Mo_assignment_157 : decode c_Mo_assignment 157 = .ok (.iadd, 1) := by decide +kernel
theorem d_Mo_assignment_158 : decode c_Mo_assignment 158 = .ok (.putfield 84, 3) := by decide +kernel
theorem d_Mo_assignment_161 : decode c_Mo_assignment 161 = .ok (.aload_n 0, 1) := by decide +kernel
theorem d_Mo_assignment_162 : decode c_Mo_assignment 162 = .ok (.iload 4, 2) := by decide +kernel
theorem d_Mo_assignment_164 : decode c_Mo_assignment 164 = .ok (.iload_n 3, 1) := by decide +kernel
theorem d_Mo_assignment_165 : decode c_Mo_assignment 165 = .ok (.invokevirtual 119, 3) := by decide +kernel
theorem d_Mo_assignment_168 : decode c_Mo_assignment 168 = .ok (.aload_n 0, 1) := by decide +kernel
theorem d_Mo_assignment_169 : decode c_Mo_assignment 169 = .ok (.iload 4, 2) := by decide +kernel
theorem d_Mo_assignment_171 : decode c_Mo_assignment 171 = .ok (.aload_n 0, 1) := by decide +kernel
theorem d_Mo_assignment_172 : decode c_Mo_assignment 172 = .ok (.iload_n 1, 1) := by decide +kernel
theorem d_Mo_assignment_173 : decode c_Mo_assignment 173 = .ok (.iconst 1, 1) := by decide +kernel
theorem d_Mo_assignment_174 : decode c_Mo_assignment 174 = .ok (.iadd, 1) := by decide +kernel
theorem d_Mo_assignment_175 : decode c_Mo_assignment 175 = .ok (.iload_n 2, 1) := by decide +kernel
theorem d_Mo_assignment_176 : decode c_Mo_assignment 176 = .ok (.invokestatic 126, 3) := by decide +kernel
theorem d_Mo_assignment_179 : decode c_Mo_assignment 179 = .ok (.invokevirtual 119, 3) := by decide +kernel
theorem d_Mo_assignment_182 : decode c_Mo_assignment 182 = .ok (.iload 4, 2) := by decide +kernel
theorem d_Mo_assignment_184 : decode c_Mo_assignment 184 = .ok (.ireturn, 1) := by decide +kernel
theorem d_Mo_operator_0 : decode c_Mo_operator 0 = .ok (.aload_n 0, 1) := by decide +kernel
theorem d_Mo_operator_1 : decode c_Mo_operator 1 = .ok (.bipush 14, 2) := by decide +kernel
theorem d_Mo_operator_3 : decode c_Mo_operator 3 = .ok (.invokevirtual 143, 3) := by decide +kernel
theorem d_Mo_operator_6 : decode c_Mo_operator 6 = .ok (.ifCond .eq 6, 3) := by decide +kernel
theorem d_Mo_operator_9 : decode c_Mo_operator 9 = .ok (.bipush 14, 2) := by decide +kernel
theorem d_Mo_operator_11 : decode c_Mo_operator 11 = .ok (.ireturn, 1) := by decide +kernel
theorem d_Mo_operator_12 : decode c_Mo_operator 12 = .ok (.aload_n 0, 1) := by decide +kernel
theorem d_Mo_operator_13 : decode c_Mo_operator 13 = .ok (.bipush 13, 2) := by decide +kernel
theorem d_Mo_operator_15 : decode c_Mo_operator 15 = .ok (.invokevirtual 143, 3) := by decide +kernel
theorem d_Mo_operator_18 : decode c_Mo_operator 18 = .ok (.ifCond .eq 14, 3) := by decide +kernel
theorem d_Mo_operator_21 : decode c_Mo_operator 21 = .ok (.iload_n 1, 1) := by decide +kernel
theorem d_Mo_operator_22 : decode c_Mo_operator 22 = .ok (.ifCond .eq 8, 3) := by decide +kernel
theorem d_Mo_operator_25 : decode c_Mo_operator 25 = .ok (.bipush 15, 2) := by decide +kernel
theorem d_Mo_operator_27 : decode c_Mo_operator 27 = .ok (.goto 4, 3) := by decide +kernel
theorem d_Mo_operator_30 : decode c_Mo_operator 30 = .ok (.iconst 0, 1) := by decide +kernel
theorem d_Mo_operator_31 : decode c_Mo_operator 31 = .ok (.ireturn, 1) := by decide +kernel
theorem d_Mo_operator_32 : decode c_Mo_operator 32 = .ok (.aload_n 0, 1) := by decide +kernel
theorem d_Mo_operator_33 : decode c_Mo_operator 33 = .ok (.iconst 4, 1) := by decide +kernel
theorem d_Mo_operator_34 : decode c_Mo_operator 34 = .ok (.invokevirtual 87, 3) := by decide +kernel
theorem d_Mo_operator_37 : decode c_Mo_operator 37 = .ok (.ifCond .eq 29, 3) := by decide +kernel
theorem d_Mo_operator_40 : decode c_Mo_operator 40 = .ok (.aload_n 0, 1) := by decide +kernel
theorem d_Mo_operator_41 : decode c_Mo_operator 41 = .ok (.getfield 13, 3) := by decide +kernel
theorem d_Mo_operator_44 : decode c_Mo_operator 44 = .ok (.aload_n 0, 1) := by decide +kernel
theorem d_Mo_operator_45 : decode c_Mo_operator 45 = .ok (.getfield 84, 3) := by decide +kernel
theorem d_Mo_operator_48 : decode c_Mo_operator 48 = .ok (.iaload, 1) := by decide +kernel
theorem d_Mo_operator_49 : decode c_Mo_operator 49 = .ok (.bipush 30, 2) := by decide +kernel
theorem d_Mo_operator_51 : decode c_Mo_operator 51 = .ok (.if_icmp .ge 15, 3) := by decide +kernel
theorem d_Mo_operator_54 : decode c_Mo_operator 54 = .ok (.aload_n 0, 1) := by decide +kernel
theorem d_Mo_operator_55 : decode c_Mo_operator 55 = .ok (.getfield 13, 3) := by decide +kernel
theorem d_Mo_operator_58 : decode c_Mo_operator 58 = .ok (.aload_n 0, 1) := by decide +kernel
theorem d_Mo_operator_59 : decode c_Mo_operator 59 = .ok (.getfield 84, 3) := by decide +kernel
theorem d_Mo_operator_62 : decode c_Mo_operator 62 = .ok (.iaload, 1) := by decide +kernel
theorem d_Mo_operator_63 : decode c_Mo_operator 63 = .ok (.goto 4, 3) := by decide +kernel
theorem d_Mo_operator_66 : decode c_Mo_operator 66 = .ok (.iconst 0, 1) := by decide +kernel
theorem d_Mo_operator_67 : decode c_Mo_operator 67 = .ok (.ireturn, 1) := by decide +kernel
theorem d_Mo_strength_0 : decode c_Mo_strength 0 = .ok (.iload_n 0, 1) := by decide +kernel
theorem d_Mo_strength_1 : decode c_Mo_strength 1 = .ok (.bipush 6, 2) := by decide +kernel
theorem d_Mo_strength_3 : decode c_Mo_strength 3 = .ok (.if_icmp .ge 7, 3) := by decide +kernel
theorem d_Mo_strength_6 : decode c_Mo_strength 6 = .ok (.iload_n 0, 1) := by decide +kernel
theorem d_Mo_strength_7 : decode c_Mo_strength 7 = .ok (.goto 49, 3) := by decide +kernel
theorem d_Mo_strength_10 : decode c_Mo_strength 10 = .ok (.iload_n 0, 1) := by decide +kernel
theorem d_Mo_strength_11 : decode c_Mo_strength 11 = .ok (.bipush 10, 2) := by decide +kernel
theorem d_Mo_strength_13 : decode c_Mo_strength 13 = .ok (.if_icmp .ge 8, 3) := by decide +kernel
theorem d_Mo_strength_16 : decode c_Mo_strength 16 = .ok (.bipush 6, 2) := by decide +kernel
theorem d_Mo_strength_18 : decode c_Mo_strength 18 = .ok (.goto 38, 3) := by decide +kernel
theorem d_Mo_strength_21 : decode c_Mo_strength 21 = .ok (.iload_n 0, 1) := by decide +kernel
theorem d_Mo_strength_22 : decode c_Mo_strength 22 = .ok (.bipush 16, 2) := by decide +kernel
theorem d_Mo_strength_24 : decode c_Mo_strength 24 = .ok (.if_icmp .ge 8, 3) := by decide +kernel
theorem d_Mo_strength_27 : decode c_Mo_strength 27 = .ok (.bipush 7, 2) := by decide +kernel
theorem d_Mo_strength_29 : decode c_Mo_strength 29 = .ok (.goto 27, 3) := by decide +kernel
theorem d_Mo_strength_32 : decode c_Mo_strength 32 = .ok (.iload_n 0, 1) := by decide +kernel
theorem d_Mo_strength_33 : decode c_Mo_strength 33 = .ok (.bipush 19, 2) := by decide +kernel
theorem d_Mo_strength_35 : decode c_Mo_strength 35 = .ok (.if_icmp .ge 8, 3) := by decide +kernel
theorem d_Mo_strength_38 : decode c_Mo_strength 38 = .ok (.bipush 8, 2) := by decide +kernel
theorem d_Mo_strength_40 : decode c_Mo_strength 40 = .ok (.goto 16, 3) := by decide +kernel
theorem d_Mo_strength_43 : decode c_Mo_strength 43 = .ok (.iload_n 0, 1) := by decide +kernel
theorem d_Mo_strength_44 : decode c_Mo_strength 44 = .ok (.bipush 21, 2) := by decide +kernel
theorem d_Mo_strength_46 : decode c_Mo_strength 46 = .ok (.if_icmp .ge 8, 3) := by decide +kernel
theorem d_Mo_strength_49 : decode c_Mo_strength 49 = .ok (.bipush 9, 2) := by decide +kernel
theorem d_Mo_strength_51 : decode c_Mo_strength 51 = .ok (.goto 5, 3) := by decide +kernel
theorem d_Mo_strength_54 : decode c_Mo_strength 54 = .ok (.bipush 10, 2) := by decide +kernel
theorem d_Mo_strength_56 : decode c_Mo_strength 56 = .ok (.ireturn, 1) := by decide +kernel
theorem d_Mo_binary_0 : decode c_Mo_binary 0 = .ok (.aload_n 0, 1) := by decide +kernel
theorem d_Mo_binary_1 : decode c_Mo_binary 1 = .ok (.iload_n 1, 1) := by decide +kernel
theorem d_Mo_binary_2 : decode c_Mo_binary 2 = .ok (.invokevirtual 130, 3) := by decide +kernel
theorem d_Mo_binary_5 : decode c_Mo_binary 5 = .ok (.aload_n 0, 1) := by decide +kernel
theorem d_Mo_binary_6 : decode c_Mo_binary 6 = .ok (.iload_n 1, 1) := by decide +kernel
theorem d_Mo_binary_7 : decode c_Mo_binary 7 = .ok (.invokestatic 146, 3) := by decide +kernel
theorem d_Mo_binary_10 : decode c_Mo_binary 10 = .ok (.istore 4, 2) := by decide +kernel
theorem d_Mo_binary_12 : decode c_Mo_binary 12 = .ok (.aload_n 0, 1) := by decide +kernel
theorem d_Mo_binary_13 : decode c_Mo_binary 13 = .ok (.iload_n 2, 1) := by decide +kernel
theorem d_Mo_binary_14 : decode c_Mo_binary 14 = .ok (.invokevirtual 150, 3) := by decide +kernel
theorem d_Mo_binary_17 : decode c_Mo_binary 17 = .ok (.istore 5, 2) := by decide +kernel
theorem d_Mo_binary_19 : decode c_Mo_binary 19 = .ok (.iload 5, 2) := by decide +kernel
theorem d_Mo_binary_21 : decode c_Mo_binary 21 = .ok (.ifCond .le 79, 3) := by decide +kernel
theorem d_Mo_binary_24 : decode c_Mo_binary 24 = .ok (.iload 5, 2) := by decide +kernel
theorem d_Mo_binary_26 : decode c_Mo_binary 26 = .ok (.invokestatic 154, 3) := by decide +kernel
theorem d_Mo_binary_29 : decode c_Mo_binary 29 = .ok (.iload_n 3, 1) := by decide +kernel
theorem d_Mo_binary_30 : decode c_Mo_binary 30 = .ok (.if_icmp .lt 70, 3) := by decide +kernel
theorem d_Mo_binary_33 : decode c_Mo_binary 33 = .ok (.aload_n 0, 1) := by decide +kernel
theorem d_Mo_binary_34 : decode c_Mo_binary 34 = .ok (.bipush 41, 2) := by decide +kernel
theorem d_Mo_binary_36 : decode c_Mo_binary 36 = .ok (.iload 5, 2) := by decide +kernel
theorem d_Mo_binary_38 : decode c_Mo_binary 38 = .ok (.aload_n 0, 1) := by decide +kernel
theorem d_Mo_binary_39 : decode c_Mo_binary 39 = .ok (.getfield 84, 3) := by decide +kernel
theorem d_Mo_binary_42 : decode c_Mo_binary 42 = .ok (.invokevirtual 115, 3) := by decide +kernel
theorem d_Mo_binary_45 : decode c_Mo_binary 45 = .ok (.istore 6, 2) := by decide +kernel
theorem d_Mo_binary_47 : decode c_Mo_binary 47 = .ok (.aload_n 0, 1) := by decide +kernel
theorem d_Mo_binary_48 : decode c_Mo_binary 48 = .ok (.dup, 1) := by decide +kernel
theorem d_Mo_binary_49 : decode c_Mo_binary 49 = .ok (.getfield 84, 3) := by decide +kernel
theorem d_Mo_binary_52 : decode c_Mo_binary 52 = .ok (.iconst 1, 1) := by decide +kernel
theorem d_Mo_binary_53 : decode c_Mo_binary 53 = .ok (.iadd, 1) := by decide +kernel
theorem d_Mo_binary_54 : decode c_Mo_binary 54 = .ok (.putfield 84, 3) := by decide +kernel
theorem d_Mo_binary_57 : decode c_Mo_binary 57 = .ok (.aload_n 0, 1) := by decide +kernel
theorem d_Mo_binary_58 : decode c_Mo_binary 58 = .ok (.iload 6, 2) := by decide +kernel
theorem d_Mo_binary_60 : decode c_Mo_binary 60 = .ok (.iload 4, 2) := by decide +kernel
theorem d_Mo_binary_62 : decode c_Mo_binary 62 = .ok (.invokevirtual 119, 3) := by decide +kernel
theorem d_Mo_binary_65 : decode c_Mo_binary 65 = .ok (.aload_n 0, 1) := by decide +kernel
theorem d_Mo_binary_66 : decode c_Mo_binary 66 = .ok (.iload 6, 2) := by decide +kernel
theorem d_Mo_binary_68 : decode c_Mo_binary 68 = .ok (.aload_n 0, 1) := by decide +kernel
theorem d_Mo_binary_69 : decode c_Mo_binary 69 = .ok (.iload_n 1, 1) := by decide +kernel
theorem d_Mo_binary_70 : decode c_Mo_binary 70 = .ok (.iconst 1, 1) := by decide +kernel
theorem d_Mo_binary_71 : decode c_Mo_binary 71 = .ok (.iadd, 1) := by decide +kernel
theorem d_Mo_binary_72 : decode c_Mo_binary 72 = .ok (.iload_n 2, 1) := by decide +kernel
theorem d_Mo_binary_73 : decode c_Mo_binary 73 = .ok (.iload 5, 2) := by decide +kernel
theorem d_Mo_binary_75 : decode c_Mo_binary 75 = .ok (.invokestatic 154, 3) := by decide +kernel
theorem d_Mo_binary_78 : decode c_Mo_binary 78 = .ok (.iconst 1, 1) := by decide +kernel
theorem d_Mo_binary_79 : decode c_Mo_binary 79 = .ok (.iadd, 1) := by decide +kernel
theorem d_Mo_binary_80 : decode c_Mo_binary 80 = .ok (.invokestatic 133, 3) := by decide +kernel
theorem d_Mo_binary_83 : decode c_Mo_binary 83 = .ok (.invokevirtual 119, 3) := by decide +kernel
theorem d_Mo_binary_86 : decode c_Mo_binary 86 = .ok (.iload 6, 2) := by decide +kernel
theorem d_Mo_binary_88 : decode c_Mo_binary 88 = .ok (.istore 4, 2) := by decide +kernel
theorem d_Mo_binary_90 : decode c_Mo_binary 90 = .ok (.aload_n 0, 1) := by decide +kernel
theorem d_Mo_binary_91 : decode c_Mo_binary 91 = .ok (.iload_n 2, 1) := by decide +kernel
theorem d_Mo_binary_92 : decode c_Mo_binary 92 = .ok (.invokevirtual 150, 3) := by decide +kernel
theorem d_Mo_binary_95 : decode c_Mo_binary 95 = .ok (.istore 5, 2) := by decide +kernel
theorem d_Mo_binary_97 : decode c_Mo_binary 97 = .ok (.goto (-78), 3) := by decide +kernel
theorem d_Mo_binary_100 : decode c_Mo_binary 100 = .ok (.iload 4, 2) := by decide +kernel
theorem d_Mo_binary_102 : decode c_Mo_binary 102 = .ok (.ireturn, 1) := by decide +kernel
theorem d_Mo_prefix_0 : decode c_Mo_prefix 0 = .ok (.aload_n 0, 1) := by decide +kernel
theorem d_Mo_prefix_1 : decode c_Mo_prefix 1 = .ok (.iconst 1, 1) := by decide +kernel
theorem d_Mo_prefix_2 : decode c_Mo_prefix 2 = .ok (.invokevirtual 87, 3) := by decide +kernel
theorem d_Mo_prefix_5 : decode c_Mo_prefix 5 = .ok (.ifCond .eq 59, 3) := by decide +kernel
theorem d_Mo_prefix_8 : decode c_Mo_prefix 8 = .ok (.aload_n 0, 1) := by decide +kernel
theorem d_Mo_prefix_9 : decode c_Mo_prefix 9 = .ok (.getfield 13, 3) := by decide +kernel
theorem d_Mo_prefix_12 : decode c_Mo_prefix 12 = .ok (.aload_n 0, 1) := by decide +kernel
theorem d_Mo_prefix_13 : decode c_Mo_prefix 13 = .ok (.getfield 84, 3) := by decide +kernel
theorem d_Mo_prefix_16 : decode c_Mo_prefix 16 = .ok (.iaload, 1) := by decide +kernel
theorem d_Mo_prefix_17 : decode c_Mo_prefix 17 = .ok (.bipush 6, 2) := by decide +kernel
theorem d_Mo_prefix_19 : decode c_Mo_prefix 19 = .ok (.if_icmp .ne 7, 3) := by decide +kernel
theorem d_Mo_prefix_22 : decode c_Mo_prefix 22 = .ok (.iconst 0, 1) := by decide +kernel
theorem d_Mo_prefix_23 : decode c_Mo_prefix 23 = .ok (.goto 40, 3) := by decide +kernel
theorem d_Mo_prefix_26 : decode c_Mo_prefix 26 = .ok (.aload_n 0, 1) := by decide +kernel
theorem d_Mo_prefix_27 : decode c_Mo_prefix 27 = .ok (.getfield 13, 3) := by decide +kernel
theorem d_Mo_prefix_30 : decode c_Mo_prefix 30 = .ok (.aload_n 0, 1) := by decide +kernel
theorem d_Mo_prefix_31 : decode c_Mo_prefix 31 = .ok (.getfield 84, 3) := by decide +kernel
theorem d_Mo_prefix_34 : decode c_Mo_prefix 34 = .ok (.iaload, 1) := by decide +kernel
theorem d_Mo_prefix_35 : decode c_Mo_prefix 35 = .ok (.bipush 23, 2) := by decide +kernel
theorem d_Mo_prefix_37 : decode c_Mo_prefix 37 = .ok (.if_icmp .ne 7, 3) := by decide +kernel
theorem d_Mo_prefix_40 : decode c_Mo_prefix 40 = .ok (.iconst 1, 1) := by decide +kernel
theorem d_Mo_prefix_41 : decode c_Mo_prefix 41 = .ok (.goto 22, 3) := by decide +kernel
theorem d_Mo_prefix_44 : decode c_Mo_prefix 44 = .ok (.aload_n 0, 1) := by decide +kernel
theorem d_Mo_prefix_45 : decode c_Mo_prefix 45 = .ok (.getfield 13, 3) := by decide +kernel
theorem d_Mo_prefix_48 : decode c_Mo_prefix 48 = .ok (.aload_n 0, 1) := by decide +kernel
theorem d_Mo_prefix_49 : decode c_Mo_prefix 49 = .ok (.getfield 84, 3) := by decide +kernel
theorem d_Mo_prefix_52 : decode c_Mo_prefix 52 = .ok (.iaload, 1) := by decide +kernel
theorem d_Mo_prefix_53 : decode c_Mo_prefix 53 = .ok (.bipush 21, 2) := by decide +kernel
theorem d_Mo_prefix_55 : decode c_Mo_prefix 55 = .ok (.if_icmp .ne 7, 3) := by decide +kernel
theorem d_Mo_prefix_58 : decode c_Mo_prefix 58 = .ok (.iconst 2, 1) := by decide +kernel
theorem d_Mo_prefix_59 : decode c_Mo_prefix 59 = .ok (.goto 4, 3) := by decide +kernel
theorem d_Mo_prefix_62 : decode c_Mo_prefix 62 = .ok (.iconst (-1), 1) := by decide +kernel
theorem d_Mo_prefix_63 : decode c_Mo_prefix 63 = .ok (.ireturn, 1) := by decide +kernel
theorem d_Mo_prefix_64 : decode c_Mo_prefix 64 = .ok (.aload_n 0, 1) := by decide +kernel
theorem d_Mo_prefix_65 : decode c_Mo_prefix 65 = .ok (.iconst 4, 1) := by decide +kernel
theorem d_Mo_prefix_66 : decode c_Mo_prefix 66 = .ok (.invokevirtual 87, 3) := by decide +kernel
theorem d_Mo_prefix_69 : decode c_Mo_prefix 69 = .ok (.ifCond .ne 5, 3) := by decide +kernel
theorem d_Mo_prefix_72 : decode c_Mo_prefix 72 = .ok (.iconst (-1), 1) := by decide +kernel
theorem d_Mo_prefix_73 : decode c_Mo_prefix 73 = .ok (.ireturn, 1) := by decide +kernel
theorem d_Mo_prefix_74 : decode c_Mo_prefix 74 = .ok (.aload_n 0, 1) := by decide +kernel
theorem d_Mo_prefix_75 : decode c_Mo_prefix 75 = .ok (.getfield 13, 3) := by decide +kernel
theorem d_Mo_prefix_78 : decode c_Mo_prefix 78 = .ok (.aload_n 0, 1) := by decide +kernel
theorem d_Mo_prefix_79 : decode c_Mo_prefix 79 = .ok (.getfield 84, 3) := by decide +kernel
theorem d_Mo_prefix_82 : decode c_Mo_prefix 82 = .ok (.iaload, 1) := by decide +kernel
theorem d_Mo_prefix_83 : decode c_Mo_prefix 83 = .ok (.istore_n 1, 1) := by decide +kernel
theorem d_Mo_prefix_84 : decode c_Mo_prefix 84 = .ok (.iload_n 1, 1) := by decide +kernel
theorem d_Mo_prefix_85 : decode c_Mo_prefix 85 = .ok (.bipush 73, 2) := by decide +kernel
theorem d_Mo_prefix_87 : decode c_Mo_prefix 87 = .ok (.if_icmp .ne 7, 3) := by decide +kernel
theorem d_Mo_prefix_90 : decode c_Mo_prefix 90 = .ok (.iconst 3, 1) := by decide +kernel
theorem d_Mo_prefix_91 : decode c_Mo_prefix 91 = .ok (.goto 57, 3) := by decide +kernel
theorem d_Mo_prefix_94 : decode c_Mo_prefix 94 = .ok (.iload_n 1, 1) := by decide +kernel
theorem d_Mo_prefix_95 : decode c_Mo_prefix 95 = .ok (.bipush 74, 2) := by decide +kernel
theorem d_Mo_prefix_97 : decode c_Mo_prefix 97 = .ok (.if_icmp .ne 7, 3) := by decide +kernel
theorem d_Mo_prefix_100 : decode c_Mo_prefix 100 = .ok (.iconst 4, 1) := by decide +kernel
theorem d_Mo_prefix_101 : decode c_Mo_prefix 101 = .ok (.goto 47, 3) := by decide +kernel
theorem d_Mo_prefix_104 : decode c_Mo_prefix 104 = .ok (.iload_n 1, 1) := by decide +kernel
theorem d_Mo_prefix_105 : decode c_Mo_prefix 105 = .ok (.bipush 19, 2) := by decide +kernel
theorem d_Mo_prefix_107 : decode c_Mo_prefix 107 = .ok (.if_icmp .ne 7, 3) := by decide +kernel
theorem d_Mo_prefix_110 : decode c_Mo_prefix 110 = .ok (.iconst 5, 1) := by decide +kernel
theorem d_Mo_prefix_111 : decode c_Mo_prefix 111 = .ok (.goto 37, 3) := by decide +kernel
theorem d_Mo_prefix_114 : decode c_Mo_prefix 114 = .ok (.iload_n 1, 1) := by decide +kernel
theorem d_Mo_prefix_115 : decode c_Mo_prefix 115 = .ok (.bipush 20, 2) := by decide +kernel
theorem d_Mo_prefix_117 : decode c_Mo_prefix 117 = .ok (.if_icmp .ne 8, 3) := by decide +kernel
theorem d_Mo_prefix_120 : decode c_Mo_prefix 120 = .ok (.bipush 6, 2) := by decide +kernel
theorem d_Mo_prefix_122 : decode c_Mo_prefix 122 = .ok (.goto 26, 3) := by decide +kernel
theorem d_Mo_prefix_125 : decode c_Mo_prefix 125 = .ok (.iload_n 1, 1) := by decide +kernel
theorem d_Mo_prefix_126 : decode c_Mo_prefix 126 = .ok (.bipush 72, 2) := by decide +kernel
theorem d_Mo_prefix_128 : decode c_Mo_prefix 128 = .ok (.if_icmp .ne 8, 3) := by decide +kernel
theorem d_Mo_prefix_131 : decode c_Mo_prefix 131 = .ok (.bipush 7, 2) := by decide +kernel
theorem d_Mo_prefix_133 : decode c_Mo_prefix 133 = .ok (.goto 15, 3) := by decide +kernel
theorem d_Mo_prefix_136 : decode c_Mo_prefix 136 = .ok (.iload_n 1, 1) := by decide +kernel
theorem d_Mo_prefix_137 : decode c_Mo_prefix 137 = .ok (.bipush 71, 2) := by decide +kernel
theorem d_Mo_prefix_139 : decode c_Mo_prefix 139 = .ok (.if_icmp .ne 8, 3) := by decide +kernel
theorem d_Mo_prefix_142 : decode c_Mo_prefix 142 = .ok (.bipush 8, 2) := by decide +kernel
theorem d_Mo_prefix_144 : decode c_Mo_prefix 144 = .ok (.goto 4, 3) := by decide +kernel
theorem d_Mo_prefix_147 : decode c_Mo_prefix 147 = .ok (.iconst (-1), 1) := by decide +kernel
theorem d_Mo_prefix_148 : decode c_Mo_prefix 148 = .ok (.ireturn, 1) := by decide +kernel
theorem d_Mo_unary_0 : decode c_Mo_unary 0 = .ok (.aload_n 0, 1) := by decide +kernel
theorem d_Mo_unary_1 : decode c_Mo_unary 1 = .ok (.iload_n 1, 1) := by decide +kernel
theorem d_Mo_unary_2 : decode c_Mo_unary 2 = .ok (.invokevirtual 130, 3) := by decide +kernel
theorem d_Mo_unary_5 : decode c_Mo_unary 5 = .ok (.aload_n 0, 1) := by decide +kernel
theorem d_Mo_unary_6 : decode c_Mo_unary 6 = .ok (.invokevirtual 158, 3) := by decide +kernel
theorem d_Mo_unary_9 : decode c_Mo_unary 9 = .ok (.istore_n 2, 1) := by decide +kernel
theorem d_Mo_unary_10 : decode c_Mo_unary 10 = .ok (.iload_n 2, 1) := by decide +kernel
theorem d_Mo_unary_11 : decode c_Mo_unary 11 = .ok (.ifCond .ge 9, 3) := by decide +kernel
theorem d_Mo_unary_14 : decode c_Mo_unary 14 = .ok (.aload_n 0, 1) := by decide +kernel
theorem d_Mo_unary_15 : decode c_Mo_unary 15 = .ok (.iload_n 1, 1) := by decide +kernel
theorem d_Mo_unary_16 : decode c_Mo_unary 16 = .ok (.invokestatic 161, 3) := by decide +kernel
theorem d_Mo_unary_19 : decode c_Mo_unary 19 = .ok (.ireturn, 1) := by decide +kernel
theorem d_Mo_unary_20 : decode c_Mo_unary 20 = .ok (.aload_n 0, 1) := by decide +kernel
theorem d_Mo_unary_21 : decode c_Mo_unary 21 = .ok (.bipush 43, 2) := by decide +kernel
theorem d_Mo_unary_23 : decode c_Mo_unary 23 = .ok (.iload_n 2, 1) := by decide +kernel
theorem d_Mo_unary_24 : decode c_Mo_unary 24 = .ok (.aload_n 0, 1) := by decide +kernel
theorem d_Mo_unary_25 : decode c_Mo_unary 25 = .ok (.getfield 84, 3) := by decide +kernel
theorem d_Mo_unary_28 : decode c_Mo_unary 28 = .ok (.invokevirtual 115, 3) := by decide +kernel
theorem d_Mo_unary_31 : decode c_Mo_unary 31 = .ok (.istore_n 3, 1) := by decide +kernel
theorem d_Mo_unary_32 : decode c_Mo_unary 32 = .ok (.aload_n 0, 1) := by decide +kernel
theorem d_Mo_unary_33 : decode c_Mo_unary 33 = .ok (.dup, 1) := by decide +kernel
theorem d_Mo_unary_34 : decode c_Mo_unary 34 = .ok (.getfield 84, 3) := by decide +kernel
theorem d_Mo_unary_37 : decode c_Mo_unary 37 = .ok (.iconst 1, 1) := by decide +kernel
theorem d_Mo_unary_38 : decode c_Mo_unary 38 = .ok (.iadd, 1) := by decide +kernel
theorem d_Mo_unary_39 : decode c_Mo_unary 39 = .ok (.putfield 84, 3) := by decide +kernel
theorem d_Mo_unary_42 : decode c_Mo_unary 42 = .ok (.aload_n 0, 1) := by decide +kernel
theorem d_Mo_unary_43 : decode c_Mo_unary 43 = .ok (.iload_n 1, 1) := by decide +kernel
theorem d_Mo_unary_44 : decode c_Mo_unary 44 = .ok (.iconst 1, 1) := by decide +kernel
theorem d_Mo_unary_45 : decode c_Mo_unary 45 = .ok (.iadd, 1) := by decide +kernel
theorem d_Mo_unary_46 : decode c_Mo_unary 46 = .ok (.invokestatic 146, 3) := by decide +kernel
theorem d_Mo_unary_49 : decode c_Mo_unary 49 = .ok (.istore 4, 2) := by decide +kernel
theorem d_Mo_unary_51 : decode c_Mo_unary 51 = .ok (.iload_n 2, 1) := by decide +kernel
theorem d_Mo_unary_52 : decode c_Mo_unary 52 = .ok (.iconst 3, 1) := by decide +kernel
theorem d_Mo_unary_53 : decode c_Mo_unary 53 = .ok (.if_icmp .eq 8, 3) := by decide +kernel
theorem d_Mo_unary_56 : decode c_Mo_unary 56 = .ok (.iload_n 2, 1) := by decide +kernel
theorem d_Mo_unary_57 : decode c_Mo_unary 57 = .ok (.iconst 4, 1) := by decide +kernel
theorem d_Mo_unary_58 : decode c_Mo_unary 58 = .ok (.if_icmp .ne 15, 3) := by decide +kernel
theorem d_Mo_unary_61 : decode c_Mo_unary 61 = .ok (.aload_n 0, 1) := by decide +kernel
theorem d_Mo_unary_62 : decode c_Mo_unary 62 = .ok (.iload 4, 2) := by decide +kernel
theorem d_Mo_unary_64 : decode c_Mo_unary 64 = .ok (.aload_n 0, 1) := by decide +kernel
theorem d_Mo_unary_65 : decode c_Mo_unary 65 = .ok (.getfield 33, 3) := by decide +kernel
theorem d_Mo_unary_68 : decode c_Mo_unary 68 = .ok (.iload_n 3, 1) := by decide +kernel
theorem d_Mo_unary_69 : decode c_Mo_unary 69 = .ok (.iaload, 1) := by decide +kernel
theorem d_Mo_unary_70 : decode c_Mo_unary 70 = .ok (.invokevirtual 140, 3) := by decide +kernel
theorem d_Mo_unary_73 : decode c_Mo_unary 73 = .ok (.iload_n 2, 1) := by decide +kernel
theorem d_Mo_unary_74 : decode c_Mo_unary 74 = .ok (.ifCond .ne 32, 3) := by decide +kernel
theorem d_Mo_unary_77 : decode c_Mo_unary 77 = .ok (.aload_n 0, 1) := by decide +kernel
theorem d_Mo_unary_78 : decode c_Mo_unary 78 = .ok (.getfield 97, 3) := by decide +kernel
theorem d_Mo_unary_81 : decode c_Mo_unary 81 = .ok (.ifCond .eq 25, 3) := by decide +kernel
theorem d_Mo_unary_84 : decode c_Mo_unary 84 = .ok (.aload_n 0, 1) := by decide +kernel
theorem d_Mo_unary_85 : decode c_Mo_unary 85 = .ok (.getfield 27, 3) := by decide +kernel
theorem d_Mo_unary_88 : decode c_Mo_unary 88 = .ok (.iload 4, 2) := by decide +kernel
theorem d_Mo_unary_90 : decode c_Mo_unary 90 = .ok (.iaload, 1) := by decide +kernel
theorem d_Mo_unary_91 : decode c_Mo_unary 91 = .ok (.bipush 28, 2) := by decide +kernel
theorem d_Mo_unary_93 : decode c_Mo_unary 93 = .ok (.if_icmp .ne 13, 3) := by decide +kernel
theorem d_Mo_unary_96 : decode c_Mo_unary 96 = .ok (.aload_n 0, 1) := by decide +kernel
theorem d_Mo_unary_97 : decode c_Mo_unary 97 = .ok (.aload_n 0, 1) := by decide +kernel
theorem d_Mo_unary_98 : decode c_Mo_unary 98 = .ok (.getfield 33, 3) := by decide +kernel
theorem d_Mo_unary_101 : decode c_Mo_unary 101 = .ok (.iload_n 3, 1) := by decide +kernel
theorem d_Mo_unary_102 : decode c_Mo_unary 102 = .ok (.iaload, 1) := by decide +kernel
theorem d_Mo_unary_103 : decode c_Mo_unary 103 = .ok (.invokevirtual 93, 3) := by decide +kernel
theorem d_Mo_unary_106 : decode c_Mo_unary 106 = .ok (.aload_n 0, 1) := by decide +kernel
theorem d_Mo_unary_107 : decode c_Mo_unary 107 = .ok (.iload_n 3, 1) := by decide +kernel
theorem d_Mo_unary_108 : decode c_Mo_unary 108 = .ok (.iload 4, 2) := by decide +kernel
theorem d_Mo_unary_110 : decode c_Mo_unary 110 = .ok (.invokevirtual 119, 3) := by decide +kernel
theorem d_Mo_unary_113 : decode c_Mo_unary 113 = .ok (.iload_n 3, 1) := by decide +kernel
theorem d_Mo_unary_114 : decode c_Mo_unary 114 = .ok (.ireturn, 1) := by decide +kernel
theorem d_Mo_postfix_0 : decode c_Mo_postfix 0 = .ok (.aload_n 0, 1) := by decide +kernel
theorem d_Mo_postfix_1 : decode c_Mo_postfix 1 = .ok (.iload_n 1, 1) := by decide +kernel
theorem d_Mo_postfix_2 : decode c_Mo_postfix 2 = .ok (.iconst 1, 1) := by decide +kernel
theorem d_Mo_postfix_3 : decode c_Mo_postfix 3 = .ok (.invokestatic 164, 3) := by decide +kernel
theorem d_Mo_postfix_6 : decode c_Mo_postfix 6 = .ok (.istore_n 2, 1) := by decide +kernel
theorem d_Mo_postfix_7 : decode c_Mo_postfix 7 = .ok (.aload_n 0, 1) := by decide +kernel
theorem d_Mo_postfix_8 : decode c_Mo_postfix 8 = .ok (.bipush 73, 2) := by decide +kernel
theorem d_Mo_postfix_10 : decode c_Mo_postfix 10 = .ok (.invokevirtual 90, 3) := by decide +kernel
theorem d_Mo_postfix_13 : decode c_Mo_postfix 13 = .ok (.ifCond .ne 12, 3) := by decide +kernel
theorem d_Mo_postfix_16 : decode c_Mo_postfix 16 = .ok (.aload_n 0, 1) := by decide +kernel
theorem d_Mo_postfix_17 : decode c_Mo_postfix 17 = .ok (.bipush 74, 2) := by decide +kernel
theorem d_Mo_postfix_19 : decode c_Mo_postfix 19 = .ok (.invokevirtual 90, 3) := by decide +kernel
theorem d_Mo_postfix_22 : decode c_Mo_postfix 22 = .ok (.ifCond .eq 15, 3) := by decide +kernel
theorem d_Mo_postfix_25 : decode c_Mo_postfix 25 = .ok (.aload_n 0, 1) := by decide +kernel
theorem d_Mo_postfix_26 : decode c_Mo_postfix 26 = .ok (.getfield 19, 3) := by decide +kernel
theorem d_Mo_postfix_29 : decode c_Mo_postfix 29 = .ok (.aload_n 0, 1) := by decide +kernel
theorem d_Mo_postfix_30 : decode c_Mo_postfix 30 = .ok (.getfield 84, 3) := by decide +kernel
theorem d_Mo_postfix_33 : decode c_Mo_postfix 33 = .ok (.baload, 1) := by decide +kernel
theorem d_Mo_postfix_34 : decode c_Mo_postfix 34 = .ok (.ifCond .eq 5, 3) := by decide +kernel
theorem d_Mo_postfix_37 : decode c_Mo_postfix 37 = .ok (.iload_n 2, 1) := by decide +kernel
theorem d_Mo_postfix_38 : decode c_Mo_postfix 38 = .ok (.ireturn, 1) := by decide +kernel
theorem d_Mo_postfix_39 : decode c_Mo_postfix 39 = .ok (.aload_n 0, 1) := by decide +kernel
theorem d_Mo_postfix_40 : decode c_Mo_postfix 40 = .ok (.iload_n 2, 1) := by decide +kernel
theorem d_Mo_postfix_41 : decode c_Mo_postfix 41 = .ok (.aload_n 0, 1) := by decide +kernel
theorem d_Mo_postfix_42 : decode c_Mo_postfix 42 = .ok (.getfield 84, 3) := by decide +kernel
theorem d_Mo_postfix_45 : decode c_Mo_postfix 45 = .ok (.invokevirtual 140, 3) := by decide +kernel
theorem d_Mo_postfix_48 : decode c_Mo_postfix 48 = .ok (.aload_n 0, 1) := by decide +kernel
theorem d_Mo_postfix_49 : decode c_Mo_postfix 49 = .ok (.bipush 44, 2) := by decide +kernel
theorem d_Mo_postfix_51 : decode c_Mo_postfix 51 = .ok (.aload_n 0, 1) := by decide +kernel
theorem d_Mo_postfix_52 : decode c_Mo_postfix 52 = .ok (.getfield 13, 3) := by decide +kernel
theorem d_Mo_postfix_55 : decode c_Mo_postfix 55 = .ok (.aload_n 0, 1) := by decide +kernel
theorem d_Mo_postfix_56 : decode c_Mo_postfix 56 = .ok (.getfield 84, 3) := by decide +kernel
theorem d_Mo_postfix_59 : decode c_Mo_postfix 59 = .ok (.iaload, 1) := by decide +kernel
theorem d_Mo_postfix_60 : decode c_Mo_postfix 60 = .ok (.bipush 73, 2) := by decide +kernel
theorem d_Mo_postfix_62 : decode c_Mo_postfix 62 = .ok (.if_icmp .ne 7, 3) := by decide +kernel
theorem d_Mo_postfix_65 : decode c_Mo_postfix 65 = .ok (.iconst 3, 1) := by decide +kernel
theorem d_Mo_postfix_66 : decode c_Mo_postfix 66 = .ok (.goto 4, 3) := by decide +kernel
theorem d_Mo_postfix_69 : decode c_Mo_postfix 69 = .ok (.iconst 4, 1) := by decide +kernel
theorem d_Mo_postfix_70 : decode c_Mo_postfix 70 = .ok (.aload_n 0, 1) := by decide +kernel
theorem d_Mo_postfix_71 : decode c_Mo_postfix 71 = .ok (.getfield 84, 3) := by decide +kernel
theorem d_Mo_postfix_74 : decode c_Mo_postfix 74 = .ok (.invokevirtual 115, 3) := by decide +kernel
theorem d_Mo_postfix_77 : decode c_Mo_postfix 77 = .ok (.istore_n 3, 1) := by decide +kernel
theorem d_Mo_postfix_78 : decode c_Mo_postfix 78 = .ok (.aload_n 0, 1) := by decide +kernel
theorem d_Mo_postfix_79 : decode c_Mo_postfix 79 = .ok (.dup, 1) := by decide +kernel
theorem d_Mo_postfix_80 : decode c_Mo_postfix 80 = .ok (.getfield 84, 3) := by decide +kernel
theorem d_Mo_postfix_83 : decode c_Mo_postfix 83 = .ok (.iconst 1, 1) := by decide +kernel
theorem d_Mo_postfix_84 : decode c_Mo_postfix 84 = .ok (.iadd, 1) := by decide +kernel
theorem d_Mo_postfix_85 : decode c_Mo_postfix 85 = .ok (.putfield 84, 3) := by decide +kernel
theorem d_Mo_postfix_88 : decode c_Mo_postfix 88 = .ok (.aload_n 0, 1) := by decide +kernel
theorem d_Mo_postfix_89 : decode c_Mo_postfix 89 = .ok (.iload_n 3, 1) := by decide +kernel
theorem d_Mo_postfix_90 : decode c_Mo_postfix 90 = .ok (.iload_n 2, 1) := by decide +kernel
theorem d_Mo_postfix_91 : decode c_Mo_postfix 91 = .ok (.invokevirtual 119, 3) := by decide +kernel
theorem d_Mo_postfix_94 : decode c_Mo_postfix 94 = .ok (.iload_n 3, 1) := by decide +kernel
theorem d_Mo_postfix_95 : decode c_Mo_postfix 95 = .ok (.ireturn, 1) := by decide +kernel
theorem d_Mo_member_0 : decode c_Mo_member 0 = .ok (.aload_n 0, 1) := by decide +kernel
theorem d_Mo_member_1 : decode c_Mo_member 1 = .ok (.bipush 15, 2) := by decide +kernel
theorem d_Mo_member_3 : decode c_Mo_member 3 = .ok (.invokevirtual 143, 3) := by decide +kernel
theorem d_Mo_member_6 : decode c_Mo_member 6 = .ok (.ifCond .eq 11, 3) := by decide +kernel
theorem d_Mo_member_9 : decode c_Mo_member 9 = .ok (.aload_n 0, 1) := by decide +kernel
theorem d_Mo_member_10 : decode c_Mo_member 10 = .ok (.iload_n 1, 1) := by decide +kernel
theorem d_Mo_member_11 : decode c_Mo_member 11 = .ok (.invokestatic 167, 3) := by decide +kernel
theorem d_Mo_member_14 : decode c_Mo_member 14 = .ok (.goto 8, 3) := by decide +kernel
theorem d_Mo_member_17 : decode c_Mo_member 17 = .ok (.aload_n 0, 1) := by decide +kernel
theorem d_Mo_member_18 : decode c_Mo_member 18 = .ok (.iload_n 1, 1) := by decide +kernel
theorem d_Mo_member_19 : decode c_Mo_member 19 = .ok (.invokestatic 170, 3) := by decide +kernel
theorem d_Mo_member_22 : decode c_Mo_member 22 = .ok (.istore_n 3, 1) := by decide +kernel
theorem d_Mo_member_23 : decode c_Mo_member 23 = .ok (.iconst 1, 1) := by decide +kernel
theorem d_Mo_member_24 : decode c_Mo_member 24 = .ok (.istore 4, 2) := by decide +kernel
theorem d_Mo_member_26 : decode c_Mo_member 26 = .ok (.iload 4, 2) := by decide +kernel
theorem d_Mo_member_28 : decode c_Mo_member 28 = .ok (.ifCond .eq 207, 3) := by decide +kernel
theorem d_Mo_member_31 : decode c_Mo_member 31 = .ok (.aload_n 0, 1) := by decide +kernel
theorem d_Mo_member_32 : decode c_Mo_member 32 = .ok (.bipush 66, 2) := by decide +kernel
theorem d_Mo_member_34 : decode c_Mo_member 34 = .ok (.invokevirtual 90, 3) := by decide +kernel
theorem d_Mo_member_37 : decode c_Mo_member 37 = .ok (.ifCond .eq 81, 3) := by decide +kernel
theorem d_Mo_member_40 : decode c_Mo_member 40 = .ok (.aload_n 0, 1) := by decide +kernel
theorem d_Mo_member_41 : decode c_Mo_member 41 = .ok (.bipush 36, 2) := by decide +kernel
theorem d_Mo_member_43 : decode c_Mo_member 43 = .ok (.iconst 0, 1) := by decide +kernel
theorem d_Mo_member_44 : decode c_Mo_member 44 = .ok (.aload_n 0, 1) := by decide +kernel
theorem d_Mo_member_45 : decode c_Mo_member 45 = .ok (.getfield 84, 3) := by decide +kernel
theorem d_Mo_member_48 : decode c_Mo_member 48 = .ok (.invokevirtual 115, 3) := by decide +kernel
theorem d_Mo_member_51 : decode c_Mo_member 51 = .ok (.istore 5, 2) := by decide +kernel
theorem d_Mo_member_53 : decode c_Mo_member 53 = .ok (.aload_n 0, 1) := by decide +kernel
theorem d_Mo_member_54 : decode c_Mo_member 54 = .ok (.dup, 1) := by decide +kernel
theorem d_Mo_member_55 : decode c_Mo_member 55 = .ok (.getfield 84, 3) := by decide +kernel
theorem d_Mo_member_58 : decode c_Mo_member 58 = .ok (.iconst 1, 1) := by decide +kernel
theorem d_Mo_member_59 : decode c_Mo_member 59 = .ok (.iadd, 1) := by decide +kernel
theorem d_Mo_member_60 : decode c_Mo_member 60 = .ok (.putfield 84, 3) := by decide +kernel
theorem d_Mo_member_63 : decode c_Mo_member 63 = .ok (.aload_n 0, 1) := by decide +kernel
theorem d_Mo_member_64 : decode c_Mo_member 64 = .ok (.iconst 1, 1) := by decide +kernel
theorem d_Mo_member_65 : decode c_Mo_member 65 = .ok (.invokevirtual 87, 3) := by decide +kernel
theorem d_Mo_member_68 : decode c_Mo_member 68 = .ok (.ifCond .ne 11, 3) := by decide +kernel
theorem d_Mo_member_71 : decode c_Mo_member 71 = .ok (.aload_n 0, 1) := by decide +kernel
theorem d_Mo_member_72 : decode c_Mo_member 72 = .ok (.aload_n 0, 1) := by decide +kernel
theorem d_Mo_member_73 : decode c_Mo_member 73 = .ok (.getfield 84, 3) := by decide +kernel
theorem d_Mo_member_76 : decode c_Mo_member 76 = .ok (.invokevirtual 93, 3) := by decide +kernel
theorem d_Mo_member_79 : decode c_Mo_member 79 = .ok (.aload_n 0, 1) := by decide +kernel
theorem d_Mo_member_80 : decode c_Mo_member 80 = .ok (.getfield 30, 3) := by decide +kernel
theorem d_Mo_member_83 : decode c_Mo_member 83 = .ok (.iload 5, 2) := by decide +kernel
theorem d_Mo_member_85 : decode c_Mo_member 85 = .ok (.aload_n 0, 1) := by decide +kernel
theorem d_Mo_member_86 : decode c_Mo_member 86 = .ok (.getfield 16, 3) := by decide +kernel
theorem d_Mo_member_89 : decode c_Mo_member 89 = .ok (.aload_n 0, 1) := by decide +kernel
theorem d_Mo_member_90 : decode c_Mo_member 90 = .ok (.getfield 84, 3) := by decide +kernel
theorem d_Mo_member_93 : decode c_Mo_member 93 = .ok (.iaload, 1) := by decide +kernel
theorem d_Mo_member_94 : decode c_Mo_member 94 = .ok (.iastore, 1) := by decide +kernel
theorem d_Mo_member_95 : decode c_Mo_member 95 = .ok (.aload_n 0, 1) := by decide +kernel
theorem d_Mo_member_96 : decode c_Mo_member 96 = .ok (.dup, 1) := by decide +kernel
theorem d_Mo_member_97 : decode c_Mo_member 97 = .ok (.getfield 84, 3) := by decide +kernel
theorem d_Mo_member_100 : decode c_Mo_member 100 = .ok (.iconst 1, 1) := by decide +kernel
theorem d_Mo_member_101 : decode c_Mo_member 101 = .ok (.iadd, 1) := by decide +kernel
theorem d_Mo_member_102 : decode c_Mo_member 102 = .ok (.putfield 84, 3) := by decide +kernel
theorem d_Mo_member_105 : decode c_Mo_member 105 = .ok (.aload_n 0, 1) := by decide +kernel
theorem d_Mo_member_106 : decode c_Mo_member 106 = .ok (.iload 5, 2) := by decide +kernel
theorem d_Mo_member_108 : decode c_Mo_member 108 = .ok (.iload_n 3, 1) := by decide +kernel
theorem d_Mo_member_109 : decode c_Mo_member 109 = .ok (.invokevirtual 119, 3) := by decide +kernel
theorem d_Mo_member_112 : decode c_Mo_member 112 = .ok (.iload 5, 2) := by decide +kernel
theorem d_Mo_member_114 : decode c_Mo_member 114 = .ok (.istore_n 3, 1) := by decide +kernel
theorem d_Mo_member_115 : decode c_Mo_member 115 = .ok (.goto (-89), 3) := by decide +kernel
theorem d_Mo_member_118 : decode c_Mo_member 118 = .ok (.aload_n 0, 1) := by decide +kernel
theorem d_Mo_member_119 : decode c_Mo_member 119 = .ok (.bipush 62, 2) := by decide +kernel
theorem d_Mo_member_121 : decode c_Mo_member 121 = .ok (.invokevirtual 90, 3) := by decide +kernel
theorem d_Mo_member_124 : decode c_Mo_member 124 = .ok (.ifCond .eq 59, 3) := by decide +kernel
theorem d_Mo_member_127 : decode c_Mo_member 127 = .ok (.aload_n 0, 1) := by decide +kernel
theorem d_Mo_member_128 : decode c_Mo_member 128 = .ok (.bipush 37, 2) := by decide +kernel
theorem d_Mo_member_130 : decode c_Mo_member 130 = .ok (.iconst 0, 1) := by decide +kernel
theorem d_Mo_member_131 : decode c_Mo_member 131 = .ok (.aload_n 0, 1) := by decide +kernel
theorem d_Mo_member_132 : decode c_Mo_member 132 = .ok (.getfield 84, 3) := by decide +kernel
theorem d_Mo_member_135 : decode c_Mo_member 135 = .ok (.invokevirtual 115, 3) := by decide +kernel
theorem d_Mo_member_138 : decode c_Mo_member 138 = .ok (.istore 5, 2) := by decide +kernel
theorem d_Mo_member_140 : decode c_Mo_member 140 = .ok (.aload_n 0, 1) := by decide +kernel
theorem d_Mo_member_141 : decode c_Mo_member 141 = .ok (.dup, 1) := by decide +kernel
theorem d_Mo_member_142 : decode c_Mo_member 142 = .ok (.getfield 84, 3) := by decide +kernel
theorem d_Mo_member_145 : decode c_Mo_member 145 = .ok (.iconst 1, 1) := by decide +kernel
theorem d_Mo_member_146 : decode c_Mo_member 146 = .ok (.iadd, 1) := by decide +kernel
theorem d_Mo_member_147 : decode c_Mo_member 147 = .ok (.putfield 84, 3) := by decide +kernel
theorem d_Mo_member_150 : decode c_Mo_member 150 = .ok (.aload_n 0, 1) := by decide +kernel
theorem d_Mo_member_151 : decode c_Mo_member 151 = .ok (.iload 5, 2) := by decide +kernel
theorem d_Mo_member_153 : decode c_Mo_member 153 = .ok (.iload_n 3, 1) := by decide +kernel
theorem d_Mo_member_154 : decode c_Mo_member 154 = .ok (.invokevirtual 119, 3) := by decide +kernel
theorem d_Mo_member_157 : decode c_Mo_member 157 = .ok (.aload_n 0, 1) := by decide +kernel
theorem d_Mo_member_158 : decode c_Mo_member 158 = .ok (.iload 5, 2) := by decide +kernel
theorem d_Mo_member_160 : decode c_Mo_member 160 = .ok (.aload_n 0, 1) := by decide +kernel
theorem d_Mo_member_161 : decode c_Mo_member 161 = .ok (.iload_n 1, 1) := by decide +kernel
theorem d_Mo_member_162 : decode c_Mo_member 162 = .ok (.iconst 1, 1) := by decide +kernel
theorem d_Mo_member_163 : decode c_Mo_member 163 = .ok (.iadd, 1) := by decide +kernel
theorem d_Mo_member_164 : decode c_Mo_member 164 = .ok (.iconst 1, 1) := by decide +kernel
theorem d_Mo_member_165 : decode c_Mo_member 165 = .ok (.invokestatic 173, 3) := by decide +kernel
theorem d_Mo_member_168 : decode c_Mo_member 168 = .ok (.invokevirtual 119, 3) := by decide +kernel
theorem d_Mo_member_171 : decode c_Mo_member 171 = .ok (.aload_n 0, 1) := by decide +kernel
theorem d_Mo_member_172 : decode c_Mo_member 172 = .ok (.bipush 63, 2) := by decide +kernel
theorem d_Mo_member_174 : decode c_Mo_member 174 = .ok (.invokevirtual 137, 3) := by decide +kernel
theorem d_Mo_member_177 : decode c_Mo_member 177 = .ok (.iload 5, 2) := by decide +kernel
theorem d_Mo_member_179 : decode c_Mo_member 179 = .ok (.istore_n 3, 1) := by decide +kernel
theorem d_Mo_member_180 : decode c_Mo_member 180 = .ok (.goto (-154), 3) := by decide +kernel
theorem d_Mo_member_183 : decode c_Mo_member 183 = .ok (.iload_n 2, 1) := by decide +kernel
theorem d_Mo_member_184 : decode c_Mo_member 184 = .ok (.ifCond .eq 45, 3) := by decide +kernel
theorem d_Mo_member_187 : decode c_Mo_member 187 = .ok (.aload_n 0, 1) := by decide +kernel
theorem d_Mo_member_188 : decode c_Mo_member 188 = .ok (.bipush 60, 2) := by decide +kernel
theorem d_Mo_member_190 : decode c_Mo_member 190 = .ok (.invokevirtual 90, 3) := by decide +kernel
theorem d_Mo_member_193 : decode c_Mo_member 193 = .ok (.ifCond .eq 36, 3) := by decide +kernel
theorem d_Mo_member_196 : decode c_Mo_member 196 = .ok (.aload_n 0, 1) := by decide +kernel
theorem d_Mo_member_197 : decode c_Mo_member 197 = .ok (.bipush 38, 2) := by decide +kernel
theorem d_Mo_member_199 : decode c_Mo_member 199 = .ok (.iconst 0, 1) := by decide +kernel
theorem d_Mo_member_200 : decode c_Mo_member 200 = .ok (.aload_n 0, 1) := by decide +kernel
theorem d_Mo_member_201 : decode c_Mo_member 201 = .ok (.getfield 84, 3) := by decide +kernel
theorem d_Mo_member_204 : decode c_Mo_member 204 = .ok (.invokevirtual 115, 3) := by decide +kernel
theorem d_Mo_member_207 : decode c_Mo_member 207 = .ok (.istore 5, 2) := by decide +kernel
theorem d_Mo_member_209 : decode c_Mo_member 209 = .ok (.aload_n 0, 1) := by decide +kernel
theorem d_Mo_member_210 : decode c_Mo_member 210 = .ok (.iload 5, 2) := by decide +kernel
theorem d_Mo_member_212 : decode c_Mo_member 212 = .ok (.iload_n 3, 1) := by decide +kernel
theorem d_Mo_member_213 : decode c_Mo_member 213 = .ok (.invokevirtual 119, 3) := by decide +kernel
theorem d_Mo_member_216 : decode c_Mo_member 216 = .ok (.aload_n 0, 1) := by decide +kernel
theorem d_Mo_member_217 : decode c_Mo_member 217 = .ok (.iload 5, 2) := by decide +kernel
theorem d_Mo_member_219 : decode c_Mo_member 219 = .ok (.iload_n 1, 1) := by decide +kernel
theorem d_Mo_member_220 : decode c_Mo_member 220 = .ok (.invokestatic 176, 3) := by decide +kernel
theorem d_Mo_member_223 : decode c_Mo_member 223 = .ok (.iload 5, 2) := by decide +kernel
theorem d_Mo_member_225 : decode c_Mo_member 225 = .ok (.istore_n 3, 1) := by decide +kernel
theorem d_Mo_member_226 : decode c_Mo_member 226 = .ok (.goto (-200), 3) := by decide +kernel
theorem d_Mo_member_229 : decode c_Mo_member 229 = .ok (.iconst 0, 1) := by decide +kernel
theorem d_Mo_member_230 : decode c_Mo_member 230 = .ok (.istore 4, 2) := by decide +kernel
theorem d_Mo_member_232 : decode c_Mo_member 232 = .ok (.goto (-206), 3) := by decide +kernel
theorem d_Mo_member_235 : decode c_Mo_member 235 = .ok (.iload_n 3, 1) := by decide +kernel
theorem d_Mo_member_236 : decode c_Mo_member 236 = .ok (.ireturn, 1) := by decide +kernel
