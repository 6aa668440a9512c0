theorem dX6_init_0 : decode cX6_init 0 = .ok (.aload_n 0, 1) := by decide +kernel
theorem dX6_init_1 : decode cX6_init 1 = .ok (.invokespecial 1, 3) := by decide +kernel
theorem dX6_init_4 : decode cX6_init 4 = .ok (.aload_n 0, 1) := by decide +kernel
theorem dX6_init_5 : decode cX6_init 5 = .ok (.iconst 5, 1) := by decide +kernel
theorem dX6_init_6 : decode cX6_init 6 = .ok (.bipush 7, 2) := by decide +kernel
theorem dX6_init_8 : decode cX6_init 8 = .ok (.multianewarray 9 2, 4) := by decide +kernel
theorem dX6_init_12 : decode cX6_init 12 = .ok (.putfield 11, 3) := by decide +kernel
theorem dX6_init_15 : decode cX6_init 15 = .ok (.aload_n 0, 1) := by decide +kernel
theorem dX6_init_16 : decode cX6_init 16 = .ok (.bipush 7, 2) := by decide +kernel
theorem dX6_init_18 : decode cX6_init 18 = .ok (.newarray .long, 2) := by decide +kernel
theorem dX6_init_20 : decode cX6_init 20 = .ok (.putfield 14, 3) := by decide +kernel
theorem dX6_init_23 : decode cX6_init 23 = .ok (.aload_n 0, 1) := by decide +kernel
theorem dX6_init_24 : decode cX6_init 24 = .ok (.new 18, 3) := by decide +kernel
theorem dX6_init_27 : decode cX6_init 27 = .ok (.dup, 1) := by decide +kernel
theorem dX6_init_28 : decode cX6_init 28 = .ok (.invokespecial 20, 3) := by decide +kernel
theorem dX6_init_31 : decode cX6_init 31 = .ok (.putfield 21, 3) := by decide +kernel
theorem dX6_init_34 : decode cX6_init 34 = .ok (.aload_n 0, 1) := by decide +kernel
theorem dX6_init_35 : decode cX6_init 35 = .ok (.new 25, 3) := by decide +kernel
theorem dX6_init_38 : decode cX6_init 38 = .ok (.dup, 1) := by decide +kernel
theorem dX6_init_39 : decode cX6_init 39 = .ok (.invokespecial 27, 3) := by decide +kernel
theorem dX6_init_42 : decode cX6_init 42 = .ok (.putfield 28, 3) := by decide +kernel
theorem dX6_init_45 : decode cX6_init 45 = .ok (.aload_n 0, 1) := by decide +kernel
theorem dX6_init_46 : decode cX6_init 46 = .ok (.new 25, 3) := by decide +kernel
theorem dX6_init_49 : decode cX6_init 49 = .ok (.dup, 1) := by decide +kernel
theorem dX6_init_50 : decode cX6_init 50 = .ok (.invokespecial 27, 3) := by decide +kernel
theorem dX6_init_53 : decode cX6_init 53 = .ok (.putfield 32, 3) := by decide +kernel
theorem dX6_init_56 : decode cX6_init 56 = .ok (.aload_n 0, 1) := by decide +kernel
theorem dX6_init_57 : decode cX6_init 57 = .ok (.new 25, 3) := by decide +kernel
theorem dX6_init_60 : decode cX6_init 60 = .ok (.dup, 1) := by decide +kernel
theorem dX6_init_61 : decode cX6_init 61 = .ok (.invokespecial 27, 3) := by decide +kernel
theorem dX6_init_64 : decode cX6_init 64 = .ok (.putfield 35, 3) := by decide +kernel
theorem dX6_init_67 : decode cX6_init 67 = .ok (.aload_n 0, 1) := by decide +kernel
theorem dX6_init_68 : decode cX6_init 68 = .ok (.new 38, 3) := by decide +kernel
theorem dX6_init_71 : decode cX6_init 71 = .ok (.dup, 1) := by decide +kernel
theorem dX6_init_72 : decode cX6_init 72 = .ok (.invokespecial 40, 3) := by decide +kernel
theorem dX6_init_75 : decode cX6_init 75 = .ok (.putfield 41, 3) := by decide +kernel
theorem dX6_init_78 : decode cX6_init 78 = .ok (.aload_n 0, 1) := by decide +kernel
theorem dX6_init_79 : decode cX6_init 79 = .ok (.new 45, 3) := by decide +kernel
theorem dX6_init_82 : decode cX6_init 82 = .ok (.dup, 1) := by decide +kernel
theorem dX6_init_83 : decode cX6_init 83 = .ok (.aload_n 0, 1) := by decide +kernel
theorem dX6_init_84 : decode cX6_init 84 = .ok (.getfield 21, 3) := by decide +kernel
theorem dX6_init_87 : decode cX6_init 87 = .ok (.invokespecial 47, 3) := by decide +kernel
theorem dX6_init_90 : decode cX6_init 90 = .ok (.putfield 50, 3) := by decide +kernel
theorem dX6_init_93 : decode cX6_init 93 = .ok (.return_, 1) := by decide +kernel
theorem dX6_set_0 : decode cX6_set 0 = .ok (.iload_n 1, 1) := by decide +kernel
theorem dX6_set_1 : decode cX6_set 1 = .ok (.invokestatic 54, 3) := by decide +kernel
theorem dX6_set_4 : decode cX6_set 4 = .ok (.iload_n 2, 1) := by decide +kernel
theorem dX6_set_5 : decode cX6_set 5 = .ok (.invokestatic 58, 3) := by decide +kernel
theorem dX6_set_8 : decode cX6_set 8 = .ok (.iload_n 3, 1) := by decide +kernel
theorem dX6_set_9 : decode cX6_set 9 = .ok (.bipush (-99), 2) := by decide +kernel
theorem dX6_set_11 : decode cX6_set 11 = .ok (.if_icmp .lt 9, 3) := by decide +kernel
theorem dX6_set_14 : decode cX6_set 14 = .ok (.iload_n 3, 1) := by decide +kernel
theorem dX6_set_15 : decode cX6_set 15 = .ok (.bipush 99, 2) := by decide +kernel
theorem dX6_set_17 : decode cX6_set 17 = .ok (.if_icmp .le 13, 3) := by decide +kernel
theorem dX6_set_20 : decode cX6_set 20 = .ok (.new 61, 3) := by decide +kernel
theorem dX6_set_23 : decode cX6_set 23 = .ok (.dup, 1) := by decide +kernel
theorem dX6_set_24 : decode cX6_set 24 = .ok (.ldc 63, 2) := by decide +kernel
theorem dX6_set_26 : decode cX6_set 26 = .ok (.invokespecial 65, 3) := by decide +kernel
theorem dX6_set_29 : decode cX6_set 29 = .ok (.athrow, 1) := by decide +kernel
theorem dX6_set_30 : decode cX6_set 30 = .ok (.aload_n 0, 1) := by decide +kernel
theorem dX6_set_31 : decode cX6_set 31 = .ok (.getfield 11, 3) := by decide +kernel
theorem dX6_set_34 : decode cX6_set 34 = .ok (.iload_n 1, 1) := by decide +kernel
theorem dX6_set_35 : decode cX6_set 35 = .ok (.aaload, 1) := by decide +kernel
theorem dX6_set_36 : decode cX6_set 36 = .ok (.iload_n 2, 1) := by decide +kernel
theorem dX6_set_37 : decode cX6_set 37 = .ok (.iload_n 3, 1) := by decide +kernel
theorem dX6_set_38 : decode cX6_set 38 = .ok (.iastore, 1) := by decide +kernel
theorem dX6_set_39 : decode cX6_set 39 = .ok (.aload_n 0, 1) := by decide +kernel
theorem dX6_set_40 : decode cX6_set 40 = .ok (.getfield 11, 3) := by decide +kernel
theorem dX6_set_43 : decode cX6_set 43 = .ok (.iload_n 1, 1) := by decide +kernel
theorem dX6_set_44 : decode cX6_set 44 = .ok (.aaload, 1) := by decide +kernel
theorem dX6_set_45 : decode cX6_set 45 = .ok (.invokestatic 68, 3) := by decide +kernel
theorem dX6_set_48 : decode cX6_set 48 = .ok (.ireturn, 1) := by decide +kernel
theorem dX6_coefficient_0 : decode cX6_coefficient 0 = .ok (.iload_n 1, 1) := by decide +kernel
theorem dX6_coefficient_1 : decode cX6_coefficient 1 = .ok (.invokestatic 54, 3) := by decide +kernel
theorem dX6_coefficient_4 : decode cX6_coefficient 4 = .ok (.iload_n 2, 1) := by decide +kernel
theorem dX6_coefficient_5 : decode cX6_coefficient 5 = .ok (.invokestatic 58, 3) := by decide +kernel
theorem dX6_coefficient_8 : decode cX6_coefficient 8 = .ok (.aload_n 0, 1) := by decide +kernel
theorem dX6_coefficient_9 : decode cX6_coefficient 9 = .ok (.getfield 11, 3) := by decide +kernel
theorem dX6_coefficient_12 : decode cX6_coefficient 12 = .ok (.iload_n 1, 1) := by decide +kernel
theorem dX6_coefficient_13 : decode cX6_coefficient 13 = .ok (.aaload, 1) := by decide +kernel
theorem dX6_coefficient_14 : decode cX6_coefficient 14 = .ok (.iload_n 2, 1) := by decide +kernel
theorem dX6_coefficient_15 : decode cX6_coefficient 15 = .ok (.iaload, 1) := by decide +kernel
theorem dX6_coefficient_16 : decode cX6_coefficient 16 = .ok (.ireturn, 1) := by decide +kernel
theorem dX6_degree_0 : decode cX6_degree 0 = .ok (.iload_n 1, 1) := by decide +kernel
theorem dX6_degree_1 : decode cX6_degree 1 = .ok (.invokestatic 54, 3) := by decide +kernel
theorem dX6_degree_4 : decode cX6_degree 4 = .ok (.aload_n 0, 1) := by decide +kernel
theorem dX6_degree_5 : decode cX6_degree 5 = .ok (.getfield 11, 3) := by decide +kernel
theorem dX6_degree_8 : decode cX6_degree 8 = .ok (.iload_n 1, 1) := by decide +kernel
theorem dX6_degree_9 : decode cX6_degree 9 = .ok (.aaload, 1) := by decide +kernel
theorem dX6_degree_10 : decode cX6_degree 10 = .ok (.invokestatic 68, 3) := by decide +kernel
theorem dX6_degree_13 : decode cX6_degree 13 = .ok (.ireturn, 1) := by decide +kernel
theorem dX6_copy_0 : decode cX6_copy 0 = .ok (.iload_n 1, 1) := by decide +kernel
theorem dX6_copy_1 : decode cX6_copy 1 = .ok (.invokestatic 54, 3) := by decide +kernel
theorem dX6_copy_4 : decode cX6_copy 4 = .ok (.iload_n 2, 1) := by decide +kernel
theorem dX6_copy_5 : decode cX6_copy 5 = .ok (.invokestatic 54, 3) := by decide +kernel
theorem dX6_copy_8 : decode cX6_copy 8 = .ok (.aload_n 0, 1) := by decide +kernel
theorem dX6_copy_9 : decode cX6_copy 9 = .ok (.iload_n 1, 1) := by decide +kernel
theorem dX6_copy_10 : decode cX6_copy 10 = .ok (.invokevirtual 72, 3) := by decide +kernel
theorem dX6_copy_13 : decode cX6_copy 13 = .ok (.aload_n 0, 1) := by decide +kernel
theorem dX6_copy_14 : decode cX6_copy 14 = .ok (.iload_n 2, 1) := by decide +kernel
theorem dX6_copy_15 : decode cX6_copy 15 = .ok (.invokevirtual 75, 3) := by decide +kernel
theorem dX6_copy_18 : decode cX6_copy 18 = .ok (.ireturn, 1) := by decide +kernel
theorem dX6_add_0 : decode cX6_add 0 = .ok (.iload_n 1, 1) := by decide +kernel
theorem dX6_add_1 : decode cX6_add 1 = .ok (.invokestatic 54, 3) := by decide +kernel
theorem dX6_add_4 : decode cX6_add 4 = .ok (.iload_n 2, 1) := by decide +kernel
theorem dX6_add_5 : decode cX6_add 5 = .ok (.invokestatic 54, 3) := by decide +kernel
theorem dX6_add_8 : decode cX6_add 8 = .ok (.iload_n 3, 1) := by decide +kernel
theorem dX6_add_9 : decode cX6_add 9 = .ok (.invokestatic 54, 3) := by decide +kernel
theorem dX6_add_12 : decode cX6_add 12 = .ok (.iconst 0, 1) := by decide +kernel
theorem dX6_add_13 : decode cX6_add 13 = .ok (.istore 4, 2) := by decide +kernel
theorem dX6_add_15 : decode cX6_add 15 = .ok (.iload 4, 2) := by decide +kernel
theorem dX6_add_17 : decode cX6_add 17 = .ok (.bipush 7, 2) := by decide +kernel
theorem dX6_add_19 : decode cX6_add 19 = .ok (.if_icmp .ge 37, 3) := by decide +kernel
theorem dX6_add_22 : decode cX6_add 22 = .ok (.aload_n 0, 1) := by decide +kernel
theorem dX6_add_23 : decode cX6_add 23 = .ok (.getfield 14, 3) := by decide +kernel
theorem dX6_add_26 : decode cX6_add 26 = .ok (.iload 4, 2) := by decide +kernel
theorem dX6_add_28 : decode cX6_add 28 = .ok (.aload_n 0, 1) := by decide +kernel
theorem dX6_add_29 : decode cX6_add 29 = .ok (.getfield 11, 3) := by decide +kernel
theorem dX6_add_32 : decode cX6_add 32 = .ok (.iload_n 1, 1) := by decide +kernel
theorem dX6_add_33 : decode cX6_add 33 = .ok (.aaload, 1) := by decide +kernel
theorem dX6_add_34 : decode cX6_add 34 = .ok (.iload 4, 2) := by decide +kernel
theorem dX6_add_36 : decode cX6_add 36 = .ok (.iaload, 1) := by decide +kernel
theorem dX6_add_37 : decode cX6_add 37 = .ok (.i2l, 1) := by decide +kernel
theorem dX6_add_38 : decode cX6_add 38 = .ok (.aload_n 0, 1) := by decide +kernel
theorem dX6_add_39 : decode cX6_add 39 = .ok (.getfield 11, 3) := by decide +kernel
theorem dX6_add_42 : decode cX6_add 42 = .ok (.iload_n 2, 1) := by decide +kernel
theorem dX6_add_43 : decode cX6_add 43 = .ok (.aaload, 1) := by decide +kernel
theorem dX6_add_44 : decode cX6_add 44 = .ok (.iload 4, 2) := by decide +kernel
theorem dX6_add_46 : decode cX6_add 46 = .ok (.iaload, 1) := by decide +kernel
theorem dX6_add_47 : decode cX6_add 47 = .ok (.i2l, 1) := by decide +kernel
theorem dX6_add_48 : decode cX6_add 48 = .ok (.ladd, 1) := by decide +kernel
theorem dX6_add_49 : decode cX6_add 49 = .ok (.lastore, 1) := by decide +kernel
theorem dX6_add_50 : decode cX6_add 50 = .ok (.iinc 4 1, 3) := by decide +kernel
theorem dX6_add_53 : decode cX6_add 53 = .ok (.goto (-38), 3) := by decide +kernel
theorem dX6_add_56 : decode cX6_add 56 = .ok (.aload_n 0, 1) := by decide +kernel
theorem dX6_add_57 : decode cX6_add 57 = .ok (.invokevirtual 79, 3) := by decide +kernel
theorem dX6_add_60 : decode cX6_add 60 = .ok (.aload_n 0, 1) := by decide +kernel
theorem dX6_add_61 : decode cX6_add 61 = .ok (.iload_n 3, 1) := by decide +kernel
theorem dX6_add_62 : decode cX6_add 62 = .ok (.invokevirtual 75, 3) := by decide +kernel
theorem dX6_add_65 : decode cX6_add 65 = .ok (.ireturn, 1) := by decide +kernel
theorem dX6_multiply_0 : decode cX6_multiply 0 = .ok (.iload_n 1, 1) := by decide +kernel
theorem dX6_multiply_1 : decode cX6_multiply 1 = .ok (.invokestatic 54, 3) := by decide +kernel
theorem dX6_multiply_4 : decode cX6_multiply 4 = .ok (.iload_n 2, 1) := by decide +kernel
theorem dX6_multiply_5 : decode cX6_multiply 5 = .ok (.invokestatic 54, 3) := by decide +kernel
theorem dX6_multiply_8 : decode cX6_multiply 8 = .ok (.iload_n 3, 1) := by decide +kernel
theorem dX6_multiply_9 : decode cX6_multiply 9 = .ok (.invokestatic 54, 3) := by decide +kernel
theorem dX6_multiply_12 : decode cX6_multiply 12 = .ok (.aload_n 0, 1) := by decide +kernel
theorem dX6_multiply_13 : decode cX6_multiply 13 = .ok (.getfield 11, 3) := by decide +kernel
theorem dX6_multiply_16 : decode cX6_multiply 16 = .ok (.iload_n 1, 1) := by decide +kernel
theorem dX6_multiply_17 : decode cX6_multiply 17 = .ok (.aaload, 1) := by decide +kernel
theorem dX6_multiply_18 : decode cX6_multiply 18 = .ok (.invokestatic 68, 3) := by decide +kernel
theorem dX6_multiply_21 : decode cX6_multiply 21 = .ok (.istore 4, 2) := by decide +kernel
theorem dX6_multiply_23 : decode cX6_multiply 23 = .ok (.aload_n 0, 1) := by decide +kernel
theorem dX6_multiply_24 : decode cX6_multiply 24 = .ok (.getfield 11, 3) := by decide +kernel
theorem dX6_multiply_27 : decode cX6_multiply 27 = .ok (.iload_n 2, 1) := by decide +kernel
theorem dX6_multiply_28 : decode cX6_multiply 28 = .ok (.aaload, 1) := by decide +kernel
theorem dX6_multiply_29 : decode cX6_multiply 29 = .ok (.invokestatic 68, 3) := by decide +kernel
theorem dX6_multiply_32 : decode cX6_multiply 32 = .ok (.istore 5, 2) := by decide +kernel
theorem dX6_multiply_34 : decode cX6_multiply 34 = .ok (.iload 4, 2) := by decide +kernel
theorem dX6_multiply_36 : decode cX6_multiply 36 = .ok (.ifCond .lt 28, 3) := by decide +kernel
theorem dX6_multiply_39 : decode cX6_multiply 39 = .ok (.iload 5, 2) := by decide +kernel
theorem dX6_multiply_41 : decode cX6_multiply 41 = .ok (.ifCond .lt 23, 3) := by decide +kernel
theorem dX6_multiply_44 : decode cX6_multiply 44 = .ok (.iload 4, 2) := by decide +kernel
theorem dX6_multiply_46 : decode cX6_multiply 46 = .ok (.iload 5, 2) := by decide +kernel
theorem dX6_multiply_48 : decode cX6_multiply 48 = .ok (.iadd, 1) := by decide +kernel
theorem dX6_multiply_49 : decode cX6_multiply 49 = .ok (.bipush 7, 2) := by decide +kernel
theorem dX6_multiply_51 : decode cX6_multiply 51 = .ok (.if_icmp .lt 13, 3) := by decide +kernel
theorem dX6_multiply_54 : decode cX6_multiply 54 = .ok (.new 82, 3) := by decide +kernel
theorem dX6_multiply_57 : decode cX6_multiply 57 = .ok (.dup, 1) := by decide +kernel
theorem dX6_multiply_58 : decode cX6_multiply 58 = .ok (.ldc 84, 2) := by decide +kernel
theorem dX6_multiply_60 : decode cX6_multiply 60 = .ok (.invokespecial 86, 3) := by decide +kernel
theorem dX6_multiply_63 : decode cX6_multiply 63 = .ok (.athrow, 1) := by decide +kernel
theorem dX6_multiply_64 : decode cX6_multiply 64 = .ok (.aload_n 0, 1) := by decide +kernel
theorem dX6_multiply_65 : decode cX6_multiply 65 = .ok (.invokevirtual 87, 3) := by decide +kernel
theorem dX6_multiply_68 : decode cX6_multiply 68 = .ok (.iconst 0, 1) := by decide +kernel
theorem dX6_multiply_69 : decode cX6_multiply 69 = .ok (.istore 6, 2) := by decide +kernel
theorem dX6_multiply_71 : decode cX6_multiply 71 = .ok (.iload 6, 2) := by decide +kernel
theorem dX6_multiply_73 : decode cX6_multiply 73 = .ok (.iload 4, 2) := by decide +kernel
theorem dX6_multiply_75 : decode cX6_multiply 75 = .ok (.if_icmp .gt 69, 3) := by decide +kernel
theorem dX6_multiply_78 : decode cX6_multiply 78 = .ok (.iconst 0, 1) := by decide +kernel
theorem dX6_multiply_79 : decode cX6_multiply 79 = .ok (.istore 7, 2) := by decide +kernel
theorem dX6_multiply_81 : decode cX6_multiply 81 = .ok (.iload 7, 2) := by decide +kernel
theorem dX6_multiply_83 : decode cX6_multiply 83 = .ok (.iload 5, 2) := by decide +kernel
theorem dX6_multiply_85 : decode cX6_multiply 85 = .ok (.if_icmp .gt 53, 3) := by decide +kernel
theorem dX6_multiply_88 : decode cX6_multiply 88 = .ok (.iload 6, 2) := by decide +kernel
theorem dX6_multiply_90 : decode cX6_multiply 90 = .ok (.iload 7, 2) := by decide +kernel
theorem dX6_multiply_92 : decode cX6_multiply 92 = .ok (.iadd, 1) := by decide +kernel
theorem dX6_multiply_93 : decode cX6_multiply 93 = .ok (.bipush 7, 2) := by decide +kernel
theorem dX6_multiply_95 : decode cX6_multiply 95 = .ok (.if_icmp .ge 43, 3) := by decide +kernel
theorem dX6_multiply_98 : decode cX6_multiply 98 = .ok (.aload_n 0, 1) := by decide +kernel
theorem dX6_multiply_99 : decode cX6_multiply 99 = .ok (.getfield 14, 3) := by decide +kernel
theorem dX6_multiply_102 : decode cX6_multiply 102 = .ok (.iload 6, 2) := by decide +kernel
theorem dX6_multiply_104 : decode cX6_multiply 104 = .ok (.iload 7, 2) := by decide +kernel
theorem dX6_multiply_106 : decode cX6_multiply 106 = .ok (.iadd, 1) := by decide +kernel
theorem dX6_multiply_107 : decode cX6_multiply 107 = .ok (.dup2, 1) := by decide +kernel
theorem dX6_multiply_108 : decode cX6_multiply 108 = .ok (.laload, 1) := by decide +kernel
theorem dX6_multiply_109 : decode cX6_multiply 109 = .ok (.aload_n 0, 1) := by decide +kernel
theorem dX6_multiply_110 : decode cX6_multiply 110 = .ok (.getfield 11, 3) := by decide +kernel
theorem dX6_multiply_113 : decode cX6_multiply 113 = .ok (.iload_n 1, 1) := by decide +kernel
theorem dX6_multiply_114 : decode cX6_multiply 114 = .ok (.aaload, 1) := by decide +kernel
theorem dX6_multiply_115 : decode cX6_multiply 115 = .ok (.iload 6, 2) := by decide +kernel
theorem dX6_multiply_117 : decode cX6_multiply 117 = .ok (.iaload, 1) := by decide +kernel
theorem dX6_multiply_118 : decode cX6_multiply 118 = .ok (.i2l, 1) := by decide +kernel
theorem dX6_multiply_119 : decode cX6_multiply 119 = .ok (.aload_n 0, 1) := by decide +kernel
theorem dX6_multiply_120 : decode cX6_multiply 120 = .ok (.getfield 11, 3) := by decide +kernel
theorem dX6_multiply_123 : decode cX6_multiply 123 = .ok (.iload_n 2, 1) := by decide +kernel
theorem dX6_multiply_124 : decode cX6_multiply 124 = .ok (.aaload, 1) := by decide +kernel
theorem dX6_multiply_125 : decode cX6_multiply 125 = .ok (.iload 7, 2) := by decide +kernel
theorem dX6_multiply_127 : decode cX6_multiply 127 = .ok (.iaload, 1) := by decide +kernel
theorem dX6_multiply_128 : decode cX6_multiply 128 = .ok (.i2l, 1) := by decide +kernel
theorem dX6_multiply_129 : decode cX6_multiply 129 = .ok (.lmul, 1) := by decide +kernel
theorem dX6_multiply_130 : decode cX6_multiply 130 = .ok (.ladd, 1) := by decide +kernel
theorem dX6_multiply_131 : decode cX6_multiply 131 = .ok (.lastore, 1) := by decide +kernel
theorem dX6_multiply_132 : decode cX6_multiply 132 = .ok (.iinc 7 1, 3) := by decide +kernel
theorem dX6_multiply_135 : decode cX6_multiply 135 = .ok (.goto (-54), 3) := by decide +kernel
theorem dX6_multiply_138 : decode cX6_multiply 138 = .ok (.iinc 6 1, 3) := by decide +kernel
theorem dX6_multiply_141 : decode cX6_multiply 141 = .ok (.goto (-70), 3) := by decide +kernel
theorem dX6_multiply_144 : decode cX6_multiply 144 = .ok (.aload_n 0, 1) := by decide +kernel
theorem dX6_multiply_145 : decode cX6_multiply 145 = .ok (.invokevirtual 79, 3) := by decide +kernel
theorem dX6_multiply_148 : decode cX6_multiply 148 = .ok (.aload_n 0, 1) := by decide +kernel
theorem dX6_multiply_149 : decode cX6_multiply 149 = .ok (.iload_n 3, 1) := by decide +kernel
theorem dX6_multiply_150 : decode cX6_multiply 150 = .ok (.invokevirtual 75, 3) := by decide +kernel
theorem dX6_multiply_153 : decode cX6_multiply 153 = .ok (.ireturn, 1) := by decide +kernel
theorem dX6_derivative_0 : decode cX6_derivative 0 = .ok (.iload_n 1, 1) := by decide +kernel
theorem dX6_derivative_1 : decode cX6_derivative 1 = .ok (.invokestatic 54, 3) := by decide +kernel
theorem dX6_derivative_4 : decode cX6_derivative 4 = .ok (.iload_n 2, 1) := by decide +kernel
theorem dX6_derivative_5 : decode cX6_derivative 5 = .ok (.invokestatic 54, 3) := by decide +kernel
theorem dX6_derivative_8 : decode cX6_derivative 8 = .ok (.aload_n 0, 1) := by decide +kernel
theorem dX6_derivative_9 : decode cX6_derivative 9 = .ok (.invokevirtual 87, 3) := by decide +kernel
theorem dX6_derivative_12 : decode cX6_derivative 12 = .ok (.iconst 1, 1) := by decide +kernel
theorem dX6_derivative_13 : decode cX6_derivative 13 = .ok (.istore_n 3, 1) := by decide +kernel
theorem dX6_derivative_14 : decode cX6_derivative 14 = .ok (.iload_n 3, 1) := by decide +kernel
theorem dX6_derivative_15 : decode cX6_derivative 15 = .ok (.bipush 7, 2) := by decide +kernel
theorem dX6_derivative_17 : decode cX6_derivative 17 = .ok (.if_icmp .ge 29, 3) := by decide +kernel
theorem dX6_derivative_20 : decode cX6_derivative 20 = .ok (.aload_n 0, 1) := by decide +kernel
theorem dX6_derivative_21 : decode cX6_derivative 21 = .ok (.getfield 14, 3) := by decide +kernel
theorem dX6_derivative_24 : decode cX6_derivative 24 = .ok (.iload_n 3, 1) := by decide +kernel
theorem dX6_derivative_25 : decode cX6_derivative 25 = .ok (.iconst 1, 1) := by decide +kernel
theorem dX6_derivative_26 : decode cX6_derivative 26 = .ok (.isub, 1) := by decide +kernel
theorem dX6_derivative_27 : decode cX6_derivative 27 = .ok (.iload_n 3, 1) := by decide +kernel
theorem dX6_derivative_28 : decode cX6_derivative 28 = .ok (.i2l, 1) := by decide +kernel
theorem dX6_derivative_29 : decode cX6_derivative 29 = .ok (.aload_n 0, 1) := by decide +kernel
theorem dX6_derivative_30 : decode cX6_derivative 30 = .ok (.getfield 11, 3) := by decide +kernel
theorem dX6_derivative_33 : decode cX6_derivative 33 = .ok (.iload_n 1, 1) := by decide +kernel
theorem dX6_derivative_34 : decode cX6_derivative 34 = .ok (.aaload, 1) := by decide +kernel
theorem dX6_derivative_35 : decode cX6_derivative 35 = .ok (.iload_n 3, 1) := by decide +kernel
theorem dX6_derivative_36 : decode cX6_derivative 36 = .ok (.iaload, 1) := by decide +kernel
theorem dX6_derivative_37 : decode cX6_derivative 37 = .ok (.i2l, 1) := by decide +kernel
theorem dX6_derivative_38 : decode cX6_derivative 38 = .ok (.lmul, 1) := by decide +kernel
theorem dX6_derivative_39 : decode cX6_derivative 39 = .ok (.lastore, 1) := by decide +kernel
theorem dX6_derivative_40 : decode cX6_derivative 40 = .ok (.iinc 3 1, 3) := by decide +kernel
theorem dX6_derivative_43 : decode cX6_derivative 43 = .ok (.goto (-29), 3) := by decide +kernel
theorem dX6_derivative_46 : decode cX6_derivative 46 = .ok (.aload_n 0, 1) := by decide +kernel
theorem dX6_derivative_47 : decode cX6_derivative 47 = .ok (.invokevirtual 79, 3) := by decide +kernel
theorem dX6_derivative_50 : decode cX6_derivative 50 = .ok (.aload_n 0, 1) := by decide +kernel
theorem dX6_derivative_51 : decode cX6_derivative 51 = .ok (.iload_n 2, 1) := by decide +kernel
theorem dX6_derivative_52 : decode cX6_derivative 52 = .ok (.invokevirtual 75, 3) := by decide +kernel
theorem dX6_derivative_55 : decode cX6_derivative 55 = .ok (.ireturn, 1) := by decide +kernel
theorem dX6_shift_0 : decode cX6_shift 0 = .ok (.iload_n 1, 1) := by decide +kernel
theorem dX6_shift_1 : decode cX6_shift 1 = .ok (.invokestatic 54, 3) := by decide +kernel
theorem dX6_shift_4 : decode cX6_shift 4 = .ok (.iload_n 3, 1) := by decide +kernel
theorem dX6_shift_5 : decode cX6_shift 5 = .ok (.invokestatic 54, 3) := by decide +kernel
theorem dX6_shift_8 : decode cX6_shift 8 = .ok (.iload_n 2, 1) := by decide +kernel
theorem dX6_shift_9 : decode cX6_shift 9 = .ok (.bipush (-9), 2) := by decide +kernel
theorem dX6_shift_11 : decode cX6_shift 11 = .ok (.if_icmp .lt 9, 3) := by decide +kernel
theorem dX6_shift_14 : decode cX6_shift 14 = .ok (.iload_n 2, 1) := by decide +kernel
theorem dX6_shift_15 : decode cX6_shift 15 = .ok (.bipush 9, 2) := by decide +kernel
theorem dX6_shift_17 : decode cX6_shift 17 = .ok (.if_icmp .le 13, 3) := by decide +kernel
theorem dX6_shift_20 : decode cX6_shift 20 = .ok (.new 61, 3) := by decide +kernel
theorem dX6_shift_23 : decode cX6_shift 23 = .ok (.dup, 1) := by decide +kernel
theorem dX6_shift_24 : decode cX6_shift 24 = .ok (.ldc 90, 2) := by decide +kernel
theorem dX6_shift_26 : decode cX6_shift 26 = .ok (.invokespecial 65, 3) := by decide +kernel
theorem dX6_shift_29 : decode cX6_shift 29 = .ok (.athrow, 1) := by decide +kernel
theorem dX6_shift_30 : decode cX6_shift 30 = .ok (.aload_n 0, 1) := by decide +kernel
theorem dX6_shift_31 : decode cX6_shift 31 = .ok (.iload_n 1, 1) := by decide +kernel
theorem dX6_shift_32 : decode cX6_shift 32 = .ok (.invokevirtual 72, 3) := by decide +kernel
theorem dX6_shift_35 : decode cX6_shift 35 = .ok (.iconst 0, 1) := by decide +kernel
theorem dX6_shift_36 : decode cX6_shift 36 = .ok (.istore 4, 2) := by decide +kernel
theorem dX6_shift_38 : decode cX6_shift 38 = .ok (.iload 4, 2) := by decide +kernel
theorem dX6_shift_40 : decode cX6_shift 40 = .ok (.bipush 6, 2) := by decide +kernel
theorem dX6_shift_42 : decode cX6_shift 42 = .ok (.if_icmp .ge 47, 3) := by decide +kernel
theorem dX6_shift_45 : decode cX6_shift 45 = .ok (.iconst 5, 1) := by decide +kernel
theorem dX6_shift_46 : decode cX6_shift 46 = .ok (.istore 5, 2) := by decide +kernel
theorem dX6_shift_48 : decode cX6_shift 48 = .ok (.iload 5, 2) := by decide +kernel
theorem dX6_shift_50 : decode cX6_shift 50 = .ok (.iload 4, 2) := by decide +kernel
theorem dX6_shift_52 : decode cX6_shift 52 = .ok (.if_icmp .lt 31, 3) := by decide +kernel
theorem dX6_shift_55 : decode cX6_shift 55 = .ok (.aload_n 0, 1) := by decide +kernel
theorem dX6_shift_56 : decode cX6_shift 56 = .ok (.getfield 14, 3) := by decide +kernel
theorem dX6_shift_59 : decode cX6_shift 59 = .ok (.iload 5, 2) := by decide +kernel
theorem dX6_shift_61 : decode cX6_shift 61 = .ok (.dup2, 1) := by decide +kernel
theorem dX6_shift_62 : decode cX6_shift 62 = .ok (.laload, 1) := by decide +kernel
theorem dX6_shift_63 : decode cX6_shift 63 = .ok (.iload_n 2, 1) := by decide +kernel
theorem dX6_shift_64 : decode cX6_shift 64 = .ok (.i2l, 1) := by decide +kernel
theorem dX6_shift_65 : decode cX6_shift 65 = .ok (.aload_n 0, 1) := by decide +kernel
theorem dX6_shift_66 : decode cX6_shift 66 = .ok (.getfield 14, 3) := by decide +kernel
theorem dX6_shift_69 : decode cX6_shift 69 = .ok (.iload 5, 2) := by decide +kernel
theorem dX6_shift_71 : decode cX6_shift 71 = .ok (.iconst 1, 1) := by decide +kernel
theorem dX6_shift_72 : decode cX6_shift 72 = .ok (.iadd, 1) := by decide +kernel
theorem dX6_shift_73 : decode cX6_shift 73 = .ok (.laload, 1) := by decide +kernel
theorem dX6_shift_74 : decode cX6_shift 74 = .ok (.lmul, 1) := by decide +kernel
theorem dX6_shift_75 : decode cX6_shift 75 = .ok (.ladd, 1) := by decide +kernel
theorem dX6_shift_76 : decode cX6_shift 76 = .ok (.lastore, 1) := by decide +kernel
theorem dX6_shift_77 : decode cX6_shift 77 = .ok (.iinc 5 (-1), 3) := by decide +kernel
theorem dX6_shift_80 : decode cX6_shift 80 = .ok (.goto (-32), 3) := by decide +kernel
theorem dX6_shift_83 : decode cX6_shift 83 = .ok (.iinc 4 1, 3) := by decide +kernel
theorem dX6_shift_86 : decode cX6_shift 86 = .ok (.goto (-48), 3) := by decide +kernel
theorem dX6_shift_89 : decode cX6_shift 89 = .ok (.aload_n 0, 1) := by decide +kernel
theorem dX6_shift_90 : decode cX6_shift 90 = .ok (.invokevirtual 79, 3) := by decide +kernel
theorem dX6_shift_93 : decode cX6_shift 93 = .ok (.aload_n 0, 1) := by decide +kernel
theorem dX6_shift_94 : decode cX6_shift 94 = .ok (.iload_n 3, 1) := by decide +kernel
theorem dX6_shift_95 : decode cX6_shift 95 = .ok (.invokevirtual 75, 3) := by decide +kernel
theorem dX6_shift_98 : decode cX6_shift 98 = .ok (.ireturn, 1) := by decide +kernel
theorem dX6_reflect_0 : decode cX6_reflect 0 = .ok (.iload_n 1, 1) := by decide +kernel
theorem dX6_reflect_1 : decode cX6_reflect 1 = .ok (.invokestatic 54, 3) := by decide +kernel
theorem dX6_reflect_4 : decode cX6_reflect 4 = .ok (.iload_n 2, 1) := by decide +kernel
theorem dX6_reflect_5 : decode cX6_reflect 5 = .ok (.invokestatic 54, 3) := by decide +kernel
theorem dX6_reflect_8 : decode cX6_reflect 8 = .ok (.aload_n 0, 1) := by decide +kernel
theorem dX6_reflect_9 : decode cX6_reflect 9 = .ok (.iload_n 1, 1) := by decide +kernel
theorem dX6_reflect_10 : decode cX6_reflect 10 = .ok (.invokevirtual 72, 3) := by decide +kernel
theorem dX6_reflect_13 : decode cX6_reflect 13 = .ok (.iconst 1, 1) := by decide +kernel
theorem dX6_reflect_14 : decode cX6_reflect 14 = .ok (.istore_n 3, 1) := by decide +kernel
theorem dX6_reflect_15 : decode cX6_reflect 15 = .ok (.iload_n 3, 1) := by decide +kernel
theorem dX6_reflect_16 : decode cX6_reflect 16 = .ok (.bipush 7, 2) := by decide +kernel
theorem dX6_reflect_18 : decode cX6_reflect 18 = .ok (.if_icmp .ge 22, 3) := by decide +kernel
theorem dX6_reflect_21 : decode cX6_reflect 21 = .ok (.aload_n 0, 1) := by decide +kernel
theorem dX6_reflect_22 : decode cX6_reflect 22 = .ok (.getfield 14, 3) := by decide +kernel
theorem dX6_reflect_25 : decode cX6_reflect 25 = .ok (.iload_n 3, 1) := by decide +kernel
theorem dX6_reflect_26 : decode cX6_reflect 26 = .ok (.aload_n 0, 1) := by decide +kernel
theorem dX6_reflect_27 : decode cX6_reflect 27 = .ok (.getfield 14, 3) := by decide +kernel
theorem dX6_reflect_30 : decode cX6_reflect 30 = .ok (.iload_n 3, 1) := by decide +kernel
theorem dX6_reflect_31 : decode cX6_reflect 31 = .ok (.laload, 1) := by decide +kernel
theorem dX6_reflect_32 : decode cX6_reflect 32 = .ok (.lneg, 1) := by decide +kernel
theorem dX6_reflect_33 : decode cX6_reflect 33 = .ok (.lastore, 1) := by decide +kernel
theorem dX6_reflect_34 : decode cX6_reflect 34 = .ok (.iinc 3 2, 3) := by decide +kernel
theorem dX6_reflect_37 : decode cX6_reflect 37 = .ok (.goto (-22), 3) := by decide +kernel
theorem dX6_reflect_40 : decode cX6_reflect 40 = .ok (.aload_n 0, 1) := by decide +kernel
theorem dX6_reflect_41 : decode cX6_reflect 41 = .ok (.iload_n 2, 1) := by decide +kernel
theorem dX6_reflect_42 : decode cX6_reflect 42 = .ok (.invokevirtual 75, 3) := by decide +kernel
theorem dX6_reflect_45 : decode cX6_reflect 45 = .ok (.ireturn, 1) := by decide +kernel
theorem dX6_scale_0 : decode cX6_scale 0 = .ok (.iload_n 1, 1) := by decide +kernel
theorem dX6_scale_1 : decode cX6_scale 1 = .ok (.invokestatic 54, 3) := by decide +kernel
theorem dX6_scale_4 : decode cX6_scale 4 = .ok (.iload_n 3, 1) := by decide +kernel
theorem dX6_scale_5 : decode cX6_scale 5 = .ok (.invokestatic 54, 3) := by decide +kernel
theorem dX6_scale_8 : decode cX6_scale 8 = .ok (.iload_n 2, 1) := by decide +kernel
theorem dX6_scale_9 : decode cX6_scale 9 = .ok (.iconst 2, 1) := by decide +kernel
theorem dX6_scale_10 : decode cX6_scale 10 = .ok (.if_icmp .lt 9, 3) := by decide +kernel
theorem dX6_scale_13 : decode cX6_scale 13 = .ok (.iload_n 2, 1) := by decide +kernel
theorem dX6_scale_14 : decode cX6_scale 14 = .ok (.bipush 9, 2) := by decide +kernel
theorem dX6_scale_16 : decode cX6_scale 16 = .ok (.if_icmp .le 13, 3) := by decide +kernel
theorem dX6_scale_19 : decode cX6_scale 19 = .ok (.new 61, 3) := by decide +kernel
theorem dX6_scale_22 : decode cX6_scale 22 = .ok (.dup, 1) := by decide +kernel
theorem dX6_scale_23 : decode cX6_scale 23 = .ok (.ldc 92, 2) := by decide +kernel
theorem dX6_scale_25 : decode cX6_scale 25 = .ok (.invokespecial 65, 3) := by decide +kernel
theorem dX6_scale_28 : decode cX6_scale 28 = .ok (.athrow, 1) := by decide +kernel
theorem dX6_scale_29 : decode cX6_scale 29 = .ok (.aload_n 0, 1) := by decide +kernel
theorem dX6_scale_30 : decode cX6_scale 30 = .ok (.iload_n 1, 1) := by decide +kernel
theorem dX6_scale_31 : decode cX6_scale 31 = .ok (.invokevirtual 72, 3) := by decide +kernel
theorem dX6_scale_34 : decode cX6_scale 34 = .ok (.lconst 1, 1) := by decide +kernel
theorem dX6_scale_35 : decode cX6_scale 35 = .ok (.lstore 4, 2) := by decide +kernel
theorem dX6_scale_37 : decode cX6_scale 37 = .ok (.aload_n 0, 1) := by decide +kernel
theorem dX6_scale_38 : decode cX6_scale 38 = .ok (.getfield 11, 3) := by decide +kernel
theorem dX6_scale_41 : decode cX6_scale 41 = .ok (.iload_n 1, 1) := by decide +kernel
theorem dX6_scale_42 : decode cX6_scale 42 = .ok (.aaload, 1) := by decide +kernel
theorem dX6_scale_43 : decode cX6_scale 43 = .ok (.invokestatic 68, 3) := by decide +kernel
theorem dX6_scale_46 : decode cX6_scale 46 = .ok (.istore 6, 2) := by decide +kernel
theorem dX6_scale_48 : decode cX6_scale 48 = .ok (.iload 6, 2) := by decide +kernel
theorem dX6_scale_50 : decode cX6_scale 50 = .ok (.ifCond .lt 28, 3) := by decide +kernel
theorem dX6_scale_53 : decode cX6_scale 53 = .ok (.aload_n 0, 1) := by decide +kernel
theorem dX6_scale_54 : decode cX6_scale 54 = .ok (.getfield 14, 3) := by decide +kernel
theorem dX6_scale_57 : decode cX6_scale 57 = .ok (.iload 6, 2) := by decide +kernel
theorem dX6_scale_59 : decode cX6_scale 59 = .ok (.dup2, 1) := by decide +kernel
theorem dX6_scale_60 : decode cX6_scale 60 = .ok (.laload, 1) := by decide +kernel
theorem dX6_scale_61 : decode cX6_scale 61 = .ok (.lload 4, 2) := by decide +kernel
theorem dX6_scale_63 : decode cX6_scale 63 = .ok (.lmul, 1) := by decide +kernel
theorem dX6_scale_64 : decode cX6_scale 64 = .ok (.lastore, 1) := by decide +kernel
theorem dX6_scale_65 : decode cX6_scale 65 = .ok (.lload 4, 2) := by decide +kernel
theorem dX6_scale_67 : decode cX6_scale 67 = .ok (.iload_n 2, 1) := by decide +kernel
theorem dX6_scale_68 : decode cX6_scale 68 = .ok (.i2l, 1) := by decide +kernel
theorem dX6_scale_69 : decode cX6_scale 69 = .ok (.lmul, 1) := by decide +kernel
theorem dX6_scale_70 : decode cX6_scale 70 = .ok (.lstore 4, 2) := by decide +kernel
theorem dX6_scale_72 : decode cX6_scale 72 = .ok (.iinc 6 (-1), 3) := by decide +kernel
theorem dX6_scale_75 : decode cX6_scale 75 = .ok (.goto (-27), 3) := by decide +kernel
theorem dX6_scale_78 : decode cX6_scale 78 = .ok (.aload_n 0, 1) := by decide +kernel
theorem dX6_scale_79 : decode cX6_scale 79 = .ok (.invokevirtual 79, 3) := by decide +kernel
theorem dX6_scale_82 : decode cX6_scale 82 = .ok (.aload_n 0, 1) := by decide +kernel
theorem dX6_scale_83 : decode cX6_scale 83 = .ok (.iload_n 3, 1) := by decide +kernel
theorem dX6_scale_84 : decode cX6_scale 84 = .ok (.invokevirtual 75, 3) := by decide +kernel
theorem dX6_scale_87 : decode cX6_scale 87 = .ok (.ireturn, 1) := by decide +kernel
theorem dX6_gcd_0 : decode cX6_gcd 0 = .ok (.iload_n 1, 1) := by decide +kernel
theorem dX6_gcd_1 : decode cX6_gcd 1 = .ok (.invokestatic 54, 3) := by decide +kernel
theorem dX6_gcd_4 : decode cX6_gcd 4 = .ok (.iload_n 2, 1) := by decide +kernel
theorem dX6_gcd_5 : decode cX6_gcd 5 = .ok (.invokestatic 54, 3) := by decide +kernel
theorem dX6_gcd_8 : decode cX6_gcd 8 = .ok (.iload_n 3, 1) := by decide +kernel
theorem dX6_gcd_9 : decode cX6_gcd 9 = .ok (.invokestatic 54, 3) := by decide +kernel
theorem dX6_gcd_12 : decode cX6_gcd 12 = .ok (.aload_n 0, 1) := by decide +kernel
theorem dX6_gcd_13 : decode cX6_gcd 13 = .ok (.getfield 28, 3) := by decide +kernel
theorem dX6_gcd_16 : decode cX6_gcd 16 = .ok (.aload_n 0, 1) := by decide +kernel
theorem dX6_gcd_17 : decode cX6_gcd 17 = .ok (.getfield 11, 3) := by decide +kernel
theorem dX6_gcd_20 : decode cX6_gcd 20 = .ok (.iload_n 1, 1) := by decide +kernel
theorem dX6_gcd_21 : decode cX6_gcd 21 = .ok (.aaload, 1) := by decide +kernel
theorem dX6_gcd_22 : decode cX6_gcd 22 = .ok (.invokevirtual 94, 3) := by decide +kernel
theorem dX6_gcd_25 : decode cX6_gcd 25 = .ok (.aload_n 0, 1) := by decide +kernel
theorem dX6_gcd_26 : decode cX6_gcd 26 = .ok (.getfield 32, 3) := by decide +kernel
theorem dX6_gcd_29 : decode cX6_gcd 29 = .ok (.aload_n 0, 1) := by decide +kernel
theorem dX6_gcd_30 : decode cX6_gcd 30 = .ok (.getfield 11, 3) := by decide +kernel
theorem dX6_gcd_33 : decode cX6_gcd 33 = .ok (.iload_n 2, 1) := by decide +kernel
theorem dX6_gcd_34 : decode cX6_gcd 34 = .ok (.aaload, 1) := by decide +kernel
theorem dX6_gcd_35 : decode cX6_gcd 35 = .ok (.invokevirtual 94, 3) := by decide +kernel
theorem dX6_gcd_38 : decode cX6_gcd 38 = .ok (.aload_n 0, 1) := by decide +kernel
theorem dX6_gcd_39 : decode cX6_gcd 39 = .ok (.getfield 21, 3) := by decide +kernel
theorem dX6_gcd_42 : decode cX6_gcd 42 = .ok (.aload_n 0, 1) := by decide +kernel
theorem dX6_gcd_43 : decode cX6_gcd 43 = .ok (.getfield 28, 3) := by decide +kernel
theorem dX6_gcd_46 : decode cX6_gcd 46 = .ok (.aload_n 0, 1) := by decide +kernel
theorem dX6_gcd_47 : decode cX6_gcd 47 = .ok (.getfield 32, 3) := by decide +kernel
theorem dX6_gcd_50 : decode cX6_gcd 50 = .ok (.aload_n 0, 1) := by decide +kernel
theorem dX6_gcd_51 : decode cX6_gcd 51 = .ok (.getfield 35, 3) := by decide +kernel
theorem dX6_gcd_54 : decode cX6_gcd 54 = .ok (.invokevirtual 98, 3) := by decide +kernel
theorem dX6_gcd_57 : decode cX6_gcd 57 = .ok (.aload_n 0, 1) := by decide +kernel
theorem dX6_gcd_58 : decode cX6_gcd 58 = .ok (.getfield 35, 3) := by decide +kernel
theorem dX6_gcd_61 : decode cX6_gcd 61 = .ok (.aload_n 0, 1) := by decide +kernel
theorem dX6_gcd_62 : decode cX6_gcd 62 = .ok (.getfield 14, 3) := by decide +kernel
theorem dX6_gcd_65 : decode cX6_gcd 65 = .ok (.invokevirtual 102, 3) := by decide +kernel
theorem dX6_gcd_68 : decode cX6_gcd 68 = .ok (.aload_n 0, 1) := by decide +kernel
theorem dX6_gcd_69 : decode cX6_gcd 69 = .ok (.invokevirtual 79, 3) := by decide +kernel
theorem dX6_gcd_72 : decode cX6_gcd 72 = .ok (.aload_n 0, 1) := by decide +kernel
theorem dX6_gcd_73 : decode cX6_gcd 73 = .ok (.iload_n 3, 1) := by decide +kernel
theorem dX6_gcd_74 : decode cX6_gcd 74 = .ok (.invokevirtual 75, 3) := by decide +kernel
theorem dX6_gcd_77 : decode cX6_gcd 77 = .ok (.ireturn, 1) := by decide +kernel
theorem dX6_squareFreePart_0 : decode cX6_squareFreePart 0 = .ok (.iload_n 1, 1) := by decide +kernel
theorem dX6_squareFreePart_1 : decode cX6_squareFreePart 1 = .ok (.invokestatic 54, 3) := by decide +kernel
theorem dX6_squareFreePart_4 : decode cX6_squareFreePart 4 = .ok (.iload_n 2, 1) := by decide +kernel
theorem dX6_squareFreePart_5 : decode cX6_squareFreePart 5 = .ok (.invokestatic 54, 3) := by decide +kernel
theorem dX6_squareFreePart_8 : decode cX6_squareFreePart 8 = .ok (.aload_n 0, 1) := by decide +kernel
theorem dX6_squareFreePart_9 : decode cX6_squareFreePart 9 = .ok (.iload_n 1, 1) := by decide +kernel
theorem dX6_squareFreePart_10 : decode cX6_squareFreePart 10 = .ok (.invokevirtual 106, 3) := by decide +kernel
theorem dX6_squareFreePart_13 : decode cX6_squareFreePart 13 = .ok (.aload_n 0, 1) := by decide +kernel
theorem dX6_squareFreePart_14 : decode cX6_squareFreePart 14 = .ok (.getfield 28, 3) := by decide +kernel
theorem dX6_squareFreePart_17 : decode cX6_squareFreePart 17 = .ok (.aload_n 0, 1) := by decide +kernel
theorem dX6_squareFreePart_18 : decode cX6_squareFreePart 18 = .ok (.getfield 11, 3) := by decide +kernel
theorem dX6_squareFreePart_21 : decode cX6_squareFreePart 21 = .ok (.iload_n 1, 1) := by decide +kernel
theorem dX6_squareFreePart_22 : decode cX6_squareFreePart 22 = .ok (.aaload, 1) := by decide +kernel
theorem dX6_squareFreePart_23 : decode cX6_squareFreePart 23 = .ok (.invokevirtual 94, 3) := by decide +kernel
theorem dX6_squareFreePart_26 : decode cX6_squareFreePart 26 = .ok (.aload_n 0, 1) := by decide +kernel
theorem dX6_squareFreePart_27 : decode cX6_squareFreePart 27 = .ok (.getfield 21, 3) := by decide +kernel
theorem dX6_squareFreePart_30 : decode cX6_squareFreePart 30 = .ok (.aload_n 0, 1) := by decide +kernel
theorem dX6_squareFreePart_31 : decode cX6_squareFreePart 31 = .ok (.getfield 28, 3) := by decide +kernel
theorem dX6_squareFreePart_34 : decode cX6_squareFreePart 34 = .ok (.aload_n 0, 1) := by decide +kernel
theorem dX6_squareFreePart_35 : decode cX6_squareFreePart 35 = .ok (.getfield 35, 3) := by decide +kernel
theorem dX6_squareFreePart_38 : decode cX6_squareFreePart 38 = .ok (.invokevirtual 109, 3) := by decide +kernel
theorem dX6_squareFreePart_41 : decode cX6_squareFreePart 41 = .ok (.aload_n 0, 1) := by decide +kernel
theorem dX6_squareFreePart_42 : decode cX6_squareFreePart 42 = .ok (.getfield 35, 3) := by decide +kernel
theorem dX6_squareFreePart_45 : decode cX6_squareFreePart 45 = .ok (.aload_n 0, 1) := by decide +kernel
theorem dX6_squareFreePart_46 : decode cX6_squareFreePart 46 = .ok (.getfield 14, 3) := by decide +kernel
theorem dX6_squareFreePart_49 : decode cX6_squareFreePart 49 = .ok (.invokevirtual 102, 3) := by decide +kernel
theorem dX6_squareFreePart_52 : decode cX6_squareFreePart 52 = .ok (.aload_n 0, 1) := by decide +kernel
theorem dX6_squareFreePart_53 : decode cX6_squareFreePart 53 = .ok (.invokevirtual 79, 3) := by decide +kernel
theorem dX6_squareFreePart_56 : decode cX6_squareFreePart 56 = .ok (.aload_n 0, 1) := by decide +kernel
theorem dX6_squareFreePart_57 : decode cX6_squareFreePart 57 = .ok (.iload_n 2, 1) := by decide +kernel
theorem dX6_squareFreePart_58 : decode cX6_squareFreePart 58 = .ok (.invokevirtual 75, 3) := by decide +kernel
theorem dX6_squareFreePart_61 : decode cX6_squareFreePart 61 = .ok (.ireturn, 1) := by decide +kernel
theorem dX6_sturmLength_0 : decode cX6_sturmLength 0 = .ok (.iload_n 1, 1) := by decide +kernel
theorem dX6_sturmLength_1 : decode cX6_sturmLength 1 = .ok (.invokestatic 54, 3) := by decide +kernel
theorem dX6_sturmLength_4 : decode cX6_sturmLength 4 = .ok (.aload_n 0, 1) := by decide +kernel
theorem dX6_sturmLength_5 : decode cX6_sturmLength 5 = .ok (.iload_n 1, 1) := by decide +kernel
theorem dX6_sturmLength_6 : decode cX6_sturmLength 6 = .ok (.invokevirtual 106, 3) := by decide +kernel
theorem dX6_sturmLength_9 : decode cX6_sturmLength 9 = .ok (.aload_n 0, 1) := by decide +kernel
theorem dX6_sturmLength_10 : decode cX6_sturmLength 10 = .ok (.iload_n 1, 1) := by decide +kernel
theorem dX6_sturmLength_11 : decode cX6_sturmLength 11 = .ok (.invokevirtual 113, 3) := by decide +kernel
theorem dX6_sturmLength_14 : decode cX6_sturmLength 14 = .ok (.aload_n 0, 1) := by decide +kernel
theorem dX6_sturmLength_15 : decode cX6_sturmLength 15 = .ok (.getfield 41, 3) := by decide +kernel
theorem dX6_sturmLength_18 : decode cX6_sturmLength 18 = .ok (.getfield 116, 3) := by decide +kernel
theorem dX6_sturmLength_21 : decode cX6_sturmLength 21 = .ok (.ireturn, 1) := by decide +kernel
theorem dX6_sturmCoefficient_0 : decode cX6_sturmCoefficient 0 = .ok (.iload_n 1, 1) := by decide +kernel
theorem dX6_sturmCoefficient_1 : decode cX6_sturmCoefficient 1 = .ok (.invokestatic 54, 3) := by decide +kernel
theorem dX6_sturmCoefficient_4 : decode cX6_sturmCoefficient 4 = .ok (.iload_n 3, 1) := by decide +kernel
theorem dX6_sturmCoefficient_5 : decode cX6_sturmCoefficient 5 = .ok (.invokestatic 58, 3) := by decide +kernel
theorem dX6_sturmCoefficient_8 : decode cX6_sturmCoefficient 8 = .ok (.aload_n 0, 1) := by decide +kernel
theorem dX6_sturmCoefficient_9 : decode cX6_sturmCoefficient 9 = .ok (.iload_n 1, 1) := by decide +kernel
theorem dX6_sturmCoefficient_10 : decode cX6_sturmCoefficient 10 = .ok (.invokevirtual 106, 3) := by decide +kernel
theorem dX6_sturmCoefficient_13 : decode cX6_sturmCoefficient 13 = .ok (.aload_n 0, 1) := by decide +kernel
theorem dX6_sturmCoefficient_14 : decode cX6_sturmCoefficient 14 = .ok (.iload_n 1, 1) := by decide +kernel
theorem dX6_sturmCoefficient_15 : decode cX6_sturmCoefficient 15 = .ok (.invokevirtual 113, 3) := by decide +kernel
theorem dX6_sturmCoefficient_18 : decode cX6_sturmCoefficient 18 = .ok (.aload_n 0, 1) := by decide +kernel
theorem dX6_sturmCoefficient_19 : decode cX6_sturmCoefficient 19 = .ok (.iload_n 2, 1) := by decide +kernel
theorem dX6_sturmCoefficient_20 : decode cX6_sturmCoefficient 20 = .ok (.invokevirtual 120, 3) := by decide +kernel
theorem dX6_sturmCoefficient_23 : decode cX6_sturmCoefficient 23 = .ok (.aload_n 0, 1) := by decide +kernel
theorem dX6_sturmCoefficient_24 : decode cX6_sturmCoefficient 24 = .ok (.getfield 41, 3) := by decide +kernel
theorem dX6_sturmCoefficient_27 : decode cX6_sturmCoefficient 27 = .ok (.getfield 123, 3) := by decide +kernel
theorem dX6_sturmCoefficient_30 : decode cX6_sturmCoefficient 30 = .ok (.iload_n 2, 1) := by decide +kernel
theorem dX6_sturmCoefficient_31 : decode cX6_sturmCoefficient 31 = .ok (.aaload, 1) := by decide +kernel
theorem dX6_sturmCoefficient_32 : decode cX6_sturmCoefficient 32 = .ok (.getfield 127, 3) := by decide +kernel
theorem dX6_sturmCoefficient_35 : decode cX6_sturmCoefficient 35 = .ok (.iload_n 3, 1) := by decide +kernel
theorem dX6_sturmCoefficient_36 : decode cX6_sturmCoefficient 36 = .ok (.aaload, 1) := by decide +kernel
theorem dX6_sturmCoefficient_37 : decode cX6_sturmCoefficient 37 = .ok (.invokevirtual 131, 3) := by decide +kernel
theorem dX6_sturmCoefficient_40 : decode cX6_sturmCoefficient 40 = .ok (.lreturn, 1) := by decide +kernel
theorem dX6_sturmDegree_0 : decode cX6_sturmDegree 0 = .ok (.iload_n 1, 1) := by decide +kernel
theorem dX6_sturmDegree_1 : decode cX6_sturmDegree 1 = .ok (.invokestatic 54, 3) := by decide +kernel
theorem dX6_sturmDegree_4 : decode cX6_sturmDegree 4 = .ok (.aload_n 0, 1) := by decide +kernel
theorem dX6_sturmDegree_5 : decode cX6_sturmDegree 5 = .ok (.iload_n 1, 1) := by decide +kernel
theorem dX6_sturmDegree_6 : decode cX6_sturmDegree 6 = .ok (.invokevirtual 106, 3) := by decide +kernel
theorem dX6_sturmDegree_9 : decode cX6_sturmDegree 9 = .ok (.aload_n 0, 1) := by decide +kernel
theorem dX6_sturmDegree_10 : decode cX6_sturmDegree 10 = .ok (.iload_n 1, 1) := by decide +kernel
theorem dX6_sturmDegree_11 : decode cX6_sturmDegree 11 = .ok (.invokevirtual 113, 3) := by decide +kernel
theorem dX6_sturmDegree_14 : decode cX6_sturmDegree 14 = .ok (.aload_n 0, 1) := by decide +kernel
theorem dX6_sturmDegree_15 : decode cX6_sturmDegree 15 = .ok (.iload_n 2, 1) := by decide +kernel
theorem dX6_sturmDegree_16 : decode cX6_sturmDegree 16 = .ok (.invokevirtual 120, 3) := by decide +kernel
theorem dX6_sturmDegree_19 : decode cX6_sturmDegree 19 = .ok (.aload_n 0, 1) := by decide +kernel
theorem dX6_sturmDegree_20 : decode cX6_sturmDegree 20 = .ok (.getfield 41, 3) := by decide +kernel
theorem dX6_sturmDegree_23 : decode cX6_sturmDegree 23 = .ok (.getfield 123, 3) := by decide +kernel
theorem dX6_sturmDegree_26 : decode cX6_sturmDegree 26 = .ok (.iload_n 2, 1) := by decide +kernel
theorem dX6_sturmDegree_27 : decode cX6_sturmDegree 27 = .ok (.aaload, 1) := by decide +kernel
theorem dX6_sturmDegree_28 : decode cX6_sturmDegree 28 = .ok (.getfield 137, 3) := by decide +kernel
theorem dX6_sturmDegree_31 : decode cX6_sturmDegree 31 = .ok (.ireturn, 1) := by decide +kernel
theorem dX6_signChanges_0 : decode cX6_signChanges 0 = .ok (.iload_n 1, 1) := by decide +kernel
theorem dX6_signChanges_1 : decode cX6_signChanges 1 = .ok (.invokestatic 54, 3) := by decide +kernel
theorem dX6_signChanges_4 : decode cX6_signChanges 4 = .ok (.iload_n 2, 1) := by decide +kernel
theorem dX6_signChanges_5 : decode cX6_signChanges 5 = .ok (.iload_n 3, 1) := by decide +kernel
theorem dX6_signChanges_6 : decode cX6_signChanges 6 = .ok (.invokestatic 140, 3) := by decide +kernel
theorem dX6_signChanges_9 : decode cX6_signChanges 9 = .ok (.aload_n 0, 1) := by decide +kernel
theorem dX6_signChanges_10 : decode cX6_signChanges 10 = .ok (.iload_n 1, 1) := by decide +kernel
theorem dX6_signChanges_11 : decode cX6_signChanges 11 = .ok (.invokevirtual 106, 3) := by decide +kernel
theorem dX6_signChanges_14 : decode cX6_signChanges 14 = .ok (.aload_n 0, 1) := by decide +kernel
theorem dX6_signChanges_15 : decode cX6_signChanges 15 = .ok (.iload_n 1, 1) := by decide +kernel
theorem dX6_signChanges_16 : decode cX6_signChanges 16 = .ok (.invokevirtual 113, 3) := by decide +kernel
theorem dX6_signChanges_19 : decode cX6_signChanges 19 = .ok (.aload_n 0, 1) := by decide +kernel
theorem dX6_signChanges_20 : decode cX6_signChanges 20 = .ok (.getfield 21, 3) := by decide +kernel
theorem dX6_signChanges_23 : decode cX6_signChanges 23 = .ok (.aload_n 0, 1) := by decide +kernel
theorem dX6_signChanges_24 : decode cX6_signChanges 24 = .ok (.getfield 41, 3) := by decide +kernel
theorem dX6_signChanges_27 : decode cX6_signChanges 27 = .ok (.iload_n 2, 1) := by decide +kernel
theorem dX6_signChanges_28 : decode cX6_signChanges 28 = .ok (.iload_n 3, 1) := by decide +kernel
theorem dX6_signChanges_29 : decode cX6_signChanges 29 = .ok (.invokevirtual 144, 3) := by decide +kernel
theorem dX6_signChanges_32 : decode cX6_signChanges 32 = .ok (.ireturn, 1) := by decide +kernel
theorem dX6_sign_0 : decode cX6_sign 0 = .ok (.iload_n 1, 1) := by decide +kernel
theorem dX6_sign_1 : decode cX6_sign 1 = .ok (.invokestatic 54, 3) := by decide +kernel
theorem dX6_sign_4 : decode cX6_sign 4 = .ok (.iload_n 2, 1) := by decide +kernel
theorem dX6_sign_5 : decode cX6_sign 5 = .ok (.iload_n 3, 1) := by decide +kernel
theorem dX6_sign_6 : decode cX6_sign 6 = .ok (.invokestatic 140, 3) := by decide +kernel
theorem dX6_sign_9 : decode cX6_sign 9 = .ok (.aload_n 0, 1) := by decide +kernel
theorem dX6_sign_10 : decode cX6_sign 10 = .ok (.getfield 28, 3) := by decide +kernel
theorem dX6_sign_13 : decode cX6_sign 13 = .ok (.aload_n 0, 1) := by decide +kernel
theorem dX6_sign_14 : decode cX6_sign 14 = .ok (.getfield 11, 3) := by decide +kernel
theorem dX6_sign_17 : decode cX6_sign 17 = .ok (.iload_n 1, 1) := by decide +kernel
theorem dX6_sign_18 : decode cX6_sign 18 = .ok (.aaload, 1) := by decide +kernel
theorem dX6_sign_19 : decode cX6_sign 19 = .ok (.invokevirtual 94, 3) := by decide +kernel
theorem dX6_sign_22 : decode cX6_sign 22 = .ok (.aload_n 0, 1) := by decide +kernel
theorem dX6_sign_23 : decode cX6_sign 23 = .ok (.getfield 21, 3) := by decide +kernel
theorem dX6_sign_26 : decode cX6_sign 26 = .ok (.aload_n 0, 1) := by decide +kernel
theorem dX6_sign_27 : decode cX6_sign 27 = .ok (.getfield 28, 3) := by decide +kernel
theorem dX6_sign_30 : decode cX6_sign 30 = .ok (.iload_n 2, 1) := by decide +kernel
theorem dX6_sign_31 : decode cX6_sign 31 = .ok (.iload_n 3, 1) := by decide +kernel
theorem dX6_sign_32 : decode cX6_sign 32 = .ok (.invokevirtual 148, 3) := by decide +kernel
theorem dX6_sign_35 : decode cX6_sign 35 = .ok (.ireturn, 1) := by decide +kernel
theorem dX6_countDistinct_0 : decode cX6_countDistinct 0 = .ok (.iload_n 1, 1) := by decide +kernel
theorem dX6_countDistinct_1 : decode cX6_countDistinct 1 = .ok (.invokestatic 54, 3) := by decide +kernel
theorem dX6_countDistinct_4 : decode cX6_countDistinct 4 = .ok (.iload_n 2, 1) := by decide +kernel
theorem dX6_countDistinct_5 : decode cX6_countDistinct 5 = .ok (.iload_n 3, 1) := by decide +kernel
theorem dX6_countDistinct_6 : decode cX6_countDistinct 6 = .ok (.iload 4, 2) := by decide +kernel
theorem dX6_countDistinct_8 : decode cX6_countDistinct 8 = .ok (.iload 5, 2) := by decide +kernel
theorem dX6_countDistinct_10 : decode cX6_countDistinct 10 = .ok (.invokestatic 152, 3) := by decide +kernel
theorem dX6_countDistinct_13 : decode cX6_countDistinct 13 = .ok (.aload_n 0, 1) := by decide +kernel
theorem dX6_countDistinct_14 : decode cX6_countDistinct 14 = .ok (.iload_n 1, 1) := by decide +kernel
theorem dX6_countDistinct_15 : decode cX6_countDistinct 15 = .ok (.invokevirtual 106, 3) := by decide +kernel
theorem dX6_countDistinct_18 : decode cX6_countDistinct 18 = .ok (.aload_n 0, 1) := by decide +kernel
theorem dX6_countDistinct_19 : decode cX6_countDistinct 19 = .ok (.getfield 28, 3) := by decide +kernel
theorem dX6_countDistinct_22 : decode cX6_countDistinct 22 = .ok (.aload_n 0, 1) := by decide +kernel
theorem dX6_countDistinct_23 : decode cX6_countDistinct 23 = .ok (.getfield 11, 3) := by decide +kernel
theorem dX6_countDistinct_26 : decode cX6_countDistinct 26 = .ok (.iload_n 1, 1) := by decide +kernel
theorem dX6_countDistinct_27 : decode cX6_countDistinct 27 = .ok (.aaload, 1) := by decide +kernel
theorem dX6_countDistinct_28 : decode cX6_countDistinct 28 = .ok (.invokevirtual 94, 3) := by decide +kernel
theorem dX6_countDistinct_31 : decode cX6_countDistinct 31 = .ok (.aload_n 0, 1) := by decide +kernel
theorem dX6_countDistinct_32 : decode cX6_countDistinct 32 = .ok (.iload_n 2, 1) := by decide +kernel
theorem dX6_countDistinct_33 : decode cX6_countDistinct 33 = .ok (.iload_n 3, 1) := by decide +kernel
theorem dX6_countDistinct_34 : decode cX6_countDistinct 34 = .ok (.invokevirtual 156, 3) := by decide +kernel
theorem dX6_countDistinct_37 : decode cX6_countDistinct 37 = .ok (.aload_n 0, 1) := by decide +kernel
theorem dX6_countDistinct_38 : decode cX6_countDistinct 38 = .ok (.iload 4, 2) := by decide +kernel
theorem dX6_countDistinct_40 : decode cX6_countDistinct 40 = .ok (.iload 5, 2) := by decide +kernel
theorem dX6_countDistinct_42 : decode cX6_countDistinct 42 = .ok (.invokevirtual 156, 3) := by decide +kernel
theorem dX6_countDistinct_45 : decode cX6_countDistinct 45 = .ok (.aload_n 0, 1) := by decide +kernel
theorem dX6_countDistinct_46 : decode cX6_countDistinct 46 = .ok (.getfield 21, 3) := by decide +kernel
theorem dX6_countDistinct_49 : decode cX6_countDistinct 49 = .ok (.aload_n 0, 1) := by decide +kernel
theorem dX6_countDistinct_50 : decode cX6_countDistinct 50 = .ok (.getfield 28, 3) := by decide +kernel
theorem dX6_countDistinct_53 : decode cX6_countDistinct 53 = .ok (.aload_n 0, 1) := by decide +kernel
theorem dX6_countDistinct_54 : decode cX6_countDistinct 54 = .ok (.getfield 41, 3) := by decide +kernel
theorem dX6_countDistinct_57 : decode cX6_countDistinct 57 = .ok (.invokevirtual 159, 3) := by decide +kernel
theorem dX6_countDistinct_60 : decode cX6_countDistinct 60 = .ok (.aload_n 0, 1) := by decide +kernel
theorem dX6_countDistinct_61 : decode cX6_countDistinct 61 = .ok (.getfield 21, 3) := by decide +kernel
theorem dX6_countDistinct_64 : decode cX6_countDistinct 64 = .ok (.aload_n 0, 1) := by decide +kernel
theorem dX6_countDistinct_65 : decode cX6_countDistinct 65 = .ok (.getfield 41, 3) := by decide +kernel
theorem dX6_countDistinct_68 : decode cX6_countDistinct 68 = .ok (.iload_n 2, 1) := by decide +kernel
theorem dX6_countDistinct_69 : decode cX6_countDistinct 69 = .ok (.iload_n 3, 1) := by decide +kernel
theorem dX6_countDistinct_70 : decode cX6_countDistinct 70 = .ok (.invokevirtual 144, 3) := by decide +kernel
theorem dX6_countDistinct_73 : decode cX6_countDistinct 73 = .ok (.aload_n 0, 1) := by decide +kernel
theorem dX6_countDistinct_74 : decode cX6_countDistinct 74 = .ok (.getfield 21, 3) := by decide +kernel
theorem dX6_countDistinct_77 : decode cX6_countDistinct 77 = .ok (.aload_n 0, 1) := by decide +kernel
theorem dX6_countDistinct_78 : decode cX6_countDistinct 78 = .ok (.getfield 41, 3) := by decide +kernel
theorem dX6_countDistinct_81 : decode cX6_countDistinct 81 = .ok (.iload 4, 2) := by decide +kernel
theorem dX6_countDistinct_83 : decode cX6_countDistinct 83 = .ok (.iload 5, 2) := by decide +kernel
theorem dX6_countDistinct_85 : decode cX6_countDistinct 85 = .ok (.invokevirtual 144, 3) := by decide +kernel
theorem dX6_countDistinct_88 : decode cX6_countDistinct 88 = .ok (.isub, 1) := by decide +kernel
theorem dX6_countDistinct_89 : decode cX6_countDistinct 89 = .ok (.ireturn, 1) := by decide +kernel
theorem dX6_countAll_0 : decode cX6_countAll 0 = .ok (.iload_n 1, 1) := by decide +kernel
theorem dX6_countAll_1 : decode cX6_countAll 1 = .ok (.invokestatic 54, 3) := by decide +kernel
theorem dX6_countAll_4 : decode cX6_countAll 4 = .ok (.iload_n 2, 1) := by decide +kernel
theorem dX6_countAll_5 : decode cX6_countAll 5 = .ok (.iload_n 3, 1) := by decide +kernel
theorem dX6_countAll_6 : decode cX6_countAll 6 = .ok (.iload 4, 2) := by decide +kernel
theorem dX6_countAll_8 : decode cX6_countAll 8 = .ok (.iload 5, 2) := by decide +kernel
theorem dX6_countAll_10 : decode cX6_countAll 10 = .ok (.invokestatic 152, 3) := by decide +kernel
theorem dX6_countAll_13 : decode cX6_countAll 13 = .ok (.aload_n 0, 1) := by decide +kernel
theorem dX6_countAll_14 : decode cX6_countAll 14 = .ok (.iload_n 1, 1) := by decide +kernel
theorem dX6_countAll_15 : decode cX6_countAll 15 = .ok (.invokevirtual 106, 3) := by decide +kernel
theorem dX6_countAll_18 : decode cX6_countAll 18 = .ok (.aload_n 0, 1) := by decide +kernel
theorem dX6_countAll_19 : decode cX6_countAll 19 = .ok (.getfield 28, 3) := by decide +kernel
theorem dX6_countAll_22 : decode cX6_countAll 22 = .ok (.aload_n 0, 1) := by decide +kernel
theorem dX6_countAll_23 : decode cX6_countAll 23 = .ok (.getfield 11, 3) := by decide +kernel
theorem dX6_countAll_26 : decode cX6_countAll 26 = .ok (.iload_n 1, 1) := by decide +kernel
theorem dX6_countAll_27 : decode cX6_countAll 27 = .ok (.aaload, 1) := by decide +kernel
theorem dX6_countAll_28 : decode cX6_countAll 28 = .ok (.invokevirtual 94, 3) := by decide +kernel
theorem dX6_countAll_31 : decode cX6_countAll 31 = .ok (.aload_n 0, 1) := by decide +kernel
theorem dX6_countAll_32 : decode cX6_countAll 32 = .ok (.iload_n 2, 1) := by decide +kernel
theorem dX6_countAll_33 : decode cX6_countAll 33 = .ok (.iload_n 3, 1) := by decide +kernel
theorem dX6_countAll_34 : decode cX6_countAll 34 = .ok (.invokevirtual 156, 3) := by decide +kernel
theorem dX6_countAll_37 : decode cX6_countAll 37 = .ok (.aload_n 0, 1) := by decide +kernel
theorem dX6_countAll_38 : decode cX6_countAll 38 = .ok (.iload 4, 2) := by decide +kernel
theorem dX6_countAll_40 : decode cX6_countAll 40 = .ok (.iload 5, 2) := by decide +kernel
theorem dX6_countAll_42 : decode cX6_countAll 42 = .ok (.invokevirtual 156, 3) := by decide +kernel
theorem dX6_countAll_45 : decode cX6_countAll 45 = .ok (.iconst 0, 1) := by decide +kernel
theorem dX6_countAll_46 : decode cX6_countAll 46 = .ok (.istore 6, 2) := by decide +kernel
theorem dX6_countAll_48 : decode cX6_countAll 48 = .ok (.iconst 0, 1) := by decide +kernel
theorem dX6_countAll_49 : decode cX6_countAll 49 = .ok (.istore 7, 2) := by decide +kernel
theorem dX6_countAll_51 : decode cX6_countAll 51 = .ok (.iload 7, 2) := by decide +kernel
theorem dX6_countAll_53 : decode cX6_countAll 53 = .ok (.bipush 7, 2) := by decide +kernel
theorem dX6_countAll_55 : decode cX6_countAll 55 = .ok (.if_icmp .ge 94, 3) := by decide +kernel
theorem dX6_countAll_58 : decode cX6_countAll 58 = .ok (.aload_n 0, 1) := by decide +kernel
theorem dX6_countAll_59 : decode cX6_countAll 59 = .ok (.getfield 28, 3) := by decide +kernel
theorem dX6_countAll_62 : decode cX6_countAll 62 = .ok (.getfield 137, 3) := by decide +kernel
theorem dX6_countAll_65 : decode cX6_countAll 65 = .ok (.ifCond .le 84, 3) := by decide +kernel
theorem dX6_countAll_68 : decode cX6_countAll 68 = .ok (.aload_n 0, 1) := by decide +kernel
theorem dX6_countAll_69 : decode cX6_countAll 69 = .ok (.getfield 21, 3) := by decide +kernel
theorem dX6_countAll_72 : decode cX6_countAll 72 = .ok (.aload_n 0, 1) := by decide +kernel
theorem dX6_countAll_73 : decode cX6_countAll 73 = .ok (.getfield 28, 3) := by decide +kernel
theorem dX6_countAll_76 : decode cX6_countAll 76 = .ok (.aload_n 0, 1) := by decide +kernel
theorem dX6_countAll_77 : decode cX6_countAll 77 = .ok (.getfield 41, 3) := by decide +kernel
theorem dX6_countAll_80 : decode cX6_countAll 80 = .ok (.invokevirtual 159, 3) := by decide +kernel
theorem dX6_countAll_83 : decode cX6_countAll 83 = .ok (.iload 6, 2) := by decide +kernel
theorem dX6_countAll_85 : decode cX6_countAll 85 = .ok (.aload_n 0, 1) := by decide +kernel
theorem dX6_countAll_86 : decode cX6_countAll 86 = .ok (.getfield 21, 3) := by decide +kernel
theorem dX6_countAll_89 : decode cX6_countAll 89 = .ok (.aload_n 0, 1) := by decide +kernel
theorem dX6_countAll_90 : decode cX6_countAll 90 = .ok (.getfield 41, 3) := by decide +kernel
theorem dX6_countAll_93 : decode cX6_countAll 93 = .ok (.iload_n 2, 1) := by decide +kernel
theorem dX6_countAll_94 : decode cX6_countAll 94 = .ok (.iload_n 3, 1) := by decide +kernel
theorem dX6_countAll_95 : decode cX6_countAll 95 = .ok (.invokevirtual 144, 3) := by decide +kernel
theorem dX6_countAll_98 : decode cX6_countAll 98 = .ok (.aload_n 0, 1) := by decide +kernel
theorem dX6_countAll_99 : decode cX6_countAll 99 = .ok (.getfield 21, 3) := by decide +kernel
theorem dX6_countAll_102 : decode cX6_countAll 102 = .ok (.aload_n 0, 1) := by decide +kernel
theorem dX6_countAll_103 : decode cX6_countAll 103 = .ok (.getfield 41, 3) := by decide +kernel
theorem dX6_countAll_106 : decode cX6_countAll 106 = .ok (.iload 4, 2) := by decide +kernel
theorem dX6_countAll_108 : decode cX6_countAll 108 = .ok (.iload 5, 2) := by decide +kernel
theorem dX6_countAll_110 : decode cX6_countAll 110 = .ok (.invokevirtual 144, 3) := by decide +kernel
theorem dX6_countAll_113 : decode cX6_countAll 113 = .ok (.isub, 1) := by decide +kernel
theorem dX6_countAll_114 : decode cX6_countAll 114 = .ok (.iadd, 1) := by decide +kernel
theorem dX6_countAll_115 : decode cX6_countAll 115 = .ok (.istore 6, 2) := by decide +kernel
theorem dX6_countAll_117 : decode cX6_countAll 117 = .ok (.aload_n 0, 1) := by decide +kernel
theorem dX6_countAll_118 : decode cX6_countAll 118 = .ok (.getfield 21, 3) := by decide +kernel
theorem dX6_countAll_121 : decode cX6_countAll 121 = .ok (.aload_n 0, 1) := by decide +kernel
theorem dX6_countAll_122 : decode cX6_countAll 122 = .ok (.getfield 28, 3) := by decide +kernel
theorem dX6_countAll_125 : decode cX6_countAll 125 = .ok (.aload_n 0, 1) := by decide +kernel
theorem dX6_countAll_126 : decode cX6_countAll 126 = .ok (.getfield 35, 3) := by decide +kernel
theorem dX6_countAll_129 : decode cX6_countAll 129 = .ok (.invokevirtual 163, 3) := by decide +kernel
theorem dX6_countAll_132 : decode cX6_countAll 132 = .ok (.aload_n 0, 1) := by decide +kernel
theorem dX6_countAll_133 : decode cX6_countAll 133 = .ok (.getfield 28, 3) := by decide +kernel
theorem dX6_countAll_136 : decode cX6_countAll 136 = .ok (.aload_n 0, 1) := by decide +kernel
theorem dX6_countAll_137 : decode cX6_countAll 137 = .ok (.getfield 35, 3) := by decide +kernel
theorem dX6_countAll_140 : decode cX6_countAll 140 = .ok (.invokevirtual 166, 3) := by decide +kernel
theorem dX6_countAll_143 : decode cX6_countAll 143 = .ok (.iinc 7 1, 3) := by decide +kernel
theorem dX6_countAll_146 : decode cX6_countAll 146 = .ok (.goto (-95), 3) := by decide +kernel
theorem dX6_countAll_149 : decode cX6_countAll 149 = .ok (.iload 6, 2) := by decide +kernel
theorem dX6_countAll_151 : decode cX6_countAll 151 = .ok (.ireturn, 1) := by decide +kernel
theorem dX6_distinctRoots_0 : decode cX6_distinctRoots 0 = .ok (.iload_n 1, 1) := by decide +kernel
theorem dX6_distinctRoots_1 : decode cX6_distinctRoots 1 = .ok (.invokestatic 54, 3) := by decide +kernel
theorem dX6_distinctRoots_4 : decode cX6_distinctRoots 4 = .ok (.aload_n 0, 1) := by decide +kernel
theorem dX6_distinctRoots_5 : decode cX6_distinctRoots 5 = .ok (.iload_n 1, 1) := by decide +kernel
theorem dX6_distinctRoots_6 : decode cX6_distinctRoots 6 = .ok (.invokevirtual 106, 3) := by decide +kernel
theorem dX6_distinctRoots_9 : decode cX6_distinctRoots 9 = .ok (.aload_n 0, 1) := by decide +kernel
theorem dX6_distinctRoots_10 : decode cX6_distinctRoots 10 = .ok (.iload_n 1, 1) := by decide +kernel
theorem dX6_distinctRoots_11 : decode cX6_distinctRoots 11 = .ok (.invokevirtual 113, 3) := by decide +kernel
theorem dX6_distinctRoots_14 : decode cX6_distinctRoots 14 = .ok (.aload_n 0, 1) := by decide +kernel
theorem dX6_distinctRoots_15 : decode cX6_distinctRoots 15 = .ok (.getfield 21, 3) := by decide +kernel
theorem dX6_distinctRoots_18 : decode cX6_distinctRoots 18 = .ok (.aload_n 0, 1) := by decide +kernel
theorem dX6_distinctRoots_19 : decode cX6_distinctRoots 19 = .ok (.getfield 41, 3) := by decide +kernel
theorem dX6_distinctRoots_22 : decode cX6_distinctRoots 22 = .ok (.sipush (-32768), 3) := by decide +kernel
theorem dX6_distinctRoots_25 : decode cX6_distinctRoots 25 = .ok (.iconst 0, 1) := by decide +kernel
theorem dX6_distinctRoots_26 : decode cX6_distinctRoots 26 = .ok (.invokevirtual 144, 3) := by decide +kernel
theorem dX6_distinctRoots_29 : decode cX6_distinctRoots 29 = .ok (.aload_n 0, 1) := by decide +kernel
theorem dX6_distinctRoots_30 : decode cX6_distinctRoots 30 = .ok (.getfield 21, 3) := by decide +kernel
theorem dX6_distinctRoots_33 : decode cX6_distinctRoots 33 = .ok (.aload_n 0, 1) := by decide +kernel
theorem dX6_distinctRoots_34 : decode cX6_distinctRoots 34 = .ok (.getfield 41, 3) := by decide +kernel
theorem dX6_distinctRoots_37 : decode cX6_distinctRoots 37 = .ok (.ldc 170, 2) := by decide +kernel
theorem dX6_distinctRoots_39 : decode cX6_distinctRoots 39 = .ok (.iconst 0, 1) := by decide +kernel
theorem dX6_distinctRoots_40 : decode cX6_distinctRoots 40 = .ok (.invokevirtual 144, 3) := by decide +kernel
theorem dX6_distinctRoots_43 : decode cX6_distinctRoots 43 = .ok (.isub, 1) := by decide +kernel
theorem dX6_distinctRoots_44 : decode cX6_distinctRoots 44 = .ok (.ireturn, 1) := by decide +kernel
theorem dX6_coefficientSignChanges_0 : decode cX6_coefficientSignChanges 0 = .ok (.iload_n 1, 1) := by decide +kernel
theorem dX6_coefficientSignChanges_1 : decode cX6_coefficientSignChanges 1 = .ok (.invokestatic 54, 3) := by decide +kernel
theorem dX6_coefficientSignChanges_4 : decode cX6_coefficientSignChanges 4 = .ok (.aload_n 0, 1) := by decide +kernel
theorem dX6_coefficientSignChanges_5 : decode cX6_coefficientSignChanges 5 = .ok (.getfield 28, 3) := by decide +kernel
theorem dX6_coefficientSignChanges_8 : decode cX6_coefficientSignChanges 8 = .ok (.aload_n 0, 1) := by decide +kernel
theorem dX6_coefficientSignChanges_9 : decode cX6_coefficientSignChanges 9 = .ok (.getfield 11, 3) := by decide +kernel
theorem dX6_coefficientSignChanges_12 : decode cX6_coefficientSignChanges 12 = .ok (.iload_n 1, 1) := by decide +kernel
theorem dX6_coefficientSignChanges_13 : decode cX6_coefficientSignChanges 13 = .ok (.aaload, 1) := by decide +kernel
theorem dX6_coefficientSignChanges_14 : decode cX6_coefficientSignChanges 14 = .ok (.invokevirtual 94, 3) := by decide +kernel
theorem dX6_coefficientSignChanges_17 : decode cX6_coefficientSignChanges 17 = .ok (.aload_n 0, 1) := by decide +kernel
theorem dX6_coefficientSignChanges_18 : decode cX6_coefficientSignChanges 18 = .ok (.getfield 28, 3) := by decide +kernel
theorem dX6_coefficientSignChanges_21 : decode cX6_coefficientSignChanges 21 = .ok (.invokevirtual 171, 3) := by decide +kernel
theorem dX6_coefficientSignChanges_24 : decode cX6_coefficientSignChanges 24 = .ok (.ireturn, 1) := by decide +kernel
theorem dX6_isolate_0 : decode cX6_isolate 0 = .ok (.iload_n 1, 1) := by decide +kernel
theorem dX6_isolate_1 : decode cX6_isolate 1 = .ok (.invokestatic 54, 3) := by decide +kernel
theorem dX6_isolate_4 : decode cX6_isolate 4 = .ok (.aload_n 0, 1) := by decide +kernel
theorem dX6_isolate_5 : decode cX6_isolate 5 = .ok (.iload_n 1, 1) := by decide +kernel
theorem dX6_isolate_6 : decode cX6_isolate 6 = .ok (.invokevirtual 106, 3) := by decide +kernel
theorem dX6_isolate_9 : decode cX6_isolate 9 = .ok (.aload_n 0, 1) := by decide +kernel
theorem dX6_isolate_10 : decode cX6_isolate 10 = .ok (.getfield 28, 3) := by decide +kernel
theorem dX6_isolate_13 : decode cX6_isolate 13 = .ok (.aload_n 0, 1) := by decide +kernel
theorem dX6_isolate_14 : decode cX6_isolate 14 = .ok (.getfield 11, 3) := by decide +kernel
theorem dX6_isolate_17 : decode cX6_isolate 17 = .ok (.iload_n 1, 1) := by decide +kernel
theorem dX6_isolate_18 : decode cX6_isolate 18 = .ok (.aaload, 1) := by decide +kernel
theorem dX6_isolate_19 : decode cX6_isolate 19 = .ok (.invokevirtual 94, 3) := by decide +kernel
theorem dX6_isolate_22 : decode cX6_isolate 22 = .ok (.aload_n 0, 1) := by decide +kernel
theorem dX6_isolate_23 : decode cX6_isolate 23 = .ok (.getfield 21, 3) := by decide +kernel
theorem dX6_isolate_26 : decode cX6_isolate 26 = .ok (.aload_n 0, 1) := by decide +kernel
theorem dX6_isolate_27 : decode cX6_isolate 27 = .ok (.getfield 28, 3) := by decide +kernel
theorem dX6_isolate_30 : decode cX6_isolate 30 = .ok (.aload_n 0, 1) := by decide +kernel
theorem dX6_isolate_31 : decode cX6_isolate 31 = .ok (.getfield 35, 3) := by decide +kernel
theorem dX6_isolate_34 : decode cX6_isolate 34 = .ok (.invokevirtual 109, 3) := by decide +kernel
theorem dX6_isolate_37 : decode cX6_isolate 37 = .ok (.aload_n 0, 1) := by decide +kernel
theorem dX6_isolate_38 : decode cX6_isolate 38 = .ok (.getfield 50, 3) := by decide +kernel
theorem dX6_isolate_41 : decode cX6_isolate 41 = .ok (.aload_n 0, 1) := by decide +kernel
theorem dX6_isolate_42 : decode cX6_isolate 42 = .ok (.getfield 28, 3) := by decide +kernel
theorem dX6_isolate_45 : decode cX6_isolate 45 = .ok (.aload_n 0, 1) := by decide +kernel
theorem dX6_isolate_46 : decode cX6_isolate 46 = .ok (.getfield 35, 3) := by decide +kernel
theorem dX6_isolate_49 : decode cX6_isolate 49 = .ok (.aload_n 0, 1) := by decide +kernel
theorem dX6_isolate_50 : decode cX6_isolate 50 = .ok (.getfield 11, 3) := by decide +kernel
theorem dX6_isolate_53 : decode cX6_isolate 53 = .ok (.iload_n 1, 1) := by decide +kernel
theorem dX6_isolate_54 : decode cX6_isolate 54 = .ok (.aaload, 1) := by decide +kernel
theorem dX6_isolate_55 : decode cX6_isolate 55 = .ok (.invokestatic 175, 3) := by decide +kernel
theorem dX6_isolate_58 : decode cX6_isolate 58 = .ok (.invokevirtual 178, 3) := by decide +kernel
theorem dX6_isolate_61 : decode cX6_isolate 61 = .ok (.ireturn, 1) := by decide +kernel
theorem dX6_intervals_0 : decode cX6_intervals 0 = .ok (.aload_n 0, 1) := by decide +kernel
theorem dX6_intervals_1 : decode cX6_intervals 1 = .ok (.getfield 50, 3) := by decide +kernel
theorem dX6_intervals_4 : decode cX6_intervals 4 = .ok (.getfield 182, 3) := by decide +kernel
theorem dX6_intervals_7 : decode cX6_intervals 7 = .ok (.invokevirtual 186, 3) := by decide +kernel
theorem dX6_intervals_10 : decode cX6_intervals 10 = .ok (.ireturn, 1) := by decide +kernel
theorem dX6_rootsIn_0 : decode cX6_rootsIn 0 = .ok (.aload_n 0, 1) := by decide +kernel
theorem dX6_rootsIn_1 : decode cX6_rootsIn 1 = .ok (.iload_n 1, 1) := by decide +kernel
theorem dX6_rootsIn_2 : decode cX6_rootsIn 2 = .ok (.invokevirtual 191, 3) := by decide +kernel
theorem dX6_rootsIn_5 : decode cX6_rootsIn 5 = .ok (.aload_n 0, 1) := by decide +kernel
theorem dX6_rootsIn_6 : decode cX6_rootsIn 6 = .ok (.getfield 50, 3) := by decide +kernel
theorem dX6_rootsIn_9 : decode cX6_rootsIn 9 = .ok (.getfield 182, 3) := by decide +kernel
theorem dX6_rootsIn_12 : decode cX6_rootsIn 12 = .ok (.iload_n 1, 1) := by decide +kernel
theorem dX6_rootsIn_13 : decode cX6_rootsIn 13 = .ok (.invokevirtual 194, 3) := by decide +kernel
theorem dX6_rootsIn_16 : decode cX6_rootsIn 16 = .ok (.checkcast 198, 3) := by decide +kernel
theorem dX6_rootsIn_19 : decode cX6_rootsIn 19 = .ok (.getfield 200, 3) := by decide +kernel
theorem dX6_rootsIn_22 : decode cX6_rootsIn 22 = .ok (.ireturn, 1) := by decide +kernel
theorem dX6_interval_0 : decode cX6_interval 0 = .ok (.aload_n 0, 1) := by decide +kernel
theorem dX6_interval_1 : decode cX6_interval 1 = .ok (.iload_n 1, 1) := by decide +kernel
theorem dX6_interval_2 : decode cX6_interval 2 = .ok (.invokevirtual 191, 3) := by decide +kernel
theorem dX6_interval_5 : decode cX6_interval 5 = .ok (.aload_n 0, 1) := by decide +kernel
theorem dX6_interval_6 : decode cX6_interval 6 = .ok (.getfield 50, 3) := by decide +kernel
theorem dX6_interval_9 : decode cX6_interval 9 = .ok (.getfield 182, 3) := by decide +kernel
theorem dX6_interval_12 : decode cX6_interval 12 = .ok (.iload_n 1, 1) := by decide +kernel
theorem dX6_interval_13 : decode cX6_interval 13 = .ok (.invokevirtual 194, 3) := by decide +kernel
theorem dX6_interval_16 : decode cX6_interval 16 = .ok (.checkcast 198, 3) := by decide +kernel
theorem dX6_interval_19 : decode cX6_interval 19 = .ok (.astore_n 3, 1) := by decide +kernel
theorem dX6_interval_20 : decode cX6_interval 20 = .ok (.iload_n 2, 1) := by decide +kernel
theorem dX6_interval_21 : decode cX6_interval 21 = .ok (.bipush 100, 2) := by decide +kernel
theorem dX6_interval_23 : decode cX6_interval 23 = .ok (.if_icmp .eq 25, 3) := by decide +kernel
theorem dX6_interval_26 : decode cX6_interval 26 = .ok (.iload_n 2, 1) := by decide +kernel
theorem dX6_interval_27 : decode cX6_interval 27 = .ok (.bipush 109, 2) := by decide +kernel
theorem dX6_interval_29 : decode cX6_interval 29 = .ok (.if_icmp .eq 19, 3) := by decide +kernel
theorem dX6_interval_32 : decode cX6_interval 32 = .ok (.iload_n 2, 1) := by decide +kernel
theorem dX6_interval_33 : decode cX6_interval 33 = .ok (.bipush 110, 2) := by decide +kernel
theorem dX6_interval_35 : decode cX6_interval 35 = .ok (.if_icmp .eq 13, 3) := by decide +kernel
theorem dX6_interval_38 : decode cX6_interval 38 = .ok (.new 61, 3) := by decide +kernel
theorem dX6_interval_41 : decode cX6_interval 41 = .ok (.dup, 1) := by decide +kernel
theorem dX6_interval_42 : decode cX6_interval 42 = .ok (.ldc 203, 2) := by decide +kernel
theorem dX6_interval_44 : decode cX6_interval 44 = .ok (.invokespecial 65, 3) := by decide +kernel
theorem dX6_interval_47 : decode cX6_interval 47 = .ok (.athrow, 1) := by decide +kernel
theorem dX6_interval_48 : decode cX6_interval 48 = .ok (.iload_n 2, 1) := by decide +kernel
theorem dX6_interval_49 : decode cX6_interval 49 = .ok (.bipush 100, 2) := by decide +kernel
theorem dX6_interval_51 : decode cX6_interval 51 = .ok (.if_icmp .ne 10, 3) := by decide +kernel
theorem dX6_interval_54 : decode cX6_interval 54 = .ok (.aload_n 3, 1) := by decide +kernel
theorem dX6_interval_55 : decode cX6_interval 55 = .ok (.getfield 205, 3) := by decide +kernel
theorem dX6_interval_58 : decode cX6_interval 58 = .ok (.goto 20, 3) := by decide +kernel
theorem dX6_interval_61 : decode cX6_interval 61 = .ok (.iload_n 2, 1) := by decide +kernel
theorem dX6_interval_62 : decode cX6_interval 62 = .ok (.bipush 109, 2) := by decide +kernel
theorem dX6_interval_64 : decode cX6_interval 64 = .ok (.if_icmp .ne 10, 3) := by decide +kernel
theorem dX6_interval_67 : decode cX6_interval 67 = .ok (.aload_n 3, 1) := by decide +kernel
theorem dX6_interval_68 : decode cX6_interval 68 = .ok (.getfield 208, 3) := by decide +kernel
theorem dX6_interval_71 : decode cX6_interval 71 = .ok (.goto 7, 3) := by decide +kernel
theorem dX6_interval_74 : decode cX6_interval 74 = .ok (.aload_n 3, 1) := by decide +kernel
theorem dX6_interval_75 : decode cX6_interval 75 = .ok (.getfield 211, 3) := by decide +kernel
theorem dX6_interval_78 : decode cX6_interval 78 = .ok (.ireturn, 1) := by decide +kernel
theorem dX6_bisect_0 : decode cX6_bisect 0 = .ok (.aload_n 0, 1) := by decide +kernel
theorem dX6_bisect_1 : decode cX6_bisect 1 = .ok (.iload_n 1, 1) := by decide +kernel
theorem dX6_bisect_2 : decode cX6_bisect 2 = .ok (.invokevirtual 191, 3) := by decide +kernel
theorem dX6_bisect_5 : decode cX6_bisect 5 = .ok (.aload_n 0, 1) := by decide +kernel
theorem dX6_bisect_6 : decode cX6_bisect 6 = .ok (.getfield 50, 3) := by decide +kernel
theorem dX6_bisect_9 : decode cX6_bisect 9 = .ok (.getfield 182, 3) := by decide +kernel
theorem dX6_bisect_12 : decode cX6_bisect 12 = .ok (.iload_n 1, 1) := by decide +kernel
theorem dX6_bisect_13 : decode cX6_bisect 13 = .ok (.invokevirtual 194, 3) := by decide +kernel
theorem dX6_bisect_16 : decode cX6_bisect 16 = .ok (.checkcast 198, 3) := by decide +kernel
theorem dX6_bisect_19 : decode cX6_bisect 19 = .ok (.astore_n 2, 1) := by decide +kernel
theorem dX6_bisect_20 : decode cX6_bisect 20 = .ok (.aload_n 2, 1) := by decide +kernel
theorem dX6_bisect_21 : decode cX6_bisect 21 = .ok (.invokevirtual 214, 3) := by decide +kernel
theorem dX6_bisect_24 : decode cX6_bisect 24 = .ok (.ifCond .ne 12, 3) := by decide +kernel
theorem dX6_bisect_27 : decode cX6_bisect 27 = .ok (.aload_n 2, 1) := by decide +kernel
theorem dX6_bisect_28 : decode cX6_bisect 28 = .ok (.getfield 205, 3) := by decide +kernel
theorem dX6_bisect_31 : decode cX6_bisect 31 = .ok (.bipush 12, 2) := by decide +kernel
theorem dX6_bisect_33 : decode cX6_bisect 33 = .ok (.if_icmp .lt 13, 3) := by decide +kernel
theorem dX6_bisect_36 : decode cX6_bisect 36 = .ok (.new 82, 3) := by decide +kernel
theorem dX6_bisect_39 : decode cX6_bisect 39 = .ok (.dup, 1) := by decide +kernel
theorem dX6_bisect_40 : decode cX6_bisect 40 = .ok (.ldc 218, 2) := by decide +kernel
theorem dX6_bisect_42 : decode cX6_bisect 42 = .ok (.invokespecial 86, 3) := by decide +kernel
theorem dX6_bisect_45 : decode cX6_bisect 45 = .ok (.athrow, 1) := by decide +kernel
theorem dX6_bisect_46 : decode cX6_bisect 46 = .ok (.aload_n 0, 1) := by decide +kernel
theorem dX6_bisect_47 : decode cX6_bisect 47 = .ok (.getfield 50, 3) := by decide +kernel
theorem dX6_bisect_50 : decode cX6_bisect 50 = .ok (.iload_n 1, 1) := by decide +kernel
theorem dX6_bisect_51 : decode cX6_bisect 51 = .ok (.invokevirtual 220, 3) := by decide +kernel
theorem dX6_bisect_54 : decode cX6_bisect 54 = .ok (.aload_n 0, 1) := by decide +kernel
theorem dX6_bisect_55 : decode cX6_bisect 55 = .ok (.getfield 50, 3) := by decide +kernel
theorem dX6_bisect_58 : decode cX6_bisect 58 = .ok (.getfield 182, 3) := by decide +kernel
theorem dX6_bisect_61 : decode cX6_bisect 61 = .ok (.invokevirtual 186, 3) := by decide +kernel
theorem dX6_bisect_64 : decode cX6_bisect 64 = .ok (.ireturn, 1) := by decide +kernel
theorem dX6_refine_0 : decode cX6_refine 0 = .ok (.aload_n 0, 1) := by decide +kernel
theorem dX6_refine_1 : decode cX6_refine 1 = .ok (.iload_n 1, 1) := by decide +kernel
theorem dX6_refine_2 : decode cX6_refine 2 = .ok (.invokevirtual 191, 3) := by decide +kernel
theorem dX6_refine_5 : decode cX6_refine 5 = .ok (.iload_n 2, 1) := by decide +kernel
theorem dX6_refine_6 : decode cX6_refine 6 = .ok (.iconst 1, 1) := by decide +kernel
theorem dX6_refine_7 : decode cX6_refine 7 = .ok (.if_icmp .lt 9, 3) := by decide +kernel
theorem dX6_refine_10 : decode cX6_refine 10 = .ok (.iload_n 2, 1) := by decide +kernel
theorem dX6_refine_11 : decode cX6_refine 11 = .ok (.bipush 6, 2) := by decide +kernel
theorem dX6_refine_13 : decode cX6_refine 13 = .ok (.if_icmp .le 13, 3) := by decide +kernel
theorem dX6_refine_16 : decode cX6_refine 16 = .ok (.new 61, 3) := by decide +kernel
theorem dX6_refine_19 : decode cX6_refine 19 = .ok (.dup, 1) := by decide +kernel
theorem dX6_refine_20 : decode cX6_refine 20 = .ok (.ldc 223, 2) := by decide +kernel
theorem dX6_refine_22 : decode cX6_refine 22 = .ok (.invokespecial 65, 3) := by decide +kernel
theorem dX6_refine_25 : decode cX6_refine 25 = .ok (.athrow, 1) := by decide +kernel
theorem dX6_refine_26 : decode cX6_refine 26 = .ok (.aload_n 0, 1) := by decide +kernel
theorem dX6_refine_27 : decode cX6_refine 27 = .ok (.getfield 50, 3) := by decide +kernel
theorem dX6_refine_30 : decode cX6_refine 30 = .ok (.getfield 182, 3) := by decide +kernel
theorem dX6_refine_33 : decode cX6_refine 33 = .ok (.iload_n 1, 1) := by decide +kernel
theorem dX6_refine_34 : decode cX6_refine 34 = .ok (.invokevirtual 194, 3) := by decide +kernel
theorem dX6_refine_37 : decode cX6_refine 37 = .ok (.checkcast 198, 3) := by decide +kernel
theorem dX6_refine_40 : decode cX6_refine 40 = .ok (.astore_n 3, 1) := by decide +kernel
theorem dX6_refine_41 : decode cX6_refine 41 = .ok (.aload_n 3, 1) := by decide +kernel
theorem dX6_refine_42 : decode cX6_refine 42 = .ok (.getfield 200, 3) := by decide +kernel
theorem dX6_refine_45 : decode cX6_refine 45 = .ok (.iconst 1, 1) := by decide +kernel
theorem dX6_refine_46 : decode cX6_refine 46 = .ok (.if_icmp .ne 21, 3) := by decide +kernel
theorem dX6_refine_49 : decode cX6_refine 49 = .ok (.aload_n 3, 1) := by decide +kernel
theorem dX6_refine_50 : decode cX6_refine 50 = .ok (.invokevirtual 214, 3) := by decide +kernel
theorem dX6_refine_53 : decode cX6_refine 53 = .ok (.ifCond .ne 14, 3) := by decide +kernel
theorem dX6_refine_56 : decode cX6_refine 56 = .ok (.aload_n 3, 1) := by decide +kernel
theorem dX6_refine_57 : decode cX6_refine 57 = .ok (.getfield 205, 3) := by decide +kernel
theorem dX6_refine_60 : decode cX6_refine 60 = .ok (.iload_n 2, 1) := by decide +kernel
theorem dX6_refine_61 : decode cX6_refine 61 = .ok (.iadd, 1) := by decide +kernel
theorem dX6_refine_62 : decode cX6_refine 62 = .ok (.bipush 12, 2) := by decide +kernel
theorem dX6_refine_64 : decode cX6_refine 64 = .ok (.if_icmp .le 13, 3) := by decide +kernel
theorem dX6_refine_67 : decode cX6_refine 67 = .ok (.new 82, 3) := by decide +kernel
theorem dX6_refine_70 : decode cX6_refine 70 = .ok (.dup, 1) := by decide +kernel
theorem dX6_refine_71 : decode cX6_refine 71 = .ok (.ldc 225, 2) := by decide +kernel
theorem dX6_refine_73 : decode cX6_refine 73 = .ok (.invokespecial 86, 3) := by decide +kernel
theorem dX6_refine_76 : decode cX6_refine 76 = .ok (.athrow, 1) := by decide +kernel
theorem dX6_refine_77 : decode cX6_refine 77 = .ok (.iconst 0, 1) := by decide +kernel
theorem dX6_refine_78 : decode cX6_refine 78 = .ok (.istore 4, 2) := by decide +kernel
theorem dX6_refine_80 : decode cX6_refine 80 = .ok (.iload 4, 2) := by decide +kernel
theorem dX6_refine_82 : decode cX6_refine 82 = .ok (.iload_n 2, 1) := by decide +kernel
theorem dX6_refine_83 : decode cX6_refine 83 = .ok (.if_icmp .ge 24, 3) := by decide +kernel
theorem dX6_refine_86 : decode cX6_refine 86 = .ok (.aload_n 3, 1) := by decide +kernel
theorem dX6_refine_87 : decode cX6_refine 87 = .ok (.invokevirtual 214, 3) := by decide +kernel
theorem dX6_refine_90 : decode cX6_refine 90 = .ok (.ifCond .ne 17, 3) := by decide +kernel
theorem dX6_refine_93 : decode cX6_refine 93 = .ok (.aload_n 0, 1) := by decide +kernel
theorem dX6_refine_94 : decode cX6_refine 94 = .ok (.getfield 50, 3) := by decide +kernel
theorem dX6_refine_97 : decode cX6_refine 97 = .ok (.aload_n 3, 1) := by decide +kernel
theorem dX6_refine_98 : decode cX6_refine 98 = .ok (.invokevirtual 227, 3) := by decide +kernel
theorem dX6_refine_101 : decode cX6_refine 101 = .ok (.iinc 4 1, 3) := by decide +kernel
theorem dX6_refine_104 : decode cX6_refine 104 = .ok (.goto (-24), 3) := by decide +kernel
theorem dX6_refine_107 : decode cX6_refine 107 = .ok (.aload_n 3, 1) := by decide +kernel
theorem dX6_refine_108 : decode cX6_refine 108 = .ok (.getfield 205, 3) := by decide +kernel
theorem dX6_refine_111 : decode cX6_refine 111 = .ok (.ireturn, 1) := by decide +kernel
theorem dX6_removeEmpty_0 : decode cX6_removeEmpty 0 = .ok (.aload_n 0, 1) := by decide +kernel
theorem dX6_removeEmpty_1 : decode cX6_removeEmpty 1 = .ok (.getfield 50, 3) := by decide +kernel
theorem dX6_removeEmpty_4 : decode cX6_removeEmpty 4 = .ok (.invokevirtual 231, 3) := by decide +kernel
theorem dX6_removeEmpty_7 : decode cX6_removeEmpty 7 = .ok (.ireturn, 1) := by decide +kernel
theorem dX6_multiplicity_0 : decode cX6_multiplicity 0 = .ok (.aload_n 0, 1) := by decide +kernel
theorem dX6_multiplicity_1 : decode cX6_multiplicity 1 = .ok (.iload_n 1, 1) := by decide +kernel
theorem dX6_multiplicity_2 : decode cX6_multiplicity 2 = .ok (.invokevirtual 191, 3) := by decide +kernel
theorem dX6_multiplicity_5 : decode cX6_multiplicity 5 = .ok (.aload_n 0, 1) := by decide +kernel
theorem dX6_multiplicity_6 : decode cX6_multiplicity 6 = .ok (.getfield 50, 3) := by decide +kernel
theorem dX6_multiplicity_9 : decode cX6_multiplicity 9 = .ok (.getfield 182, 3) := by decide +kernel
theorem dX6_multiplicity_12 : decode cX6_multiplicity 12 = .ok (.iload_n 1, 1) := by decide +kernel
theorem dX6_multiplicity_13 : decode cX6_multiplicity 13 = .ok (.invokevirtual 194, 3) := by decide +kernel
theorem dX6_multiplicity_16 : decode cX6_multiplicity 16 = .ok (.checkcast 198, 3) := by decide +kernel
theorem dX6_multiplicity_19 : decode cX6_multiplicity 19 = .ok (.astore_n 2, 1) := by decide +kernel
theorem dX6_multiplicity_20 : decode cX6_multiplicity 20 = .ok (.aload_n 2, 1) := by decide +kernel
theorem dX6_multiplicity_21 : decode cX6_multiplicity 21 = .ok (.getfield 200, 3) := by decide +kernel
theorem dX6_multiplicity_24 : decode cX6_multiplicity 24 = .ok (.iconst 1, 1) := by decide +kernel
theorem dX6_multiplicity_25 : decode cX6_multiplicity 25 = .ok (.if_icmp .eq 13, 3) := by decide +kernel
theorem dX6_multiplicity_28 : decode cX6_multiplicity 28 = .ok (.new 82, 3) := by decide +kernel
theorem dX6_multiplicity_31 : decode cX6_multiplicity 31 = .ok (.dup, 1) := by decide +kernel
theorem dX6_multiplicity_32 : decode cX6_multiplicity 32 = .ok (.ldc 234, 2) := by decide +kernel
theorem dX6_multiplicity_34 : decode cX6_multiplicity 34 = .ok (.invokespecial 86, 3) := by decide +kernel
theorem dX6_multiplicity_37 : decode cX6_multiplicity 37 = .ok (.athrow, 1) := by decide +kernel
theorem dX6_multiplicity_38 : decode cX6_multiplicity 38 = .ok (.aload_n 0, 1) := by decide +kernel
theorem dX6_multiplicity_39 : decode cX6_multiplicity 39 = .ok (.getfield 28, 3) := by decide +kernel
theorem dX6_multiplicity_42 : decode cX6_multiplicity 42 = .ok (.aload_n 0, 1) := by decide +kernel
theorem dX6_multiplicity_43 : decode cX6_multiplicity 43 = .ok (.getfield 50, 3) := by decide +kernel
theorem dX6_multiplicity_46 : decode cX6_multiplicity 46 = .ok (.getfield 236, 3) := by decide +kernel
theorem dX6_multiplicity_49 : decode cX6_multiplicity 49 = .ok (.invokevirtual 166, 3) := by decide +kernel
theorem dX6_multiplicity_52 : decode cX6_multiplicity 52 = .ok (.iconst 0, 1) := by decide +kernel
theorem dX6_multiplicity_53 : decode cX6_multiplicity 53 = .ok (.istore_n 3, 1) := by decide +kernel
theorem dX6_multiplicity_54 : decode cX6_multiplicity 54 = .ok (.iconst 0, 1) := by decide +kernel
theorem dX6_multiplicity_55 : decode cX6_multiplicity 55 = .ok (.istore 4, 2) := by decide +kernel
theorem dX6_multiplicity_57 : decode cX6_multiplicity 57 = .ok (.iload 4, 2) := by decide +kernel
theorem dX6_multiplicity_59 : decode cX6_multiplicity 59 = .ok (.bipush 7, 2) := by decide +kernel
theorem dX6_multiplicity_61 : decode cX6_multiplicity 61 = .ok (.if_icmp .ge 111, 3) := by decide +kernel
theorem dX6_multiplicity_64 : decode cX6_multiplicity 64 = .ok (.aload_n 0, 1) := by decide +kernel
theorem dX6_multiplicity_65 : decode cX6_multiplicity 65 = .ok (.getfield 28, 3) := by decide +kernel
theorem dX6_multiplicity_68 : decode cX6_multiplicity 68 = .ok (.getfield 137, 3) := by decide +kernel
theorem dX6_multiplicity_71 : decode cX6_multiplicity 71 = .ok (.ifCond .le 101, 3) := by decide +kernel
theorem dX6_multiplicity_74 : decode cX6_multiplicity 74 = .ok (.aload_n 0, 1) := by decide +kernel
theorem dX6_multiplicity_75 : decode cX6_multiplicity 75 = .ok (.getfield 21, 3) := by decide +kernel
theorem dX6_multiplicity_78 : decode cX6_multiplicity 78 = .ok (.aload_n 0, 1) := by decide +kernel
theorem dX6_multiplicity_79 : decode cX6_multiplicity 79 = .ok (.getfield 28, 3) := by decide +kernel
theorem dX6_multiplicity_82 : decode cX6_multiplicity 82 = .ok (.aload_n 0, 1) := by decide +kernel
theorem dX6_multiplicity_83 : decode cX6_multiplicity 83 = .ok (.getfield 35, 3) := by decide +kernel
theorem dX6_multiplicity_86 : decode cX6_multiplicity 86 = .ok (.invokevirtual 163, 3) := by decide +kernel
theorem dX6_multiplicity_89 : decode cX6_multiplicity 89 = .ok (.aload_n 0, 1) := by decide +kernel
theorem dX6_multiplicity_90 : decode cX6_multiplicity 90 = .ok (.getfield 21, 3) := by decide +kernel
theorem dX6_multiplicity_93 : decode cX6_multiplicity 93 = .ok (.aload_n 0, 1) := by decide +kernel
theorem dX6_multiplicity_94 : decode cX6_multiplicity 94 = .ok (.getfield 28, 3) := by decide +kernel
theorem dX6_multiplicity_97 : decode cX6_multiplicity 97 = .ok (.aload_n 0, 1) := by decide +kernel
theorem dX6_multiplicity_98 : decode cX6_multiplicity 98 = .ok (.getfield 35, 3) := by decide +kernel
theorem dX6_multiplicity_101 : decode cX6_multiplicity 101 = .ok (.aload_n 0, 1) := by decide +kernel
theorem dX6_multiplicity_102 : decode cX6_multiplicity 102 = .ok (.getfield 32, 3) := by decide +kernel
theorem dX6_multiplicity_105 : decode cX6_multiplicity 105 = .ok (.invokevirtual 239, 3) := by decide +kernel
theorem dX6_multiplicity_108 : decode cX6_multiplicity 108 = .ok (.aload_n 0, 1) := by decide +kernel
theorem dX6_multiplicity_109 : decode cX6_multiplicity 109 = .ok (.getfield 21, 3) := by decide +kernel
theorem dX6_multiplicity_112 : decode cX6_multiplicity 112 = .ok (.aload_n 0, 1) := by decide +kernel
theorem dX6_multiplicity_113 : decode cX6_multiplicity 113 = .ok (.getfield 32, 3) := by decide +kernel
theorem dX6_multiplicity_116 : decode cX6_multiplicity 116 = .ok (.aload_n 0, 1) := by decide +kernel
theorem dX6_multiplicity_117 : decode cX6_multiplicity 117 = .ok (.getfield 41, 3) := by decide +kernel
theorem dX6_multiplicity_120 : decode cX6_multiplicity 120 = .ok (.invokevirtual 159, 3) := by decide +kernel
theorem dX6_multiplicity_123 : decode cX6_multiplicity 123 = .ok (.aload_n 0, 1) := by decide +kernel
theorem dX6_multiplicity_124 : decode cX6_multiplicity 124 = .ok (.getfield 21, 3) := by decide +kernel
theorem dX6_multiplicity_127 : decode cX6_multiplicity 127 = .ok (.aload_n 0, 1) := by decide +kernel
theorem dX6_multiplicity_128 : decode cX6_multiplicity 128 = .ok (.getfield 41, 3) := by decide +kernel
theorem dX6_multiplicity_131 : decode cX6_multiplicity 131 = .ok (.aload_n 2, 1) := by decide +kernel
theorem dX6_multiplicity_132 : decode cX6_multiplicity 132 = .ok (.getfield 205, 3) := by decide +kernel
theorem dX6_multiplicity_135 : decode cX6_multiplicity 135 = .ok (.aload_n 2, 1) := by decide +kernel
theorem dX6_multiplicity_136 : decode cX6_multiplicity 136 = .ok (.getfield 208, 3) := by decide +kernel
theorem dX6_multiplicity_139 : decode cX6_multiplicity 139 = .ok (.aload_n 2, 1) := by decide +kernel
theorem dX6_multiplicity_140 : decode cX6_multiplicity 140 = .ok (.getfield 211, 3) := by decide +kernel
theorem dX6_multiplicity_143 : decode cX6_multiplicity 143 = .ok (.invokevirtual 242, 3) := by decide +kernel
theorem dX6_multiplicity_146 : decode cX6_multiplicity 146 = .ok (.ifCond .ne 6, 3) := by decide +kernel
theorem dX6_multiplicity_149 : decode cX6_multiplicity 149 = .ok (.goto 23, 3) := by decide +kernel
theorem dX6_multiplicity_152 : decode cX6_multiplicity 152 = .ok (.iinc 3 1, 3) := by decide +kernel
theorem dX6_multiplicity_155 : decode cX6_multiplicity 155 = .ok (.aload_n 0, 1) := by decide +kernel
theorem dX6_multiplicity_156 : decode cX6_multiplicity 156 = .ok (.getfield 28, 3) := by decide +kernel
theorem dX6_multiplicity_159 : decode cX6_multiplicity 159 = .ok (.aload_n 0, 1) := by decide +kernel
theorem dX6_multiplicity_160 : decode cX6_multiplicity 160 = .ok (.getfield 35, 3) := by decide +kernel
theorem dX6_multiplicity_163 : decode cX6_multiplicity 163 = .ok (.invokevirtual 166, 3) := by decide +kernel
theorem dX6_multiplicity_166 : decode cX6_multiplicity 166 = .ok (.iinc 4 1, 3) := by decide +kernel
theorem dX6_multiplicity_169 : decode cX6_multiplicity 169 = .ok (.goto (-112), 3) := by decide +kernel
theorem dX6_multiplicity_172 : decode cX6_multiplicity 172 = .ok (.iload_n 3, 1) := by decide +kernel
theorem dX6_multiplicity_173 : decode cX6_multiplicity 173 = .ok (.ireturn, 1) := by decide +kernel
theorem dX6_isTrue_0 : decode cX6_isTrue 0 = .ok (.iload_n 1, 1) := by decide +kernel
theorem dX6_isTrue_1 : decode cX6_isTrue 1 = .ok (.invokestatic 54, 3) := by decide +kernel
theorem dX6_isTrue_4 : decode cX6_isTrue 4 = .ok (.aload_n 0, 1) := by decide +kernel
theorem dX6_isTrue_5 : decode cX6_isTrue 5 = .ok (.getfield 11, 3) := by decide +kernel
theorem dX6_isTrue_8 : decode cX6_isTrue 8 = .ok (.iload_n 1, 1) := by decide +kernel
theorem dX6_isTrue_9 : decode cX6_isTrue 9 = .ok (.aaload, 1) := by decide +kernel
theorem dX6_isTrue_10 : decode cX6_isTrue 10 = .ok (.invokestatic 68, 3) := by decide +kernel
theorem dX6_isTrue_13 : decode cX6_isTrue 13 = .ok (.ifCond .ge 5, 3) := by decide +kernel
theorem dX6_isTrue_16 : decode cX6_isTrue 16 = .ok (.iconst 1, 1) := by decide +kernel
theorem dX6_isTrue_17 : decode cX6_isTrue 17 = .ok (.ireturn, 1) := by decide +kernel
theorem dX6_isTrue_18 : decode cX6_isTrue 18 = .ok (.aload_n 0, 1) := by decide +kernel
theorem dX6_isTrue_19 : decode cX6_isTrue 19 = .ok (.iload_n 1, 1) := by decide +kernel
theorem dX6_isTrue_20 : decode cX6_isTrue 20 = .ok (.invokevirtual 113, 3) := by decide +kernel
theorem dX6_isTrue_23 : decode cX6_isTrue 23 = .ok (.aload_n 0, 1) := by decide +kernel
theorem dX6_isTrue_24 : decode cX6_isTrue 24 = .ok (.getfield 21, 3) := by decide +kernel
theorem dX6_isTrue_27 : decode cX6_isTrue 27 = .ok (.aload_n 0, 1) := by decide +kernel
theorem dX6_isTrue_28 : decode cX6_isTrue 28 = .ok (.getfield 41, 3) := by decide +kernel
theorem dX6_isTrue_31 : decode cX6_isTrue 31 = .ok (.sipush (-32768), 3) := by decide +kernel
theorem dX6_isTrue_34 : decode cX6_isTrue 34 = .ok (.iconst 0, 1) := by decide +kernel
theorem dX6_isTrue_35 : decode cX6_isTrue 35 = .ok (.invokevirtual 144, 3) := by decide +kernel
theorem dX6_isTrue_38 : decode cX6_isTrue 38 = .ok (.aload_n 0, 1) := by decide +kernel
theorem dX6_isTrue_39 : decode cX6_isTrue 39 = .ok (.getfield 21, 3) := by decide +kernel
theorem dX6_isTrue_42 : decode cX6_isTrue 42 = .ok (.aload_n 0, 1) := by decide +kernel
theorem dX6_isTrue_43 : decode cX6_isTrue 43 = .ok (.getfield 41, 3) := by decide +kernel
theorem dX6_isTrue_46 : decode cX6_isTrue 46 = .ok (.ldc 170, 2) := by decide +kernel
theorem dX6_isTrue_48 : decode cX6_isTrue 48 = .ok (.iconst 0, 1) := by decide +kernel
theorem dX6_isTrue_49 : decode cX6_isTrue 49 = .ok (.invokevirtual 144, 3) := by decide +kernel
theorem dX6_isTrue_52 : decode cX6_isTrue 52 = .ok (.isub, 1) := by decide +kernel
theorem dX6_isTrue_53 : decode cX6_isTrue 53 = .ok (.istore_n 2, 1) := by decide +kernel
theorem dX6_isTrue_54 : decode cX6_isTrue 54 = .ok (.aload_n 0, 1) := by decide +kernel
theorem dX6_isTrue_55 : decode cX6_isTrue 55 = .ok (.getfield 21, 3) := by decide +kernel
theorem dX6_isTrue_58 : decode cX6_isTrue 58 = .ok (.aload_n 0, 1) := by decide +kernel
theorem dX6_isTrue_59 : decode cX6_isTrue 59 = .ok (.getfield 28, 3) := by decide +kernel
theorem dX6_isTrue_62 : decode cX6_isTrue 62 = .ok (.aload_n 0, 1) := by decide +kernel
theorem dX6_isTrue_63 : decode cX6_isTrue 63 = .ok (.getfield 35, 3) := by decide +kernel
theorem dX6_isTrue_66 : decode cX6_isTrue 66 = .ok (.invokevirtual 109, 3) := by decide +kernel
theorem dX6_isTrue_69 : decode cX6_isTrue 69 = .ok (.aload_n 0, 1) := by decide +kernel
theorem dX6_isTrue_70 : decode cX6_isTrue 70 = .ok (.getfield 21, 3) := by decide +kernel
theorem dX6_isTrue_73 : decode cX6_isTrue 73 = .ok (.aload_n 0, 1) := by decide +kernel
theorem dX6_isTrue_74 : decode cX6_isTrue 74 = .ok (.getfield 35, 3) := by decide +kernel
theorem dX6_isTrue_77 : decode cX6_isTrue 77 = .ok (.aload_n 0, 1) := by decide +kernel
theorem dX6_isTrue_78 : decode cX6_isTrue 78 = .ok (.getfield 41, 3) := by decide +kernel
theorem dX6_isTrue_81 : decode cX6_isTrue 81 = .ok (.invokevirtual 159, 3) := by decide +kernel
theorem dX6_isTrue_84 : decode cX6_isTrue 84 = .ok (.aload_n 0, 1) := by decide +kernel
theorem dX6_isTrue_85 : decode cX6_isTrue 85 = .ok (.getfield 21, 3) := by decide +kernel
theorem dX6_isTrue_88 : decode cX6_isTrue 88 = .ok (.aload_n 0, 1) := by decide +kernel
theorem dX6_isTrue_89 : decode cX6_isTrue 89 = .ok (.getfield 41, 3) := by decide +kernel
theorem dX6_isTrue_92 : decode cX6_isTrue 92 = .ok (.ldc 170, 2) := by decide +kernel
theorem dX6_isTrue_94 : decode cX6_isTrue 94 = .ok (.iconst 0, 1) := by decide +kernel
theorem dX6_isTrue_95 : decode cX6_isTrue 95 = .ok (.invokevirtual 144, 3) := by decide +kernel
theorem dX6_isTrue_98 : decode cX6_isTrue 98 = .ok (.istore_n 3, 1) := by decide +kernel
theorem dX6_isTrue_99 : decode cX6_isTrue 99 = .ok (.aload_n 0, 1) := by decide +kernel
theorem dX6_isTrue_100 : decode cX6_isTrue 100 = .ok (.getfield 21, 3) := by decide +kernel
theorem dX6_isTrue_103 : decode cX6_isTrue 103 = .ok (.aload_n 0, 1) := by decide +kernel
theorem dX6_isTrue_104 : decode cX6_isTrue 104 = .ok (.getfield 41, 3) := by decide +kernel
theorem dX6_isTrue_107 : decode cX6_isTrue 107 = .ok (.sipush (-32768), 3) := by decide +kernel
theorem dX6_isTrue_110 : decode cX6_isTrue 110 = .ok (.iconst 0, 1) := by decide +kernel
theorem dX6_isTrue_111 : decode cX6_isTrue 111 = .ok (.invokevirtual 144, 3) := by decide +kernel
theorem dX6_isTrue_114 : decode cX6_isTrue 114 = .ok (.iload_n 3, 1) := by decide +kernel
theorem dX6_isTrue_115 : decode cX6_isTrue 115 = .ok (.isub, 1) := by decide +kernel
theorem dX6_isTrue_116 : decode cX6_isTrue 116 = .ok (.istore 4, 2) := by decide +kernel
theorem dX6_isTrue_118 : decode cX6_isTrue 118 = .ok (.aload_n 0, 1) := by decide +kernel
theorem dX6_isTrue_119 : decode cX6_isTrue 119 = .ok (.getfield 21, 3) := by decide +kernel
theorem dX6_isTrue_122 : decode cX6_isTrue 122 = .ok (.aload_n 0, 1) := by decide +kernel
theorem dX6_isTrue_123 : decode cX6_isTrue 123 = .ok (.getfield 41, 3) := by decide +kernel
theorem dX6_isTrue_126 : decode cX6_isTrue 126 = .ok (.iconst 0, 1) := by decide +kernel
theorem dX6_isTrue_127 : decode cX6_isTrue 127 = .ok (.iconst 0, 1) := by decide +kernel
theorem dX6_isTrue_128 : decode cX6_isTrue 128 = .ok (.invokevirtual 144, 3) := by decide +kernel
theorem dX6_isTrue_131 : decode cX6_isTrue 131 = .ok (.iload_n 3, 1) := by decide +kernel
theorem dX6_isTrue_132 : decode cX6_isTrue 132 = .ok (.isub, 1) := by decide +kernel
theorem dX6_isTrue_133 : decode cX6_isTrue 133 = .ok (.istore 5, 2) := by decide +kernel
theorem dX6_isTrue_135 : decode cX6_isTrue 135 = .ok (.aload_n 0, 1) := by decide +kernel
theorem dX6_isTrue_136 : decode cX6_isTrue 136 = .ok (.getfield 35, 3) := by decide +kernel
theorem dX6_isTrue_139 : decode cX6_isTrue 139 = .ok (.invokevirtual 171, 3) := by decide +kernel
theorem dX6_isTrue_142 : decode cX6_isTrue 142 = .ok (.iload 5, 2) := by decide +kernel
theorem dX6_isTrue_144 : decode cX6_isTrue 144 = .ok (.isub, 1) := by decide +kernel
theorem dX6_isTrue_145 : decode cX6_isTrue 145 = .ok (.istore 6, 2) := by decide +kernel
theorem dX6_isTrue_147 : decode cX6_isTrue 147 = .ok (.iload 4, 2) := by decide +kernel
theorem dX6_isTrue_149 : decode cX6_isTrue 149 = .ok (.iload_n 2, 1) := by decide +kernel
theorem dX6_isTrue_150 : decode cX6_isTrue 150 = .ok (.if_icmp .ne 31, 3) := by decide +kernel
theorem dX6_isTrue_153 : decode cX6_isTrue 153 = .ok (.iload 4, 2) := by decide +kernel
theorem dX6_isTrue_155 : decode cX6_isTrue 155 = .ok (.aload_n 0, 1) := by decide +kernel
theorem dX6_isTrue_156 : decode cX6_isTrue 156 = .ok (.getfield 35, 3) := by decide +kernel
theorem dX6_isTrue_159 : decode cX6_isTrue 159 = .ok (.getfield 137, 3) := by decide +kernel
theorem dX6_isTrue_162 : decode cX6_isTrue 162 = .ok (.if_icmp .gt 19, 3) := by decide +kernel
theorem dX6_isTrue_165 : decode cX6_isTrue 165 = .ok (.iload 6, 2) := by decide +kernel
theorem dX6_isTrue_167 : decode cX6_isTrue 167 = .ok (.ifCond .lt 14, 3) := by decide +kernel
theorem dX6_isTrue_170 : decode cX6_isTrue 170 = .ok (.iload 6, 2) := by decide +kernel
theorem dX6_isTrue_172 : decode cX6_isTrue 172 = .ok (.iconst 2, 1) := by decide +kernel
theorem dX6_isTrue_173 : decode cX6_isTrue 173 = .ok (.irem, 1) := by decide +kernel
theorem dX6_isTrue_174 : decode cX6_isTrue 174 = .ok (.ifCond .ne 7, 3) := by decide +kernel
theorem dX6_isTrue_177 : decode cX6_isTrue 177 = .ok (.iconst 1, 1) := by decide +kernel
theorem dX6_isTrue_178 : decode cX6_isTrue 178 = .ok (.goto 4, 3) := by decide +kernel
theorem dX6_isTrue_181 : decode cX6_isTrue 181 = .ok (.iconst 0, 1) := by decide +kernel
theorem dX6_isTrue_182 : decode cX6_isTrue 182 = .ok (.ireturn, 1) := by decide +kernel
theorem dX6_checksum_0 : decode cX6_checksum 0 = .ok (.ldc2_w 246, 3) := by decide +kernel
theorem dX6_checksum_3 : decode cX6_checksum 3 = .ok (.lstore_n 1, 1) := by decide +kernel
theorem dX6_checksum_4 : decode cX6_checksum 4 = .ok (.iconst 0, 1) := by decide +kernel
theorem dX6_checksum_5 : decode cX6_checksum 5 = .ok (.istore_n 3, 1) := by decide +kernel
theorem dX6_checksum_6 : decode cX6_checksum 6 = .ok (.iload_n 3, 1) := by decide +kernel
theorem dX6_checksum_7 : decode cX6_checksum 7 = .ok (.iconst 5, 1) := by decide +kernel
theorem dX6_checksum_8 : decode cX6_checksum 8 = .ok (.if_icmp .ge 42, 3) := by decide +kernel
theorem dX6_checksum_11 : decode cX6_checksum 11 = .ok (.iconst 0, 1) := by decide +kernel
theorem dX6_checksum_12 : decode cX6_checksum 12 = .ok (.istore 4, 2) := by decide +kernel
theorem dX6_checksum_14 : decode cX6_checksum 14 = .ok (.iload 4, 2) := by decide +kernel
theorem dX6_checksum_16 : decode cX6_checksum 16 = .ok (.bipush 7, 2) := by decide +kernel
theorem dX6_checksum_18 : decode cX6_checksum 18 = .ok (.if_icmp .ge 26, 3) := by decide +kernel
theorem dX6_checksum_21 : decode cX6_checksum 21 = .ok (.ldc2_w 248, 3) := by decide +kernel
theorem dX6_checksum_24 : decode cX6_checksum 24 = .ok (.lload_n 1, 1) := by decide +kernel
theorem dX6_checksum_25 : decode cX6_checksum 25 = .ok (.lmul, 1) := by decide +kernel
theorem dX6_checksum_26 : decode cX6_checksum 26 = .ok (.aload_n 0, 1) := by decide +kernel
theorem dX6_checksum_27 : decode cX6_checksum 27 = .ok (.getfield 11, 3) := by decide +kernel
theorem dX6_checksum_30 : decode cX6_checksum 30 = .ok (.iload_n 3, 1) := by decide +kernel
theorem dX6_checksum_31 : decode cX6_checksum 31 = .ok (.aaload, 1) := by decide +kernel
theorem dX6_checksum_32 : decode cX6_checksum 32 = .ok (.iload 4, 2) := by decide +kernel
theorem dX6_checksum_34 : decode cX6_checksum 34 = .ok (.iaload, 1) := by decide +kernel
theorem dX6_checksum_35 : decode cX6_checksum 35 = .ok (.i2l, 1) := by decide +kernel
theorem dX6_checksum_36 : decode cX6_checksum 36 = .ok (.ladd, 1) := by decide +kernel
theorem dX6_checksum_37 : decode cX6_checksum 37 = .ok (.lstore_n 1, 1) := by decide +kernel
theorem dX6_checksum_38 : decode cX6_checksum 38 = .ok (.iinc 4 1, 3) := by decide +kernel
theorem dX6_checksum_41 : decode cX6_checksum 41 = .ok (.goto (-27), 3) := by decide +kernel
theorem dX6_checksum_44 : decode cX6_checksum 44 = .ok (.iinc 3 1, 3) := by decide +kernel
theorem dX6_checksum_47 : decode cX6_checksum 47 = .ok (.goto (-41), 3) := by decide +kernel
theorem dX6_checksum_50 : decode cX6_checksum 50 = .ok (.aload_n 0, 1) := by decide +kernel
theorem dX6_checksum_51 : decode cX6_checksum 51 = .ok (.getfield 50, 3) := by decide +kernel
theorem dX6_checksum_54 : decode cX6_checksum 54 = .ok (.getfield 182, 3) := by decide +kernel
theorem dX6_checksum_57 : decode cX6_checksum 57 = .ok (.invokevirtual 186, 3) := by decide +kernel
theorem dX6_checksum_60 : decode cX6_checksum 60 = .ok (.istore_n 3, 1) := by decide +kernel
theorem dX6_checksum_61 : decode cX6_checksum 61 = .ok (.ldc2_w 248, 3) := by decide +kernel
theorem dX6_checksum_64 : decode cX6_checksum 64 = .ok (.lload_n 1, 1) := by decide +kernel
theorem dX6_checksum_65 : decode cX6_checksum 65 = .ok (.lmul, 1) := by decide +kernel
theorem dX6_checksum_66 : decode cX6_checksum 66 = .ok (.iload_n 3, 1) := by decide +kernel
theorem dX6_checksum_67 : decode cX6_checksum 67 = .ok (.i2l, 1) := by decide +kernel
theorem dX6_checksum_68 : decode cX6_checksum 68 = .ok (.ladd, 1) := by decide +kernel
theorem dX6_checksum_69 : decode cX6_checksum 69 = .ok (.lstore_n 1, 1) := by decide +kernel
theorem dX6_checksum_70 : decode cX6_checksum 70 = .ok (.iconst 0, 1) := by decide +kernel
theorem dX6_checksum_71 : decode cX6_checksum 71 = .ok (.istore 4, 2) := by decide +kernel
theorem dX6_checksum_73 : decode cX6_checksum 73 = .ok (.iload 4, 2) := by decide +kernel
theorem dX6_checksum_75 : decode cX6_checksum 75 = .ok (.iload_n 3, 1) := by decide +kernel
theorem dX6_checksum_76 : decode cX6_checksum 76 = .ok (.if_icmp .ge 78, 3) := by decide +kernel
theorem dX6_checksum_79 : decode cX6_checksum 79 = .ok (.aload_n 0, 1) := by decide +kernel
theorem dX6_checksum_80 : decode cX6_checksum 80 = .ok (.getfield 50, 3) := by decide +kernel
theorem dX6_checksum_83 : decode cX6_checksum 83 = .ok (.getfield 182, 3) := by decide +kernel
theorem dX6_checksum_86 : decode cX6_checksum 86 = .ok (.iload 4, 2) := by decide +kernel
theorem dX6_checksum_88 : decode cX6_checksum 88 = .ok (.invokevirtual 194, 3) := by decide +kernel
theorem dX6_checksum_91 : decode cX6_checksum 91 = .ok (.checkcast 198, 3) := by decide +kernel
theorem dX6_checksum_94 : decode cX6_checksum 94 = .ok (.astore 5, 2) := by decide +kernel
theorem dX6_checksum_96 : decode cX6_checksum 96 = .ok (.ldc2_w 248, 3) := by decide +kernel
theorem dX6_checksum_99 : decode cX6_checksum 99 = .ok (.lload_n 1, 1) := by decide +kernel
theorem dX6_checksum_100 : decode cX6_checksum 100 = .ok (.lmul, 1) := by decide +kernel
theorem dX6_checksum_101 : decode cX6_checksum 101 = .ok (.aload 5, 2) := by decide +kernel
theorem dX6_checksum_103 : decode cX6_checksum 103 = .ok (.getfield 205, 3) := by decide +kernel
theorem dX6_checksum_106 : decode cX6_checksum 106 = .ok (.i2l, 1) := by decide +kernel
theorem dX6_checksum_107 : decode cX6_checksum 107 = .ok (.ladd, 1) := by decide +kernel
theorem dX6_checksum_108 : decode cX6_checksum 108 = .ok (.lstore_n 1, 1) := by decide +kernel
theorem dX6_checksum_109 : decode cX6_checksum 109 = .ok (.ldc2_w 248, 3) := by decide +kernel
theorem dX6_checksum_112 : decode cX6_checksum 112 = .ok (.lload_n 1, 1) := by decide +kernel
theorem dX6_checksum_113 : decode cX6_checksum 113 = .ok (.lmul, 1) := by decide +kernel
theorem dX6_checksum_114 : decode cX6_checksum 114 = .ok (.aload 5, 2) := by decide +kernel
theorem dX6_checksum_116 : decode cX6_checksum 116 = .ok (.getfield 208, 3) := by decide +kernel
theorem dX6_checksum_119 : decode cX6_checksum 119 = .ok (.i2l, 1) := by decide +kernel
theorem dX6_checksum_120 : decode cX6_checksum 120 = .ok (.ladd, 1) := by decide +kernel
theorem dX6_checksum_121 : decode cX6_checksum 121 = .ok (.lstore_n 1, 1) := by decide +kernel
theorem dX6_checksum_122 : decode cX6_checksum 122 = .ok (.ldc2_w 248, 3) := by decide +kernel
theorem dX6_checksum_125 : decode cX6_checksum 125 = .ok (.lload_n 1, 1) := by decide +kernel
theorem dX6_checksum_126 : decode cX6_checksum 126 = .ok (.lmul, 1) := by decide +kernel
theorem dX6_checksum_127 : decode cX6_checksum 127 = .ok (.aload 5, 2) := by decide +kernel
theorem dX6_checksum_129 : decode cX6_checksum 129 = .ok (.getfield 211, 3) := by decide +kernel
theorem dX6_checksum_132 : decode cX6_checksum 132 = .ok (.i2l, 1) := by decide +kernel
theorem dX6_checksum_133 : decode cX6_checksum 133 = .ok (.ladd, 1) := by decide +kernel
theorem dX6_checksum_134 : decode cX6_checksum 134 = .ok (.lstore_n 1, 1) := by decide +kernel
theorem dX6_checksum_135 : decode cX6_checksum 135 = .ok (.ldc2_w 248, 3) := by decide +kernel
theorem dX6_checksum_138 : decode cX6_checksum 138 = .ok (.lload_n 1, 1) := by decide +kernel
theorem dX6_checksum_139 : decode cX6_checksum 139 = .ok (.lmul, 1) := by decide +kernel
theorem dX6_checksum_140 : decode cX6_checksum 140 = .ok (.aload 5, 2) := by decide +kernel
theorem dX6_checksum_142 : decode cX6_checksum 142 = .ok (.getfield 200, 3) := by decide +kernel
theorem dX6_checksum_145 : decode cX6_checksum 145 = .ok (.i2l, 1) := by decide +kernel
theorem dX6_checksum_146 : decode cX6_checksum 146 = .ok (.ladd, 1) := by decide +kernel
theorem dX6_checksum_147 : decode cX6_checksum 147 = .ok (.lstore_n 1, 1) := by decide +kernel
theorem dX6_checksum_148 : decode cX6_checksum 148 = .ok (.iinc 4 1, 3) := by decide +kernel
theorem dX6_checksum_151 : decode cX6_checksum 151 = .ok (.goto (-78), 3) := by decide +kernel
theorem dX6_checksum_154 : decode cX6_checksum 154 = .ok (.lload_n 1, 1) := by decide +kernel
theorem dX6_checksum_155 : decode cX6_checksum 155 = .ok (.lreturn, 1) := by decide +kernel
theorem dX6_requireSlot_0 : decode cX6_requireSlot 0 = .ok (.iload_n 0, 1) := by decide +kernel
theorem dX6_requireSlot_1 : decode cX6_requireSlot 1 = .ok (.ifCond .lt 8, 3) := by decide +kernel
theorem dX6_requireSlot_4 : decode cX6_requireSlot 4 = .ok (.iload_n 0, 1) := by decide +kernel
theorem dX6_requireSlot_5 : decode cX6_requireSlot 5 = .ok (.iconst 5, 1) := by decide +kernel
theorem dX6_requireSlot_6 : decode cX6_requireSlot 6 = .ok (.if_icmp .lt 13, 3) := by decide +kernel
theorem dX6_requireSlot_9 : decode cX6_requireSlot 9 = .ok (.new 250, 3) := by decide +kernel
theorem dX6_requireSlot_12 : decode cX6_requireSlot 12 = .ok (.dup, 1) := by decide +kernel
theorem dX6_requireSlot_13 : decode cX6_requireSlot 13 = .ok (.ldc 252, 2) := by decide +kernel
theorem dX6_requireSlot_15 : decode cX6_requireSlot 15 = .ok (.invokespecial 254, 3) := by decide +kernel
theorem dX6_requireSlot_18 : decode cX6_requireSlot 18 = .ok (.athrow, 1) := by decide +kernel
theorem dX6_requireSlot_19 : decode cX6_requireSlot 19 = .ok (.return_, 1) := by decide +kernel
theorem dX6_requirePower_0 : decode cX6_requirePower 0 = .ok (.iload_n 0, 1) := by decide +kernel
theorem dX6_requirePower_1 : decode cX6_requirePower 1 = .ok (.ifCond .lt 9, 3) := by decide +kernel
theorem dX6_requirePower_4 : decode cX6_requirePower 4 = .ok (.iload_n 0, 1) := by decide +kernel
theorem dX6_requirePower_5 : decode cX6_requirePower 5 = .ok (.bipush 7, 2) := by decide +kernel
theorem dX6_requirePower_7 : decode cX6_requirePower 7 = .ok (.if_icmp .lt 13, 3) := by decide +kernel
theorem dX6_requirePower_10 : decode cX6_requirePower 10 = .ok (.new 250, 3) := by decide +kernel
theorem dX6_requirePower_13 : decode cX6_requirePower 13 = .ok (.dup, 1) := by decide +kernel
theorem dX6_requirePower_14 : decode cX6_requirePower 14 = .ok (.ldc 255, 2) := by decide +kernel
theorem dX6_requirePower_16 : decode cX6_requirePower 16 = .ok (.invokespecial 254, 3) := by decide +kernel
theorem dX6_requirePower_19 : decode cX6_requirePower 19 = .ok (.athrow, 1) := by decide +kernel
theorem dX6_requirePower_20 : decode cX6_requirePower 20 = .ok (.return_, 1) := by decide +kernel
theorem dX6_requirePoint_0 : decode cX6_requirePoint 0 = .ok (.iload_n 0, 1) := by decide +kernel
theorem dX6_requirePoint_1 : decode cX6_requirePoint 1 = .ok (.ldc_w 257, 3) := by decide +kernel
theorem dX6_requirePoint_4 : decode cX6_requirePoint 4 = .ok (.if_icmp .lt 20, 3) := by decide +kernel
theorem dX6_requirePoint_7 : decode cX6_requirePoint 7 = .ok (.iload_n 0, 1) := by decide +kernel
theorem dX6_requirePoint_8 : decode cX6_requirePoint 8 = .ok (.ldc_w 258, 3) := by decide +kernel
theorem dX6_requirePoint_11 : decode cX6_requirePoint 11 = .ok (.if_icmp .gt 13, 3) := by decide +kernel
theorem dX6_requirePoint_14 : decode cX6_requirePoint 14 = .ok (.iload_n 1, 1) := by decide +kernel
theorem dX6_requirePoint_15 : decode cX6_requirePoint 15 = .ok (.ifCond .lt 9, 3) := by decide +kernel
theorem dX6_requirePoint_18 : decode cX6_requirePoint 18 = .ok (.iload_n 1, 1) := by decide +kernel
theorem dX6_requirePoint_19 : decode cX6_requirePoint 19 = .ok (.bipush 12, 2) := by decide +kernel
theorem dX6_requirePoint_21 : decode cX6_requirePoint 21 = .ok (.if_icmp .le 14, 3) := by decide +kernel
theorem dX6_requirePoint_24 : decode cX6_requirePoint 24 = .ok (.new 61, 3) := by decide +kernel
theorem dX6_requirePoint_27 : decode cX6_requirePoint 27 = .ok (.dup, 1) := by decide +kernel
theorem dX6_requirePoint_28 : decode cX6_requirePoint 28 = .ok (.ldc_w 259, 3) := by decide +kernel
theorem dX6_requirePoint_31 : decode cX6_requirePoint 31 = .ok (.invokespecial 65, 3) := by decide +kernel
theorem dX6_requirePoint_34 : decode cX6_requirePoint 34 = .ok (.athrow, 1) := by decide +kernel
theorem dX6_requirePoint_35 : decode cX6_requirePoint 35 = .ok (.return_, 1) := by decide +kernel
theorem dX6_requireOrder_0 : decode cX6_requireOrder 0 = .ok (.iload_n 0, 1) := by decide +kernel
theorem dX6_requireOrder_1 : decode cX6_requireOrder 1 = .ok (.iload_n 1, 1) := by decide +kernel
theorem dX6_requireOrder_2 : decode cX6_requireOrder 2 = .ok (.invokestatic 140, 3) := by decide +kernel
theorem dX6_requireOrder_5 : decode cX6_requireOrder 5 = .ok (.iload_n 2, 1) := by decide +kernel
theorem dX6_requireOrder_6 : decode cX6_requireOrder 6 = .ok (.iload_n 3, 1) := by decide +kernel
theorem dX6_requireOrder_7 : decode cX6_requireOrder 7 = .ok (.invokestatic 140, 3) := by decide +kernel
theorem dX6_requireOrder_10 : decode cX6_requireOrder 10 = .ok (.iload_n 0, 1) := by decide +kernel
theorem dX6_requireOrder_11 : decode cX6_requireOrder 11 = .ok (.i2l, 1) := by decide +kernel
theorem dX6_requireOrder_12 : decode cX6_requireOrder 12 = .ok (.iload_n 3, 1) := by decide +kernel
theorem dX6_requireOrder_13 : decode cX6_requireOrder 13 = .ok (.lshl, 1) := by decide +kernel
theorem dX6_requireOrder_14 : decode cX6_requireOrder 14 = .ok (.iload_n 2, 1) := by decide +kernel
theorem dX6_requireOrder_15 : decode cX6_requireOrder 15 = .ok (.i2l, 1) := by decide +kernel
theorem dX6_requireOrder_16 : decode cX6_requireOrder 16 = .ok (.iload_n 1, 1) := by decide +kernel
theorem dX6_requireOrder_17 : decode cX6_requireOrder 17 = .ok (.lshl, 1) := by decide +kernel
theorem dX6_requireOrder_18 : decode cX6_requireOrder 18 = .ok (.lcmp, 1) := by decide +kernel
theorem dX6_requireOrder_19 : decode cX6_requireOrder 19 = .ok (.ifCond .lt 14, 3) := by decide +kernel
theorem dX6_requireOrder_22 : decode cX6_requireOrder 22 = .ok (.new 61, 3) := by decide +kernel
theorem dX6_requireOrder_25 : decode cX6_requireOrder 25 = .ok (.dup, 1) := by decide +kernel
theorem dX6_requireOrder_26 : decode cX6_requireOrder 26 = .ok (.ldc_w 261, 3) := by decide +kernel
theorem dX6_requireOrder_29 : decode cX6_requireOrder 29 = .ok (.invokespecial 65, 3) := by decide +kernel
theorem dX6_requireOrder_32 : decode cX6_requireOrder 32 = .ok (.athrow, 1) := by decide +kernel
theorem dX6_requireOrder_33 : decode cX6_requireOrder 33 = .ok (.return_, 1) := by decide +kernel
theorem dX6_requireNotZero_0 : decode cX6_requireNotZero 0 = .ok (.aload_n 0, 1) := by decide +kernel
theorem dX6_requireNotZero_1 : decode cX6_requireNotZero 1 = .ok (.getfield 11, 3) := by decide +kernel
theorem dX6_requireNotZero_4 : decode cX6_requireNotZero 4 = .ok (.iload_n 1, 1) := by decide +kernel
theorem dX6_requireNotZero_5 : decode cX6_requireNotZero 5 = .ok (.aaload, 1) := by decide +kernel
theorem dX6_requireNotZero_6 : decode cX6_requireNotZero 6 = .ok (.invokestatic 68, 3) := by decide +kernel
theorem dX6_requireNotZero_9 : decode cX6_requireNotZero 9 = .ok (.ifCond .ge 14, 3) := by decide +kernel
theorem dX6_requireNotZero_12 : decode cX6_requireNotZero 12 = .ok (.new 263, 3) := by decide +kernel
theorem dX6_requireNotZero_15 : decode cX6_requireNotZero 15 = .ok (.dup, 1) := by decide +kernel
theorem dX6_requireNotZero_16 : decode cX6_requireNotZero 16 = .ok (.ldc_w 265, 3) := by decide +kernel
theorem dX6_requireNotZero_19 : decode cX6_requireNotZero 19 = .ok (.invokespecial 267, 3) := by decide +kernel
theorem dX6_requireNotZero_22 : decode cX6_requireNotZero 22 = .ok (.athrow, 1) := by decide +kernel
theorem dX6_requireNotZero_23 : decode cX6_requireNotZero 23 = .ok (.return_, 1) := by decide +kernel
theorem dX6_requireElement_0 : decode cX6_requireElement 0 = .ok (.iload_n 1, 1) := by decide +kernel
theorem dX6_requireElement_1 : decode cX6_requireElement 1 = .ok (.ifCond .lt 14, 3) := by decide +kernel
theorem dX6_requireElement_4 : decode cX6_requireElement 4 = .ok (.iload_n 1, 1) := by decide +kernel
theorem dX6_requireElement_5 : decode cX6_requireElement 5 = .ok (.aload_n 0, 1) := by decide +kernel
theorem dX6_requireElement_6 : decode cX6_requireElement 6 = .ok (.getfield 41, 3) := by decide +kernel
theorem dX6_requireElement_9 : decode cX6_requireElement 9 = .ok (.getfield 116, 3) := by decide +kernel
theorem dX6_requireElement_12 : decode cX6_requireElement 12 = .ok (.if_icmp .lt 14, 3) := by decide +kernel
theorem dX6_requireElement_15 : decode cX6_requireElement 15 = .ok (.new 268, 3) := by decide +kernel
theorem dX6_requireElement_18 : decode cX6_requireElement 18 = .ok (.dup, 1) := by decide +kernel
theorem dX6_requireElement_19 : decode cX6_requireElement 19 = .ok (.ldc_w 270, 3) := by decide +kernel
theorem dX6_requireElement_22 : decode cX6_requireElement 22 = .ok (.invokespecial 272, 3) := by decide +kernel
theorem dX6_requireElement_25 : decode cX6_requireElement 25 = .ok (.athrow, 1) := by decide +kernel
theorem dX6_requireElement_26 : decode cX6_requireElement 26 = .ok (.return_, 1) := by decide +kernel
theorem dX6_requireNoRoot_0 : decode cX6_requireNoRoot 0 = .ok (.aload_n 0, 1) := by decide +kernel
theorem dX6_requireNoRoot_1 : decode cX6_requireNoRoot 1 = .ok (.getfield 21, 3) := by decide +kernel
theorem dX6_requireNoRoot_4 : decode cX6_requireNoRoot 4 = .ok (.aload_n 0, 1) := by decide +kernel
theorem dX6_requireNoRoot_5 : decode cX6_requireNoRoot 5 = .ok (.getfield 28, 3) := by decide +kernel
theorem dX6_requireNoRoot_8 : decode cX6_requireNoRoot 8 = .ok (.iload_n 1, 1) := by decide +kernel
theorem dX6_requireNoRoot_9 : decode cX6_requireNoRoot 9 = .ok (.iload_n 2, 1) := by decide +kernel
theorem dX6_requireNoRoot_10 : decode cX6_requireNoRoot 10 = .ok (.invokevirtual 148, 3) := by decide +kernel
theorem dX6_requireNoRoot_13 : decode cX6_requireNoRoot 13 = .ok (.ifCond .ne 14, 3) := by decide +kernel
theorem dX6_requireNoRoot_16 : decode cX6_requireNoRoot 16 = .ok (.new 82, 3) := by decide +kernel
theorem dX6_requireNoRoot_19 : decode cX6_requireNoRoot 19 = .ok (.dup, 1) := by decide +kernel
theorem dX6_requireNoRoot_20 : decode cX6_requireNoRoot 20 = .ok (.ldc_w 273, 3) := by decide +kernel
theorem dX6_requireNoRoot_23 : decode cX6_requireNoRoot 23 = .ok (.invokespecial 86, 3) := by decide +kernel
theorem dX6_requireNoRoot_26 : decode cX6_requireNoRoot 26 = .ok (.athrow, 1) := by decide +kernel
theorem dX6_requireNoRoot_27 : decode cX6_requireNoRoot 27 = .ok (.return_, 1) := by decide +kernel
theorem dX6_requireInterval_0 : decode cX6_requireInterval 0 = .ok (.iload_n 1, 1) := by decide +kernel
theorem dX6_requireInterval_1 : decode cX6_requireInterval 1 = .ok (.ifCond .lt 17, 3) := by decide +kernel
theorem dX6_requireInterval_4 : decode cX6_requireInterval 4 = .ok (.iload_n 1, 1) := by decide +kernel
theorem dX6_requireInterval_5 : decode cX6_requireInterval 5 = .ok (.aload_n 0, 1) := by decide +kernel
theorem dX6_requireInterval_6 : decode cX6_requireInterval 6 = .ok (.getfield 50, 3) := by decide +kernel
theorem dX6_requireInterval_9 : decode cX6_requireInterval 9 = .ok (.getfield 182, 3) := by decide +kernel
theorem dX6_requireInterval_12 : decode cX6_requireInterval 12 = .ok (.invokevirtual 186, 3) := by decide +kernel
theorem dX6_requireInterval_15 : decode cX6_requireInterval 15 = .ok (.if_icmp .lt 14, 3) := by decide +kernel
theorem dX6_requireInterval_18 : decode cX6_requireInterval 18 = .ok (.new 250, 3) := by decide +kernel
theorem dX6_requireInterval_21 : decode cX6_requireInterval 21 = .ok (.dup, 1) := by decide +kernel
theorem dX6_requireInterval_22 : decode cX6_requireInterval 22 = .ok (.ldc_w 275, 3) := by decide +kernel
theorem dX6_requireInterval_25 : decode cX6_requireInterval 25 = .ok (.invokespecial 254, 3) := by decide +kernel
theorem dX6_requireInterval_28 : decode cX6_requireInterval 28 = .ok (.athrow, 1) := by decide +kernel
theorem dX6_requireInterval_29 : decode cX6_requireInterval 29 = .ok (.return_, 1) := by decide +kernel
theorem dX6_requireStorable_0 : decode cX6_requireStorable 0 = .ok (.iconst 0, 1) := by decide +kernel
theorem dX6_requireStorable_1 : decode cX6_requireStorable 1 = .ok (.istore_n 1, 1) := by decide +kernel
theorem dX6_requireStorable_2 : decode cX6_requireStorable 2 = .ok (.iload_n 1, 1) := by decide +kernel
theorem dX6_requireStorable_3 : decode cX6_requireStorable 3 = .ok (.bipush 7, 2) := by decide +kernel
theorem dX6_requireStorable_5 : decode cX6_requireStorable 5 = .ok (.if_icmp .ge 46, 3) := by decide +kernel
theorem dX6_requireStorable_8 : decode cX6_requireStorable 8 = .ok (.aload_n 0, 1) := by decide +kernel
theorem dX6_requireStorable_9 : decode cX6_requireStorable 9 = .ok (.getfield 14, 3) := by decide +kernel
theorem dX6_requireStorable_12 : decode cX6_requireStorable 12 = .ok (.iload_n 1, 1) := by decide +kernel
theorem dX6_requireStorable_13 : decode cX6_requireStorable 13 = .ok (.laload, 1) := by decide +kernel
theorem dX6_requireStorable_14 : decode cX6_requireStorable 14 = .ok (.ldc2_w 277, 3) := by decide +kernel
theorem dX6_requireStorable_17 : decode cX6_requireStorable 17 = .ok (.lcmp, 1) := by decide +kernel
theorem dX6_requireStorable_18 : decode cX6_requireStorable 18 = .ok (.ifCond .lt 16, 3) := by decide +kernel
theorem dX6_requireStorable_21 : decode cX6_requireStorable 21 = .ok (.aload_n 0, 1) := by decide +kernel
theorem dX6_requireStorable_22 : decode cX6_requireStorable 22 = .ok (.getfield 14, 3) := by decide +kernel
theorem dX6_requireStorable_25 : decode cX6_requireStorable 25 = .ok (.iload_n 1, 1) := by decide +kernel
theorem dX6_requireStorable_26 : decode cX6_requireStorable 26 = .ok (.laload, 1) := by decide +kernel
theorem dX6_requireStorable_27 : decode cX6_requireStorable 27 = .ok (.ldc2_w 279, 3) := by decide +kernel
theorem dX6_requireStorable_30 : decode cX6_requireStorable 30 = .ok (.lcmp, 1) := by decide +kernel
theorem dX6_requireStorable_31 : decode cX6_requireStorable 31 = .ok (.ifCond .le 14, 3) := by decide +kernel
theorem dX6_requireStorable_34 : decode cX6_requireStorable 34 = .ok (.new 82, 3) := by decide +kernel
theorem dX6_requireStorable_37 : decode cX6_requireStorable 37 = .ok (.dup, 1) := by decide +kernel
theorem dX6_requireStorable_38 : decode cX6_requireStorable 38 = .ok (.ldc_w 281, 3) := by decide +kernel
theorem dX6_requireStorable_41 : decode cX6_requireStorable 41 = .ok (.invokespecial 86, 3) := by decide +kernel
theorem dX6_requireStorable_44 : decode cX6_requireStorable 44 = .ok (.athrow, 1) := by decide +kernel
theorem dX6_requireStorable_45 : decode cX6_requireStorable 45 = .ok (.iinc 1 1, 3) := by decide +kernel
theorem dX6_requireStorable_48 : decode cX6_requireStorable 48 = .ok (.goto (-46), 3) := by decide +kernel
theorem dX6_requireStorable_51 : decode cX6_requireStorable 51 = .ok (.return_, 1) := by decide +kernel
theorem dX6_degreeOf_0 : decode cX6_degreeOf 0 = .ok (.bipush 6, 2) := by decide +kernel
theorem dX6_degreeOf_2 : decode cX6_degreeOf 2 = .ok (.istore_n 1, 1) := by decide +kernel
theorem dX6_degreeOf_3 : decode cX6_degreeOf 3 = .ok (.iload_n 1, 1) := by decide +kernel
theorem dX6_degreeOf_4 : decode cX6_degreeOf 4 = .ok (.ifCond .lt 17, 3) := by decide +kernel
theorem dX6_degreeOf_7 : decode cX6_degreeOf 7 = .ok (.aload_n 0, 1) := by decide +kernel
theorem dX6_degreeOf_8 : decode cX6_degreeOf 8 = .ok (.iload_n 1, 1) := by decide +kernel
theorem dX6_degreeOf_9 : decode cX6_degreeOf 9 = .ok (.iaload, 1) := by decide +kernel
theorem dX6_degreeOf_10 : decode cX6_degreeOf 10 = .ok (.ifCond .eq 5, 3) := by decide +kernel
theorem dX6_degreeOf_13 : decode cX6_degreeOf 13 = .ok (.iload_n 1, 1) := by decide +kernel
theorem dX6_degreeOf_14 : decode cX6_degreeOf 14 = .ok (.ireturn, 1) := by decide +kernel
theorem dX6_degreeOf_15 : decode cX6_degreeOf 15 = .ok (.iinc 1 (-1), 3) := by decide +kernel
theorem dX6_degreeOf_18 : decode cX6_degreeOf 18 = .ok (.goto (-15), 3) := by decide +kernel
theorem dX6_degreeOf_21 : decode cX6_degreeOf 21 = .ok (.iconst (-1), 1) := by decide +kernel
theorem dX6_degreeOf_22 : decode cX6_degreeOf 22 = .ok (.ireturn, 1) := by decide +kernel
theorem dX6_clearRow_0 : decode cX6_clearRow 0 = .ok (.iconst 0, 1) := by decide +kernel
theorem dX6_clearRow_1 : decode cX6_clearRow 1 = .ok (.istore_n 1, 1) := by decide +kernel
theorem dX6_clearRow_2 : decode cX6_clearRow 2 = .ok (.iload_n 1, 1) := by decide +kernel
theorem dX6_clearRow_3 : decode cX6_clearRow 3 = .ok (.bipush 7, 2) := by decide +kernel
theorem dX6_clearRow_5 : decode cX6_clearRow 5 = .ok (.if_icmp .ge 16, 3) := by decide +kernel
theorem dX6_clearRow_8 : decode cX6_clearRow 8 = .ok (.aload_n 0, 1) := by decide +kernel
theorem dX6_clearRow_9 : decode cX6_clearRow 9 = .ok (.getfield 14, 3) := by decide +kernel
theorem dX6_clearRow_12 : decode cX6_clearRow 12 = .ok (.iload_n 1, 1) := by decide +kernel
theorem dX6_clearRow_13 : decode cX6_clearRow 13 = .ok (.lconst 0, 1) := by decide +kernel
theorem dX6_clearRow_14 : decode cX6_clearRow 14 = .ok (.lastore, 1) := by decide +kernel
theorem dX6_clearRow_15 : decode cX6_clearRow 15 = .ok (.iinc 1 1, 3) := by decide +kernel
theorem dX6_clearRow_18 : decode cX6_clearRow 18 = .ok (.goto (-16), 3) := by decide +kernel
theorem dX6_clearRow_21 : decode cX6_clearRow 21 = .ok (.return_, 1) := by decide +kernel
theorem dX6_readRow_0 : decode cX6_readRow 0 = .ok (.iconst 0, 1) := by decide +kernel
theorem dX6_readRow_1 : decode cX6_readRow 1 = .ok (.istore_n 2, 1) := by decide +kernel
theorem dX6_readRow_2 : decode cX6_readRow 2 = .ok (.iload_n 2, 1) := by decide +kernel
theorem dX6_readRow_3 : decode cX6_readRow 3 = .ok (.bipush 7, 2) := by decide +kernel
theorem dX6_readRow_5 : decode cX6_readRow 5 = .ok (.if_icmp .ge 24, 3) := by decide +kernel
theorem dX6_readRow_8 : decode cX6_readRow 8 = .ok (.aload_n 0, 1) := by decide +kernel
theorem dX6_readRow_9 : decode cX6_readRow 9 = .ok (.getfield 14, 3) := by decide +kernel
theorem dX6_readRow_12 : decode cX6_readRow 12 = .ok (.iload_n 2, 1) := by decide +kernel
theorem dX6_readRow_13 : decode cX6_readRow 13 = .ok (.aload_n 0, 1) := by decide +kernel
theorem dX6_readRow_14 : decode cX6_readRow 14 = .ok (.getfield 11, 3) := by decide +kernel
theorem dX6_readRow_17 : decode cX6_readRow 17 = .ok (.iload_n 1, 1) := by decide +kernel
theorem dX6_readRow_18 : decode cX6_readRow 18 = .ok (.aaload, 1) := by decide +kernel
theorem dX6_readRow_19 : decode cX6_readRow 19 = .ok (.iload_n 2, 1) := by decide +kernel
theorem dX6_readRow_20 : decode cX6_readRow 20 = .ok (.iaload, 1) := by decide +kernel
theorem dX6_readRow_21 : decode cX6_readRow 21 = .ok (.i2l, 1) := by decide +kernel
theorem dX6_readRow_22 : decode cX6_readRow 22 = .ok (.lastore, 1) := by decide +kernel
theorem dX6_readRow_23 : decode cX6_readRow 23 = .ok (.iinc 2 1, 3) := by decide +kernel
theorem dX6_readRow_26 : decode cX6_readRow 26 = .ok (.goto (-24), 3) := by decide +kernel
theorem dX6_readRow_29 : decode cX6_readRow 29 = .ok (.return_, 1) := by decide +kernel
theorem dX6_storeRow_0 : decode cX6_storeRow 0 = .ok (.iconst 0, 1) := by decide +kernel
theorem dX6_storeRow_1 : decode cX6_storeRow 1 = .ok (.istore_n 2, 1) := by decide +kernel
theorem dX6_storeRow_2 : decode cX6_storeRow 2 = .ok (.iload_n 2, 1) := by decide +kernel
theorem dX6_storeRow_3 : decode cX6_storeRow 3 = .ok (.bipush 7, 2) := by decide +kernel
theorem dX6_storeRow_5 : decode cX6_storeRow 5 = .ok (.if_icmp .ge 24, 3) := by decide +kernel
theorem dX6_storeRow_8 : decode cX6_storeRow 8 = .ok (.aload_n 0, 1) := by decide +kernel
theorem dX6_storeRow_9 : decode cX6_storeRow 9 = .ok (.getfield 11, 3) := by decide +kernel
theorem dX6_storeRow_12 : decode cX6_storeRow 12 = .ok (.iload_n 1, 1) := by decide +kernel
theorem dX6_storeRow_13 : decode cX6_storeRow 13 = .ok (.aaload, 1) := by decide +kernel
theorem dX6_storeRow_14 : decode cX6_storeRow 14 = .ok (.iload_n 2, 1) := by decide +kernel
theorem dX6_storeRow_15 : decode cX6_storeRow 15 = .ok (.aload_n 0, 1) := by decide +kernel
theorem dX6_storeRow_16 : decode cX6_storeRow 16 = .ok (.getfield 14, 3) := by decide +kernel
theorem dX6_storeRow_19 : decode cX6_storeRow 19 = .ok (.iload_n 2, 1) := by decide +kernel
theorem dX6_storeRow_20 : decode cX6_storeRow 20 = .ok (.laload, 1) := by decide +kernel
theorem dX6_storeRow_21 : decode cX6_storeRow 21 = .ok (.l2i, 1) := by decide +kernel
theorem dX6_storeRow_22 : decode cX6_storeRow 22 = .ok (.iastore, 1) := by decide +kernel
theorem dX6_storeRow_23 : decode cX6_storeRow 23 = .ok (.iinc 2 1, 3) := by decide +kernel
theorem dX6_storeRow_26 : decode cX6_storeRow 26 = .ok (.goto (-24), 3) := by decide +kernel
theorem dX6_storeRow_29 : decode cX6_storeRow 29 = .ok (.aload_n 0, 1) := by decide +kernel
theorem dX6_storeRow_30 : decode cX6_storeRow 30 = .ok (.getfield 11, 3) := by decide +kernel
theorem dX6_storeRow_33 : decode cX6_storeRow 33 = .ok (.iload_n 1, 1) := by decide +kernel
theorem dX6_storeRow_34 : decode cX6_storeRow 34 = .ok (.aaload, 1) := by decide +kernel
theorem dX6_storeRow_35 : decode cX6_storeRow 35 = .ok (.invokestatic 68, 3) := by decide +kernel
theorem dX6_storeRow_38 : decode cX6_storeRow 38 = .ok (.ireturn, 1) := by decide +kernel
theorem dX6_buildSequence_0 : decode cX6_buildSequence 0 = .ok (.aload_n 0, 1) := by decide +kernel
theorem dX6_buildSequence_1 : decode cX6_buildSequence 1 = .ok (.getfield 28, 3) := by decide +kernel
theorem dX6_buildSequence_4 : decode cX6_buildSequence 4 = .ok (.aload_n 0, 1) := by decide +kernel
theorem dX6_buildSequence_5 : decode cX6_buildSequence 5 = .ok (.getfield 11, 3) := by decide +kernel
theorem dX6_buildSequence_8 : decode cX6_buildSequence 8 = .ok (.iload_n 1, 1) := by decide +kernel
theorem dX6_buildSequence_9 : decode cX6_buildSequence 9 = .ok (.aaload, 1) := by decide +kernel
theorem dX6_buildSequence_10 : decode cX6_buildSequence 10 = .ok (.invokevirtual 94, 3) := by decide +kernel
theorem dX6_buildSequence_13 : decode cX6_buildSequence 13 = .ok (.aload_n 0, 1) := by decide +kernel
theorem dX6_buildSequence_14 : decode cX6_buildSequence 14 = .ok (.getfield 21, 3) := by decide +kernel
theorem dX6_buildSequence_17 : decode cX6_buildSequence 17 = .ok (.aload_n 0, 1) := by decide +kernel
theorem dX6_buildSequence_18 : decode cX6_buildSequence 18 = .ok (.getfield 28, 3) := by decide +kernel
theorem dX6_buildSequence_21 : decode cX6_buildSequence 21 = .ok (.aload_n 0, 1) := by decide +kernel
theorem dX6_buildSequence_22 : decode cX6_buildSequence 22 = .ok (.getfield 41, 3) := by decide +kernel
theorem dX6_buildSequence_25 : decode cX6_buildSequence 25 = .ok (.invokevirtual 159, 3) := by decide +kernel
theorem dX6_buildSequence_28 : decode cX6_buildSequence 28 = .ok (.return_, 1) := by decide +kernel
theorem dX6_rootBound_0 : decode cX6_rootBound 0 = .ok (.aload_n 0, 1) := by decide +kernel
theorem dX6_rootBound_1 : decode cX6_rootBound 1 = .ok (.invokestatic 68, 3) := by decide +kernel
theorem dX6_rootBound_4 : decode cX6_rootBound 4 = .ok (.istore_n 1, 1) := by decide +kernel
theorem dX6_rootBound_5 : decode cX6_rootBound 5 = .ok (.iconst 0, 1) := by decide +kernel
theorem dX6_rootBound_6 : decode cX6_rootBound 6 = .ok (.istore_n 2, 1) := by decide +kernel
theorem dX6_rootBound_7 : decode cX6_rootBound 7 = .ok (.iconst 0, 1) := by decide +kernel
theorem dX6_rootBound_8 : decode cX6_rootBound 8 = .ok (.istore_n 3, 1) := by decide +kernel
theorem dX6_rootBound_9 : decode cX6_rootBound 9 = .ok (.iload_n 3, 1) := by decide +kernel
theorem dX6_rootBound_10 : decode cX6_rootBound 10 = .ok (.iload_n 1, 1) := by decide +kernel
theorem dX6_rootBound_11 : decode cX6_rootBound 11 = .ok (.if_icmp .ge 20, 3) := by decide +kernel
theorem dX6_rootBound_14 : decode cX6_rootBound 14 = .ok (.iload_n 2, 1) := by decide +kernel
theorem dX6_rootBound_15 : decode cX6_rootBound 15 = .ok (.aload_n 0, 1) := by decide +kernel
theorem dX6_rootBound_16 : decode cX6_rootBound 16 = .ok (.iload_n 3, 1) := by decide +kernel
theorem dX6_rootBound_17 : decode cX6_rootBound 17 = .ok (.iaload, 1) := by decide +kernel
theorem dX6_rootBound_18 : decode cX6_rootBound 18 = .ok (.invokestatic 283, 3) := by decide +kernel
theorem dX6_rootBound_21 : decode cX6_rootBound 21 = .ok (.invokestatic 288, 3) := by decide +kernel
theorem dX6_rootBound_24 : decode cX6_rootBound 24 = .ok (.istore_n 2, 1) := by decide +kernel
theorem dX6_rootBound_25 : decode cX6_rootBound 25 = .ok (.iinc 3 1, 3) := by decide +kernel
theorem dX6_rootBound_28 : decode cX6_rootBound 28 = .ok (.goto (-19), 3) := by decide +kernel
theorem dX6_rootBound_31 : decode cX6_rootBound 31 = .ok (.iload_n 1, 1) := by decide +kernel
theorem dX6_rootBound_32 : decode cX6_rootBound 32 = .ok (.ifCond .ge 7, 3) := by decide +kernel
theorem dX6_rootBound_35 : decode cX6_rootBound 35 = .ok (.iconst 1, 1) := by decide +kernel
theorem dX6_rootBound_36 : decode cX6_rootBound 36 = .ok (.goto 9, 3) := by decide +kernel
theorem dX6_rootBound_39 : decode cX6_rootBound 39 = .ok (.aload_n 0, 1) := by decide +kernel
theorem dX6_rootBound_40 : decode cX6_rootBound 40 = .ok (.iload_n 1, 1) := by decide +kernel
theorem dX6_rootBound_41 : decode cX6_rootBound 41 = .ok (.iaload, 1) := by decide +kernel
theorem dX6_rootBound_42 : decode cX6_rootBound 42 = .ok (.invokestatic 283, 3) := by decide +kernel
theorem dX6_rootBound_45 : decode cX6_rootBound 45 = .ok (.istore_n 3, 1) := by decide +kernel
theorem dX6_rootBound_46 : decode cX6_rootBound 46 = .ok (.iconst 1, 1) := by decide +kernel
theorem dX6_rootBound_47 : decode cX6_rootBound 47 = .ok (.istore 4, 2) := by decide +kernel
theorem dX6_rootBound_49 : decode cX6_rootBound 49 = .ok (.iload 4, 2) := by decide +kernel
theorem dX6_rootBound_51 : decode cX6_rootBound 51 = .ok (.ldc 170, 2) := by decide +kernel
theorem dX6_rootBound_53 : decode cX6_rootBound 53 = .ok (.if_icmp .ge 26, 3) := by decide +kernel
theorem dX6_rootBound_56 : decode cX6_rootBound 56 = .ok (.iload 4, 2) := by decide +kernel
theorem dX6_rootBound_58 : decode cX6_rootBound 58 = .ok (.iconst 1, 1) := by decide +kernel
theorem dX6_rootBound_59 : decode cX6_rootBound 59 = .ok (.isub, 1) := by decide +kernel
theorem dX6_rootBound_60 : decode cX6_rootBound 60 = .ok (.i2l, 1) := by decide +kernel
theorem dX6_rootBound_61 : decode cX6_rootBound 61 = .ok (.iload_n 3, 1) := by decide +kernel
theorem dX6_rootBound_62 : decode cX6_rootBound 62 = .ok (.i2l, 1) := by decide +kernel
theorem dX6_rootBound_63 : decode cX6_rootBound 63 = .ok (.lmul, 1) := by decide +kernel
theorem dX6_rootBound_64 : decode cX6_rootBound 64 = .ok (.iload_n 2, 1) := by decide +kernel
theorem dX6_rootBound_65 : decode cX6_rootBound 65 = .ok (.i2l, 1) := by decide +kernel
theorem dX6_rootBound_66 : decode cX6_rootBound 66 = .ok (.lcmp, 1) := by decide +kernel
theorem dX6_rootBound_67 : decode cX6_rootBound 67 = .ok (.ifCond .ge 12, 3) := by decide +kernel
theorem dX6_rootBound_70 : decode cX6_rootBound 70 = .ok (.iload 4, 2) := by decide +kernel
theorem dX6_rootBound_72 : decode cX6_rootBound 72 = .ok (.iconst 2, 1) := by decide +kernel
theorem dX6_rootBound_73 : decode cX6_rootBound 73 = .ok (.imul, 1) := by decide +kernel
theorem dX6_rootBound_74 : decode cX6_rootBound 74 = .ok (.istore 4, 2) := by decide +kernel
theorem dX6_rootBound_76 : decode cX6_rootBound 76 = .ok (.goto (-27), 3) := by decide +kernel
theorem dX6_rootBound_79 : decode cX6_rootBound 79 = .ok (.iload 4, 2) := by decide +kernel
theorem dX6_rootBound_81 : decode cX6_rootBound 81 = .ok (.ireturn, 1) := by decide +kernel
