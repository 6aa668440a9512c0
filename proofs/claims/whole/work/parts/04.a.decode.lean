theorem dX0_init_0 : decode cX0_init 0 = .ok (.aload_n 0, 1) := by decide +kernel
theorem dX0_init_1 : decode cX0_init 1 = .ok (.invokespecial 3, 3) := by decide +kernel
theorem dX0_init_4 : decode cX0_init 4 = .ok (.aload_n 0, 1) := by decide +kernel
theorem dX0_init_5 : decode cX0_init 5 = .ok (.new 9, 3) := by decide +kernel
theorem dX0_init_8 : decode cX0_init 8 = .ok (.dup, 1) := by decide +kernel
theorem dX0_init_9 : decode cX0_init 9 = .ok (.invokespecial 11, 3) := by decide +kernel
theorem dX0_init_12 : decode cX0_init 12 = .ok (.putfield 12, 3) := by decide +kernel
theorem dX0_init_15 : decode cX0_init 15 = .ok (.aload_n 0, 1) := by decide +kernel
theorem dX0_init_16 : decode cX0_init 16 = .ok (.new 9, 3) := by decide +kernel
theorem dX0_init_19 : decode cX0_init 19 = .ok (.dup, 1) := by decide +kernel
theorem dX0_init_20 : decode cX0_init 20 = .ok (.invokespecial 11, 3) := by decide +kernel
theorem dX0_init_23 : decode cX0_init 23 = .ok (.putfield 18, 3) := by decide +kernel
theorem dX0_init_26 : decode cX0_init 26 = .ok (.aload_n 0, 1) := by decide +kernel
theorem dX0_init_27 : decode cX0_init 27 = .ok (.new 9, 3) := by decide +kernel
theorem dX0_init_30 : decode cX0_init 30 = .ok (.dup, 1) := by decide +kernel
theorem dX0_init_31 : decode cX0_init 31 = .ok (.invokespecial 11, 3) := by decide +kernel
theorem dX0_init_34 : decode cX0_init 34 = .ok (.putfield 21, 3) := by decide +kernel
theorem dX0_init_37 : decode cX0_init 37 = .ok (.aload_n 0, 1) := by decide +kernel
theorem dX0_init_38 : decode cX0_init 38 = .ok (.new 9, 3) := by decide +kernel
theorem dX0_init_41 : decode cX0_init 41 = .ok (.dup, 1) := by decide +kernel
theorem dX0_init_42 : decode cX0_init 42 = .ok (.invokespecial 11, 3) := by decide +kernel
theorem dX0_init_45 : decode cX0_init 45 = .ok (.putfield 24, 3) := by decide +kernel
theorem dX0_init_48 : decode cX0_init 48 = .ok (.aload_n 0, 1) := by decide +kernel
theorem dX0_init_49 : decode cX0_init 49 = .ok (.new 9, 3) := by decide +kernel
theorem dX0_init_52 : decode cX0_init 52 = .ok (.dup, 1) := by decide +kernel
theorem dX0_init_53 : decode cX0_init 53 = .ok (.invokespecial 11, 3) := by decide +kernel
theorem dX0_init_56 : decode cX0_init 56 = .ok (.putfield 27, 3) := by decide +kernel
theorem dX0_init_59 : decode cX0_init 59 = .ok (.aload_n 0, 1) := by decide +kernel
theorem dX0_init_60 : decode cX0_init 60 = .ok (.new 9, 3) := by decide +kernel
theorem dX0_init_63 : decode cX0_init 63 = .ok (.dup, 1) := by decide +kernel
theorem dX0_init_64 : decode cX0_init 64 = .ok (.invokespecial 11, 3) := by decide +kernel
theorem dX0_init_67 : decode cX0_init 67 = .ok (.putfield 30, 3) := by decide +kernel
theorem dX0_init_70 : decode cX0_init 70 = .ok (.aload_n 0, 1) := by decide +kernel
theorem dX0_init_71 : decode cX0_init 71 = .ok (.new 9, 3) := by decide +kernel
theorem dX0_init_74 : decode cX0_init 74 = .ok (.dup, 1) := by decide +kernel
theorem dX0_init_75 : decode cX0_init 75 = .ok (.invokespecial 11, 3) := by decide +kernel
theorem dX0_init_78 : decode cX0_init 78 = .ok (.putfield 33, 3) := by decide +kernel
theorem dX0_init_81 : decode cX0_init 81 = .ok (.aload_n 0, 1) := by decide +kernel
theorem dX0_init_82 : decode cX0_init 82 = .ok (.new 9, 3) := by decide +kernel
theorem dX0_init_85 : decode cX0_init 85 = .ok (.dup, 1) := by decide +kernel
theorem dX0_init_86 : decode cX0_init 86 = .ok (.invokespecial 11, 3) := by decide +kernel
theorem dX0_init_89 : decode cX0_init 89 = .ok (.putfield 36, 3) := by decide +kernel
theorem dX0_init_92 : decode cX0_init 92 = .ok (.aload_n 0, 1) := by decide +kernel
theorem dX0_init_93 : decode cX0_init 93 = .ok (.new 9, 3) := by decide +kernel
theorem dX0_init_96 : decode cX0_init 96 = .ok (.dup, 1) := by decide +kernel
theorem dX0_init_97 : decode cX0_init 97 = .ok (.invokespecial 11, 3) := by decide +kernel
theorem dX0_init_100 : decode cX0_init 100 = .ok (.putfield 39, 3) := by decide +kernel
theorem dX0_init_103 : decode cX0_init 103 = .ok (.aload_n 0, 1) := by decide +kernel
theorem dX0_init_104 : decode cX0_init 104 = .ok (.new 9, 3) := by decide +kernel
theorem dX0_init_107 : decode cX0_init 107 = .ok (.dup, 1) := by decide +kernel
theorem dX0_init_108 : decode cX0_init 108 = .ok (.invokespecial 11, 3) := by decide +kernel
theorem dX0_init_111 : decode cX0_init 111 = .ok (.putfield 42, 3) := by decide +kernel
theorem dX0_init_114 : decode cX0_init 114 = .ok (.aload_n 0, 1) := by decide +kernel
theorem dX0_init_115 : decode cX0_init 115 = .ok (.new 45, 3) := by decide +kernel
theorem dX0_init_118 : decode cX0_init 118 = .ok (.dup, 1) := by decide +kernel
theorem dX0_init_119 : decode cX0_init 119 = .ok (.invokespecial 47, 3) := by decide +kernel
theorem dX0_init_122 : decode cX0_init 122 = .ok (.putfield 48, 3) := by decide +kernel
theorem dX0_init_125 : decode cX0_init 125 = .ok (.aload_n 0, 1) := by decide +kernel
theorem dX0_init_126 : decode cX0_init 126 = .ok (.new 45, 3) := by decide +kernel
theorem dX0_init_129 : decode cX0_init 129 = .ok (.dup, 1) := by decide +kernel
theorem dX0_init_130 : decode cX0_init 130 = .ok (.invokespecial 47, 3) := by decide +kernel
theorem dX0_init_133 : decode cX0_init 133 = .ok (.putfield 52, 3) := by decide +kernel
theorem dX0_init_136 : decode cX0_init 136 = .ok (.aload_n 0, 1) := by decide +kernel
theorem dX0_init_137 : decode cX0_init 137 = .ok (.new 45, 3) := by decide +kernel
theorem dX0_init_140 : decode cX0_init 140 = .ok (.dup, 1) := by decide +kernel
theorem dX0_init_141 : decode cX0_init 141 = .ok (.invokespecial 47, 3) := by decide +kernel
theorem dX0_init_144 : decode cX0_init 144 = .ok (.putfield 55, 3) := by decide +kernel
theorem dX0_init_147 : decode cX0_init 147 = .ok (.aload_n 0, 1) := by decide +kernel
theorem dX0_init_148 : decode cX0_init 148 = .ok (.new 45, 3) := by decide +kernel
theorem dX0_init_151 : decode cX0_init 151 = .ok (.dup, 1) := by decide +kernel
theorem dX0_init_152 : decode cX0_init 152 = .ok (.invokespecial 47, 3) := by decide +kernel
theorem dX0_init_155 : decode cX0_init 155 = .ok (.putfield 58, 3) := by decide +kernel
theorem dX0_init_158 : decode cX0_init 158 = .ok (.return_, 1) := by decide +kernel
theorem dX0_writeCommonFactor_0 : decode cX0_writeCommonFactor 0 = .ok (.aload_n 0, 1) := by decide +kernel
theorem dX0_writeCommonFactor_1 : decode cX0_writeCommonFactor 1 = .ok (.getfield 12, 3) := by decide +kernel
theorem dX0_writeCommonFactor_4 : decode cX0_writeCommonFactor 4 = .ok (.astore 4, 2) := by decide +kernel
theorem dX0_writeCommonFactor_6 : decode cX0_writeCommonFactor 6 = .ok (.aload_n 0, 1) := by decide +kernel
theorem dX0_writeCommonFactor_7 : decode cX0_writeCommonFactor 7 = .ok (.getfield 18, 3) := by decide +kernel
theorem dX0_writeCommonFactor_10 : decode cX0_writeCommonFactor 10 = .ok (.astore 5, 2) := by decide +kernel
theorem dX0_writeCommonFactor_12 : decode cX0_writeCommonFactor 12 = .ok (.aload 4, 2) := by decide +kernel
theorem dX0_writeCommonFactor_14 : decode cX0_writeCommonFactor 14 = .ok (.aload_n 1, 1) := by decide +kernel
theorem dX0_writeCommonFactor_15 : decode cX0_writeCommonFactor 15 = .ok (.invokevirtual 61, 3) := by decide +kernel
theorem dX0_writeCommonFactor_18 : decode cX0_writeCommonFactor 18 = .ok (.aload 5, 2) := by decide +kernel
theorem dX0_writeCommonFactor_20 : decode cX0_writeCommonFactor 20 = .ok (.aload_n 2, 1) := by decide +kernel
theorem dX0_writeCommonFactor_21 : decode cX0_writeCommonFactor 21 = .ok (.invokevirtual 61, 3) := by decide +kernel
theorem dX0_writeCommonFactor_24 : decode cX0_writeCommonFactor 24 = .ok (.iconst 0, 1) := by decide +kernel
theorem dX0_writeCommonFactor_25 : decode cX0_writeCommonFactor 25 = .ok (.istore 6, 2) := by decide +kernel
theorem dX0_writeCommonFactor_27 : decode cX0_writeCommonFactor 27 = .ok (.iload 6, 2) := by decide +kernel
theorem dX0_writeCommonFactor_29 : decode cX0_writeCommonFactor 29 = .ok (.sipush 10000, 3) := by decide +kernel
theorem dX0_writeCommonFactor_32 : decode cX0_writeCommonFactor 32 = .ok (.if_icmp .ge 45, 3) := by decide +kernel
theorem dX0_writeCommonFactor_35 : decode cX0_writeCommonFactor 35 = .ok (.aload 5, 2) := by decide +kernel
theorem dX0_writeCommonFactor_37 : decode cX0_writeCommonFactor 37 = .ok (.getfield 65, 3) := by decide +kernel
theorem dX0_writeCommonFactor_40 : decode cX0_writeCommonFactor 40 = .ok (.iconst 2, 1) := by decide +kernel
theorem dX0_writeCommonFactor_41 : decode cX0_writeCommonFactor 41 = .ok (.if_icmp .le 36, 3) := by decide +kernel
theorem dX0_writeCommonFactor_44 : decode cX0_writeCommonFactor 44 = .ok (.aload 4, 2) := by decide +kernel
theorem dX0_writeCommonFactor_46 : decode cX0_writeCommonFactor 46 = .ok (.aload 5, 2) := by decide +kernel
theorem dX0_writeCommonFactor_48 : decode cX0_writeCommonFactor 48 = .ok (.aload_n 0, 1) := by decide +kernel
theorem dX0_writeCommonFactor_49 : decode cX0_writeCommonFactor 49 = .ok (.getfield 21, 3) := by decide +kernel
theorem dX0_writeCommonFactor_52 : decode cX0_writeCommonFactor 52 = .ok (.aload_n 0, 1) := by decide +kernel
theorem dX0_writeCommonFactor_53 : decode cX0_writeCommonFactor 53 = .ok (.getfield 24, 3) := by decide +kernel
theorem dX0_writeCommonFactor_56 : decode cX0_writeCommonFactor 56 = .ok (.invokevirtual 69, 3) := by decide +kernel
theorem dX0_writeCommonFactor_59 : decode cX0_writeCommonFactor 59 = .ok (.aload 4, 2) := by decide +kernel
theorem dX0_writeCommonFactor_61 : decode cX0_writeCommonFactor 61 = .ok (.astore 7, 2) := by decide +kernel
theorem dX0_writeCommonFactor_63 : decode cX0_writeCommonFactor 63 = .ok (.aload 5, 2) := by decide +kernel
theorem dX0_writeCommonFactor_65 : decode cX0_writeCommonFactor 65 = .ok (.astore 4, 2) := by decide +kernel
theorem dX0_writeCommonFactor_67 : decode cX0_writeCommonFactor 67 = .ok (.aload 7, 2) := by decide +kernel
theorem dX0_writeCommonFactor_69 : decode cX0_writeCommonFactor 69 = .ok (.astore 5, 2) := by decide +kernel
theorem dX0_writeCommonFactor_71 : decode cX0_writeCommonFactor 71 = .ok (.iinc 6 1, 3) := by decide +kernel
theorem dX0_writeCommonFactor_74 : decode cX0_writeCommonFactor 74 = .ok (.goto (-47), 3) := by decide +kernel
theorem dX0_writeCommonFactor_77 : decode cX0_writeCommonFactor 77 = .ok (.aload 5, 2) := by decide +kernel
theorem dX0_writeCommonFactor_79 : decode cX0_writeCommonFactor 79 = .ok (.invokevirtual 73, 3) := by decide +kernel
theorem dX0_writeCommonFactor_82 : decode cX0_writeCommonFactor 82 = .ok (.ifCond .eq 10, 3) := by decide +kernel
theorem dX0_writeCommonFactor_85 : decode cX0_writeCommonFactor 85 = .ok (.aload_n 3, 1) := by decide +kernel
theorem dX0_writeCommonFactor_86 : decode cX0_writeCommonFactor 86 = .ok (.aload 4, 2) := by decide +kernel
theorem dX0_writeCommonFactor_88 : decode cX0_writeCommonFactor 88 = .ok (.invokevirtual 77, 3) := by decide +kernel
theorem dX0_writeCommonFactor_91 : decode cX0_writeCommonFactor 91 = .ok (.return_, 1) := by decide +kernel
theorem dX0_writeCommonFactor_92 : decode cX0_writeCommonFactor 92 = .ok (.aload 4, 2) := by decide +kernel
theorem dX0_writeCommonFactor_94 : decode cX0_writeCommonFactor 94 = .ok (.aload 5, 2) := by decide +kernel
theorem dX0_writeCommonFactor_96 : decode cX0_writeCommonFactor 96 = .ok (.aload_n 0, 1) := by decide +kernel
theorem dX0_writeCommonFactor_97 : decode cX0_writeCommonFactor 97 = .ok (.getfield 21, 3) := by decide +kernel
theorem dX0_writeCommonFactor_100 : decode cX0_writeCommonFactor 100 = .ok (.aload_n 0, 1) := by decide +kernel
theorem dX0_writeCommonFactor_101 : decode cX0_writeCommonFactor 101 = .ok (.getfield 24, 3) := by decide +kernel
theorem dX0_writeCommonFactor_104 : decode cX0_writeCommonFactor 104 = .ok (.invokevirtual 69, 3) := by decide +kernel
theorem dX0_writeCommonFactor_107 : decode cX0_writeCommonFactor 107 = .ok (.aload_n 3, 1) := by decide +kernel
theorem dX0_writeCommonFactor_108 : decode cX0_writeCommonFactor 108 = .ok (.aload 5, 2) := by decide +kernel
theorem dX0_writeCommonFactor_110 : decode cX0_writeCommonFactor 110 = .ok (.invokevirtual 80, 3) := by decide +kernel
theorem dX0_writeCommonFactor_113 : decode cX0_writeCommonFactor 113 = .ok (.aload 4, 2) := by decide +kernel
theorem dX0_writeCommonFactor_115 : decode cX0_writeCommonFactor 115 = .ok (.invokevirtual 80, 3) := by decide +kernel
theorem dX0_writeCommonFactor_118 : decode cX0_writeCommonFactor 118 = .ok (.invokestatic 84, 3) := by decide +kernel
theorem dX0_writeCommonFactor_121 : decode cX0_writeCommonFactor 121 = .ok (.invokevirtual 88, 3) := by decide +kernel
theorem dX0_writeCommonFactor_124 : decode cX0_writeCommonFactor 124 = .ok (.return_, 1) := by decide +kernel
theorem dX0_commonFactor_0 : decode cX0_commonFactor 0 = .ok (.lload_n 0, 1) := by decide +kernel
theorem dX0_commonFactor_1 : decode cX0_commonFactor 1 = .ok (.lstore 4, 2) := by decide +kernel
theorem dX0_commonFactor_3 : decode cX0_commonFactor 3 = .ok (.lload_n 2, 1) := by decide +kernel
theorem dX0_commonFactor_4 : decode cX0_commonFactor 4 = .ok (.lstore 6, 2) := by decide +kernel
theorem dX0_commonFactor_6 : decode cX0_commonFactor 6 = .ok (.iconst 0, 1) := by decide +kernel
theorem dX0_commonFactor_7 : decode cX0_commonFactor 7 = .ok (.istore 8, 2) := by decide +kernel
theorem dX0_commonFactor_9 : decode cX0_commonFactor 9 = .ok (.iload 8, 2) := by decide +kernel
theorem dX0_commonFactor_11 : decode cX0_commonFactor 11 = .ok (.sipush 10000, 3) := by decide +kernel
theorem dX0_commonFactor_14 : decode cX0_commonFactor 14 = .ok (.if_icmp .ge 31, 3) := by decide +kernel
theorem dX0_commonFactor_17 : decode cX0_commonFactor 17 = .ok (.lload 6, 2) := by decide +kernel
theorem dX0_commonFactor_19 : decode cX0_commonFactor 19 = .ok (.lconst 0, 1) := by decide +kernel
theorem dX0_commonFactor_20 : decode cX0_commonFactor 20 = .ok (.lcmp, 1) := by decide +kernel
theorem dX0_commonFactor_21 : decode cX0_commonFactor 21 = .ok (.ifCond .eq 24, 3) := by decide +kernel
theorem dX0_commonFactor_24 : decode cX0_commonFactor 24 = .ok (.lload 4, 2) := by decide +kernel
theorem dX0_commonFactor_26 : decode cX0_commonFactor 26 = .ok (.lload 6, 2) := by decide +kernel
theorem dX0_commonFactor_28 : decode cX0_commonFactor 28 = .ok (.lrem, 1) := by decide +kernel
theorem dX0_commonFactor_29 : decode cX0_commonFactor 29 = .ok (.lstore 9, 2) := by decide +kernel
theorem dX0_commonFactor_31 : decode cX0_commonFactor 31 = .ok (.lload 6, 2) := by decide +kernel
theorem dX0_commonFactor_33 : decode cX0_commonFactor 33 = .ok (.lstore 4, 2) := by decide +kernel
theorem dX0_commonFactor_35 : decode cX0_commonFactor 35 = .ok (.lload 9, 2) := by decide +kernel
theorem dX0_commonFactor_37 : decode cX0_commonFactor 37 = .ok (.lstore 6, 2) := by decide +kernel
theorem dX0_commonFactor_39 : decode cX0_commonFactor 39 = .ok (.iinc 8 1, 3) := by decide +kernel
theorem dX0_commonFactor_42 : decode cX0_commonFactor 42 = .ok (.goto (-33), 3) := by decide +kernel
theorem dX0_commonFactor_45 : decode cX0_commonFactor 45 = .ok (.lload 4, 2) := by decide +kernel
theorem dX0_commonFactor_47 : decode cX0_commonFactor 47 = .ok (.lreturn, 1) := by decide +kernel
theorem dX0_divideExactly_0 : decode cX0_divideExactly 0 = .ok (.aload_n 1, 1) := by decide +kernel
theorem dX0_divideExactly_1 : decode cX0_divideExactly 1 = .ok (.getfield 92, 3) := by decide +kernel
theorem dX0_divideExactly_4 : decode cX0_divideExactly 4 = .ok (.aload_n 2, 1) := by decide +kernel
theorem dX0_divideExactly_5 : decode cX0_divideExactly 5 = .ok (.getfield 92, 3) := by decide +kernel
theorem dX0_divideExactly_8 : decode cX0_divideExactly 8 = .ok (.if_icmp .eq 7, 3) := by decide +kernel
theorem dX0_divideExactly_11 : decode cX0_divideExactly 11 = .ok (.iconst 1, 1) := by decide +kernel
theorem dX0_divideExactly_12 : decode cX0_divideExactly 12 = .ok (.goto 4, 3) := by decide +kernel
theorem dX0_divideExactly_15 : decode cX0_divideExactly 15 = .ok (.iconst 0, 1) := by decide +kernel
theorem dX0_divideExactly_16 : decode cX0_divideExactly 16 = .ok (.istore_n 3, 1) := by decide +kernel
theorem dX0_divideExactly_17 : decode cX0_divideExactly 17 = .ok (.aload_n 1, 1) := by decide +kernel
theorem dX0_divideExactly_18 : decode cX0_divideExactly 18 = .ok (.aload_n 2, 1) := by decide +kernel
theorem dX0_divideExactly_19 : decode cX0_divideExactly 19 = .ok (.aload_n 0, 1) := by decide +kernel
theorem dX0_divideExactly_20 : decode cX0_divideExactly 20 = .ok (.getfield 21, 3) := by decide +kernel
theorem dX0_divideExactly_23 : decode cX0_divideExactly 23 = .ok (.aload_n 0, 1) := by decide +kernel
theorem dX0_divideExactly_24 : decode cX0_divideExactly 24 = .ok (.getfield 24, 3) := by decide +kernel
theorem dX0_divideExactly_27 : decode cX0_divideExactly 27 = .ok (.invokevirtual 69, 3) := by decide +kernel
theorem dX0_divideExactly_30 : decode cX0_divideExactly 30 = .ok (.aload_n 1, 1) := by decide +kernel
theorem dX0_divideExactly_31 : decode cX0_divideExactly 31 = .ok (.aload_n 0, 1) := by decide +kernel
theorem dX0_divideExactly_32 : decode cX0_divideExactly 32 = .ok (.getfield 24, 3) := by decide +kernel
theorem dX0_divideExactly_35 : decode cX0_divideExactly 35 = .ok (.invokevirtual 77, 3) := by decide +kernel
theorem dX0_divideExactly_38 : decode cX0_divideExactly 38 = .ok (.iload_n 3, 1) := by decide +kernel
theorem dX0_divideExactly_39 : decode cX0_divideExactly 39 = .ok (.ifCond .eq 7, 3) := by decide +kernel
theorem dX0_divideExactly_42 : decode cX0_divideExactly 42 = .ok (.aload_n 1, 1) := by decide +kernel
theorem dX0_divideExactly_43 : decode cX0_divideExactly 43 = .ok (.invokevirtual 96, 3) := by decide +kernel
theorem dX0_divideExactly_46 : decode cX0_divideExactly 46 = .ok (.return_, 1) := by decide +kernel
theorem dX0_makePrimitive_0 : decode cX0_makePrimitive 0 = .ok (.aload_n 1, 1) := by decide +kernel
theorem dX0_makePrimitive_1 : decode cX0_makePrimitive 1 = .ok (.getfield 99, 3) := by decide +kernel
theorem dX0_makePrimitive_4 : decode cX0_makePrimitive 4 = .ok (.istore_n 2, 1) := by decide +kernel
theorem dX0_makePrimitive_5 : decode cX0_makePrimitive 5 = .ok (.iload_n 2, 1) := by decide +kernel
theorem dX0_makePrimitive_6 : decode cX0_makePrimitive 6 = .ok (.ifCond .ge 4, 3) := by decide +kernel
theorem dX0_makePrimitive_9 : decode cX0_makePrimitive 9 = .ok (.return_, 1) := by decide +kernel
theorem dX0_makePrimitive_10 : decode cX0_makePrimitive 10 = .ok (.aload_n 0, 1) := by decide +kernel
theorem dX0_makePrimitive_11 : decode cX0_makePrimitive 11 = .ok (.getfield 27, 3) := by decide +kernel
theorem dX0_makePrimitive_14 : decode cX0_makePrimitive 14 = .ok (.aload_n 1, 1) := by decide +kernel
theorem dX0_makePrimitive_15 : decode cX0_makePrimitive 15 = .ok (.getfield 102, 3) := by decide +kernel
theorem dX0_makePrimitive_18 : decode cX0_makePrimitive 18 = .ok (.iload_n 2, 1) := by decide +kernel
theorem dX0_makePrimitive_19 : decode cX0_makePrimitive 19 = .ok (.aaload, 1) := by decide +kernel
theorem dX0_makePrimitive_20 : decode cX0_makePrimitive 20 = .ok (.invokevirtual 61, 3) := by decide +kernel
theorem dX0_makePrimitive_23 : decode cX0_makePrimitive 23 = .ok (.iload_n 2, 1) := by decide +kernel
theorem dX0_makePrimitive_24 : decode cX0_makePrimitive 24 = .ok (.iconst 1, 1) := by decide +kernel
theorem dX0_makePrimitive_25 : decode cX0_makePrimitive 25 = .ok (.isub, 1) := by decide +kernel
theorem dX0_makePrimitive_26 : decode cX0_makePrimitive 26 = .ok (.istore_n 3, 1) := by decide +kernel
theorem dX0_makePrimitive_27 : decode cX0_makePrimitive 27 = .ok (.iload_n 3, 1) := by decide +kernel
theorem dX0_makePrimitive_28 : decode cX0_makePrimitive 28 = .ok (.ifCond .lt 49, 3) := by decide +kernel
theorem dX0_makePrimitive_31 : decode cX0_makePrimitive 31 = .ok (.aload_n 0, 1) := by decide +kernel
theorem dX0_makePrimitive_32 : decode cX0_makePrimitive 32 = .ok (.getfield 27, 3) := by decide +kernel
theorem dX0_makePrimitive_35 : decode cX0_makePrimitive 35 = .ok (.invokevirtual 106, 3) := by decide +kernel
theorem dX0_makePrimitive_38 : decode cX0_makePrimitive 38 = .ok (.ifCond .ne 39, 3) := by decide +kernel
theorem dX0_makePrimitive_41 : decode cX0_makePrimitive 41 = .ok (.aload_n 1, 1) := by decide +kernel
theorem dX0_makePrimitive_42 : decode cX0_makePrimitive 42 = .ok (.getfield 102, 3) := by decide +kernel
theorem dX0_makePrimitive_45 : decode cX0_makePrimitive 45 = .ok (.iload_n 3, 1) := by decide +kernel
theorem dX0_makePrimitive_46 : decode cX0_makePrimitive 46 = .ok (.aaload, 1) := by decide +kernel
theorem dX0_makePrimitive_47 : decode cX0_makePrimitive 47 = .ok (.invokevirtual 73, 3) := by decide +kernel
theorem dX0_makePrimitive_50 : decode cX0_makePrimitive 50 = .ok (.ifCond .ne 21, 3) := by decide +kernel
theorem dX0_makePrimitive_53 : decode cX0_makePrimitive 53 = .ok (.aload_n 0, 1) := by decide +kernel
theorem dX0_makePrimitive_54 : decode cX0_makePrimitive 54 = .ok (.aload_n 0, 1) := by decide +kernel
theorem dX0_makePrimitive_55 : decode cX0_makePrimitive 55 = .ok (.getfield 27, 3) := by decide +kernel
theorem dX0_makePrimitive_58 : decode cX0_makePrimitive 58 = .ok (.aload_n 1, 1) := by decide +kernel
theorem dX0_makePrimitive_59 : decode cX0_makePrimitive 59 = .ok (.getfield 102, 3) := by decide +kernel
theorem dX0_makePrimitive_62 : decode cX0_makePrimitive 62 = .ok (.iload_n 3, 1) := by decide +kernel
theorem dX0_makePrimitive_63 : decode cX0_makePrimitive 63 = .ok (.aaload, 1) := by decide +kernel
theorem dX0_makePrimitive_64 : decode cX0_makePrimitive 64 = .ok (.aload_n 0, 1) := by decide +kernel
theorem dX0_makePrimitive_65 : decode cX0_makePrimitive 65 = .ok (.getfield 27, 3) := by decide +kernel
theorem dX0_makePrimitive_68 : decode cX0_makePrimitive 68 = .ok (.invokevirtual 109, 3) := by decide +kernel
theorem dX0_makePrimitive_71 : decode cX0_makePrimitive 71 = .ok (.iinc 3 (-1), 3) := by decide +kernel
theorem dX0_makePrimitive_74 : decode cX0_makePrimitive 74 = .ok (.goto (-47), 3) := by decide +kernel
theorem dX0_makePrimitive_77 : decode cX0_makePrimitive 77 = .ok (.aload_n 0, 1) := by decide +kernel
theorem dX0_makePrimitive_78 : decode cX0_makePrimitive 78 = .ok (.getfield 27, 3) := by decide +kernel
theorem dX0_makePrimitive_81 : decode cX0_makePrimitive 81 = .ok (.invokevirtual 106, 3) := by decide +kernel
theorem dX0_makePrimitive_84 : decode cX0_makePrimitive 84 = .ok (.ifCond .eq 4, 3) := by decide +kernel
theorem dX0_makePrimitive_87 : decode cX0_makePrimitive 87 = .ok (.return_, 1) := by decide +kernel
theorem dX0_makePrimitive_88 : decode cX0_makePrimitive 88 = .ok (.iconst 0, 1) := by decide +kernel
theorem dX0_makePrimitive_89 : decode cX0_makePrimitive 89 = .ok (.istore_n 3, 1) := by decide +kernel
theorem dX0_makePrimitive_90 : decode cX0_makePrimitive 90 = .ok (.iload_n 3, 1) := by decide +kernel
theorem dX0_makePrimitive_91 : decode cX0_makePrimitive 91 = .ok (.iload_n 2, 1) := by decide +kernel
theorem dX0_makePrimitive_92 : decode cX0_makePrimitive 92 = .ok (.if_icmp .gt 23, 3) := by decide +kernel
theorem dX0_makePrimitive_95 : decode cX0_makePrimitive 95 = .ok (.aload_n 0, 1) := by decide +kernel
theorem dX0_makePrimitive_96 : decode cX0_makePrimitive 96 = .ok (.aload_n 1, 1) := by decide +kernel
theorem dX0_makePrimitive_97 : decode cX0_makePrimitive 97 = .ok (.getfield 102, 3) := by decide +kernel
theorem dX0_makePrimitive_100 : decode cX0_makePrimitive 100 = .ok (.iload_n 3, 1) := by decide +kernel
theorem dX0_makePrimitive_101 : decode cX0_makePrimitive 101 = .ok (.aaload, 1) := by decide +kernel
theorem dX0_makePrimitive_102 : decode cX0_makePrimitive 102 = .ok (.aload_n 0, 1) := by decide +kernel
theorem dX0_makePrimitive_103 : decode cX0_makePrimitive 103 = .ok (.getfield 27, 3) := by decide +kernel
theorem dX0_makePrimitive_106 : decode cX0_makePrimitive 106 = .ok (.invokevirtual 112, 3) := by decide +kernel
theorem dX0_makePrimitive_109 : decode cX0_makePrimitive 109 = .ok (.iinc 3 1, 3) := by decide +kernel
theorem dX0_makePrimitive_112 : decode cX0_makePrimitive 112 = .ok (.goto (-22), 3) := by decide +kernel
theorem dX0_makePrimitive_115 : decode cX0_makePrimitive 115 = .ok (.return_, 1) := by decide +kernel
theorem dX0_reduce_0 : decode cX0_reduce 0 = .ok (.aload_n 2, 1) := by decide +kernel
theorem dX0_reduce_1 : decode cX0_reduce 1 = .ok (.getfield 99, 3) := by decide +kernel
theorem dX0_reduce_4 : decode cX0_reduce 4 = .ok (.istore_n 3, 1) := by decide +kernel
theorem dX0_reduce_5 : decode cX0_reduce 5 = .ok (.iload_n 3, 1) := by decide +kernel
theorem dX0_reduce_6 : decode cX0_reduce 6 = .ok (.ifCond .ge 4, 3) := by decide +kernel
theorem dX0_reduce_9 : decode cX0_reduce 9 = .ok (.return_, 1) := by decide +kernel
theorem dX0_reduce_10 : decode cX0_reduce 10 = .ok (.aload_n 0, 1) := by decide +kernel
theorem dX0_reduce_11 : decode cX0_reduce 11 = .ok (.getfield 30, 3) := by decide +kernel
theorem dX0_reduce_14 : decode cX0_reduce 14 = .ok (.aload_n 2, 1) := by decide +kernel
theorem dX0_reduce_15 : decode cX0_reduce 15 = .ok (.getfield 102, 3) := by decide +kernel
theorem dX0_reduce_18 : decode cX0_reduce 18 = .ok (.iload_n 3, 1) := by decide +kernel
theorem dX0_reduce_19 : decode cX0_reduce 19 = .ok (.aaload, 1) := by decide +kernel
theorem dX0_reduce_20 : decode cX0_reduce 20 = .ok (.invokevirtual 61, 3) := by decide +kernel
theorem dX0_reduce_23 : decode cX0_reduce 23 = .ok (.aload_n 2, 1) := by decide +kernel
theorem dX0_reduce_24 : decode cX0_reduce 24 = .ok (.getfield 102, 3) := by decide +kernel
theorem dX0_reduce_27 : decode cX0_reduce 27 = .ok (.iload_n 3, 1) := by decide +kernel
theorem dX0_reduce_28 : decode cX0_reduce 28 = .ok (.aaload, 1) := by decide +kernel
theorem dX0_reduce_29 : decode cX0_reduce 29 = .ok (.getfield 92, 3) := by decide +kernel
theorem dX0_reduce_32 : decode cX0_reduce 32 = .ok (.istore 4, 2) := by decide +kernel
theorem dX0_reduce_34 : decode cX0_reduce 34 = .ok (.aload_n 1, 1) := by decide +kernel
theorem dX0_reduce_35 : decode cX0_reduce 35 = .ok (.getfield 99, 3) := by decide +kernel
theorem dX0_reduce_38 : decode cX0_reduce 38 = .ok (.istore 5, 2) := by decide +kernel
theorem dX0_reduce_40 : decode cX0_reduce 40 = .ok (.iload 5, 2) := by decide +kernel
theorem dX0_reduce_42 : decode cX0_reduce 42 = .ok (.iload_n 3, 1) := by decide +kernel
theorem dX0_reduce_43 : decode cX0_reduce 43 = .ok (.if_icmp .lt 110, 3) := by decide +kernel
theorem dX0_reduce_46 : decode cX0_reduce 46 = .ok (.aload_n 0, 1) := by decide +kernel
theorem dX0_reduce_47 : decode cX0_reduce 47 = .ok (.getfield 33, 3) := by decide +kernel
theorem dX0_reduce_50 : decode cX0_reduce 50 = .ok (.aload_n 1, 1) := by decide +kernel
theorem dX0_reduce_51 : decode cX0_reduce 51 = .ok (.getfield 102, 3) := by decide +kernel
theorem dX0_reduce_54 : decode cX0_reduce 54 = .ok (.iload 5, 2) := by decide +kernel
theorem dX0_reduce_56 : decode cX0_reduce 56 = .ok (.aaload, 1) := by decide +kernel
theorem dX0_reduce_57 : decode cX0_reduce 57 = .ok (.invokevirtual 77, 3) := by decide +kernel
theorem dX0_reduce_60 : decode cX0_reduce 60 = .ok (.aload_n 0, 1) := by decide +kernel
theorem dX0_reduce_61 : decode cX0_reduce 61 = .ok (.getfield 33, 3) := by decide +kernel
theorem dX0_reduce_64 : decode cX0_reduce 64 = .ok (.invokevirtual 73, 3) := by decide +kernel
theorem dX0_reduce_67 : decode cX0_reduce 67 = .ok (.ifCond .eq 6, 3) := by decide +kernel
theorem dX0_reduce_70 : decode cX0_reduce 70 = .ok (.goto 77, 3) := by decide +kernel
theorem dX0_reduce_73 : decode cX0_reduce 73 = .ok (.iload 4, 2) := by decide +kernel
theorem dX0_reduce_75 : decode cX0_reduce 75 = .ok (.ifCond .ne 10, 3) := by decide +kernel
theorem dX0_reduce_78 : decode cX0_reduce 78 = .ok (.aload_n 0, 1) := by decide +kernel
theorem dX0_reduce_79 : decode cX0_reduce 79 = .ok (.getfield 33, 3) := by decide +kernel
theorem dX0_reduce_82 : decode cX0_reduce 82 = .ok (.invokevirtual 96, 3) := by decide +kernel
theorem dX0_reduce_85 : decode cX0_reduce 85 = .ok (.aload_n 1, 1) := by decide +kernel
theorem dX0_reduce_86 : decode cX0_reduce 86 = .ok (.getfield 102, 3) := by decide +kernel
theorem dX0_reduce_89 : decode cX0_reduce 89 = .ok (.iload 5, 2) := by decide +kernel
theorem dX0_reduce_91 : decode cX0_reduce 91 = .ok (.aaload, 1) := by decide +kernel
theorem dX0_reduce_92 : decode cX0_reduce 92 = .ok (.invokevirtual 116, 3) := by decide +kernel
theorem dX0_reduce_95 : decode cX0_reduce 95 = .ok (.iconst 0, 1) := by decide +kernel
theorem dX0_reduce_96 : decode cX0_reduce 96 = .ok (.istore 6, 2) := by decide +kernel
theorem dX0_reduce_98 : decode cX0_reduce 98 = .ok (.iload 6, 2) := by decide +kernel
theorem dX0_reduce_100 : decode cX0_reduce 100 = .ok (.iload 5, 2) := by decide +kernel
theorem dX0_reduce_102 : decode cX0_reduce 102 = .ok (.if_icmp .ge 45, 3) := by decide +kernel
theorem dX0_reduce_105 : decode cX0_reduce 105 = .ok (.iload 6, 2) := by decide +kernel
theorem dX0_reduce_107 : decode cX0_reduce 107 = .ok (.iload 5, 2) := by decide +kernel
theorem dX0_reduce_109 : decode cX0_reduce 109 = .ok (.iload_n 3, 1) := by decide +kernel
theorem dX0_reduce_110 : decode cX0_reduce 110 = .ok (.isub, 1) := by decide +kernel
theorem dX0_reduce_111 : decode cX0_reduce 111 = .ok (.isub, 1) := by decide +kernel
theorem dX0_reduce_112 : decode cX0_reduce 112 = .ok (.istore 7, 2) := by decide +kernel
theorem dX0_reduce_114 : decode cX0_reduce 114 = .ok (.aload_n 0, 1) := by decide +kernel
theorem dX0_reduce_115 : decode cX0_reduce 115 = .ok (.aload_n 1, 1) := by decide +kernel
theorem dX0_reduce_116 : decode cX0_reduce 116 = .ok (.getfield 102, 3) := by decide +kernel
theorem dX0_reduce_119 : decode cX0_reduce 119 = .ok (.iload 6, 2) := by decide +kernel
theorem dX0_reduce_121 : decode cX0_reduce 121 = .ok (.aaload, 1) := by decide +kernel
theorem dX0_reduce_122 : decode cX0_reduce 122 = .ok (.iload 7, 2) := by decide +kernel
theorem dX0_reduce_124 : decode cX0_reduce 124 = .ok (.ifCond .ge 7, 3) := by decide +kernel
theorem dX0_reduce_127 : decode cX0_reduce 127 = .ok (.aconst_null, 1) := by decide +kernel
theorem dX0_reduce_128 : decode cX0_reduce 128 = .ok (.goto 10, 3) := by decide +kernel
theorem dX0_reduce_131 : decode cX0_reduce 131 = .ok (.aload_n 2, 1) := by decide +kernel
theorem dX0_reduce_132 : decode cX0_reduce 132 = .ok (.getfield 102, 3) := by decide +kernel
theorem dX0_reduce_135 : decode cX0_reduce 135 = .ok (.iload 7, 2) := by decide +kernel
theorem dX0_reduce_137 : decode cX0_reduce 137 = .ok (.aaload, 1) := by decide +kernel
theorem dX0_reduce_138 : decode cX0_reduce 138 = .ok (.invokevirtual 119, 3) := by decide +kernel
theorem dX0_reduce_141 : decode cX0_reduce 141 = .ok (.iinc 6 1, 3) := by decide +kernel
theorem dX0_reduce_144 : decode cX0_reduce 144 = .ok (.goto (-46), 3) := by decide +kernel
theorem dX0_reduce_147 : decode cX0_reduce 147 = .ok (.iinc 5 (-1), 3) := by decide +kernel
theorem dX0_reduce_150 : decode cX0_reduce 150 = .ok (.goto (-110), 3) := by decide +kernel
theorem dX0_reduce_153 : decode cX0_reduce 153 = .ok (.aload_n 1, 1) := by decide +kernel
theorem dX0_reduce_154 : decode cX0_reduce 154 = .ok (.invokevirtual 122, 3) := by decide +kernel
theorem dX0_reduce_157 : decode cX0_reduce 157 = .ok (.return_, 1) := by decide +kernel
theorem dX0_combine_0 : decode cX0_combine 0 = .ok (.aload_n 0, 1) := by decide +kernel
theorem dX0_combine_1 : decode cX0_combine 1 = .ok (.getfield 36, 3) := by decide +kernel
theorem dX0_combine_4 : decode cX0_combine 4 = .ok (.aload_n 1, 1) := by decide +kernel
theorem dX0_combine_5 : decode cX0_combine 5 = .ok (.aload_n 0, 1) := by decide +kernel
theorem dX0_combine_6 : decode cX0_combine 6 = .ok (.getfield 30, 3) := by decide +kernel
theorem dX0_combine_9 : decode cX0_combine 9 = .ok (.invokevirtual 125, 3) := by decide +kernel
theorem dX0_combine_12 : decode cX0_combine 12 = .ok (.aload_n 1, 1) := by decide +kernel
theorem dX0_combine_13 : decode cX0_combine 13 = .ok (.aload_n 0, 1) := by decide +kernel
theorem dX0_combine_14 : decode cX0_combine 14 = .ok (.getfield 36, 3) := by decide +kernel
theorem dX0_combine_17 : decode cX0_combine 17 = .ok (.invokevirtual 77, 3) := by decide +kernel
theorem dX0_combine_20 : decode cX0_combine 20 = .ok (.aload_n 2, 1) := by decide +kernel
theorem dX0_combine_21 : decode cX0_combine 21 = .ok (.ifnull 23, 3) := by decide +kernel
theorem dX0_combine_24 : decode cX0_combine 24 = .ok (.aload_n 0, 1) := by decide +kernel
theorem dX0_combine_25 : decode cX0_combine 25 = .ok (.getfield 36, 3) := by decide +kernel
theorem dX0_combine_28 : decode cX0_combine 28 = .ok (.aload_n 0, 1) := by decide +kernel
theorem dX0_combine_29 : decode cX0_combine 29 = .ok (.getfield 33, 3) := by decide +kernel
theorem dX0_combine_32 : decode cX0_combine 32 = .ok (.aload_n 2, 1) := by decide +kernel
theorem dX0_combine_33 : decode cX0_combine 33 = .ok (.invokevirtual 125, 3) := by decide +kernel
theorem dX0_combine_36 : decode cX0_combine 36 = .ok (.aload_n 1, 1) := by decide +kernel
theorem dX0_combine_37 : decode cX0_combine 37 = .ok (.aload_n 0, 1) := by decide +kernel
theorem dX0_combine_38 : decode cX0_combine 38 = .ok (.getfield 36, 3) := by decide +kernel
theorem dX0_combine_41 : decode cX0_combine 41 = .ok (.invokevirtual 128, 3) := by decide +kernel
theorem dX0_combine_44 : decode cX0_combine 44 = .ok (.return_, 1) := by decide +kernel
theorem dX0_writeCommonDivisor_0 : decode cX0_writeCommonDivisor 0 = .ok (.aload_n 0, 1) := by decide +kernel
theorem dX0_writeCommonDivisor_1 : decode cX0_writeCommonDivisor 1 = .ok (.getfield 48, 3) := by decide +kernel
theorem dX0_writeCommonDivisor_4 : decode cX0_writeCommonDivisor 4 = .ok (.astore 4, 2) := by decide +kernel
theorem dX0_writeCommonDivisor_6 : decode cX0_writeCommonDivisor 6 = .ok (.aload_n 0, 1) := by decide +kernel
theorem dX0_writeCommonDivisor_7 : decode cX0_writeCommonDivisor 7 = .ok (.getfield 52, 3) := by decide +kernel
theorem dX0_writeCommonDivisor_10 : decode cX0_writeCommonDivisor 10 = .ok (.astore 5, 2) := by decide +kernel
theorem dX0_writeCommonDivisor_12 : decode cX0_writeCommonDivisor 12 = .ok (.aload 4, 2) := by decide +kernel
theorem dX0_writeCommonDivisor_14 : decode cX0_writeCommonDivisor 14 = .ok (.aload_n 1, 1) := by decide +kernel
theorem dX0_writeCommonDivisor_15 : decode cX0_writeCommonDivisor 15 = .ok (.invokevirtual 131, 3) := by decide +kernel
theorem dX0_writeCommonDivisor_18 : decode cX0_writeCommonDivisor 18 = .ok (.aload 5, 2) := by decide +kernel
theorem dX0_writeCommonDivisor_20 : decode cX0_writeCommonDivisor 20 = .ok (.aload_n 2, 1) := by decide +kernel
theorem dX0_writeCommonDivisor_21 : decode cX0_writeCommonDivisor 21 = .ok (.invokevirtual 131, 3) := by decide +kernel
theorem dX0_writeCommonDivisor_24 : decode cX0_writeCommonDivisor 24 = .ok (.aload_n 0, 1) := by decide +kernel
theorem dX0_writeCommonDivisor_25 : decode cX0_writeCommonDivisor 25 = .ok (.aload 4, 2) := by decide +kernel
theorem dX0_writeCommonDivisor_27 : decode cX0_writeCommonDivisor 27 = .ok (.invokevirtual 134, 3) := by decide +kernel
theorem dX0_writeCommonDivisor_30 : decode cX0_writeCommonDivisor 30 = .ok (.aload_n 0, 1) := by decide +kernel
theorem dX0_writeCommonDivisor_31 : decode cX0_writeCommonDivisor 31 = .ok (.aload 5, 2) := by decide +kernel
theorem dX0_writeCommonDivisor_33 : decode cX0_writeCommonDivisor 33 = .ok (.invokevirtual 134, 3) := by decide +kernel
theorem dX0_writeCommonDivisor_36 : decode cX0_writeCommonDivisor 36 = .ok (.iconst 0, 1) := by decide +kernel
theorem dX0_writeCommonDivisor_37 : decode cX0_writeCommonDivisor 37 = .ok (.istore 6, 2) := by decide +kernel
theorem dX0_writeCommonDivisor_39 : decode cX0_writeCommonDivisor 39 = .ok (.iload 6, 2) := by decide +kernel
theorem dX0_writeCommonDivisor_41 : decode cX0_writeCommonDivisor 41 = .ok (.sipush 10000, 3) := by decide +kernel
theorem dX0_writeCommonDivisor_44 : decode cX0_writeCommonDivisor 44 = .ok (.if_icmp .ge 43, 3) := by decide +kernel
theorem dX0_writeCommonDivisor_47 : decode cX0_writeCommonDivisor 47 = .ok (.aload 5, 2) := by decide +kernel
theorem dX0_writeCommonDivisor_49 : decode cX0_writeCommonDivisor 49 = .ok (.getfield 99, 3) := by decide +kernel
theorem dX0_writeCommonDivisor_52 : decode cX0_writeCommonDivisor 52 = .ok (.ifCond .lt 35, 3) := by decide +kernel
theorem dX0_writeCommonDivisor_55 : decode cX0_writeCommonDivisor 55 = .ok (.aload_n 0, 1) := by decide +kernel
theorem dX0_writeCommonDivisor_56 : decode cX0_writeCommonDivisor 56 = .ok (.aload 4, 2) := by decide +kernel
theorem dX0_writeCommonDivisor_58 : decode cX0_writeCommonDivisor 58 = .ok (.aload 5, 2) := by decide +kernel
theorem dX0_writeCommonDivisor_60 : decode cX0_writeCommonDivisor 60 = .ok (.invokevirtual 137, 3) := by decide +kernel
theorem dX0_writeCommonDivisor_63 : decode cX0_writeCommonDivisor 63 = .ok (.aload_n 0, 1) := by decide +kernel
theorem dX0_writeCommonDivisor_64 : decode cX0_writeCommonDivisor 64 = .ok (.aload 4, 2) := by decide +kernel
theorem dX0_writeCommonDivisor_66 : decode cX0_writeCommonDivisor 66 = .ok (.invokevirtual 134, 3) := by decide +kernel
theorem dX0_writeCommonDivisor_69 : decode cX0_writeCommonDivisor 69 = .ok (.aload 4, 2) := by decide +kernel
theorem dX0_writeCommonDivisor_71 : decode cX0_writeCommonDivisor 71 = .ok (.astore 7, 2) := by decide +kernel
theorem dX0_writeCommonDivisor_73 : decode cX0_writeCommonDivisor 73 = .ok (.aload 5, 2) := by decide +kernel
theorem dX0_writeCommonDivisor_75 : decode cX0_writeCommonDivisor 75 = .ok (.astore 4, 2) := by decide +kernel
theorem dX0_writeCommonDivisor_77 : decode cX0_writeCommonDivisor 77 = .ok (.aload 7, 2) := by decide +kernel
theorem dX0_writeCommonDivisor_79 : decode cX0_writeCommonDivisor 79 = .ok (.astore 5, 2) := by decide +kernel
theorem dX0_writeCommonDivisor_81 : decode cX0_writeCommonDivisor 81 = .ok (.iinc 6 1, 3) := by decide +kernel
theorem dX0_writeCommonDivisor_84 : decode cX0_writeCommonDivisor 84 = .ok (.goto (-45), 3) := by decide +kernel
theorem dX0_writeCommonDivisor_87 : decode cX0_writeCommonDivisor 87 = .ok (.aload_n 3, 1) := by decide +kernel
theorem dX0_writeCommonDivisor_88 : decode cX0_writeCommonDivisor 88 = .ok (.aload 4, 2) := by decide +kernel
theorem dX0_writeCommonDivisor_90 : decode cX0_writeCommonDivisor 90 = .ok (.invokevirtual 131, 3) := by decide +kernel
theorem dX0_writeCommonDivisor_93 : decode cX0_writeCommonDivisor 93 = .ok (.aload_n 3, 1) := by decide +kernel
theorem dX0_writeCommonDivisor_94 : decode cX0_writeCommonDivisor 94 = .ok (.invokevirtual 141, 3) := by decide +kernel
theorem dX0_writeCommonDivisor_97 : decode cX0_writeCommonDivisor 97 = .ok (.return_, 1) := by decide +kernel
theorem dX0_writeRepeated_0 : decode cX0_writeRepeated 0 = .ok (.aload_n 0, 1) := by decide +kernel
theorem dX0_writeRepeated_1 : decode cX0_writeRepeated 1 = .ok (.getfield 55, 3) := by decide +kernel
theorem dX0_writeRepeated_4 : decode cX0_writeRepeated 4 = .ok (.aload_n 1, 1) := by decide +kernel
theorem dX0_writeRepeated_5 : decode cX0_writeRepeated 5 = .ok (.invokevirtual 144, 3) := by decide +kernel
theorem dX0_writeRepeated_8 : decode cX0_writeRepeated 8 = .ok (.aload_n 0, 1) := by decide +kernel
theorem dX0_writeRepeated_9 : decode cX0_writeRepeated 9 = .ok (.aload_n 1, 1) := by decide +kernel
theorem dX0_writeRepeated_10 : decode cX0_writeRepeated 10 = .ok (.aload_n 0, 1) := by decide +kernel
theorem dX0_writeRepeated_11 : decode cX0_writeRepeated 11 = .ok (.getfield 55, 3) := by decide +kernel
theorem dX0_writeRepeated_14 : decode cX0_writeRepeated 14 = .ok (.aload_n 2, 1) := by decide +kernel
theorem dX0_writeRepeated_15 : decode cX0_writeRepeated 15 = .ok (.invokevirtual 147, 3) := by decide +kernel
theorem dX0_writeRepeated_18 : decode cX0_writeRepeated 18 = .ok (.return_, 1) := by decide +kernel
theorem dX0_writeQuotient_0 : decode cX0_writeQuotient 0 = .ok (.aload_n 2, 1) := by decide +kernel
theorem dX0_writeQuotient_1 : decode cX0_writeQuotient 1 = .ok (.getfield 99, 3) := by decide +kernel
theorem dX0_writeQuotient_4 : decode cX0_writeQuotient 4 = .ok (.istore 4, 2) := by decide +kernel
theorem dX0_writeQuotient_6 : decode cX0_writeQuotient 6 = .ok (.aload_n 3, 1) := by decide +kernel
theorem dX0_writeQuotient_7 : decode cX0_writeQuotient 7 = .ok (.invokevirtual 151, 3) := by decide +kernel
theorem dX0_writeQuotient_10 : decode cX0_writeQuotient 10 = .ok (.iload 4, 2) := by decide +kernel
theorem dX0_writeQuotient_12 : decode cX0_writeQuotient 12 = .ok (.ifCond .ge 4, 3) := by decide +kernel
theorem dX0_writeQuotient_15 : decode cX0_writeQuotient 15 = .ok (.return_, 1) := by decide +kernel
theorem dX0_writeQuotient_16 : decode cX0_writeQuotient 16 = .ok (.aload_n 0, 1) := by decide +kernel
theorem dX0_writeQuotient_17 : decode cX0_writeQuotient 17 = .ok (.getfield 48, 3) := by decide +kernel
theorem dX0_writeQuotient_20 : decode cX0_writeQuotient 20 = .ok (.aload_n 1, 1) := by decide +kernel
theorem dX0_writeQuotient_21 : decode cX0_writeQuotient 21 = .ok (.invokevirtual 131, 3) := by decide +kernel
theorem dX0_writeQuotient_24 : decode cX0_writeQuotient 24 = .ok (.aload_n 1, 1) := by decide +kernel
theorem dX0_writeQuotient_25 : decode cX0_writeQuotient 25 = .ok (.getfield 99, 3) := by decide +kernel
theorem dX0_writeQuotient_28 : decode cX0_writeQuotient 28 = .ok (.iload 4, 2) := by decide +kernel
theorem dX0_writeQuotient_30 : decode cX0_writeQuotient 30 = .ok (.isub, 1) := by decide +kernel
theorem dX0_writeQuotient_31 : decode cX0_writeQuotient 31 = .ok (.istore 5, 2) := by decide +kernel
theorem dX0_writeQuotient_33 : decode cX0_writeQuotient 33 = .ok (.iload 5, 2) := by decide +kernel
theorem dX0_writeQuotient_35 : decode cX0_writeQuotient 35 = .ok (.ifCond .lt 108, 3) := by decide +kernel
theorem dX0_writeQuotient_38 : decode cX0_writeQuotient 38 = .ok (.aload_n 3, 1) := by decide +kernel
theorem dX0_writeQuotient_39 : decode cX0_writeQuotient 39 = .ok (.getfield 102, 3) := by decide +kernel
theorem dX0_writeQuotient_42 : decode cX0_writeQuotient 42 = .ok (.iload 5, 2) := by decide +kernel
theorem dX0_writeQuotient_44 : decode cX0_writeQuotient 44 = .ok (.aaload, 1) := by decide +kernel
theorem dX0_writeQuotient_45 : decode cX0_writeQuotient 45 = .ok (.astore 6, 2) := by decide +kernel
theorem dX0_writeQuotient_47 : decode cX0_writeQuotient 47 = .ok (.aload 6, 2) := by decide +kernel
theorem dX0_writeQuotient_49 : decode cX0_writeQuotient 49 = .ok (.aload_n 0, 1) := by decide +kernel
theorem dX0_writeQuotient_50 : decode cX0_writeQuotient 50 = .ok (.getfield 48, 3) := by decide +kernel
theorem dX0_writeQuotient_53 : decode cX0_writeQuotient 53 = .ok (.getfield 102, 3) := by decide +kernel
theorem dX0_writeQuotient_56 : decode cX0_writeQuotient 56 = .ok (.iload 5, 2) := by decide +kernel
theorem dX0_writeQuotient_58 : decode cX0_writeQuotient 58 = .ok (.iload 4, 2) := by decide +kernel
theorem dX0_writeQuotient_60 : decode cX0_writeQuotient 60 = .ok (.iadd, 1) := by decide +kernel
theorem dX0_writeQuotient_61 : decode cX0_writeQuotient 61 = .ok (.aaload, 1) := by decide +kernel
theorem dX0_writeQuotient_62 : decode cX0_writeQuotient 62 = .ok (.invokevirtual 77, 3) := by decide +kernel
theorem dX0_writeQuotient_65 : decode cX0_writeQuotient 65 = .ok (.aload_n 0, 1) := by decide +kernel
theorem dX0_writeQuotient_66 : decode cX0_writeQuotient 66 = .ok (.aload 6, 2) := by decide +kernel
theorem dX0_writeQuotient_68 : decode cX0_writeQuotient 68 = .ok (.aload_n 2, 1) := by decide +kernel
theorem dX0_writeQuotient_69 : decode cX0_writeQuotient 69 = .ok (.getfield 102, 3) := by decide +kernel
theorem dX0_writeQuotient_72 : decode cX0_writeQuotient 72 = .ok (.iload 4, 2) := by decide +kernel
theorem dX0_writeQuotient_74 : decode cX0_writeQuotient 74 = .ok (.aaload, 1) := by decide +kernel
theorem dX0_writeQuotient_75 : decode cX0_writeQuotient 75 = .ok (.invokevirtual 112, 3) := by decide +kernel
theorem dX0_writeQuotient_78 : decode cX0_writeQuotient 78 = .ok (.iconst 0, 1) := by decide +kernel
theorem dX0_writeQuotient_79 : decode cX0_writeQuotient 79 = .ok (.istore 7, 2) := by decide +kernel
theorem dX0_writeQuotient_81 : decode cX0_writeQuotient 81 = .ok (.iload 7, 2) := by decide +kernel
theorem dX0_writeQuotient_83 : decode cX0_writeQuotient 83 = .ok (.iload 4, 2) := by decide +kernel
theorem dX0_writeQuotient_85 : decode cX0_writeQuotient 85 = .ok (.if_icmp .gt 52, 3) := by decide +kernel
theorem dX0_writeQuotient_88 : decode cX0_writeQuotient 88 = .ok (.aload_n 0, 1) := by decide +kernel
theorem dX0_writeQuotient_89 : decode cX0_writeQuotient 89 = .ok (.getfield 36, 3) := by decide +kernel
theorem dX0_writeQuotient_92 : decode cX0_writeQuotient 92 = .ok (.aload 6, 2) := by decide +kernel
theorem dX0_writeQuotient_94 : decode cX0_writeQuotient 94 = .ok (.aload_n 2, 1) := by decide +kernel
theorem dX0_writeQuotient_95 : decode cX0_writeQuotient 95 = .ok (.getfield 102, 3) := by decide +kernel
theorem dX0_writeQuotient_98 : decode cX0_writeQuotient 98 = .ok (.iload 7, 2) := by decide +kernel
theorem dX0_writeQuotient_100 : decode cX0_writeQuotient 100 = .ok (.aaload, 1) := by decide +kernel
theorem dX0_writeQuotient_101 : decode cX0_writeQuotient 101 = .ok (.invokevirtual 125, 3) := by decide +kernel
theorem dX0_writeQuotient_104 : decode cX0_writeQuotient 104 = .ok (.aload_n 0, 1) := by decide +kernel
theorem dX0_writeQuotient_105 : decode cX0_writeQuotient 105 = .ok (.getfield 36, 3) := by decide +kernel
theorem dX0_writeQuotient_108 : decode cX0_writeQuotient 108 = .ok (.invokevirtual 96, 3) := by decide +kernel
theorem dX0_writeQuotient_111 : decode cX0_writeQuotient 111 = .ok (.aload_n 0, 1) := by decide +kernel
theorem dX0_writeQuotient_112 : decode cX0_writeQuotient 112 = .ok (.getfield 48, 3) := by decide +kernel
theorem dX0_writeQuotient_115 : decode cX0_writeQuotient 115 = .ok (.getfield 102, 3) := by decide +kernel
theorem dX0_writeQuotient_118 : decode cX0_writeQuotient 118 = .ok (.iload 5, 2) := by decide +kernel
theorem dX0_writeQuotient_120 : decode cX0_writeQuotient 120 = .ok (.iload 7, 2) := by decide +kernel
theorem dX0_writeQuotient_122 : decode cX0_writeQuotient 122 = .ok (.iadd, 1) := by decide +kernel
theorem dX0_writeQuotient_123 : decode cX0_writeQuotient 123 = .ok (.aaload, 1) := by decide +kernel
theorem dX0_writeQuotient_124 : decode cX0_writeQuotient 124 = .ok (.aload_n 0, 1) := by decide +kernel
theorem dX0_writeQuotient_125 : decode cX0_writeQuotient 125 = .ok (.getfield 36, 3) := by decide +kernel
theorem dX0_writeQuotient_128 : decode cX0_writeQuotient 128 = .ok (.invokevirtual 128, 3) := by decide +kernel
theorem dX0_writeQuotient_131 : decode cX0_writeQuotient 131 = .ok (.iinc 7 1, 3) := by decide +kernel
theorem dX0_writeQuotient_134 : decode cX0_writeQuotient 134 = .ok (.goto (-53), 3) := by decide +kernel
theorem dX0_writeQuotient_137 : decode cX0_writeQuotient 137 = .ok (.iinc 5 (-1), 3) := by decide +kernel
theorem dX0_writeQuotient_140 : decode cX0_writeQuotient 140 = .ok (.goto (-107), 3) := by decide +kernel
theorem dX0_writeQuotient_143 : decode cX0_writeQuotient 143 = .ok (.aload_n 3, 1) := by decide +kernel
theorem dX0_writeQuotient_144 : decode cX0_writeQuotient 144 = .ok (.invokevirtual 122, 3) := by decide +kernel
theorem dX0_writeQuotient_147 : decode cX0_writeQuotient 147 = .ok (.aload_n 0, 1) := by decide +kernel
theorem dX0_writeQuotient_148 : decode cX0_writeQuotient 148 = .ok (.aload_n 3, 1) := by decide +kernel
theorem dX0_writeQuotient_149 : decode cX0_writeQuotient 149 = .ok (.invokevirtual 134, 3) := by decide +kernel
theorem dX0_writeQuotient_152 : decode cX0_writeQuotient 152 = .ok (.aload_n 3, 1) := by decide +kernel
theorem dX0_writeQuotient_153 : decode cX0_writeQuotient 153 = .ok (.invokevirtual 141, 3) := by decide +kernel
theorem dX0_writeQuotient_156 : decode cX0_writeQuotient 156 = .ok (.return_, 1) := by decide +kernel
theorem dX0_writeSquareFree_0 : decode cX0_writeSquareFree 0 = .ok (.aload_n 0, 1) := by decide +kernel
theorem dX0_writeSquareFree_1 : decode cX0_writeSquareFree 1 = .ok (.getfield 55, 3) := by decide +kernel
theorem dX0_writeSquareFree_4 : decode cX0_writeSquareFree 4 = .ok (.aload_n 1, 1) := by decide +kernel
theorem dX0_writeSquareFree_5 : decode cX0_writeSquareFree 5 = .ok (.invokevirtual 144, 3) := by decide +kernel
theorem dX0_writeSquareFree_8 : decode cX0_writeSquareFree 8 = .ok (.aload_n 0, 1) := by decide +kernel
theorem dX0_writeSquareFree_9 : decode cX0_writeSquareFree 9 = .ok (.aload_n 1, 1) := by decide +kernel
theorem dX0_writeSquareFree_10 : decode cX0_writeSquareFree 10 = .ok (.aload_n 0, 1) := by decide +kernel
theorem dX0_writeSquareFree_11 : decode cX0_writeSquareFree 11 = .ok (.getfield 55, 3) := by decide +kernel
theorem dX0_writeSquareFree_14 : decode cX0_writeSquareFree 14 = .ok (.aload_n 0, 1) := by decide +kernel
theorem dX0_writeSquareFree_15 : decode cX0_writeSquareFree 15 = .ok (.getfield 58, 3) := by decide +kernel
theorem dX0_writeSquareFree_18 : decode cX0_writeSquareFree 18 = .ok (.invokevirtual 147, 3) := by decide +kernel
theorem dX0_writeSquareFree_21 : decode cX0_writeSquareFree 21 = .ok (.aload_n 0, 1) := by decide +kernel
theorem dX0_writeSquareFree_22 : decode cX0_writeSquareFree 22 = .ok (.aload_n 1, 1) := by decide +kernel
theorem dX0_writeSquareFree_23 : decode cX0_writeSquareFree 23 = .ok (.aload_n 0, 1) := by decide +kernel
theorem dX0_writeSquareFree_24 : decode cX0_writeSquareFree 24 = .ok (.getfield 58, 3) := by decide +kernel
theorem dX0_writeSquareFree_27 : decode cX0_writeSquareFree 27 = .ok (.aload_n 2, 1) := by decide +kernel
theorem dX0_writeSquareFree_28 : decode cX0_writeSquareFree 28 = .ok (.invokevirtual 152, 3) := by decide +kernel
theorem dX0_writeSquareFree_31 : decode cX0_writeSquareFree 31 = .ok (.return_, 1) := by decide +kernel
theorem dX0_writeSturm_0 : decode cX0_writeSturm 0 = .ok (.aload_n 2, 1) := by decide +kernel
theorem dX0_writeSturm_1 : decode cX0_writeSturm 1 = .ok (.iconst 0, 1) := by decide +kernel
theorem dX0_writeSturm_2 : decode cX0_writeSturm 2 = .ok (.putfield 155, 3) := by decide +kernel
theorem dX0_writeSturm_5 : decode cX0_writeSturm 5 = .ok (.aload_n 1, 1) := by decide +kernel
theorem dX0_writeSturm_6 : decode cX0_writeSturm 6 = .ok (.getfield 99, 3) := by decide +kernel
theorem dX0_writeSturm_9 : decode cX0_writeSturm 9 = .ok (.ifCond .ge 4, 3) := by decide +kernel
theorem dX0_writeSturm_12 : decode cX0_writeSturm 12 = .ok (.return_, 1) := by decide +kernel
theorem dX0_writeSturm_13 : decode cX0_writeSturm 13 = .ok (.aload_n 2, 1) := by decide +kernel
theorem dX0_writeSturm_14 : decode cX0_writeSturm 14 = .ok (.getfield 158, 3) := by decide +kernel
theorem dX0_writeSturm_17 : decode cX0_writeSturm 17 = .ok (.iconst 0, 1) := by decide +kernel
theorem dX0_writeSturm_18 : decode cX0_writeSturm 18 = .ok (.aaload, 1) := by decide +kernel
theorem dX0_writeSturm_19 : decode cX0_writeSturm 19 = .ok (.aload_n 1, 1) := by decide +kernel
theorem dX0_writeSturm_20 : decode cX0_writeSturm 20 = .ok (.invokevirtual 131, 3) := by decide +kernel
theorem dX0_writeSturm_23 : decode cX0_writeSturm 23 = .ok (.aload_n 0, 1) := by decide +kernel
theorem dX0_writeSturm_24 : decode cX0_writeSturm 24 = .ok (.aload_n 2, 1) := by decide +kernel
theorem dX0_writeSturm_25 : decode cX0_writeSturm 25 = .ok (.getfield 158, 3) := by decide +kernel
theorem dX0_writeSturm_28 : decode cX0_writeSturm 28 = .ok (.iconst 0, 1) := by decide +kernel
theorem dX0_writeSturm_29 : decode cX0_writeSturm 29 = .ok (.aaload, 1) := by decide +kernel
theorem dX0_writeSturm_30 : decode cX0_writeSturm 30 = .ok (.invokevirtual 134, 3) := by decide +kernel
theorem dX0_writeSturm_33 : decode cX0_writeSturm 33 = .ok (.aload_n 2, 1) := by decide +kernel
theorem dX0_writeSturm_34 : decode cX0_writeSturm 34 = .ok (.iconst 1, 1) := by decide +kernel
theorem dX0_writeSturm_35 : decode cX0_writeSturm 35 = .ok (.putfield 155, 3) := by decide +kernel
theorem dX0_writeSturm_38 : decode cX0_writeSturm 38 = .ok (.aload_n 1, 1) := by decide +kernel
theorem dX0_writeSturm_39 : decode cX0_writeSturm 39 = .ok (.getfield 99, 3) := by decide +kernel
theorem dX0_writeSturm_42 : decode cX0_writeSturm 42 = .ok (.ifCond .ne 4, 3) := by decide +kernel
theorem dX0_writeSturm_45 : decode cX0_writeSturm 45 = .ok (.return_, 1) := by decide +kernel
theorem dX0_writeSturm_46 : decode cX0_writeSturm 46 = .ok (.aload_n 2, 1) := by decide +kernel
theorem dX0_writeSturm_47 : decode cX0_writeSturm 47 = .ok (.getfield 158, 3) := by decide +kernel
theorem dX0_writeSturm_50 : decode cX0_writeSturm 50 = .ok (.iconst 1, 1) := by decide +kernel
theorem dX0_writeSturm_51 : decode cX0_writeSturm 51 = .ok (.aaload, 1) := by decide +kernel
theorem dX0_writeSturm_52 : decode cX0_writeSturm 52 = .ok (.aload_n 1, 1) := by decide +kernel
theorem dX0_writeSturm_53 : decode cX0_writeSturm 53 = .ok (.invokevirtual 144, 3) := by decide +kernel
theorem dX0_writeSturm_56 : decode cX0_writeSturm 56 = .ok (.aload_n 0, 1) := by decide +kernel
theorem dX0_writeSturm_57 : decode cX0_writeSturm 57 = .ok (.aload_n 2, 1) := by decide +kernel
theorem dX0_writeSturm_58 : decode cX0_writeSturm 58 = .ok (.getfield 158, 3) := by decide +kernel
theorem dX0_writeSturm_61 : decode cX0_writeSturm 61 = .ok (.iconst 1, 1) := by decide +kernel
theorem dX0_writeSturm_62 : decode cX0_writeSturm 62 = .ok (.aaload, 1) := by decide +kernel
theorem dX0_writeSturm_63 : decode cX0_writeSturm 63 = .ok (.invokevirtual 134, 3) := by decide +kernel
theorem dX0_writeSturm_66 : decode cX0_writeSturm 66 = .ok (.aload_n 2, 1) := by decide +kernel
theorem dX0_writeSturm_67 : decode cX0_writeSturm 67 = .ok (.iconst 2, 1) := by decide +kernel
theorem dX0_writeSturm_68 : decode cX0_writeSturm 68 = .ok (.putfield 155, 3) := by decide +kernel
theorem dX0_writeSturm_71 : decode cX0_writeSturm 71 = .ok (.iconst 2, 1) := by decide +kernel
theorem dX0_writeSturm_72 : decode cX0_writeSturm 72 = .ok (.istore_n 3, 1) := by decide +kernel
theorem dX0_writeSturm_73 : decode cX0_writeSturm 73 = .ok (.iload_n 3, 1) := by decide +kernel
theorem dX0_writeSturm_74 : decode cX0_writeSturm 74 = .ok (.bipush 7, 2) := by decide +kernel
theorem dX0_writeSturm_76 : decode cX0_writeSturm 76 = .ok (.if_icmp .ge 71, 3) := by decide +kernel
theorem dX0_writeSturm_79 : decode cX0_writeSturm 79 = .ok (.aload_n 2, 1) := by decide +kernel
theorem dX0_writeSturm_80 : decode cX0_writeSturm 80 = .ok (.getfield 158, 3) := by decide +kernel
theorem dX0_writeSturm_83 : decode cX0_writeSturm 83 = .ok (.iload_n 3, 1) := by decide +kernel
theorem dX0_writeSturm_84 : decode cX0_writeSturm 84 = .ok (.aaload, 1) := by decide +kernel
theorem dX0_writeSturm_85 : decode cX0_writeSturm 85 = .ok (.astore 4, 2) := by decide +kernel
theorem dX0_writeSturm_87 : decode cX0_writeSturm 87 = .ok (.aload 4, 2) := by decide +kernel
theorem dX0_writeSturm_89 : decode cX0_writeSturm 89 = .ok (.aload_n 2, 1) := by decide +kernel
theorem dX0_writeSturm_90 : decode cX0_writeSturm 90 = .ok (.getfield 158, 3) := by decide +kernel
theorem dX0_writeSturm_93 : decode cX0_writeSturm 93 = .ok (.iload_n 3, 1) := by decide +kernel
theorem dX0_writeSturm_94 : decode cX0_writeSturm 94 = .ok (.iconst 2, 1) := by decide +kernel
theorem dX0_writeSturm_95 : decode cX0_writeSturm 95 = .ok (.isub, 1) := by decide +kernel
theorem dX0_writeSturm_96 : decode cX0_writeSturm 96 = .ok (.aaload, 1) := by decide +kernel
theorem dX0_writeSturm_97 : decode cX0_writeSturm 97 = .ok (.invokevirtual 131, 3) := by decide +kernel
theorem dX0_writeSturm_100 : decode cX0_writeSturm 100 = .ok (.aload_n 0, 1) := by decide +kernel
theorem dX0_writeSturm_101 : decode cX0_writeSturm 101 = .ok (.aload 4, 2) := by decide +kernel
theorem dX0_writeSturm_103 : decode cX0_writeSturm 103 = .ok (.aload_n 2, 1) := by decide +kernel
theorem dX0_writeSturm_104 : decode cX0_writeSturm 104 = .ok (.getfield 158, 3) := by decide +kernel
theorem dX0_writeSturm_107 : decode cX0_writeSturm 107 = .ok (.iload_n 3, 1) := by decide +kernel
theorem dX0_writeSturm_108 : decode cX0_writeSturm 108 = .ok (.iconst 1, 1) := by decide +kernel
theorem dX0_writeSturm_109 : decode cX0_writeSturm 109 = .ok (.isub, 1) := by decide +kernel
theorem dX0_writeSturm_110 : decode cX0_writeSturm 110 = .ok (.aaload, 1) := by decide +kernel
theorem dX0_writeSturm_111 : decode cX0_writeSturm 111 = .ok (.invokevirtual 137, 3) := by decide +kernel
theorem dX0_writeSturm_114 : decode cX0_writeSturm 114 = .ok (.aload 4, 2) := by decide +kernel
theorem dX0_writeSturm_116 : decode cX0_writeSturm 116 = .ok (.getfield 99, 3) := by decide +kernel
theorem dX0_writeSturm_119 : decode cX0_writeSturm 119 = .ok (.ifCond .ge 4, 3) := by decide +kernel
theorem dX0_writeSturm_122 : decode cX0_writeSturm 122 = .ok (.return_, 1) := by decide +kernel
theorem dX0_writeSturm_123 : decode cX0_writeSturm 123 = .ok (.aload 4, 2) := by decide +kernel
theorem dX0_writeSturm_125 : decode cX0_writeSturm 125 = .ok (.invokevirtual 162, 3) := by decide +kernel
theorem dX0_writeSturm_128 : decode cX0_writeSturm 128 = .ok (.aload_n 0, 1) := by decide +kernel
theorem dX0_writeSturm_129 : decode cX0_writeSturm 129 = .ok (.aload 4, 2) := by decide +kernel
theorem dX0_writeSturm_131 : decode cX0_writeSturm 131 = .ok (.invokevirtual 134, 3) := by decide +kernel
theorem dX0_writeSturm_134 : decode cX0_writeSturm 134 = .ok (.aload_n 2, 1) := by decide +kernel
theorem dX0_writeSturm_135 : decode cX0_writeSturm 135 = .ok (.iload_n 3, 1) := by decide +kernel
theorem dX0_writeSturm_136 : decode cX0_writeSturm 136 = .ok (.iconst 1, 1) := by decide +kernel
theorem dX0_writeSturm_137 : decode cX0_writeSturm 137 = .ok (.iadd, 1) := by decide +kernel
theorem dX0_writeSturm_138 : decode cX0_writeSturm 138 = .ok (.putfield 155, 3) := by decide +kernel
theorem dX0_writeSturm_141 : decode cX0_writeSturm 141 = .ok (.iinc 3 1, 3) := by decide +kernel
theorem dX0_writeSturm_144 : decode cX0_writeSturm 144 = .ok (.goto (-71), 3) := by decide +kernel
theorem dX0_writeSturm_147 : decode cX0_writeSturm 147 = .ok (.return_, 1) := by decide +kernel
theorem dX0_signAt_0 : decode cX0_signAt 0 = .ok (.aload_n 0, 1) := by decide +kernel
theorem dX0_signAt_1 : decode cX0_signAt 1 = .ok (.getfield 39, 3) := by decide +kernel
theorem dX0_signAt_4 : decode cX0_signAt 4 = .ok (.invokevirtual 116, 3) := by decide +kernel
theorem dX0_signAt_7 : decode cX0_signAt 7 = .ok (.aload_n 0, 1) := by decide +kernel
theorem dX0_signAt_8 : decode cX0_signAt 8 = .ok (.getfield 42, 3) := by decide +kernel
theorem dX0_signAt_11 : decode cX0_signAt 11 = .ok (.lconst 1, 1) := by decide +kernel
theorem dX0_signAt_12 : decode cX0_signAt 12 = .ok (.invokevirtual 88, 3) := by decide +kernel
theorem dX0_signAt_15 : decode cX0_signAt 15 = .ok (.aload_n 1, 1) := by decide +kernel
theorem dX0_signAt_16 : decode cX0_signAt 16 = .ok (.getfield 99, 3) := by decide +kernel
theorem dX0_signAt_19 : decode cX0_signAt 19 = .ok (.istore 4, 2) := by decide +kernel
theorem dX0_signAt_21 : decode cX0_signAt 21 = .ok (.iload 4, 2) := by decide +kernel
theorem dX0_signAt_23 : decode cX0_signAt 23 = .ok (.ifCond .lt 56, 3) := by decide +kernel
theorem dX0_signAt_26 : decode cX0_signAt 26 = .ok (.aload_n 0, 1) := by decide +kernel
theorem dX0_signAt_27 : decode cX0_signAt 27 = .ok (.getfield 39, 3) := by decide +kernel
theorem dX0_signAt_30 : decode cX0_signAt 30 = .ok (.iload_n 2, 1) := by decide +kernel
theorem dX0_signAt_31 : decode cX0_signAt 31 = .ok (.invokevirtual 165, 3) := by decide +kernel
theorem dX0_signAt_34 : decode cX0_signAt 34 = .ok (.aload_n 0, 1) := by decide +kernel
theorem dX0_signAt_35 : decode cX0_signAt 35 = .ok (.getfield 36, 3) := by decide +kernel
theorem dX0_signAt_38 : decode cX0_signAt 38 = .ok (.aload_n 1, 1) := by decide +kernel
theorem dX0_signAt_39 : decode cX0_signAt 39 = .ok (.getfield 102, 3) := by decide +kernel
theorem dX0_signAt_42 : decode cX0_signAt 42 = .ok (.iload 4, 2) := by decide +kernel
theorem dX0_signAt_44 : decode cX0_signAt 44 = .ok (.aaload, 1) := by decide +kernel
theorem dX0_signAt_45 : decode cX0_signAt 45 = .ok (.aload_n 0, 1) := by decide +kernel
theorem dX0_signAt_46 : decode cX0_signAt 46 = .ok (.getfield 42, 3) := by decide +kernel
theorem dX0_signAt_49 : decode cX0_signAt 49 = .ok (.invokevirtual 125, 3) := by decide +kernel
theorem dX0_signAt_52 : decode cX0_signAt 52 = .ok (.aload_n 0, 1) := by decide +kernel
theorem dX0_signAt_53 : decode cX0_signAt 53 = .ok (.getfield 39, 3) := by decide +kernel
theorem dX0_signAt_56 : decode cX0_signAt 56 = .ok (.aload_n 0, 1) := by decide +kernel
theorem dX0_signAt_57 : decode cX0_signAt 57 = .ok (.getfield 36, 3) := by decide +kernel
theorem dX0_signAt_60 : decode cX0_signAt 60 = .ok (.invokevirtual 128, 3) := by decide +kernel
theorem dX0_signAt_63 : decode cX0_signAt 63 = .ok (.aload_n 0, 1) := by decide +kernel
theorem dX0_signAt_64 : decode cX0_signAt 64 = .ok (.getfield 42, 3) := by decide +kernel
theorem dX0_signAt_67 : decode cX0_signAt 67 = .ok (.iconst 1, 1) := by decide +kernel
theorem dX0_signAt_68 : decode cX0_signAt 68 = .ok (.iload_n 3, 1) := by decide +kernel
theorem dX0_signAt_69 : decode cX0_signAt 69 = .ok (.ishl, 1) := by decide +kernel
theorem dX0_signAt_70 : decode cX0_signAt 70 = .ok (.invokevirtual 165, 3) := by decide +kernel
theorem dX0_signAt_73 : decode cX0_signAt 73 = .ok (.iinc 4 (-1), 3) := by decide +kernel
theorem dX0_signAt_76 : decode cX0_signAt 76 = .ok (.goto (-55), 3) := by decide +kernel
theorem dX0_signAt_79 : decode cX0_signAt 79 = .ok (.aload_n 0, 1) := by decide +kernel
theorem dX0_signAt_80 : decode cX0_signAt 80 = .ok (.getfield 39, 3) := by decide +kernel
theorem dX0_signAt_83 : decode cX0_signAt 83 = .ok (.invokevirtual 169, 3) := by decide +kernel
theorem dX0_signAt_86 : decode cX0_signAt 86 = .ok (.ireturn, 1) := by decide +kernel
theorem dX0_changesAt_0 : decode cX0_changesAt 0 = .ok (.iconst 0, 1) := by decide +kernel
theorem dX0_changesAt_1 : decode cX0_changesAt 1 = .ok (.istore 4, 2) := by decide +kernel
theorem dX0_changesAt_3 : decode cX0_changesAt 3 = .ok (.iconst 0, 1) := by decide +kernel
theorem dX0_changesAt_4 : decode cX0_changesAt 4 = .ok (.istore 5, 2) := by decide +kernel
theorem dX0_changesAt_6 : decode cX0_changesAt 6 = .ok (.iconst 0, 1) := by decide +kernel
theorem dX0_changesAt_7 : decode cX0_changesAt 7 = .ok (.istore 6, 2) := by decide +kernel
theorem dX0_changesAt_9 : decode cX0_changesAt 9 = .ok (.iload 6, 2) := by decide +kernel
theorem dX0_changesAt_11 : decode cX0_changesAt 11 = .ok (.aload_n 1, 1) := by decide +kernel
theorem dX0_changesAt_12 : decode cX0_changesAt 12 = .ok (.getfield 155, 3) := by decide +kernel
theorem dX0_changesAt_15 : decode cX0_changesAt 15 = .ok (.if_icmp .ge 44, 3) := by decide +kernel
theorem dX0_changesAt_18 : decode cX0_changesAt 18 = .ok (.aload_n 0, 1) := by decide +kernel
theorem dX0_changesAt_19 : decode cX0_changesAt 19 = .ok (.aload_n 1, 1) := by decide +kernel
theorem dX0_changesAt_20 : decode cX0_changesAt 20 = .ok (.getfield 158, 3) := by decide +kernel
theorem dX0_changesAt_23 : decode cX0_changesAt 23 = .ok (.iload 6, 2) := by decide +kernel
theorem dX0_changesAt_25 : decode cX0_changesAt 25 = .ok (.aaload, 1) := by decide +kernel
theorem dX0_changesAt_26 : decode cX0_changesAt 26 = .ok (.iload_n 2, 1) := by decide +kernel
theorem dX0_changesAt_27 : decode cX0_changesAt 27 = .ok (.iload_n 3, 1) := by decide +kernel
theorem dX0_changesAt_28 : decode cX0_changesAt 28 = .ok (.invokevirtual 173, 3) := by decide +kernel
theorem dX0_changesAt_31 : decode cX0_changesAt 31 = .ok (.istore 7, 2) := by decide +kernel
theorem dX0_changesAt_33 : decode cX0_changesAt 33 = .ok (.iload 7, 2) := by decide +kernel
theorem dX0_changesAt_35 : decode cX0_changesAt 35 = .ok (.iload 5, 2) := by decide +kernel
theorem dX0_changesAt_37 : decode cX0_changesAt 37 = .ok (.imul, 1) := by decide +kernel
theorem dX0_changesAt_38 : decode cX0_changesAt 38 = .ok (.ifCond .ge 6, 3) := by decide +kernel
theorem dX0_changesAt_41 : decode cX0_changesAt 41 = .ok (.iinc 4 1, 3) := by decide +kernel
theorem dX0_changesAt_44 : decode cX0_changesAt 44 = .ok (.iload 7, 2) := by decide +kernel
theorem dX0_changesAt_46 : decode cX0_changesAt 46 = .ok (.ifCond .eq 7, 3) := by decide +kernel
theorem dX0_changesAt_49 : decode cX0_changesAt 49 = .ok (.iload 7, 2) := by decide +kernel
theorem dX0_changesAt_51 : decode cX0_changesAt 51 = .ok (.istore 5, 2) := by decide +kernel
theorem dX0_changesAt_53 : decode cX0_changesAt 53 = .ok (.iinc 6 1, 3) := by decide +kernel
theorem dX0_changesAt_56 : decode cX0_changesAt 56 = .ok (.goto (-47), 3) := by decide +kernel
theorem dX0_changesAt_59 : decode cX0_changesAt 59 = .ok (.iload 4, 2) := by decide +kernel
theorem dX0_changesAt_61 : decode cX0_changesAt 61 = .ok (.ireturn, 1) := by decide +kernel
theorem dX0_rootsInside_0 : decode cX0_rootsInside 0 = .ok (.aload_n 0, 1) := by decide +kernel
theorem dX0_rootsInside_1 : decode cX0_rootsInside 1 = .ok (.aload_n 1, 1) := by decide +kernel
theorem dX0_rootsInside_2 : decode cX0_rootsInside 2 = .ok (.iload_n 2, 1) := by decide +kernel
theorem dX0_rootsInside_3 : decode cX0_rootsInside 3 = .ok (.iload 4, 2) := by decide +kernel
theorem dX0_rootsInside_5 : decode cX0_rootsInside 5 = .ok (.invokevirtual 177, 3) := by decide +kernel
theorem dX0_rootsInside_8 : decode cX0_rootsInside 8 = .ok (.ifCond .eq 7, 3) := by decide +kernel
theorem dX0_rootsInside_11 : decode cX0_rootsInside 11 = .ok (.iconst 1, 1) := by decide +kernel
theorem dX0_rootsInside_12 : decode cX0_rootsInside 12 = .ok (.goto 4, 3) := by decide +kernel
theorem dX0_rootsInside_15 : decode cX0_rootsInside 15 = .ok (.iconst 0, 1) := by decide +kernel
theorem dX0_rootsInside_16 : decode cX0_rootsInside 16 = .ok (.istore 5, 2) := by decide +kernel
theorem dX0_rootsInside_18 : decode cX0_rootsInside 18 = .ok (.iload_n 3, 1) := by decide +kernel
theorem dX0_rootsInside_19 : decode cX0_rootsInside 19 = .ok (.iload 4, 2) := by decide +kernel
theorem dX0_rootsInside_21 : decode cX0_rootsInside 21 = .ok (.if_icmp .ne 6, 3) := by decide +kernel
theorem dX0_rootsInside_24 : decode cX0_rootsInside 24 = .ok (.iload 5, 2) := by decide +kernel
theorem dX0_rootsInside_26 : decode cX0_rootsInside 26 = .ok (.ireturn, 1) := by decide +kernel
theorem dX0_rootsInside_27 : decode cX0_rootsInside 27 = .ok (.aload_n 0, 1) := by decide +kernel
theorem dX0_rootsInside_28 : decode cX0_rootsInside 28 = .ok (.aload_n 1, 1) := by decide +kernel
theorem dX0_rootsInside_29 : decode cX0_rootsInside 29 = .ok (.iload_n 3, 1) := by decide +kernel
theorem dX0_rootsInside_30 : decode cX0_rootsInside 30 = .ok (.iload_n 2, 1) := by decide +kernel
theorem dX0_rootsInside_31 : decode cX0_rootsInside 31 = .ok (.invokevirtual 181, 3) := by decide +kernel
theorem dX0_rootsInside_34 : decode cX0_rootsInside 34 = .ok (.aload_n 0, 1) := by decide +kernel
theorem dX0_rootsInside_35 : decode cX0_rootsInside 35 = .ok (.aload_n 1, 1) := by decide +kernel
theorem dX0_rootsInside_36 : decode cX0_rootsInside 36 = .ok (.iload 4, 2) := by decide +kernel
theorem dX0_rootsInside_38 : decode cX0_rootsInside 38 = .ok (.iload_n 2, 1) := by decide +kernel
theorem dX0_rootsInside_39 : decode cX0_rootsInside 39 = .ok (.invokevirtual 181, 3) := by decide +kernel
theorem dX0_rootsInside_42 : decode cX0_rootsInside 42 = .ok (.isub, 1) := by decide +kernel
theorem dX0_rootsInside_43 : decode cX0_rootsInside 43 = .ok (.iload 5, 2) := by decide +kernel
theorem dX0_rootsInside_45 : decode cX0_rootsInside 45 = .ok (.isub, 1) := by decide +kernel
theorem dX0_rootsInside_46 : decode cX0_rootsInside 46 = .ok (.ireturn, 1) := by decide +kernel
theorem dX0_isRoot_0 : decode cX0_isRoot 0 = .ok (.aload_n 0, 1) := by decide +kernel
theorem dX0_isRoot_1 : decode cX0_isRoot 1 = .ok (.aload_n 1, 1) := by decide +kernel
theorem dX0_isRoot_2 : decode cX0_isRoot 2 = .ok (.getfield 158, 3) := by decide +kernel
theorem dX0_isRoot_5 : decode cX0_isRoot 5 = .ok (.iconst 0, 1) := by decide +kernel
theorem dX0_isRoot_6 : decode cX0_isRoot 6 = .ok (.aaload, 1) := by decide +kernel
theorem dX0_isRoot_7 : decode cX0_isRoot 7 = .ok (.iload_n 3, 1) := by decide +kernel
theorem dX0_isRoot_8 : decode cX0_isRoot 8 = .ok (.iload_n 2, 1) := by decide +kernel
theorem dX0_isRoot_9 : decode cX0_isRoot 9 = .ok (.invokevirtual 173, 3) := by decide +kernel
theorem dX0_isRoot_12 : decode cX0_isRoot 12 = .ok (.ifCond .ne 7, 3) := by decide +kernel
theorem dX0_isRoot_15 : decode cX0_isRoot 15 = .ok (.iconst 1, 1) := by decide +kernel
theorem dX0_isRoot_16 : decode cX0_isRoot 16 = .ok (.goto 4, 3) := by decide +kernel
theorem dX0_isRoot_19 : decode cX0_isRoot 19 = .ok (.iconst 0, 1) := by decide +kernel
theorem dX0_isRoot_20 : decode cX0_isRoot 20 = .ok (.ireturn, 1) := by decide +kernel
theorem dX1_init_0 : decode cX1_init 0 = .ok (.aload_n 0, 1) := by decide +kernel
theorem dX1_init_1 : decode cX1_init 1 = .ok (.invokespecial 3, 3) := by decide +kernel
theorem dX1_init_4 : decode cX1_init 4 = .ok (.aload_n 0, 1) := by decide +kernel
theorem dX1_init_5 : decode cX1_init 5 = .ok (.bipush 20, 2) := by decide +kernel
theorem dX1_init_7 : decode cX1_init 7 = .ok (.newarray .int, 2) := by decide +kernel
theorem dX1_init_9 : decode cX1_init 9 = .ok (.putfield 9, 3) := by decide +kernel
theorem dX1_init_12 : decode cX1_init 12 = .ok (.return_, 1) := by decide +kernel
theorem dX1_isZero_0 : decode cX1_isZero 0 = .ok (.aload_n 0, 1) := by decide +kernel
theorem dX1_isZero_1 : decode cX1_isZero 1 = .ok (.getfield 13, 3) := by decide +kernel
theorem dX1_isZero_4 : decode cX1_isZero 4 = .ok (.ifCond .ne 7, 3) := by decide +kernel
theorem dX1_isZero_7 : decode cX1_isZero 7 = .ok (.iconst 1, 1) := by decide +kernel
theorem dX1_isZero_8 : decode cX1_isZero 8 = .ok (.goto 4, 3) := by decide +kernel
theorem dX1_isZero_11 : decode cX1_isZero 11 = .ok (.iconst 0, 1) := by decide +kernel
theorem dX1_isZero_12 : decode cX1_isZero 12 = .ok (.ireturn, 1) := by decide +kernel
theorem dX1_isOne_0 : decode cX1_isOne 0 = .ok (.aload_n 0, 1) := by decide +kernel
theorem dX1_isOne_1 : decode cX1_isOne 1 = .ok (.getfield 13, 3) := by decide +kernel
theorem dX1_isOne_4 : decode cX1_isOne 4 = .ok (.iconst 1, 1) := by decide +kernel
theorem dX1_isOne_5 : decode cX1_isOne 5 = .ok (.if_icmp .ne 24, 3) := by decide +kernel
theorem dX1_isOne_8 : decode cX1_isOne 8 = .ok (.aload_n 0, 1) := by decide +kernel
theorem dX1_isOne_9 : decode cX1_isOne 9 = .ok (.getfield 9, 3) := by decide +kernel
theorem dX1_isOne_12 : decode cX1_isOne 12 = .ok (.iconst 0, 1) := by decide +kernel
theorem dX1_isOne_13 : decode cX1_isOne 13 = .ok (.iaload, 1) := by decide +kernel
theorem dX1_isOne_14 : decode cX1_isOne 14 = .ok (.iconst 1, 1) := by decide +kernel
theorem dX1_isOne_15 : decode cX1_isOne 15 = .ok (.if_icmp .ne 14, 3) := by decide +kernel
theorem dX1_isOne_18 : decode cX1_isOne 18 = .ok (.aload_n 0, 1) := by decide +kernel
theorem dX1_isOne_19 : decode cX1_isOne 19 = .ok (.getfield 17, 3) := by decide +kernel
theorem dX1_isOne_22 : decode cX1_isOne 22 = .ok (.ifCond .ne 7, 3) := by decide +kernel
theorem dX1_isOne_25 : decode cX1_isOne 25 = .ok (.iconst 1, 1) := by decide +kernel
theorem dX1_isOne_26 : decode cX1_isOne 26 = .ok (.goto 4, 3) := by decide +kernel
theorem dX1_isOne_29 : decode cX1_isOne 29 = .ok (.iconst 0, 1) := by decide +kernel
theorem dX1_isOne_30 : decode cX1_isOne 30 = .ok (.ireturn, 1) := by decide +kernel
theorem dX1_signum_0 : decode cX1_signum 0 = .ok (.aload_n 0, 1) := by decide +kernel
theorem dX1_signum_1 : decode cX1_signum 1 = .ok (.getfield 13, 3) := by decide +kernel
theorem dX1_signum_4 : decode cX1_signum 4 = .ok (.ifCond .ne 7, 3) := by decide +kernel
theorem dX1_signum_7 : decode cX1_signum 7 = .ok (.iconst 0, 1) := by decide +kernel
theorem dX1_signum_8 : decode cX1_signum 8 = .ok (.goto 15, 3) := by decide +kernel
theorem dX1_signum_11 : decode cX1_signum 11 = .ok (.aload_n 0, 1) := by decide +kernel
theorem dX1_signum_12 : decode cX1_signum 12 = .ok (.getfield 17, 3) := by decide +kernel
theorem dX1_signum_15 : decode cX1_signum 15 = .ok (.ifCond .eq 7, 3) := by decide +kernel
theorem dX1_signum_18 : decode cX1_signum 18 = .ok (.iconst (-1), 1) := by decide +kernel
theorem dX1_signum_19 : decode cX1_signum 19 = .ok (.goto 4, 3) := by decide +kernel
theorem dX1_signum_22 : decode cX1_signum 22 = .ok (.iconst 1, 1) := by decide +kernel
theorem dX1_signum_23 : decode cX1_signum 23 = .ok (.ireturn, 1) := by decide +kernel
theorem dX1_lowestBits_0 : decode cX1_lowestBits 0 = .ok (.aload_n 0, 1) := by decide +kernel
theorem dX1_lowestBits_1 : decode cX1_lowestBits 1 = .ok (.getfield 9, 3) := by decide +kernel
theorem dX1_lowestBits_4 : decode cX1_lowestBits 4 = .ok (.iconst 0, 1) := by decide +kernel
theorem dX1_lowestBits_5 : decode cX1_lowestBits 5 = .ok (.iaload, 1) := by decide +kernel
theorem dX1_lowestBits_6 : decode cX1_lowestBits 6 = .ok (.i2l, 1) := by decide +kernel
theorem dX1_lowestBits_7 : decode cX1_lowestBits 7 = .ok (.aload_n 0, 1) := by decide +kernel
theorem dX1_lowestBits_8 : decode cX1_lowestBits 8 = .ok (.getfield 9, 3) := by decide +kernel
theorem dX1_lowestBits_11 : decode cX1_lowestBits 11 = .ok (.iconst 1, 1) := by decide +kernel
theorem dX1_lowestBits_12 : decode cX1_lowestBits 12 = .ok (.iaload, 1) := by decide +kernel
theorem dX1_lowestBits_13 : decode cX1_lowestBits 13 = .ok (.i2l, 1) := by decide +kernel
theorem dX1_lowestBits_14 : decode cX1_lowestBits 14 = .ok (.bipush 30, 2) := by decide +kernel
theorem dX1_lowestBits_16 : decode cX1_lowestBits 16 = .ok (.lshl, 1) := by decide +kernel
theorem dX1_lowestBits_17 : decode cX1_lowestBits 17 = .ok (.ladd, 1) := by decide +kernel
theorem dX1_lowestBits_18 : decode cX1_lowestBits 18 = .ok (.aload_n 0, 1) := by decide +kernel
theorem dX1_lowestBits_19 : decode cX1_lowestBits 19 = .ok (.getfield 9, 3) := by decide +kernel
theorem dX1_lowestBits_22 : decode cX1_lowestBits 22 = .ok (.iconst 2, 1) := by decide +kernel
theorem dX1_lowestBits_23 : decode cX1_lowestBits 23 = .ok (.iaload, 1) := by decide +kernel
theorem dX1_lowestBits_24 : decode cX1_lowestBits 24 = .ok (.i2l, 1) := by decide +kernel
theorem dX1_lowestBits_25 : decode cX1_lowestBits 25 = .ok (.bipush 60, 2) := by decide +kernel
theorem dX1_lowestBits_27 : decode cX1_lowestBits 27 = .ok (.lshl, 1) := by decide +kernel
theorem dX1_lowestBits_28 : decode cX1_lowestBits 28 = .ok (.ladd, 1) := by decide +kernel
theorem dX1_lowestBits_29 : decode cX1_lowestBits 29 = .ok (.lstore_n 1, 1) := by decide +kernel
theorem dX1_lowestBits_30 : decode cX1_lowestBits 30 = .ok (.aload_n 0, 1) := by decide +kernel
theorem dX1_lowestBits_31 : decode cX1_lowestBits 31 = .ok (.getfield 17, 3) := by decide +kernel
theorem dX1_lowestBits_34 : decode cX1_lowestBits 34 = .ok (.ifCond .eq 8, 3) := by decide +kernel
theorem dX1_lowestBits_37 : decode cX1_lowestBits 37 = .ok (.lload_n 1, 1) := by decide +kernel
theorem dX1_lowestBits_38 : decode cX1_lowestBits 38 = .ok (.lneg, 1) := by decide +kernel
theorem dX1_lowestBits_39 : decode cX1_lowestBits 39 = .ok (.goto 4, 3) := by decide +kernel
theorem dX1_lowestBits_42 : decode cX1_lowestBits 42 = .ok (.lload_n 1, 1) := by decide +kernel
theorem dX1_lowestBits_43 : decode cX1_lowestBits 43 = .ok (.lreturn, 1) := by decide +kernel
theorem dX1_clear_0 : decode cX1_clear 0 = .ok (.iconst 0, 1) := by decide +kernel
theorem dX1_clear_1 : decode cX1_clear 1 = .ok (.istore_n 1, 1) := by decide +kernel
theorem dX1_clear_2 : decode cX1_clear 2 = .ok (.iload_n 1, 1) := by decide +kernel
theorem dX1_clear_3 : decode cX1_clear 3 = .ok (.aload_n 0, 1) := by decide +kernel
theorem dX1_clear_4 : decode cX1_clear 4 = .ok (.getfield 13, 3) := by decide +kernel
theorem dX1_clear_7 : decode cX1_clear 7 = .ok (.if_icmp .ge 16, 3) := by decide +kernel
theorem dX1_clear_10 : decode cX1_clear 10 = .ok (.aload_n 0, 1) := by decide +kernel
theorem dX1_clear_11 : decode cX1_clear 11 = .ok (.getfield 9, 3) := by decide +kernel
theorem dX1_clear_14 : decode cX1_clear 14 = .ok (.iload_n 1, 1) := by decide +kernel
theorem dX1_clear_15 : decode cX1_clear 15 = .ok (.iconst 0, 1) := by decide +kernel
theorem dX1_clear_16 : decode cX1_clear 16 = .ok (.iastore, 1) := by decide +kernel
theorem dX1_clear_17 : decode cX1_clear 17 = .ok (.iinc 1 1, 3) := by decide +kernel
theorem dX1_clear_20 : decode cX1_clear 20 = .ok (.goto (-18), 3) := by decide +kernel
theorem dX1_clear_23 : decode cX1_clear 23 = .ok (.aload_n 0, 1) := by decide +kernel
theorem dX1_clear_24 : decode cX1_clear 24 = .ok (.iconst 0, 1) := by decide +kernel
theorem dX1_clear_25 : decode cX1_clear 25 = .ok (.putfield 13, 3) := by decide +kernel
theorem dX1_clear_28 : decode cX1_clear 28 = .ok (.aload_n 0, 1) := by decide +kernel
theorem dX1_clear_29 : decode cX1_clear 29 = .ok (.iconst 0, 1) := by decide +kernel
theorem dX1_clear_30 : decode cX1_clear 30 = .ok (.putfield 17, 3) := by decide +kernel
theorem dX1_clear_33 : decode cX1_clear 33 = .ok (.return_, 1) := by decide +kernel
theorem dX1_becomeValue_0 : decode cX1_becomeValue 0 = .ok (.aload_n 0, 1) := by decide +kernel
theorem dX1_becomeValue_1 : decode cX1_becomeValue 1 = .ok (.invokevirtual 21, 3) := by decide +kernel
theorem dX1_becomeValue_4 : decode cX1_becomeValue 4 = .ok (.lload_n 1, 1) := by decide +kernel
theorem dX1_becomeValue_5 : decode cX1_becomeValue 5 = .ok (.invokestatic 24, 3) := by decide +kernel
theorem dX1_becomeValue_8 : decode cX1_becomeValue 8 = .ok (.lstore_n 3, 1) := by decide +kernel
theorem dX1_becomeValue_9 : decode cX1_becomeValue 9 = .ok (.aload_n 0, 1) := by decide +kernel
theorem dX1_becomeValue_10 : decode cX1_becomeValue 10 = .ok (.getfield 9, 3) := by decide +kernel
theorem dX1_becomeValue_13 : decode cX1_becomeValue 13 = .ok (.iconst 0, 1) := by decide +kernel
theorem dX1_becomeValue_14 : decode cX1_becomeValue 14 = .ok (.lload_n 3, 1) := by decide +kernel
theorem dX1_becomeValue_15 : decode cX1_becomeValue 15 = .ok (.ldc2_w 30, 3) := by decide +kernel
theorem dX1_becomeValue_18 : decode cX1_becomeValue 18 = .ok (.land, 1) := by decide +kernel
theorem dX1_becomeValue_19 : decode cX1_becomeValue 19 = .ok (.l2i, 1) := by decide +kernel
theorem dX1_becomeValue_20 : decode cX1_becomeValue 20 = .ok (.iastore, 1) := by decide +kernel
theorem dX1_becomeValue_21 : decode cX1_becomeValue 21 = .ok (.aload_n 0, 1) := by decide +kernel
theorem dX1_becomeValue_22 : decode cX1_becomeValue 22 = .ok (.getfield 9, 3) := by decide +kernel
theorem dX1_becomeValue_25 : decode cX1_becomeValue 25 = .ok (.iconst 1, 1) := by decide +kernel
theorem dX1_becomeValue_26 : decode cX1_becomeValue 26 = .ok (.lload_n 3, 1) := by decide +kernel
theorem dX1_becomeValue_27 : decode cX1_becomeValue 27 = .ok (.bipush 30, 2) := by decide +kernel
theorem dX1_becomeValue_29 : decode cX1_becomeValue 29 = .ok (.lshr, 1) := by decide +kernel
theorem dX1_becomeValue_30 : decode cX1_becomeValue 30 = .ok (.ldc2_w 30, 3) := by decide +kernel
theorem dX1_becomeValue_33 : decode cX1_becomeValue 33 = .ok (.land, 1) := by decide +kernel
theorem dX1_becomeValue_34 : decode cX1_becomeValue 34 = .ok (.l2i, 1) := by decide +kernel
theorem dX1_becomeValue_35 : decode cX1_becomeValue 35 = .ok (.iastore, 1) := by decide +kernel
theorem dX1_becomeValue_36 : decode cX1_becomeValue 36 = .ok (.aload_n 0, 1) := by decide +kernel
theorem dX1_becomeValue_37 : decode cX1_becomeValue 37 = .ok (.iconst 2, 1) := by decide +kernel
theorem dX1_becomeValue_38 : decode cX1_becomeValue 38 = .ok (.invokevirtual 32, 3) := by decide +kernel
theorem dX1_becomeValue_41 : decode cX1_becomeValue 41 = .ok (.aload_n 0, 1) := by decide +kernel
theorem dX1_becomeValue_42 : decode cX1_becomeValue 42 = .ok (.getfield 13, 3) := by decide +kernel
theorem dX1_becomeValue_45 : decode cX1_becomeValue 45 = .ok (.ifCond .le 18, 3) := by decide +kernel
theorem dX1_becomeValue_48 : decode cX1_becomeValue 48 = .ok (.aload_n 0, 1) := by decide +kernel
theorem dX1_becomeValue_49 : decode cX1_becomeValue 49 = .ok (.lload_n 1, 1) := by decide +kernel
theorem dX1_becomeValue_50 : decode cX1_becomeValue 50 = .ok (.lconst 0, 1) := by decide +kernel
theorem dX1_becomeValue_51 : decode cX1_becomeValue 51 = .ok (.lcmp, 1) := by decide +kernel
theorem dX1_becomeValue_52 : decode cX1_becomeValue 52 = .ok (.ifCond .ge 7, 3) := by decide +kernel
theorem dX1_becomeValue_55 : decode cX1_becomeValue 55 = .ok (.iconst 1, 1) := by decide +kernel
theorem dX1_becomeValue_56 : decode cX1_becomeValue 56 = .ok (.goto 4, 3) := by decide +kernel
theorem dX1_becomeValue_59 : decode cX1_becomeValue 59 = .ok (.iconst 0, 1) := by decide +kernel
theorem dX1_becomeValue_60 : decode cX1_becomeValue 60 = .ok (.putfield 17, 3) := by decide +kernel
theorem dX1_becomeValue_63 : decode cX1_becomeValue 63 = .ok (.return_, 1) := by decide +kernel
theorem dX1_become_0 : decode cX1_become 0 = .ok (.aload_n 1, 1) := by decide +kernel
theorem dX1_become_1 : decode cX1_become 1 = .ok (.getfield 9, 3) := by decide +kernel
theorem dX1_become_4 : decode cX1_become 4 = .ok (.iconst 0, 1) := by decide +kernel
theorem dX1_become_5 : decode cX1_become 5 = .ok (.aload_n 0, 1) := by decide +kernel
theorem dX1_become_6 : decode cX1_become 6 = .ok (.getfield 9, 3) := by decide +kernel
theorem dX1_become_9 : decode cX1_become 9 = .ok (.iconst 0, 1) := by decide +kernel
theorem dX1_become_10 : decode cX1_become 10 = .ok (.bipush 20, 2) := by decide +kernel
theorem dX1_become_12 : decode cX1_become 12 = .ok (.invokestatic 36, 3) := by decide +kernel
theorem dX1_become_15 : decode cX1_become 15 = .ok (.aload_n 0, 1) := by decide +kernel
theorem dX1_become_16 : decode cX1_become 16 = .ok (.aload_n 1, 1) := by decide +kernel
theorem dX1_become_17 : decode cX1_become 17 = .ok (.getfield 13, 3) := by decide +kernel
theorem dX1_become_20 : decode cX1_become 20 = .ok (.putfield 13, 3) := by decide +kernel
theorem dX1_become_23 : decode cX1_become 23 = .ok (.aload_n 0, 1) := by decide +kernel
theorem dX1_become_24 : decode cX1_become 24 = .ok (.aload_n 1, 1) := by decide +kernel
theorem dX1_become_25 : decode cX1_become 25 = .ok (.getfield 17, 3) := by decide +kernel
theorem dX1_become_28 : decode cX1_become 28 = .ok (.putfield 17, 3) := by decide +kernel
theorem dX1_become_31 : decode cX1_become 31 = .ok (.return_, 1) := by decide +kernel
theorem dX1_becomeMagnitude_0 : decode cX1_becomeMagnitude 0 = .ok (.aload_n 0, 1) := by decide +kernel
theorem dX1_becomeMagnitude_1 : decode cX1_becomeMagnitude 1 = .ok (.aload_n 1, 1) := by decide +kernel
theorem dX1_becomeMagnitude_2 : decode cX1_becomeMagnitude 2 = .ok (.invokevirtual 42, 3) := by decide +kernel
theorem dX1_becomeMagnitude_5 : decode cX1_becomeMagnitude 5 = .ok (.aload_n 0, 1) := by decide +kernel
theorem dX1_becomeMagnitude_6 : decode cX1_becomeMagnitude 6 = .ok (.iconst 0, 1) := by decide +kernel
theorem dX1_becomeMagnitude_7 : decode cX1_becomeMagnitude 7 = .ok (.putfield 17, 3) := by decide +kernel
theorem dX1_becomeMagnitude_10 : decode cX1_becomeMagnitude 10 = .ok (.return_, 1) := by decide +kernel
theorem dX1_becomeProduct_0 : decode cX1_becomeProduct 0 = .ok (.aload_n 0, 1) := by decide +kernel
theorem dX1_becomeProduct_1 : decode cX1_becomeProduct 1 = .ok (.invokevirtual 21, 3) := by decide +kernel
theorem dX1_becomeProduct_4 : decode cX1_becomeProduct 4 = .ok (.iconst 0, 1) := by decide +kernel
theorem dX1_becomeProduct_5 : decode cX1_becomeProduct 5 = .ok (.istore_n 3, 1) := by decide +kernel
theorem dX1_becomeProduct_6 : decode cX1_becomeProduct 6 = .ok (.iload_n 3, 1) := by decide +kernel
theorem dX1_becomeProduct_7 : decode cX1_becomeProduct 7 = .ok (.aload_n 1, 1) := by decide +kernel
theorem dX1_becomeProduct_8 : decode cX1_becomeProduct 8 = .ok (.getfield 13, 3) := by decide +kernel
theorem dX1_becomeProduct_11 : decode cX1_becomeProduct 11 = .ok (.if_icmp .ge 23, 3) := by decide +kernel
theorem dX1_becomeProduct_14 : decode cX1_becomeProduct 14 = .ok (.aload_n 0, 1) := by decide +kernel
theorem dX1_becomeProduct_15 : decode cX1_becomeProduct 15 = .ok (.aload_n 2, 1) := by decide +kernel
theorem dX1_becomeProduct_16 : decode cX1_becomeProduct 16 = .ok (.iload_n 3, 1) := by decide +kernel
theorem dX1_becomeProduct_17 : decode cX1_becomeProduct 17 = .ok (.aload_n 1, 1) := by decide +kernel
theorem dX1_becomeProduct_18 : decode cX1_becomeProduct 18 = .ok (.getfield 9, 3) := by decide +kernel
theorem dX1_becomeProduct_21 : decode cX1_becomeProduct 21 = .ok (.iload_n 3, 1) := by decide +kernel
theorem dX1_becomeProduct_22 : decode cX1_becomeProduct 22 = .ok (.iaload, 1) := by decide +kernel
theorem dX1_becomeProduct_23 : decode cX1_becomeProduct 23 = .ok (.i2l, 1) := by decide +kernel
theorem dX1_becomeProduct_24 : decode cX1_becomeProduct 24 = .ok (.invokevirtual 46, 3) := by decide +kernel
theorem dX1_becomeProduct_27 : decode cX1_becomeProduct 27 = .ok (.pop2, 1) := by decide +kernel
theorem dX1_becomeProduct_28 : decode cX1_becomeProduct 28 = .ok (.iinc 3 1, 3) := by decide +kernel
theorem dX1_becomeProduct_31 : decode cX1_becomeProduct 31 = .ok (.goto (-25), 3) := by decide +kernel
theorem dX1_becomeProduct_34 : decode cX1_becomeProduct 34 = .ok (.aload_n 0, 1) := by decide +kernel
theorem dX1_becomeProduct_35 : decode cX1_becomeProduct 35 = .ok (.bipush 20, 2) := by decide +kernel
theorem dX1_becomeProduct_37 : decode cX1_becomeProduct 37 = .ok (.aload_n 1, 1) := by decide +kernel
theorem dX1_becomeProduct_38 : decode cX1_becomeProduct 38 = .ok (.getfield 13, 3) := by decide +kernel
theorem dX1_becomeProduct_41 : decode cX1_becomeProduct 41 = .ok (.aload_n 2, 1) := by decide +kernel
theorem dX1_becomeProduct_42 : decode cX1_becomeProduct 42 = .ok (.getfield 13, 3) := by decide +kernel
theorem dX1_becomeProduct_45 : decode cX1_becomeProduct 45 = .ok (.iadd, 1) := by decide +kernel
theorem dX1_becomeProduct_46 : decode cX1_becomeProduct 46 = .ok (.invokestatic 50, 3) := by decide +kernel
theorem dX1_becomeProduct_49 : decode cX1_becomeProduct 49 = .ok (.invokevirtual 32, 3) := by decide +kernel
theorem dX1_becomeProduct_52 : decode cX1_becomeProduct 52 = .ok (.aload_n 0, 1) := by decide +kernel
theorem dX1_becomeProduct_53 : decode cX1_becomeProduct 53 = .ok (.getfield 13, 3) := by decide +kernel
theorem dX1_becomeProduct_56 : decode cX1_becomeProduct 56 = .ok (.ifCond .le 23, 3) := by decide +kernel
theorem dX1_becomeProduct_59 : decode cX1_becomeProduct 59 = .ok (.aload_n 0, 1) := by decide +kernel
theorem dX1_becomeProduct_60 : decode cX1_becomeProduct 60 = .ok (.aload_n 1, 1) := by decide +kernel
theorem dX1_becomeProduct_61 : decode cX1_becomeProduct 61 = .ok (.getfield 17, 3) := by decide +kernel
theorem dX1_becomeProduct_64 : decode cX1_becomeProduct 64 = .ok (.aload_n 2, 1) := by decide +kernel
theorem dX1_becomeProduct_65 : decode cX1_becomeProduct 65 = .ok (.getfield 17, 3) := by decide +kernel
theorem dX1_becomeProduct_68 : decode cX1_becomeProduct 68 = .ok (.if_icmp .eq 7, 3) := by decide +kernel
theorem dX1_becomeProduct_71 : decode cX1_becomeProduct 71 = .ok (.iconst 1, 1) := by decide +kernel
theorem dX1_becomeProduct_72 : decode cX1_becomeProduct 72 = .ok (.goto 4, 3) := by decide +kernel
theorem dX1_becomeProduct_75 : decode cX1_becomeProduct 75 = .ok (.iconst 0, 1) := by decide +kernel
theorem dX1_becomeProduct_76 : decode cX1_becomeProduct 76 = .ok (.putfield 17, 3) := by decide +kernel
theorem dX1_becomeProduct_79 : decode cX1_becomeProduct 79 = .ok (.return_, 1) := by decide +kernel
theorem dX1_flipSign_0 : decode cX1_flipSign 0 = .ok (.aload_n 0, 1) := by decide +kernel
theorem dX1_flipSign_1 : decode cX1_flipSign 1 = .ok (.getfield 13, 3) := by decide +kernel
theorem dX1_flipSign_4 : decode cX1_flipSign 4 = .ok (.ifCond .le 19, 3) := by decide +kernel
theorem dX1_flipSign_7 : decode cX1_flipSign 7 = .ok (.aload_n 0, 1) := by decide +kernel
theorem dX1_flipSign_8 : decode cX1_flipSign 8 = .ok (.aload_n 0, 1) := by decide +kernel
theorem dX1_flipSign_9 : decode cX1_flipSign 9 = .ok (.getfield 17, 3) := by decide +kernel
theorem dX1_flipSign_12 : decode cX1_flipSign 12 = .ok (.ifCond .ne 7, 3) := by decide +kernel
theorem dX1_flipSign_15 : decode cX1_flipSign 15 = .ok (.iconst 1, 1) := by decide +kernel
theorem dX1_flipSign_16 : decode cX1_flipSign 16 = .ok (.goto 4, 3) := by decide +kernel
theorem dX1_flipSign_19 : decode cX1_flipSign 19 = .ok (.iconst 0, 1) := by decide +kernel
theorem dX1_flipSign_20 : decode cX1_flipSign 20 = .ok (.putfield 17, 3) := by decide +kernel
theorem dX1_flipSign_23 : decode cX1_flipSign 23 = .ok (.return_, 1) := by decide +kernel
theorem dX1_plus_0 : decode cX1_plus 0 = .ok (.aload_n 0, 1) := by decide +kernel
theorem dX1_plus_1 : decode cX1_plus 1 = .ok (.getfield 17, 3) := by decide +kernel
theorem dX1_plus_4 : decode cX1_plus 4 = .ok (.aload_n 1, 1) := by decide +kernel
theorem dX1_plus_5 : decode cX1_plus 5 = .ok (.getfield 17, 3) := by decide +kernel
theorem dX1_plus_8 : decode cX1_plus 8 = .ok (.if_icmp .ne 7, 3) := by decide +kernel
theorem dX1_plus_11 : decode cX1_plus 11 = .ok (.iconst 1, 1) := by decide +kernel
theorem dX1_plus_12 : decode cX1_plus 12 = .ok (.goto 4, 3) := by decide +kernel
theorem dX1_plus_15 : decode cX1_plus 15 = .ok (.iconst (-1), 1) := by decide +kernel
theorem dX1_plus_16 : decode cX1_plus 16 = .ok (.istore_n 2, 1) := by decide +kernel
theorem dX1_plus_17 : decode cX1_plus 17 = .ok (.bipush 20, 2) := by decide +kernel
theorem dX1_plus_19 : decode cX1_plus 19 = .ok (.aload_n 0, 1) := by decide +kernel
theorem dX1_plus_20 : decode cX1_plus 20 = .ok (.getfield 13, 3) := by decide +kernel
theorem dX1_plus_23 : decode cX1_plus 23 = .ok (.aload_n 1, 1) := by decide +kernel
theorem dX1_plus_24 : decode cX1_plus 24 = .ok (.getfield 13, 3) := by decide +kernel
theorem dX1_plus_27 : decode cX1_plus 27 = .ok (.invokestatic 54, 3) := by decide +kernel
theorem dX1_plus_30 : decode cX1_plus 30 = .ok (.iconst 1, 1) := by decide +kernel
theorem dX1_plus_31 : decode cX1_plus 31 = .ok (.iadd, 1) := by decide +kernel
theorem dX1_plus_32 : decode cX1_plus 32 = .ok (.invokestatic 50, 3) := by decide +kernel
theorem dX1_plus_35 : decode cX1_plus 35 = .ok (.istore_n 3, 1) := by decide +kernel
theorem dX1_plus_36 : decode cX1_plus 36 = .ok (.lconst 0, 1) := by decide +kernel
theorem dX1_plus_37 : decode cX1_plus 37 = .ok (.lstore 4, 2) := by decide +kernel
theorem dX1_plus_39 : decode cX1_plus 39 = .ok (.iconst 0, 1) := by decide +kernel
theorem dX1_plus_40 : decode cX1_plus 40 = .ok (.istore 6, 2) := by decide +kernel
theorem dX1_plus_42 : decode cX1_plus 42 = .ok (.iload 6, 2) := by decide +kernel
theorem dX1_plus_44 : decode cX1_plus 44 = .ok (.iload_n 3, 1) := by decide +kernel
theorem dX1_plus_45 : decode cX1_plus 45 = .ok (.if_icmp .ge 55, 3) := by decide +kernel
theorem dX1_plus_48 : decode cX1_plus 48 = .ok (.aload_n 0, 1) := by decide +kernel
theorem dX1_plus_49 : decode cX1_plus 49 = .ok (.getfield 9, 3) := by decide +kernel
theorem dX1_plus_52 : decode cX1_plus 52 = .ok (.iload 6, 2) := by decide +kernel
theorem dX1_plus_54 : decode cX1_plus 54 = .ok (.iaload, 1) := by decide +kernel
theorem dX1_plus_55 : decode cX1_plus 55 = .ok (.i2l, 1) := by decide +kernel
theorem dX1_plus_56 : decode cX1_plus 56 = .ok (.iload_n 2, 1) := by decide +kernel
theorem dX1_plus_57 : decode cX1_plus 57 = .ok (.i2l, 1) := by decide +kernel
theorem dX1_plus_58 : decode cX1_plus 58 = .ok (.aload_n 1, 1) := by decide +kernel
theorem dX1_plus_59 : decode cX1_plus 59 = .ok (.getfield 9, 3) := by decide +kernel
theorem dX1_plus_62 : decode cX1_plus 62 = .ok (.iload 6, 2) := by decide +kernel
theorem dX1_plus_64 : decode cX1_plus 64 = .ok (.iaload, 1) := by decide +kernel
theorem dX1_plus_65 : decode cX1_plus 65 = .ok (.i2l, 1) := by decide +kernel
theorem dX1_plus_66 : decode cX1_plus 66 = .ok (.lmul, 1) := by decide +kernel
theorem dX1_plus_67 : decode cX1_plus 67 = .ok (.ladd, 1) := by decide +kernel
theorem dX1_plus_68 : decode cX1_plus 68 = .ok (.lload 4, 2) := by decide +kernel
theorem dX1_plus_70 : decode cX1_plus 70 = .ok (.ladd, 1) := by decide +kernel
theorem dX1_plus_71 : decode cX1_plus 71 = .ok (.lstore 7, 2) := by decide +kernel
theorem dX1_plus_73 : decode cX1_plus 73 = .ok (.aload_n 0, 1) := by decide +kernel
theorem dX1_plus_74 : decode cX1_plus 74 = .ok (.getfield 9, 3) := by decide +kernel
theorem dX1_plus_77 : decode cX1_plus 77 = .ok (.iload 6, 2) := by decide +kernel
theorem dX1_plus_79 : decode cX1_plus 79 = .ok (.lload 7, 2) := by decide +kernel
theorem dX1_plus_81 : decode cX1_plus 81 = .ok (.ldc2_w 30, 3) := by decide +kernel
theorem dX1_plus_84 : decode cX1_plus 84 = .ok (.land, 1) := by decide +kernel
theorem dX1_plus_85 : decode cX1_plus 85 = .ok (.l2i, 1) := by decide +kernel
theorem dX1_plus_86 : decode cX1_plus 86 = .ok (.iastore, 1) := by decide +kernel
theorem dX1_plus_87 : decode cX1_plus 87 = .ok (.lload 7, 2) := by decide +kernel
theorem dX1_plus_89 : decode cX1_plus 89 = .ok (.bipush 30, 2) := by decide +kernel
theorem dX1_plus_91 : decode cX1_plus 91 = .ok (.lshr, 1) := by decide +kernel
theorem dX1_plus_92 : decode cX1_plus 92 = .ok (.lstore 4, 2) := by decide +kernel
theorem dX1_plus_94 : decode cX1_plus 94 = .ok (.iinc 6 1, 3) := by decide +kernel
theorem dX1_plus_97 : decode cX1_plus 97 = .ok (.goto (-55), 3) := by decide +kernel
theorem dX1_plus_100 : decode cX1_plus 100 = .ok (.lload 4, 2) := by decide +kernel
theorem dX1_plus_102 : decode cX1_plus 102 = .ok (.lconst 0, 1) := by decide +kernel
theorem dX1_plus_103 : decode cX1_plus 103 = .ok (.lcmp, 1) := by decide +kernel
theorem dX1_plus_104 : decode cX1_plus 104 = .ok (.ifCond .ge 24, 3) := by decide +kernel
theorem dX1_plus_107 : decode cX1_plus 107 = .ok (.aload_n 0, 1) := by decide +kernel
theorem dX1_plus_108 : decode cX1_plus 108 = .ok (.iload_n 3, 1) := by decide +kernel
theorem dX1_plus_109 : decode cX1_plus 109 = .ok (.invokevirtual 57, 3) := by decide +kernel
theorem dX1_plus_112 : decode cX1_plus 112 = .ok (.aload_n 0, 1) := by decide +kernel
theorem dX1_plus_113 : decode cX1_plus 113 = .ok (.aload_n 0, 1) := by decide +kernel
theorem dX1_plus_114 : decode cX1_plus 114 = .ok (.getfield 17, 3) := by decide +kernel
theorem dX1_plus_117 : decode cX1_plus 117 = .ok (.ifCond .ne 7, 3) := by decide +kernel
theorem dX1_plus_120 : decode cX1_plus 120 = .ok (.iconst 1, 1) := by decide +kernel
theorem dX1_plus_121 : decode cX1_plus 121 = .ok (.goto 4, 3) := by decide +kernel
theorem dX1_plus_124 : decode cX1_plus 124 = .ok (.iconst 0, 1) := by decide +kernel
theorem dX1_plus_125 : decode cX1_plus 125 = .ok (.putfield 17, 3) := by decide +kernel
theorem dX1_plus_128 : decode cX1_plus 128 = .ok (.aload_n 0, 1) := by decide +kernel
theorem dX1_plus_129 : decode cX1_plus 129 = .ok (.iload_n 3, 1) := by decide +kernel
theorem dX1_plus_130 : decode cX1_plus 130 = .ok (.invokevirtual 32, 3) := by decide +kernel
theorem dX1_plus_133 : decode cX1_plus 133 = .ok (.return_, 1) := by decide +kernel
theorem dX1_multiplyBy_0 : decode cX1_multiplyBy 0 = .ok (.iload_n 1, 1) := by decide +kernel
theorem dX1_multiplyBy_1 : decode cX1_multiplyBy 1 = .ok (.ifCond .ne 8, 3) := by decide +kernel
theorem dX1_multiplyBy_4 : decode cX1_multiplyBy 4 = .ok (.aload_n 0, 1) := by decide +kernel
theorem dX1_multiplyBy_5 : decode cX1_multiplyBy 5 = .ok (.invokevirtual 21, 3) := by decide +kernel
theorem dX1_multiplyBy_8 : decode cX1_multiplyBy 8 = .ok (.return_, 1) := by decide +kernel
theorem dX1_multiplyBy_9 : decode cX1_multiplyBy 9 = .ok (.aload_n 0, 1) := by decide +kernel
theorem dX1_multiplyBy_10 : decode cX1_multiplyBy 10 = .ok (.iload_n 1, 1) := by decide +kernel
theorem dX1_multiplyBy_11 : decode cX1_multiplyBy 11 = .ok (.i2l, 1) := by decide +kernel
theorem dX1_multiplyBy_12 : decode cX1_multiplyBy 12 = .ok (.invokestatic 24, 3) := by decide +kernel
theorem dX1_multiplyBy_15 : decode cX1_multiplyBy 15 = .ok (.invokevirtual 60, 3) := by decide +kernel
theorem dX1_multiplyBy_18 : decode cX1_multiplyBy 18 = .ok (.iload_n 1, 1) := by decide +kernel
theorem dX1_multiplyBy_19 : decode cX1_multiplyBy 19 = .ok (.ifCond .ge 7, 3) := by decide +kernel
theorem dX1_multiplyBy_22 : decode cX1_multiplyBy 22 = .ok (.aload_n 0, 1) := by decide +kernel
theorem dX1_multiplyBy_23 : decode cX1_multiplyBy 23 = .ok (.invokevirtual 64, 3) := by decide +kernel
theorem dX1_multiplyBy_26 : decode cX1_multiplyBy 26 = .ok (.return_, 1) := by decide +kernel
theorem dX1_magnify_0 : decode cX1_magnify 0 = .ok (.lconst 0, 1) := by decide +kernel
theorem dX1_magnify_1 : decode cX1_magnify 1 = .ok (.lstore_n 3, 1) := by decide +kernel
theorem dX1_magnify_2 : decode cX1_magnify 2 = .ok (.iconst 0, 1) := by decide +kernel
theorem dX1_magnify_3 : decode cX1_magnify 3 = .ok (.istore 5, 2) := by decide +kernel
theorem dX1_magnify_5 : decode cX1_magnify 5 = .ok (.iload 5, 2) := by decide +kernel
theorem dX1_magnify_7 : decode cX1_magnify 7 = .ok (.bipush 20, 2) := by decide +kernel
theorem dX1_magnify_9 : decode cX1_magnify 9 = .ok (.if_icmp .ge 58, 3) := by decide +kernel
theorem dX1_magnify_12 : decode cX1_magnify 12 = .ok (.iload 5, 2) := by decide +kernel
theorem dX1_magnify_14 : decode cX1_magnify 14 = .ok (.aload_n 0, 1) := by decide +kernel
theorem dX1_magnify_15 : decode cX1_magnify 15 = .ok (.getfield 13, 3) := by decide +kernel
theorem dX1_magnify_18 : decode cX1_magnify 18 = .ok (.if_icmp .lt 9, 3) := by decide +kernel
theorem dX1_magnify_21 : decode cX1_magnify 21 = .ok (.lload_n 3, 1) := by decide +kernel
theorem dX1_magnify_22 : decode cX1_magnify 22 = .ok (.lconst 0, 1) := by decide +kernel
theorem dX1_magnify_23 : decode cX1_magnify 23 = .ok (.lcmp, 1) := by decide +kernel
theorem dX1_magnify_24 : decode cX1_magnify 24 = .ok (.ifCond .eq 43, 3) := by decide +kernel
theorem dX1_magnify_27 : decode cX1_magnify 27 = .ok (.aload_n 0, 1) := by decide +kernel
theorem dX1_magnify_28 : decode cX1_magnify 28 = .ok (.getfield 9, 3) := by decide +kernel
theorem dX1_magnify_31 : decode cX1_magnify 31 = .ok (.iload 5, 2) := by decide +kernel
theorem dX1_magnify_33 : decode cX1_magnify 33 = .ok (.iaload, 1) := by decide +kernel
theorem dX1_magnify_34 : decode cX1_magnify 34 = .ok (.i2l, 1) := by decide +kernel
theorem dX1_magnify_35 : decode cX1_magnify 35 = .ok (.lload_n 1, 1) := by decide +kernel
theorem dX1_magnify_36 : decode cX1_magnify 36 = .ok (.lmul, 1) := by decide +kernel
theorem dX1_magnify_37 : decode cX1_magnify 37 = .ok (.lload_n 3, 1) := by decide +kernel
theorem dX1_magnify_38 : decode cX1_magnify 38 = .ok (.ladd, 1) := by decide +kernel
theorem dX1_magnify_39 : decode cX1_magnify 39 = .ok (.lstore 6, 2) := by decide +kernel
theorem dX1_magnify_41 : decode cX1_magnify 41 = .ok (.aload_n 0, 1) := by decide +kernel
theorem dX1_magnify_42 : decode cX1_magnify 42 = .ok (.getfield 9, 3) := by decide +kernel
theorem dX1_magnify_45 : decode cX1_magnify 45 = .ok (.iload 5, 2) := by decide +kernel
theorem dX1_magnify_47 : decode cX1_magnify 47 = .ok (.lload 6, 2) := by decide +kernel
theorem dX1_magnify_49 : decode cX1_magnify 49 = .ok (.ldc2_w 30, 3) := by decide +kernel
theorem dX1_magnify_52 : decode cX1_magnify 52 = .ok (.land, 1) := by decide +kernel
theorem dX1_magnify_53 : decode cX1_magnify 53 = .ok (.l2i, 1) := by decide +kernel
theorem dX1_magnify_54 : decode cX1_magnify 54 = .ok (.iastore, 1) := by decide +kernel
theorem dX1_magnify_55 : decode cX1_magnify 55 = .ok (.lload 6, 2) := by decide +kernel
theorem dX1_magnify_57 : decode cX1_magnify 57 = .ok (.bipush 30, 2) := by decide +kernel
theorem dX1_magnify_59 : decode cX1_magnify 59 = .ok (.lshr, 1) := by decide +kernel
theorem dX1_magnify_60 : decode cX1_magnify 60 = .ok (.lstore_n 3, 1) := by decide +kernel
theorem dX1_magnify_61 : decode cX1_magnify 61 = .ok (.iinc 5 1, 3) := by decide +kernel
theorem dX1_magnify_64 : decode cX1_magnify 64 = .ok (.goto (-59), 3) := by decide +kernel
theorem dX1_magnify_67 : decode cX1_magnify 67 = .ok (.aload_n 0, 1) := by decide +kernel
theorem dX1_magnify_68 : decode cX1_magnify 68 = .ok (.iload 5, 2) := by decide +kernel
theorem dX1_magnify_70 : decode cX1_magnify 70 = .ok (.putfield 13, 3) := by decide +kernel
theorem dX1_magnify_73 : decode cX1_magnify 73 = .ok (.return_, 1) := by decide +kernel
theorem dX1_reduceBy_0 : decode cX1_reduceBy 0 = .ok (.aload_n 3, 1) := by decide +kernel
theorem dX1_reduceBy_1 : decode cX1_reduceBy 1 = .ok (.invokevirtual 21, 3) := by decide +kernel
theorem dX1_reduceBy_4 : decode cX1_reduceBy 4 = .ok (.aload_n 0, 1) := by decide +kernel
theorem dX1_reduceBy_5 : decode cX1_reduceBy 5 = .ok (.iconst 0, 1) := by decide +kernel
theorem dX1_reduceBy_6 : decode cX1_reduceBy 6 = .ok (.putfield 17, 3) := by decide +kernel
theorem dX1_reduceBy_9 : decode cX1_reduceBy 9 = .ok (.aload_n 1, 1) := by decide +kernel
theorem dX1_reduceBy_10 : decode cX1_reduceBy 10 = .ok (.getfield 13, 3) := by decide +kernel
theorem dX1_reduceBy_13 : decode cX1_reduceBy 13 = .ok (.istore 4, 2) := by decide +kernel
theorem dX1_reduceBy_15 : decode cX1_reduceBy 15 = .ok (.iload 4, 2) := by decide +kernel
theorem dX1_reduceBy_17 : decode cX1_reduceBy 17 = .ok (.ifCond .eq 12, 3) := by decide +kernel
theorem dX1_reduceBy_20 : decode cX1_reduceBy 20 = .ok (.aload_n 0, 1) := by decide +kernel
theorem dX1_reduceBy_21 : decode cX1_reduceBy 21 = .ok (.getfield 13, 3) := by decide +kernel
theorem dX1_reduceBy_24 : decode cX1_reduceBy 24 = .ok (.iload 4, 2) := by decide +kernel
theorem dX1_reduceBy_26 : decode cX1_reduceBy 26 = .ok (.if_icmp .ge 4, 3) := by decide +kernel
theorem dX1_reduceBy_29 : decode cX1_reduceBy 29 = .ok (.return_, 1) := by decide +kernel
theorem dX1_reduceBy_30 : decode cX1_reduceBy 30 = .ok (.ldc 67, 2) := by decide +kernel
theorem dX1_reduceBy_32 : decode cX1_reduceBy 32 = .ok (.iconst 1, 1) := by decide +kernel
theorem dX1_reduceBy_33 : decode cX1_reduceBy 33 = .ok (.aload_n 1, 1) := by decide +kernel
theorem dX1_reduceBy_34 : decode cX1_reduceBy 34 = .ok (.getfield 9, 3) := by decide +kernel
theorem dX1_reduceBy_37 : decode cX1_reduceBy 37 = .ok (.iload 4, 2) := by decide +kernel
theorem dX1_reduceBy_39 : decode cX1_reduceBy 39 = .ok (.iconst 1, 1) := by decide +kernel
theorem dX1_reduceBy_40 : decode cX1_reduceBy 40 = .ok (.isub, 1) := by decide +kernel
theorem dX1_reduceBy_41 : decode cX1_reduceBy 41 = .ok (.iaload, 1) := by decide +kernel
theorem dX1_reduceBy_42 : decode cX1_reduceBy 42 = .ok (.iconst 1, 1) := by decide +kernel
theorem dX1_reduceBy_43 : decode cX1_reduceBy 43 = .ok (.iadd, 1) := by decide +kernel
theorem dX1_reduceBy_44 : decode cX1_reduceBy 44 = .ok (.invokestatic 54, 3) := by decide +kernel
theorem dX1_reduceBy_47 : decode cX1_reduceBy 47 = .ok (.idiv, 1) := by decide +kernel
theorem dX1_reduceBy_48 : decode cX1_reduceBy 48 = .ok (.istore 5, 2) := by decide +kernel
theorem dX1_reduceBy_50 : decode cX1_reduceBy 50 = .ok (.aload_n 2, 1) := by decide +kernel
theorem dX1_reduceBy_51 : decode cX1_reduceBy 51 = .ok (.aload_n 1, 1) := by decide +kernel
theorem dX1_reduceBy_52 : decode cX1_reduceBy 52 = .ok (.invokevirtual 42, 3) := by decide +kernel
theorem dX1_reduceBy_55 : decode cX1_reduceBy 55 = .ok (.aload_n 2, 1) := by decide +kernel
theorem dX1_reduceBy_56 : decode cX1_reduceBy 56 = .ok (.iload 5, 2) := by decide +kernel
theorem dX1_reduceBy_58 : decode cX1_reduceBy 58 = .ok (.i2l, 1) := by decide +kernel
theorem dX1_reduceBy_59 : decode cX1_reduceBy 59 = .ok (.invokevirtual 60, 3) := by decide +kernel
theorem dX1_reduceBy_62 : decode cX1_reduceBy 62 = .ok (.aload_n 0, 1) := by decide +kernel
theorem dX1_reduceBy_63 : decode cX1_reduceBy 63 = .ok (.iload 5, 2) := by decide +kernel
theorem dX1_reduceBy_65 : decode cX1_reduceBy 65 = .ok (.i2l, 1) := by decide +kernel
theorem dX1_reduceBy_66 : decode cX1_reduceBy 66 = .ok (.invokevirtual 60, 3) := by decide +kernel
theorem dX1_reduceBy_69 : decode cX1_reduceBy 69 = .ok (.iconst 1, 1) := by decide +kernel
theorem dX1_reduceBy_70 : decode cX1_reduceBy 70 = .ok (.aload_n 2, 1) := by decide +kernel
theorem dX1_reduceBy_71 : decode cX1_reduceBy 71 = .ok (.getfield 9, 3) := by decide +kernel
theorem dX1_reduceBy_74 : decode cX1_reduceBy 74 = .ok (.iload 4, 2) := by decide +kernel
theorem dX1_reduceBy_76 : decode cX1_reduceBy 76 = .ok (.iconst 1, 1) := by decide +kernel
theorem dX1_reduceBy_77 : decode cX1_reduceBy 77 = .ok (.isub, 1) := by decide +kernel
theorem dX1_reduceBy_78 : decode cX1_reduceBy 78 = .ok (.iaload, 1) := by decide +kernel
theorem dX1_reduceBy_79 : decode cX1_reduceBy 79 = .ok (.invokestatic 54, 3) := by decide +kernel
theorem dX1_reduceBy_82 : decode cX1_reduceBy 82 = .ok (.istore 6, 2) := by decide +kernel
theorem dX1_reduceBy_84 : decode cX1_reduceBy 84 = .ok (.aload_n 0, 1) := by decide +kernel
theorem dX1_reduceBy_85 : decode cX1_reduceBy 85 = .ok (.getfield 13, 3) := by decide +kernel
theorem dX1_reduceBy_88 : decode cX1_reduceBy 88 = .ok (.iload 4, 2) := by decide +kernel
theorem dX1_reduceBy_90 : decode cX1_reduceBy 90 = .ok (.isub, 1) := by decide +kernel
theorem dX1_reduceBy_91 : decode cX1_reduceBy 91 = .ok (.istore 7, 2) := by decide +kernel
theorem dX1_reduceBy_93 : decode cX1_reduceBy 93 = .ok (.iload 7, 2) := by decide +kernel
theorem dX1_reduceBy_95 : decode cX1_reduceBy 95 = .ok (.ifCond .lt 141, 3) := by decide +kernel
theorem dX1_reduceBy_98 : decode cX1_reduceBy 98 = .ok (.iload 7, 2) := by decide +kernel
theorem dX1_reduceBy_100 : decode cX1_reduceBy 100 = .ok (.iload 4, 2) := by decide +kernel
theorem dX1_reduceBy_102 : decode cX1_reduceBy 102 = .ok (.iadd, 1) := by decide +kernel
theorem dX1_reduceBy_103 : decode cX1_reduceBy 103 = .ok (.bipush 20, 2) := by decide +kernel
theorem dX1_reduceBy_105 : decode cX1_reduceBy 105 = .ok (.if_icmp .ge 17, 3) := by decide +kernel
theorem dX1_reduceBy_108 : decode cX1_reduceBy 108 = .ok (.aload_n 0, 1) := by decide +kernel
theorem dX1_reduceBy_109 : decode cX1_reduceBy 109 = .ok (.getfield 9, 3) := by decide +kernel
theorem dX1_reduceBy_112 : decode cX1_reduceBy 112 = .ok (.iload 7, 2) := by decide +kernel
theorem dX1_reduceBy_114 : decode cX1_reduceBy 114 = .ok (.iload 4, 2) := by decide +kernel
theorem dX1_reduceBy_116 : decode cX1_reduceBy 116 = .ok (.iadd, 1) := by decide +kernel
theorem dX1_reduceBy_117 : decode cX1_reduceBy 117 = .ok (.iaload, 1) := by decide +kernel
theorem dX1_reduceBy_118 : decode cX1_reduceBy 118 = .ok (.i2l, 1) := by decide +kernel
theorem dX1_reduceBy_119 : decode cX1_reduceBy 119 = .ok (.goto 4, 3) := by decide +kernel
theorem dX1_reduceBy_122 : decode cX1_reduceBy 122 = .ok (.lconst 0, 1) := by decide +kernel
theorem dX1_reduceBy_123 : decode cX1_reduceBy 123 = .ok (.lstore 8, 2) := by decide +kernel
theorem dX1_reduceBy_125 : decode cX1_reduceBy 125 = .ok (.lload 8, 2) := by decide +kernel
theorem dX1_reduceBy_127 : decode cX1_reduceBy 127 = .ok (.bipush 30, 2) := by decide +kernel
theorem dX1_reduceBy_129 : decode cX1_reduceBy 129 = .ok (.lshl, 1) := by decide +kernel
theorem dX1_reduceBy_130 : decode cX1_reduceBy 130 = .ok (.aload_n 0, 1) := by decide +kernel
theorem dX1_reduceBy_131 : decode cX1_reduceBy 131 = .ok (.getfield 9, 3) := by decide +kernel
theorem dX1_reduceBy_134 : decode cX1_reduceBy 134 = .ok (.iload 7, 2) := by decide +kernel
theorem dX1_reduceBy_136 : decode cX1_reduceBy 136 = .ok (.iload 4, 2) := by decide +kernel
theorem dX1_reduceBy_138 : decode cX1_reduceBy 138 = .ok (.iadd, 1) := by decide +kernel
theorem dX1_reduceBy_139 : decode cX1_reduceBy 139 = .ok (.iconst 1, 1) := by decide +kernel
theorem dX1_reduceBy_140 : decode cX1_reduceBy 140 = .ok (.isub, 1) := by decide +kernel
theorem dX1_reduceBy_141 : decode cX1_reduceBy 141 = .ok (.iaload, 1) := by decide +kernel
theorem dX1_reduceBy_142 : decode cX1_reduceBy 142 = .ok (.i2l, 1) := by decide +kernel
theorem dX1_reduceBy_143 : decode cX1_reduceBy 143 = .ok (.ladd, 1) := by decide +kernel
theorem dX1_reduceBy_144 : decode cX1_reduceBy 144 = .ok (.iload 6, 2) := by decide +kernel
theorem dX1_reduceBy_146 : decode cX1_reduceBy 146 = .ok (.i2l, 1) := by decide +kernel
theorem dX1_reduceBy_147 : decode cX1_reduceBy 147 = .ok (.ldiv, 1) := by decide +kernel
theorem dX1_reduceBy_148 : decode cX1_reduceBy 148 = .ok (.ldc2_w 30, 3) := by decide +kernel
theorem dX1_reduceBy_151 : decode cX1_reduceBy 151 = .ok (.invokestatic 68, 3) := by decide +kernel
theorem dX1_reduceBy_154 : decode cX1_reduceBy 154 = .ok (.lstore 10, 2) := by decide +kernel
theorem dX1_reduceBy_156 : decode cX1_reduceBy 156 = .ok (.lload 10, 2) := by decide +kernel
theorem dX1_reduceBy_158 : decode cX1_reduceBy 158 = .ok (.lconst 0, 1) := by decide +kernel
theorem dX1_reduceBy_159 : decode cX1_reduceBy 159 = .ok (.lcmp, 1) := by decide +kernel
theorem dX1_reduceBy_160 : decode cX1_reduceBy 160 = .ok (.ifCond .ne 7, 3) := by decide +kernel
theorem dX1_reduceBy_163 : decode cX1_reduceBy 163 = .ok (.lconst 0, 1) := by decide +kernel
theorem dX1_reduceBy_164 : decode cX1_reduceBy 164 = .ok (.goto 13, 3) := by decide +kernel
theorem dX1_reduceBy_167 : decode cX1_reduceBy 167 = .ok (.aload_n 0, 1) := by decide +kernel
theorem dX1_reduceBy_168 : decode cX1_reduceBy 168 = .ok (.aload_n 2, 1) := by decide +kernel
theorem dX1_reduceBy_169 : decode cX1_reduceBy 169 = .ok (.iload 7, 2) := by decide +kernel
theorem dX1_reduceBy_171 : decode cX1_reduceBy 171 = .ok (.lload 10, 2) := by decide +kernel
theorem dX1_reduceBy_173 : decode cX1_reduceBy 173 = .ok (.lneg, 1) := by decide +kernel
theorem dX1_reduceBy_174 : decode cX1_reduceBy 174 = .ok (.invokevirtual 46, 3) := by decide +kernel
theorem dX1_reduceBy_177 : decode cX1_reduceBy 177 = .ok (.lstore 12, 2) := by decide +kernel
theorem dX1_reduceBy_179 : decode cX1_reduceBy 179 = .ok (.iconst 0, 1) := by decide +kernel
theorem dX1_reduceBy_180 : decode cX1_reduceBy 180 = .ok (.istore 14, 2) := by decide +kernel
theorem dX1_reduceBy_182 : decode cX1_reduceBy 182 = .ok (.iload 14, 2) := by decide +kernel
theorem dX1_reduceBy_184 : decode cX1_reduceBy 184 = .ok (.iconst 3, 1) := by decide +kernel
theorem dX1_reduceBy_185 : decode cX1_reduceBy 185 = .ok (.if_icmp .ge 35, 3) := by decide +kernel
theorem dX1_reduceBy_188 : decode cX1_reduceBy 188 = .ok (.lload 12, 2) := by decide +kernel
theorem dX1_reduceBy_190 : decode cX1_reduceBy 190 = .ok (.lconst 0, 1) := by decide +kernel
theorem dX1_reduceBy_191 : decode cX1_reduceBy 191 = .ok (.lcmp, 1) := by decide +kernel
theorem dX1_reduceBy_192 : decode cX1_reduceBy 192 = .ok (.ifCond .ge 28, 3) := by decide +kernel
theorem dX1_reduceBy_195 : decode cX1_reduceBy 195 = .ok (.lload 12, 2) := by decide +kernel
theorem dX1_reduceBy_197 : decode cX1_reduceBy 197 = .ok (.aload_n 0, 1) := by decide +kernel
theorem dX1_reduceBy_198 : decode cX1_reduceBy 198 = .ok (.aload_n 2, 1) := by decide +kernel
theorem dX1_reduceBy_199 : decode cX1_reduceBy 199 = .ok (.iload 7, 2) := by decide +kernel
theorem dX1_reduceBy_201 : decode cX1_reduceBy 201 = .ok (.lconst 1, 1) := by decide +kernel
theorem dX1_reduceBy_202 : decode cX1_reduceBy 202 = .ok (.invokevirtual 46, 3) := by decide +kernel
theorem dX1_reduceBy_205 : decode cX1_reduceBy 205 = .ok (.ladd, 1) := by decide +kernel
theorem dX1_reduceBy_206 : decode cX1_reduceBy 206 = .ok (.lstore 12, 2) := by decide +kernel
theorem dX1_reduceBy_208 : decode cX1_reduceBy 208 = .ok (.lload 10, 2) := by decide +kernel
theorem dX1_reduceBy_210 : decode cX1_reduceBy 210 = .ok (.lconst 1, 1) := by decide +kernel
theorem dX1_reduceBy_211 : decode cX1_reduceBy 211 = .ok (.lsub, 1) := by decide +kernel
theorem dX1_reduceBy_212 : decode cX1_reduceBy 212 = .ok (.lstore 10, 2) := by decide +kernel
theorem dX1_reduceBy_214 : decode cX1_reduceBy 214 = .ok (.iinc 14 1, 3) := by decide +kernel
theorem dX1_reduceBy_217 : decode cX1_reduceBy 217 = .ok (.goto (-35), 3) := by decide +kernel
theorem dX1_reduceBy_220 : decode cX1_reduceBy 220 = .ok (.aload_n 3, 1) := by decide +kernel
theorem dX1_reduceBy_221 : decode cX1_reduceBy 221 = .ok (.getfield 9, 3) := by decide +kernel
theorem dX1_reduceBy_224 : decode cX1_reduceBy 224 = .ok (.iload 7, 2) := by decide +kernel
theorem dX1_reduceBy_226 : decode cX1_reduceBy 226 = .ok (.lload 10, 2) := by decide +kernel
theorem dX1_reduceBy_228 : decode cX1_reduceBy 228 = .ok (.l2i, 1) := by decide +kernel
theorem dX1_reduceBy_229 : decode cX1_reduceBy 229 = .ok (.iastore, 1) := by decide +kernel
theorem dX1_reduceBy_230 : decode cX1_reduceBy 230 = .ok (.iinc 7 (-1), 3) := by decide +kernel
theorem dX1_reduceBy_233 : decode cX1_reduceBy 233 = .ok (.goto (-140), 3) := by decide +kernel
theorem dX1_reduceBy_236 : decode cX1_reduceBy 236 = .ok (.aload_n 3, 1) := by decide +kernel
theorem dX1_reduceBy_237 : decode cX1_reduceBy 237 = .ok (.aload_n 0, 1) := by decide +kernel
theorem dX1_reduceBy_238 : decode cX1_reduceBy 238 = .ok (.getfield 13, 3) := by decide +kernel
theorem dX1_reduceBy_241 : decode cX1_reduceBy 241 = .ok (.iload 4, 2) := by decide +kernel
theorem dX1_reduceBy_243 : decode cX1_reduceBy 243 = .ok (.isub, 1) := by decide +kernel
theorem dX1_reduceBy_244 : decode cX1_reduceBy 244 = .ok (.iconst 1, 1) := by decide +kernel
theorem dX1_reduceBy_245 : decode cX1_reduceBy 245 = .ok (.iadd, 1) := by decide +kernel
theorem dX1_reduceBy_246 : decode cX1_reduceBy 246 = .ok (.invokevirtual 32, 3) := by decide +kernel
theorem dX1_reduceBy_249 : decode cX1_reduceBy 249 = .ok (.aload_n 0, 1) := by decide +kernel
theorem dX1_reduceBy_250 : decode cX1_reduceBy 250 = .ok (.aload_n 0, 1) := by decide +kernel
theorem dX1_reduceBy_251 : decode cX1_reduceBy 251 = .ok (.getfield 13, 3) := by decide +kernel
theorem dX1_reduceBy_254 : decode cX1_reduceBy 254 = .ok (.invokevirtual 32, 3) := by decide +kernel
theorem dX1_reduceBy_257 : decode cX1_reduceBy 257 = .ok (.aload_n 0, 1) := by decide +kernel
theorem dX1_reduceBy_258 : decode cX1_reduceBy 258 = .ok (.iload 5, 2) := by decide +kernel
theorem dX1_reduceBy_260 : decode cX1_reduceBy 260 = .ok (.invokevirtual 71, 3) := by decide +kernel
theorem dX1_reduceBy_263 : decode cX1_reduceBy 263 = .ok (.return_, 1) := by decide +kernel
theorem dX1_divideBy_0 : decode cX1_divideBy 0 = .ok (.iload_n 1, 1) := by decide +kernel
theorem dX1_divideBy_1 : decode cX1_divideBy 1 = .ok (.ifCond .gt 4, 3) := by decide +kernel
theorem dX1_divideBy_4 : decode cX1_divideBy 4 = .ok (.return_, 1) := by decide +kernel
theorem dX1_divideBy_5 : decode cX1_divideBy 5 = .ok (.lconst 0, 1) := by decide +kernel
theorem dX1_divideBy_6 : decode cX1_divideBy 6 = .ok (.lstore_n 2, 1) := by decide +kernel
theorem dX1_divideBy_7 : decode cX1_divideBy 7 = .ok (.aload_n 0, 1) := by decide +kernel
theorem dX1_divideBy_8 : decode cX1_divideBy 8 = .ok (.getfield 13, 3) := by decide +kernel
theorem dX1_divideBy_11 : decode cX1_divideBy 11 = .ok (.iconst 1, 1) := by decide +kernel
theorem dX1_divideBy_12 : decode cX1_divideBy 12 = .ok (.isub, 1) := by decide +kernel
theorem dX1_divideBy_13 : decode cX1_divideBy 13 = .ok (.istore 4, 2) := by decide +kernel
theorem dX1_divideBy_15 : decode cX1_divideBy 15 = .ok (.iload 4, 2) := by decide +kernel
theorem dX1_divideBy_17 : decode cX1_divideBy 17 = .ok (.ifCond .lt 43, 3) := by decide +kernel
theorem dX1_divideBy_20 : decode cX1_divideBy 20 = .ok (.lload_n 2, 1) := by decide +kernel
theorem dX1_divideBy_21 : decode cX1_divideBy 21 = .ok (.bipush 30, 2) := by decide +kernel
theorem dX1_divideBy_23 : decode cX1_divideBy 23 = .ok (.lshl, 1) := by decide +kernel
theorem dX1_divideBy_24 : decode cX1_divideBy 24 = .ok (.aload_n 0, 1) := by decide +kernel
theorem dX1_divideBy_25 : decode cX1_divideBy 25 = .ok (.getfield 9, 3) := by decide +kernel
theorem dX1_divideBy_28 : decode cX1_divideBy 28 = .ok (.iload 4, 2) := by decide +kernel
theorem dX1_divideBy_30 : decode cX1_divideBy 30 = .ok (.iaload, 1) := by decide +kernel
theorem dX1_divideBy_31 : decode cX1_divideBy 31 = .ok (.i2l, 1) := by decide +kernel
theorem dX1_divideBy_32 : decode cX1_divideBy 32 = .ok (.ladd, 1) := by decide +kernel
theorem dX1_divideBy_33 : decode cX1_divideBy 33 = .ok (.lstore 5, 2) := by decide +kernel
theorem dX1_divideBy_35 : decode cX1_divideBy 35 = .ok (.aload_n 0, 1) := by decide +kernel
theorem dX1_divideBy_36 : decode cX1_divideBy 36 = .ok (.getfield 9, 3) := by decide +kernel
theorem dX1_divideBy_39 : decode cX1_divideBy 39 = .ok (.iload 4, 2) := by decide +kernel
theorem dX1_divideBy_41 : decode cX1_divideBy 41 = .ok (.lload 5, 2) := by decide +kernel
theorem dX1_divideBy_43 : decode cX1_divideBy 43 = .ok (.iload_n 1, 1) := by decide +kernel
theorem dX1_divideBy_44 : decode cX1_divideBy 44 = .ok (.i2l, 1) := by decide +kernel
theorem dX1_divideBy_45 : decode cX1_divideBy 45 = .ok (.ldiv, 1) := by decide +kernel
theorem dX1_divideBy_46 : decode cX1_divideBy 46 = .ok (.l2i, 1) := by decide +kernel
theorem dX1_divideBy_47 : decode cX1_divideBy 47 = .ok (.iastore, 1) := by decide +kernel
theorem dX1_divideBy_48 : decode cX1_divideBy 48 = .ok (.lload 5, 2) := by decide +kernel
theorem dX1_divideBy_50 : decode cX1_divideBy 50 = .ok (.iload_n 1, 1) := by decide +kernel
theorem dX1_divideBy_51 : decode cX1_divideBy 51 = .ok (.i2l, 1) := by decide +kernel
theorem dX1_divideBy_52 : decode cX1_divideBy 52 = .ok (.lrem, 1) := by decide +kernel
theorem dX1_divideBy_53 : decode cX1_divideBy 53 = .ok (.lstore_n 2, 1) := by decide +kernel
theorem dX1_divideBy_54 : decode cX1_divideBy 54 = .ok (.iinc 4 (-1), 3) := by decide +kernel
theorem dX1_divideBy_57 : decode cX1_divideBy 57 = .ok (.goto (-42), 3) := by decide +kernel
theorem dX1_divideBy_60 : decode cX1_divideBy 60 = .ok (.aload_n 0, 1) := by decide +kernel
theorem dX1_divideBy_61 : decode cX1_divideBy 61 = .ok (.getfield 13, 3) := by decide +kernel
theorem dX1_divideBy_64 : decode cX1_divideBy 64 = .ok (.ifCond .le 27, 3) := by decide +kernel
theorem dX1_divideBy_67 : decode cX1_divideBy 67 = .ok (.aload_n 0, 1) := by decide +kernel
theorem dX1_divideBy_68 : decode cX1_divideBy 68 = .ok (.getfield 9, 3) := by decide +kernel
theorem dX1_divideBy_71 : decode cX1_divideBy 71 = .ok (.aload_n 0, 1) := by decide +kernel
theorem dX1_divideBy_72 : decode cX1_divideBy 72 = .ok (.getfield 13, 3) := by decide +kernel
theorem dX1_divideBy_75 : decode cX1_divideBy 75 = .ok (.iconst 1, 1) := by decide +kernel
theorem dX1_divideBy_76 : decode cX1_divideBy 76 = .ok (.isub, 1) := by decide +kernel
theorem dX1_divideBy_77 : decode cX1_divideBy 77 = .ok (.iaload, 1) := by decide +kernel
theorem dX1_divideBy_78 : decode cX1_divideBy 78 = .ok (.ifCond .ne 13, 3) := by decide +kernel
theorem dX1_divideBy_81 : decode cX1_divideBy 81 = .ok (.aload_n 0, 1) := by decide +kernel
theorem dX1_divideBy_82 : decode cX1_divideBy 82 = .ok (.dup, 1) := by decide +kernel
theorem dX1_divideBy_83 : decode cX1_divideBy 83 = .ok (.getfield 13, 3) := by decide +kernel
theorem dX1_divideBy_86 : decode cX1_divideBy 86 = .ok (.iconst 1, 1) := by decide +kernel
theorem dX1_divideBy_87 : decode cX1_divideBy 87 = .ok (.isub, 1) := by decide +kernel
theorem dX1_divideBy_88 : decode cX1_divideBy 88 = .ok (.putfield 13, 3) := by decide +kernel
theorem dX1_divideBy_91 : decode cX1_divideBy 91 = .ok (.return_, 1) := by decide +kernel
theorem dX1_addMultiple_0 : decode cX1_addMultiple 0 = .ok (.lconst 0, 1) := by decide +kernel
theorem dX1_addMultiple_1 : decode cX1_addMultiple 1 = .ok (.lstore 5, 2) := by decide +kernel
theorem dX1_addMultiple_3 : decode cX1_addMultiple 3 = .ok (.iconst 0, 1) := by decide +kernel
theorem dX1_addMultiple_4 : decode cX1_addMultiple 4 = .ok (.istore 7, 2) := by decide +kernel
theorem dX1_addMultiple_6 : decode cX1_addMultiple 6 = .ok (.iload 7, 2) := by decide +kernel
theorem dX1_addMultiple_8 : decode cX1_addMultiple 8 = .ok (.aload_n 1, 1) := by decide +kernel
theorem dX1_addMultiple_9 : decode cX1_addMultiple 9 = .ok (.getfield 13, 3) := by decide +kernel
theorem dX1_addMultiple_12 : decode cX1_addMultiple 12 = .ok (.if_icmp .gt 78, 3) := by decide +kernel
theorem dX1_addMultiple_15 : decode cX1_addMultiple 15 = .ok (.iload_n 2, 1) := by decide +kernel
theorem dX1_addMultiple_16 : decode cX1_addMultiple 16 = .ok (.iload 7, 2) := by decide +kernel
theorem dX1_addMultiple_18 : decode cX1_addMultiple 18 = .ok (.iadd, 1) := by decide +kernel
theorem dX1_addMultiple_19 : decode cX1_addMultiple 19 = .ok (.bipush 20, 2) := by decide +kernel
theorem dX1_addMultiple_21 : decode cX1_addMultiple 21 = .ok (.if_icmp .ge 69, 3) := by decide +kernel
theorem dX1_addMultiple_24 : decode cX1_addMultiple 24 = .ok (.aload_n 0, 1) := by decide +kernel
theorem dX1_addMultiple_25 : decode cX1_addMultiple 25 = .ok (.getfield 9, 3) := by decide +kernel
theorem dX1_addMultiple_28 : decode cX1_addMultiple 28 = .ok (.iload_n 2, 1) := by decide +kernel
theorem dX1_addMultiple_29 : decode cX1_addMultiple 29 = .ok (.iload 7, 2) := by decide +kernel
theorem dX1_addMultiple_31 : decode cX1_addMultiple 31 = .ok (.iadd, 1) := by decide +kernel
theorem dX1_addMultiple_32 : decode cX1_addMultiple 32 = .ok (.iaload, 1) := by decide +kernel
theorem dX1_addMultiple_33 : decode cX1_addMultiple 33 = .ok (.i2l, 1) := by decide +kernel
theorem dX1_addMultiple_34 : decode cX1_addMultiple 34 = .ok (.lload_n 3, 1) := by decide +kernel
theorem dX1_addMultiple_35 : decode cX1_addMultiple 35 = .ok (.iload 7, 2) := by decide +kernel
theorem dX1_addMultiple_37 : decode cX1_addMultiple 37 = .ok (.bipush 20, 2) := by decide +kernel
theorem dX1_addMultiple_39 : decode cX1_addMultiple 39 = .ok (.if_icmp .ge 13, 3) := by decide +kernel
theorem dX1_addMultiple_42 : decode cX1_addMultiple 42 = .ok (.aload_n 1, 1) := by decide +kernel
theorem dX1_addMultiple_43 : decode cX1_addMultiple 43 = .ok (.getfield 9, 3) := by decide +kernel
theorem dX1_addMultiple_46 : decode cX1_addMultiple 46 = .ok (.iload 7, 2) := by decide +kernel
theorem dX1_addMultiple_48 : decode cX1_addMultiple 48 = .ok (.iaload, 1) := by decide +kernel
theorem dX1_addMultiple_49 : decode cX1_addMultiple 49 = .ok (.goto 4, 3) := by decide +kernel
theorem dX1_addMultiple_52 : decode cX1_addMultiple 52 = .ok (.iconst 0, 1) := by decide +kernel
theorem dX1_addMultiple_53 : decode cX1_addMultiple 53 = .ok (.i2l, 1) := by decide +kernel
theorem dX1_addMultiple_54 : decode cX1_addMultiple 54 = .ok (.lmul, 1) := by decide +kernel
theorem dX1_addMultiple_55 : decode cX1_addMultiple 55 = .ok (.ladd, 1) := by decide +kernel
theorem dX1_addMultiple_56 : decode cX1_addMultiple 56 = .ok (.lload 5, 2) := by decide +kernel
theorem dX1_addMultiple_58 : decode cX1_addMultiple 58 = .ok (.ladd, 1) := by decide +kernel
theorem dX1_addMultiple_59 : decode cX1_addMultiple 59 = .ok (.lstore 8, 2) := by decide +kernel
theorem dX1_addMultiple_61 : decode cX1_addMultiple 61 = .ok (.aload_n 0, 1) := by decide +kernel
theorem dX1_addMultiple_62 : decode cX1_addMultiple 62 = .ok (.getfield 9, 3) := by decide +kernel
theorem dX1_addMultiple_65 : decode cX1_addMultiple 65 = .ok (.iload_n 2, 1) := by decide +kernel
theorem dX1_addMultiple_66 : decode cX1_addMultiple 66 = .ok (.iload 7, 2) := by decide +kernel
theorem dX1_addMultiple_68 : decode cX1_addMultiple 68 = .ok (.iadd, 1) := by decide +kernel
theorem dX1_addMultiple_69 : decode cX1_addMultiple 69 = .ok (.lload 8, 2) := by decide +kernel
theorem dX1_addMultiple_71 : decode cX1_addMultiple 71 = .ok (.ldc2_w 30, 3) := by decide +kernel
theorem dX1_addMultiple_74 : decode cX1_addMultiple 74 = .ok (.land, 1) := by decide +kernel
theorem dX1_addMultiple_75 : decode cX1_addMultiple 75 = .ok (.l2i, 1) := by decide +kernel
theorem dX1_addMultiple_76 : decode cX1_addMultiple 76 = .ok (.iastore, 1) := by decide +kernel
theorem dX1_addMultiple_77 : decode cX1_addMultiple 77 = .ok (.lload 8, 2) := by decide +kernel
theorem dX1_addMultiple_79 : decode cX1_addMultiple 79 = .ok (.bipush 30, 2) := by decide +kernel
theorem dX1_addMultiple_81 : decode cX1_addMultiple 81 = .ok (.lshr, 1) := by decide +kernel
theorem dX1_addMultiple_82 : decode cX1_addMultiple 82 = .ok (.lstore 5, 2) := by decide +kernel
theorem dX1_addMultiple_84 : decode cX1_addMultiple 84 = .ok (.iinc 7 1, 3) := by decide +kernel
theorem dX1_addMultiple_87 : decode cX1_addMultiple 87 = .ok (.goto (-81), 3) := by decide +kernel
theorem dX1_addMultiple_90 : decode cX1_addMultiple 90 = .ok (.lload 5, 2) := by decide +kernel
theorem dX1_addMultiple_92 : decode cX1_addMultiple 92 = .ok (.lreturn, 1) := by decide +kernel
theorem dX1_complement_0 : decode cX1_complement 0 = .ok (.lconst 1, 1) := by decide +kernel
theorem dX1_complement_1 : decode cX1_complement 1 = .ok (.lstore_n 2, 1) := by decide +kernel
theorem dX1_complement_2 : decode cX1_complement 2 = .ok (.iconst 0, 1) := by decide +kernel
theorem dX1_complement_3 : decode cX1_complement 3 = .ok (.istore 4, 2) := by decide +kernel
theorem dX1_complement_5 : decode cX1_complement 5 = .ok (.iload 4, 2) := by decide +kernel
theorem dX1_complement_7 : decode cX1_complement 7 = .ok (.iload_n 1, 1) := by decide +kernel
theorem dX1_complement_8 : decode cX1_complement 8 = .ok (.if_icmp .ge 44, 3) := by decide +kernel
theorem dX1_complement_11 : decode cX1_complement 11 = .ok (.ldc 74, 2) := by decide +kernel
theorem dX1_complement_13 : decode cX1_complement 13 = .ok (.aload_n 0, 1) := by decide +kernel
theorem dX1_complement_14 : decode cX1_complement 14 = .ok (.getfield 9, 3) := by decide +kernel
theorem dX1_complement_17 : decode cX1_complement 17 = .ok (.iload 4, 2) := by decide +kernel
theorem dX1_complement_19 : decode cX1_complement 19 = .ok (.iaload, 1) := by decide +kernel
theorem dX1_complement_20 : decode cX1_complement 20 = .ok (.isub, 1) := by decide +kernel
theorem dX1_complement_21 : decode cX1_complement 21 = .ok (.i2l, 1) := by decide +kernel
theorem dX1_complement_22 : decode cX1_complement 22 = .ok (.lload_n 2, 1) := by decide +kernel
theorem dX1_complement_23 : decode cX1_complement 23 = .ok (.ladd, 1) := by decide +kernel
theorem dX1_complement_24 : decode cX1_complement 24 = .ok (.lstore 5, 2) := by decide +kernel
theorem dX1_complement_26 : decode cX1_complement 26 = .ok (.aload_n 0, 1) := by decide +kernel
theorem dX1_complement_27 : decode cX1_complement 27 = .ok (.getfield 9, 3) := by decide +kernel
theorem dX1_complement_30 : decode cX1_complement 30 = .ok (.iload 4, 2) := by decide +kernel
theorem dX1_complement_32 : decode cX1_complement 32 = .ok (.lload 5, 2) := by decide +kernel
theorem dX1_complement_34 : decode cX1_complement 34 = .ok (.ldc2_w 30, 3) := by decide +kernel
theorem dX1_complement_37 : decode cX1_complement 37 = .ok (.land, 1) := by decide +kernel
theorem dX1_complement_38 : decode cX1_complement 38 = .ok (.l2i, 1) := by decide +kernel
theorem dX1_complement_39 : decode cX1_complement 39 = .ok (.iastore, 1) := by decide +kernel
theorem dX1_complement_40 : decode cX1_complement 40 = .ok (.lload 5, 2) := by decide +kernel
theorem dX1_complement_42 : decode cX1_complement 42 = .ok (.bipush 30, 2) := by decide +kernel
theorem dX1_complement_44 : decode cX1_complement 44 = .ok (.lshr, 1) := by decide +kernel
theorem dX1_complement_45 : decode cX1_complement 45 = .ok (.lstore_n 2, 1) := by decide +kernel
theorem dX1_complement_46 : decode cX1_complement 46 = .ok (.iinc 4 1, 3) := by decide +kernel
theorem dX1_complement_49 : decode cX1_complement 49 = .ok (.goto (-44), 3) := by decide +kernel
theorem dX1_complement_52 : decode cX1_complement 52 = .ok (.return_, 1) := by decide +kernel
theorem dX1_settle_0 : decode cX1_settle 0 = .ok (.aload_n 0, 1) := by decide +kernel
theorem dX1_settle_1 : decode cX1_settle 1 = .ok (.iload_n 1, 1) := by decide +kernel
theorem dX1_settle_2 : decode cX1_settle 2 = .ok (.putfield 13, 3) := by decide +kernel
theorem dX1_settle_5 : decode cX1_settle 5 = .ok (.aload_n 0, 1) := by decide +kernel
theorem dX1_settle_6 : decode cX1_settle 6 = .ok (.getfield 13, 3) := by decide +kernel
theorem dX1_settle_9 : decode cX1_settle 9 = .ok (.ifCond .le 30, 3) := by decide +kernel
theorem dX1_settle_12 : decode cX1_settle 12 = .ok (.aload_n 0, 1) := by decide +kernel
theorem dX1_settle_13 : decode cX1_settle 13 = .ok (.getfield 9, 3) := by decide +kernel
theorem dX1_settle_16 : decode cX1_settle 16 = .ok (.aload_n 0, 1) := by decide +kernel
theorem dX1_settle_17 : decode cX1_settle 17 = .ok (.getfield 13, 3) := by decide +kernel
theorem dX1_settle_20 : decode cX1_settle 20 = .ok (.iconst 1, 1) := by decide +kernel
theorem dX1_settle_21 : decode cX1_settle 21 = .ok (.isub, 1) := by decide +kernel
theorem dX1_settle_22 : decode cX1_settle 22 = .ok (.iaload, 1) := by decide +kernel
theorem dX1_settle_23 : decode cX1_settle 23 = .ok (.ifCond .ne 16, 3) := by decide +kernel
theorem dX1_settle_26 : decode cX1_settle 26 = .ok (.aload_n 0, 1) := by decide +kernel
theorem dX1_settle_27 : decode cX1_settle 27 = .ok (.dup, 1) := by decide +kernel
theorem dX1_settle_28 : decode cX1_settle 28 = .ok (.getfield 13, 3) := by decide +kernel
theorem dX1_settle_31 : decode cX1_settle 31 = .ok (.iconst 1, 1) := by decide +kernel
theorem dX1_settle_32 : decode cX1_settle 32 = .ok (.isub, 1) := by decide +kernel
theorem dX1_settle_33 : decode cX1_settle 33 = .ok (.putfield 13, 3) := by decide +kernel
theorem dX1_settle_36 : decode cX1_settle 36 = .ok (.goto (-31), 3) := by decide +kernel
theorem dX1_settle_39 : decode cX1_settle 39 = .ok (.aload_n 0, 1) := by decide +kernel
theorem dX1_settle_40 : decode cX1_settle 40 = .ok (.getfield 13, 3) := by decide +kernel
theorem dX1_settle_43 : decode cX1_settle 43 = .ok (.ifCond .ne 8, 3) := by decide +kernel
theorem dX1_settle_46 : decode cX1_settle 46 = .ok (.aload_n 0, 1) := by decide +kernel
theorem dX1_settle_47 : decode cX1_settle 47 = .ok (.iconst 0, 1) := by decide +kernel
theorem dX1_settle_48 : decode cX1_settle 48 = .ok (.putfield 17, 3) := by decide +kernel
theorem dX1_settle_51 : decode cX1_settle 51 = .ok (.return_, 1) := by decide +kernel
theorem dX2_init_0 : decode cX2_init 0 = .ok (.aload_n 0, 1) := by decide +kernel
theorem dX2_init_1 : decode cX2_init 1 = .ok (.invokespecial 1, 3) := by decide +kernel
theorem dX2_init_4 : decode cX2_init 4 = .ok (.return_, 1) := by decide +kernel
theorem dX2_become_0 : decode cX2_become 0 = .ok (.aload_n 0, 1) := by decide +kernel
theorem dX2_become_1 : decode cX2_become 1 = .ok (.iload_n 1, 1) := by decide +kernel
theorem dX2_become_2 : decode cX2_become 2 = .ok (.putfield 7, 3) := by decide +kernel
theorem dX2_become_5 : decode cX2_become 5 = .ok (.aload_n 0, 1) := by decide +kernel
theorem dX2_become_6 : decode cX2_become 6 = .ok (.iload_n 2, 1) := by decide +kernel
theorem dX2_become_7 : decode cX2_become 7 = .ok (.putfield 13, 3) := by decide +kernel
theorem dX2_become_10 : decode cX2_become 10 = .ok (.aload_n 0, 1) := by decide +kernel
theorem dX2_become_11 : decode cX2_become 11 = .ok (.iload_n 3, 1) := by decide +kernel
theorem dX2_become_12 : decode cX2_become 12 = .ok (.putfield 16, 3) := by decide +kernel
theorem dX2_become_15 : decode cX2_become 15 = .ok (.aload_n 0, 1) := by decide +kernel
theorem dX2_become_16 : decode cX2_become 16 = .ok (.iload 4, 2) := by decide +kernel
theorem dX2_become_18 : decode cX2_become 18 = .ok (.putfield 19, 3) := by decide +kernel
theorem dX2_become_21 : decode cX2_become 21 = .ok (.return_, 1) := by decide +kernel
theorem dX2_isPoint_0 : decode cX2_isPoint 0 = .ok (.aload_n 0, 1) := by decide +kernel
theorem dX2_isPoint_1 : decode cX2_isPoint 1 = .ok (.getfield 13, 3) := by decide +kernel
theorem dX2_isPoint_4 : decode cX2_isPoint 4 = .ok (.aload_n 0, 1) := by decide +kernel
theorem dX2_isPoint_5 : decode cX2_isPoint 5 = .ok (.getfield 16, 3) := by decide +kernel
theorem dX2_isPoint_8 : decode cX2_isPoint 8 = .ok (.if_icmp .ne 7, 3) := by decide +kernel
theorem dX2_isPoint_11 : decode cX2_isPoint 11 = .ok (.iconst 1, 1) := by decide +kernel
theorem dX2_isPoint_12 : decode cX2_isPoint 12 = .ok (.goto 4, 3) := by decide +kernel
theorem dX2_isPoint_15 : decode cX2_isPoint 15 = .ok (.iconst 0, 1) := by decide +kernel
theorem dX2_isPoint_16 : decode cX2_isPoint 16 = .ok (.ireturn, 1) := by decide +kernel
theorem dX3_init_0 : decode cX3_init 0 = .ok (.aload_n 0, 1) := by decide +kernel
theorem dX3_init_1 : decode cX3_init 1 = .ok (.invokespecial 1, 3) := by decide +kernel
theorem dX3_init_4 : decode cX3_init 4 = .ok (.aload_n 0, 1) := by decide +kernel
theorem dX3_init_5 : decode cX3_init 5 = .ok (.new 7, 3) := by decide +kernel
theorem dX3_init_8 : decode cX3_init 8 = .ok (.dup, 1) := by decide +kernel
theorem dX3_init_9 : decode cX3_init 9 = .ok (.invokespecial 9, 3) := by decide +kernel
theorem dX3_init_12 : decode cX3_init 12 = .ok (.putfield 10, 3) := by decide +kernel
theorem dX3_init_15 : decode cX3_init 15 = .ok (.aload_n 0, 1) := by decide +kernel
theorem dX3_init_16 : decode cX3_init 16 = .ok (.new 16, 3) := by decide +kernel
theorem dX3_init_19 : decode cX3_init 19 = .ok (.dup, 1) := by decide +kernel
theorem dX3_init_20 : decode cX3_init 20 = .ok (.invokespecial 18, 3) := by decide +kernel
theorem dX3_init_23 : decode cX3_init 23 = .ok (.putfield 19, 3) := by decide +kernel
theorem dX3_init_26 : decode cX3_init 26 = .ok (.aload_n 0, 1) := by decide +kernel
theorem dX3_init_27 : decode cX3_init 27 = .ok (.new 23, 3) := by decide +kernel
theorem dX3_init_30 : decode cX3_init 30 = .ok (.dup, 1) := by decide +kernel
theorem dX3_init_31 : decode cX3_init 31 = .ok (.invokespecial 25, 3) := by decide +kernel
theorem dX3_init_34 : decode cX3_init 34 = .ok (.putfield 26, 3) := by decide +kernel
theorem dX3_init_37 : decode cX3_init 37 = .ok (.aload_n 0, 1) := by decide +kernel
theorem dX3_init_38 : decode cX3_init 38 = .ok (.aload_n 1, 1) := by decide +kernel
theorem dX3_init_39 : decode cX3_init 39 = .ok (.putfield 30, 3) := by decide +kernel
theorem dX3_init_42 : decode cX3_init 42 = .ok (.return_, 1) := by decide +kernel
theorem dX3_begin_0 : decode cX3_begin 0 = .ok (.aload_n 0, 1) := by decide +kernel
theorem dX3_begin_1 : decode cX3_begin 1 = .ok (.getfield 10, 3) := by decide +kernel
theorem dX3_begin_4 : decode cX3_begin 4 = .ok (.aload_n 1, 1) := by decide +kernel
theorem dX3_begin_5 : decode cX3_begin 5 = .ok (.invokevirtual 34, 3) := by decide +kernel
theorem dX3_begin_8 : decode cX3_begin 8 = .ok (.aload_n 0, 1) := by decide +kernel
theorem dX3_begin_9 : decode cX3_begin 9 = .ok (.getfield 30, 3) := by decide +kernel
theorem dX3_begin_12 : decode cX3_begin 12 = .ok (.aload_n 2, 1) := by decide +kernel
theorem dX3_begin_13 : decode cX3_begin 13 = .ok (.aload_n 0, 1) := by decide +kernel
theorem dX3_begin_14 : decode cX3_begin 14 = .ok (.getfield 26, 3) := by decide +kernel
theorem dX3_begin_17 : decode cX3_begin 17 = .ok (.invokevirtual 38, 3) := by decide +kernel
theorem dX3_begin_20 : decode cX3_begin 20 = .ok (.aload_n 0, 1) := by decide +kernel
theorem dX3_begin_21 : decode cX3_begin 21 = .ok (.getfield 19, 3) := by decide +kernel
theorem dX3_begin_24 : decode cX3_begin 24 = .ok (.invokevirtual 44, 3) := by decide +kernel
theorem dX3_begin_27 : decode cX3_begin 27 = .ok (.aload_n 0, 1) := by decide +kernel
theorem dX3_begin_28 : decode cX3_begin 28 = .ok (.getfield 30, 3) := by decide +kernel
theorem dX3_begin_31 : decode cX3_begin 31 = .ok (.aload_n 0, 1) := by decide +kernel
theorem dX3_begin_32 : decode cX3_begin 32 = .ok (.getfield 26, 3) := by decide +kernel
theorem dX3_begin_35 : decode cX3_begin 35 = .ok (.iconst 0, 1) := by decide +kernel
theorem dX3_begin_36 : decode cX3_begin 36 = .ok (.iload_n 3, 1) := by decide +kernel
theorem dX3_begin_37 : decode cX3_begin 37 = .ok (.ineg, 1) := by decide +kernel
theorem dX3_begin_38 : decode cX3_begin 38 = .ok (.iload_n 3, 1) := by decide +kernel
theorem dX3_begin_39 : decode cX3_begin 39 = .ok (.invokevirtual 47, 3) := by decide +kernel
theorem dX3_begin_42 : decode cX3_begin 42 = .ok (.istore 4, 2) := by decide +kernel
theorem dX3_begin_44 : decode cX3_begin 44 = .ok (.aload_n 0, 1) := by decide +kernel
theorem dX3_begin_45 : decode cX3_begin 45 = .ok (.iconst 0, 1) := by decide +kernel
theorem dX3_begin_46 : decode cX3_begin 46 = .ok (.iconst 0, 1) := by decide +kernel
theorem dX3_begin_47 : decode cX3_begin 47 = .ok (.iload_n 3, 1) := by decide +kernel
theorem dX3_begin_48 : decode cX3_begin 48 = .ok (.ineg, 1) := by decide +kernel
theorem dX3_begin_49 : decode cX3_begin 49 = .ok (.iload_n 3, 1) := by decide +kernel
theorem dX3_begin_50 : decode cX3_begin 50 = .ok (.iload 4, 2) := by decide +kernel
theorem dX3_begin_52 : decode cX3_begin 52 = .ok (.invokevirtual 51, 3) := by decide +kernel
theorem dX3_begin_55 : decode cX3_begin 55 = .ok (.iload 4, 2) := by decide +kernel
theorem dX3_begin_57 : decode cX3_begin 57 = .ok (.ireturn, 1) := by decide +kernel
theorem dX3_split_0 : decode cX3_split 0 = .ok (.aload_n 0, 1) := by decide +kernel
theorem dX3_split_1 : decode cX3_split 1 = .ok (.getfield 19, 3) := by decide +kernel
theorem dX3_split_4 : decode cX3_split 4 = .ok (.iload_n 1, 1) := by decide +kernel
theorem dX3_split_5 : decode cX3_split 5 = .ok (.invokevirtual 55, 3) := by decide +kernel
theorem dX3_split_8 : decode cX3_split 8 = .ok (.checkcast 59, 3) := by decide +kernel
theorem dX3_split_11 : decode cX3_split 11 = .ok (.astore_n 2, 1) := by decide +kernel
theorem dX3_split_12 : decode cX3_split 12 = .ok (.aload_n 2, 1) := by decide +kernel
theorem dX3_split_13 : decode cX3_split 13 = .ok (.getfield 61, 3) := by decide +kernel
theorem dX3_split_16 : decode cX3_split 16 = .ok (.iconst 1, 1) := by decide +kernel
theorem dX3_split_17 : decode cX3_split 17 = .ok (.iadd, 1) := by decide +kernel
theorem dX3_split_18 : decode cX3_split 18 = .ok (.istore_n 3, 1) := by decide +kernel
theorem dX3_split_19 : decode cX3_split 19 = .ok (.iconst 2, 1) := by decide +kernel
theorem dX3_split_20 : decode cX3_split 20 = .ok (.aload_n 2, 1) := by decide +kernel
theorem dX3_split_21 : decode cX3_split 21 = .ok (.getfield 65, 3) := by decide +kernel
theorem dX3_split_24 : decode cX3_split 24 = .ok (.imul, 1) := by decide +kernel
theorem dX3_split_25 : decode cX3_split 25 = .ok (.istore 4, 2) := by decide +kernel
theorem dX3_split_27 : decode cX3_split 27 = .ok (.aload_n 2, 1) := by decide +kernel
theorem dX3_split_28 : decode cX3_split 28 = .ok (.getfield 65, 3) := by decide +kernel
theorem dX3_split_31 : decode cX3_split 31 = .ok (.aload_n 2, 1) := by decide +kernel
theorem dX3_split_32 : decode cX3_split 32 = .ok (.getfield 68, 3) := by decide +kernel
theorem dX3_split_35 : decode cX3_split 35 = .ok (.iadd, 1) := by decide +kernel
theorem dX3_split_36 : decode cX3_split 36 = .ok (.istore 5, 2) := by decide +kernel
theorem dX3_split_38 : decode cX3_split 38 = .ok (.iconst 2, 1) := by decide +kernel
theorem dX3_split_39 : decode cX3_split 39 = .ok (.aload_n 2, 1) := by decide +kernel
theorem dX3_split_40 : decode cX3_split 40 = .ok (.getfield 68, 3) := by decide +kernel
theorem dX3_split_43 : decode cX3_split 43 = .ok (.imul, 1) := by decide +kernel
theorem dX3_split_44 : decode cX3_split 44 = .ok (.istore 6, 2) := by decide +kernel
theorem dX3_split_46 : decode cX3_split 46 = .ok (.aload_n 0, 1) := by decide +kernel
theorem dX3_split_47 : decode cX3_split 47 = .ok (.getfield 30, 3) := by decide +kernel
theorem dX3_split_50 : decode cX3_split 50 = .ok (.aload_n 0, 1) := by decide +kernel
theorem dX3_split_51 : decode cX3_split 51 = .ok (.getfield 26, 3) := by decide +kernel
theorem dX3_split_54 : decode cX3_split 54 = .ok (.iload_n 3, 1) := by decide +kernel
theorem dX3_split_55 : decode cX3_split 55 = .ok (.iload 4, 2) := by decide +kernel
theorem dX3_split_57 : decode cX3_split 57 = .ok (.iload 5, 2) := by decide +kernel
theorem dX3_split_59 : decode cX3_split 59 = .ok (.invokevirtual 47, 3) := by decide +kernel
theorem dX3_split_62 : decode cX3_split 62 = .ok (.istore 7, 2) := by decide +kernel
theorem dX3_split_64 : decode cX3_split 64 = .ok (.aload_n 0, 1) := by decide +kernel
theorem dX3_split_65 : decode cX3_split 65 = .ok (.getfield 30, 3) := by decide +kernel
theorem dX3_split_68 : decode cX3_split 68 = .ok (.aload_n 0, 1) := by decide +kernel
theorem dX3_split_69 : decode cX3_split 69 = .ok (.getfield 26, 3) := by decide +kernel
theorem dX3_split_72 : decode cX3_split 72 = .ok (.iload_n 3, 1) := by decide +kernel
theorem dX3_split_73 : decode cX3_split 73 = .ok (.iload 5, 2) := by decide +kernel
theorem dX3_split_75 : decode cX3_split 75 = .ok (.invokevirtual 71, 3) := by decide +kernel
theorem dX3_split_78 : decode cX3_split 78 = .ok (.ifCond .eq 7, 3) := by decide +kernel
theorem dX3_split_81 : decode cX3_split 81 = .ok (.iconst 1, 1) := by decide +kernel
theorem dX3_split_82 : decode cX3_split 82 = .ok (.goto 4, 3) := by decide +kernel
theorem dX3_split_85 : decode cX3_split 85 = .ok (.iconst 0, 1) := by decide +kernel
theorem dX3_split_86 : decode cX3_split 86 = .ok (.istore 8, 2) := by decide +kernel
theorem dX3_split_88 : decode cX3_split 88 = .ok (.aload_n 2, 1) := by decide +kernel
theorem dX3_split_89 : decode cX3_split 89 = .ok (.getfield 75, 3) := by decide +kernel
theorem dX3_split_92 : decode cX3_split 92 = .ok (.iload 7, 2) := by decide +kernel
theorem dX3_split_94 : decode cX3_split 94 = .ok (.isub, 1) := by decide +kernel
theorem dX3_split_95 : decode cX3_split 95 = .ok (.iload 8, 2) := by decide +kernel
theorem dX3_split_97 : decode cX3_split 97 = .ok (.isub, 1) := by decide +kernel
theorem dX3_split_98 : decode cX3_split 98 = .ok (.istore 9, 2) := by decide +kernel
theorem dX3_split_100 : decode cX3_split 100 = .ok (.aload_n 2, 1) := by decide +kernel
theorem dX3_split_101 : decode cX3_split 101 = .ok (.iload_n 3, 1) := by decide +kernel
theorem dX3_split_102 : decode cX3_split 102 = .ok (.iload 4, 2) := by decide +kernel
theorem dX3_split_104 : decode cX3_split 104 = .ok (.iload 5, 2) := by decide +kernel
theorem dX3_split_106 : decode cX3_split 106 = .ok (.iload 7, 2) := by decide +kernel
theorem dX3_split_108 : decode cX3_split 108 = .ok (.invokevirtual 78, 3) := by decide +kernel
theorem dX3_split_111 : decode cX3_split 111 = .ok (.aload_n 0, 1) := by decide +kernel
theorem dX3_split_112 : decode cX3_split 112 = .ok (.iload_n 1, 1) := by decide +kernel
theorem dX3_split_113 : decode cX3_split 113 = .ok (.iconst 1, 1) := by decide +kernel
theorem dX3_split_114 : decode cX3_split 114 = .ok (.iadd, 1) := by decide +kernel
theorem dX3_split_115 : decode cX3_split 115 = .ok (.iload_n 3, 1) := by decide +kernel
theorem dX3_split_116 : decode cX3_split 116 = .ok (.iload 5, 2) := by decide +kernel
theorem dX3_split_118 : decode cX3_split 118 = .ok (.iload 6, 2) := by decide +kernel
theorem dX3_split_120 : decode cX3_split 120 = .ok (.iload 9, 2) := by decide +kernel
theorem dX3_split_122 : decode cX3_split 122 = .ok (.invokevirtual 51, 3) := by decide +kernel
theorem dX3_split_125 : decode cX3_split 125 = .ok (.iload 8, 2) := by decide +kernel
theorem dX3_split_127 : decode cX3_split 127 = .ok (.ifCond .le 17, 3) := by decide +kernel
theorem dX3_split_130 : decode cX3_split 130 = .ok (.aload_n 0, 1) := by decide +kernel
theorem dX3_split_131 : decode cX3_split 131 = .ok (.iload_n 1, 1) := by decide +kernel
theorem dX3_split_132 : decode cX3_split 132 = .ok (.iconst 1, 1) := by decide +kernel
theorem dX3_split_133 : decode cX3_split 133 = .ok (.iadd, 1) := by decide +kernel
theorem dX3_split_134 : decode cX3_split 134 = .ok (.iload_n 3, 1) := by decide +kernel
theorem dX3_split_135 : decode cX3_split 135 = .ok (.iload 5, 2) := by decide +kernel
theorem dX3_split_137 : decode cX3_split 137 = .ok (.iload 5, 2) := by decide +kernel
theorem dX3_split_139 : decode cX3_split 139 = .ok (.iload 8, 2) := by decide +kernel
theorem dX3_split_141 : decode cX3_split 141 = .ok (.invokevirtual 51, 3) := by decide +kernel
theorem dX3_split_144 : decode cX3_split 144 = .ok (.return_, 1) := by decide +kernel
theorem dX3_narrow_0 : decode cX3_narrow 0 = .ok (.aload_n 1, 1) := by decide +kernel
theorem dX3_narrow_1 : decode cX3_narrow 1 = .ok (.getfield 61, 3) := by decide +kernel
theorem dX3_narrow_4 : decode cX3_narrow 4 = .ok (.iconst 1, 1) := by decide +kernel
theorem dX3_narrow_5 : decode cX3_narrow 5 = .ok (.iadd, 1) := by decide +kernel
theorem dX3_narrow_6 : decode cX3_narrow 6 = .ok (.istore_n 2, 1) := by decide +kernel
theorem dX3_narrow_7 : decode cX3_narrow 7 = .ok (.aload_n 1, 1) := by decide +kernel
theorem dX3_narrow_8 : decode cX3_narrow 8 = .ok (.getfield 65, 3) := by decide +kernel
theorem dX3_narrow_11 : decode cX3_narrow 11 = .ok (.aload_n 1, 1) := by decide +kernel
theorem dX3_narrow_12 : decode cX3_narrow 12 = .ok (.getfield 68, 3) := by decide +kernel
theorem dX3_narrow_15 : decode cX3_narrow 15 = .ok (.iadd, 1) := by decide +kernel
theorem dX3_narrow_16 : decode cX3_narrow 16 = .ok (.istore_n 3, 1) := by decide +kernel
theorem dX3_narrow_17 : decode cX3_narrow 17 = .ok (.aload_n 0, 1) := by decide +kernel
theorem dX3_narrow_18 : decode cX3_narrow 18 = .ok (.getfield 30, 3) := by decide +kernel
theorem dX3_narrow_21 : decode cX3_narrow 21 = .ok (.aload_n 0, 1) := by decide +kernel
theorem dX3_narrow_22 : decode cX3_narrow 22 = .ok (.getfield 26, 3) := by decide +kernel
theorem dX3_narrow_25 : decode cX3_narrow 25 = .ok (.iload_n 2, 1) := by decide +kernel
theorem dX3_narrow_26 : decode cX3_narrow 26 = .ok (.iload_n 3, 1) := by decide +kernel
theorem dX3_narrow_27 : decode cX3_narrow 27 = .ok (.invokevirtual 71, 3) := by decide +kernel
theorem dX3_narrow_30 : decode cX3_narrow 30 = .ok (.ifCond .eq 14, 3) := by decide +kernel
theorem dX3_narrow_33 : decode cX3_narrow 33 = .ok (.aload_n 1, 1) := by decide +kernel
theorem dX3_narrow_34 : decode cX3_narrow 34 = .ok (.iload_n 2, 1) := by decide +kernel
theorem dX3_narrow_35 : decode cX3_narrow 35 = .ok (.iload_n 3, 1) := by decide +kernel
theorem dX3_narrow_36 : decode cX3_narrow 36 = .ok (.iload_n 3, 1) := by decide +kernel
theorem dX3_narrow_37 : decode cX3_narrow 37 = .ok (.iconst 1, 1) := by decide +kernel
theorem dX3_narrow_38 : decode cX3_narrow 38 = .ok (.invokevirtual 78, 3) := by decide +kernel
theorem dX3_narrow_41 : decode cX3_narrow 41 = .ok (.goto 55, 3) := by decide +kernel
theorem dX3_narrow_44 : decode cX3_narrow 44 = .ok (.aload_n 0, 1) := by decide +kernel
theorem dX3_narrow_45 : decode cX3_narrow 45 = .ok (.getfield 30, 3) := by decide +kernel
theorem dX3_narrow_48 : decode cX3_narrow 48 = .ok (.aload_n 0, 1) := by decide +kernel
theorem dX3_narrow_49 : decode cX3_narrow 49 = .ok (.getfield 26, 3) := by decide +kernel
theorem dX3_narrow_52 : decode cX3_narrow 52 = .ok (.iload_n 2, 1) := by decide +kernel
theorem dX3_narrow_53 : decode cX3_narrow 53 = .ok (.iconst 2, 1) := by decide +kernel
theorem dX3_narrow_54 : decode cX3_narrow 54 = .ok (.aload_n 1, 1) := by decide +kernel
theorem dX3_narrow_55 : decode cX3_narrow 55 = .ok (.getfield 65, 3) := by decide +kernel
theorem dX3_narrow_58 : decode cX3_narrow 58 = .ok (.imul, 1) := by decide +kernel
theorem dX3_narrow_59 : decode cX3_narrow 59 = .ok (.iload_n 3, 1) := by decide +kernel
theorem dX3_narrow_60 : decode cX3_narrow 60 = .ok (.invokevirtual 47, 3) := by decide +kernel
theorem dX3_narrow_63 : decode cX3_narrow 63 = .ok (.iconst 1, 1) := by decide +kernel
theorem dX3_narrow_64 : decode cX3_narrow 64 = .ok (.if_icmp .ne 19, 3) := by decide +kernel
theorem dX3_narrow_67 : decode cX3_narrow 67 = .ok (.aload_n 1, 1) := by decide +kernel
theorem dX3_narrow_68 : decode cX3_narrow 68 = .ok (.iload_n 2, 1) := by decide +kernel
theorem dX3_narrow_69 : decode cX3_narrow 69 = .ok (.iconst 2, 1) := by decide +kernel
theorem dX3_narrow_70 : decode cX3_narrow 70 = .ok (.aload_n 1, 1) := by decide +kernel
theorem dX3_narrow_71 : decode cX3_narrow 71 = .ok (.getfield 65, 3) := by decide +kernel
theorem dX3_narrow_74 : decode cX3_narrow 74 = .ok (.imul, 1) := by decide +kernel
theorem dX3_narrow_75 : decode cX3_narrow 75 = .ok (.iload_n 3, 1) := by decide +kernel
theorem dX3_narrow_76 : decode cX3_narrow 76 = .ok (.iconst 1, 1) := by decide +kernel
theorem dX3_narrow_77 : decode cX3_narrow 77 = .ok (.invokevirtual 78, 3) := by decide +kernel
theorem dX3_narrow_80 : decode cX3_narrow 80 = .ok (.goto 16, 3) := by decide +kernel
theorem dX3_narrow_83 : decode cX3_narrow 83 = .ok (.aload_n 1, 1) := by decide +kernel
theorem dX3_narrow_84 : decode cX3_narrow 84 = .ok (.iload_n 2, 1) := by decide +kernel
theorem dX3_narrow_85 : decode cX3_narrow 85 = .ok (.iload_n 3, 1) := by decide +kernel
theorem dX3_narrow_86 : decode cX3_narrow 86 = .ok (.iconst 2, 1) := by decide +kernel
theorem dX3_narrow_87 : decode cX3_narrow 87 = .ok (.aload_n 1, 1) := by decide +kernel
theorem dX3_narrow_88 : decode cX3_narrow 88 = .ok (.getfield 68, 3) := by decide +kernel
theorem dX3_narrow_91 : decode cX3_narrow 91 = .ok (.imul, 1) := by decide +kernel
theorem dX3_narrow_92 : decode cX3_narrow 92 = .ok (.iconst 1, 1) := by decide +kernel
theorem dX3_narrow_93 : decode cX3_narrow 93 = .ok (.invokevirtual 78, 3) := by decide +kernel
theorem dX3_narrow_96 : decode cX3_narrow 96 = .ok (.return_, 1) := by decide +kernel
theorem dX3_dropEmpty_0 : decode cX3_dropEmpty 0 = .ok (.iconst 0, 1) := by decide +kernel
theorem dX3_dropEmpty_1 : decode cX3_dropEmpty 1 = .ok (.istore_n 1, 1) := by decide +kernel
theorem dX3_dropEmpty_2 : decode cX3_dropEmpty 2 = .ok (.aload_n 0, 1) := by decide +kernel
theorem dX3_dropEmpty_3 : decode cX3_dropEmpty 3 = .ok (.getfield 19, 3) := by decide +kernel
theorem dX3_dropEmpty_6 : decode cX3_dropEmpty 6 = .ok (.invokevirtual 81, 3) := by decide +kernel
theorem dX3_dropEmpty_9 : decode cX3_dropEmpty 9 = .ok (.iconst 1, 1) := by decide +kernel
theorem dX3_dropEmpty_10 : decode cX3_dropEmpty 10 = .ok (.isub, 1) := by decide +kernel
theorem dX3_dropEmpty_11 : decode cX3_dropEmpty 11 = .ok (.istore_n 2, 1) := by decide +kernel
theorem dX3_dropEmpty_12 : decode cX3_dropEmpty 12 = .ok (.iload_n 2, 1) := by decide +kernel
theorem dX3_dropEmpty_13 : decode cX3_dropEmpty 13 = .ok (.ifCond .lt 38, 3) := by decide +kernel
theorem dX3_dropEmpty_16 : decode cX3_dropEmpty 16 = .ok (.aload_n 0, 1) := by decide +kernel
theorem dX3_dropEmpty_17 : decode cX3_dropEmpty 17 = .ok (.getfield 19, 3) := by decide +kernel
theorem dX3_dropEmpty_20 : decode cX3_dropEmpty 20 = .ok (.iload_n 2, 1) := by decide +kernel
theorem dX3_dropEmpty_21 : decode cX3_dropEmpty 21 = .ok (.invokevirtual 55, 3) := by decide +kernel
theorem dX3_dropEmpty_24 : decode cX3_dropEmpty 24 = .ok (.checkcast 59, 3) := by decide +kernel
theorem dX3_dropEmpty_27 : decode cX3_dropEmpty 27 = .ok (.getfield 75, 3) := by decide +kernel
theorem dX3_dropEmpty_30 : decode cX3_dropEmpty 30 = .ok (.ifCond .ne 15, 3) := by decide +kernel
theorem dX3_dropEmpty_33 : decode cX3_dropEmpty 33 = .ok (.aload_n 0, 1) := by decide +kernel
theorem dX3_dropEmpty_34 : decode cX3_dropEmpty 34 = .ok (.getfield 19, 3) := by decide +kernel
theorem dX3_dropEmpty_37 : decode cX3_dropEmpty 37 = .ok (.iload_n 2, 1) := by decide +kernel
theorem dX3_dropEmpty_38 : decode cX3_dropEmpty 38 = .ok (.invokevirtual 85, 3) := by decide +kernel
theorem dX3_dropEmpty_41 : decode cX3_dropEmpty 41 = .ok (.pop, 1) := by decide +kernel
theorem dX3_dropEmpty_42 : decode cX3_dropEmpty 42 = .ok (.iinc 1 1, 3) := by decide +kernel
theorem dX3_dropEmpty_45 : decode cX3_dropEmpty 45 = .ok (.iinc 2 (-1), 3) := by decide +kernel
theorem dX3_dropEmpty_48 : decode cX3_dropEmpty 48 = .ok (.goto (-36), 3) := by decide +kernel
theorem dX3_dropEmpty_51 : decode cX3_dropEmpty 51 = .ok (.iload_n 1, 1) := by decide +kernel
theorem dX3_dropEmpty_52 : decode cX3_dropEmpty 52 = .ok (.ireturn, 1) := by decide +kernel
theorem dX3_insert_0 : decode cX3_insert 0 = .ok (.new 59, 3) := by decide +kernel
theorem dX3_insert_3 : decode cX3_insert 3 = .ok (.dup, 1) := by decide +kernel
theorem dX3_insert_4 : decode cX3_insert 4 = .ok (.invokespecial 88, 3) := by decide +kernel
theorem dX3_insert_7 : decode cX3_insert 7 = .ok (.astore 6, 2) := by decide +kernel
theorem dX3_insert_9 : decode cX3_insert 9 = .ok (.aload 6, 2) := by decide +kernel
theorem dX3_insert_11 : decode cX3_insert 11 = .ok (.iload_n 2, 1) := by decide +kernel
theorem dX3_insert_12 : decode cX3_insert 12 = .ok (.iload_n 3, 1) := by decide +kernel
theorem dX3_insert_13 : decode cX3_insert 13 = .ok (.iload 4, 2) := by decide +kernel
theorem dX3_insert_15 : decode cX3_insert 15 = .ok (.iload 5, 2) := by decide +kernel
theorem dX3_insert_17 : decode cX3_insert 17 = .ok (.invokevirtual 78, 3) := by decide +kernel
theorem dX3_insert_20 : decode cX3_insert 20 = .ok (.aload_n 0, 1) := by decide +kernel
theorem dX3_insert_21 : decode cX3_insert 21 = .ok (.getfield 19, 3) := by decide +kernel
theorem dX3_insert_24 : decode cX3_insert 24 = .ok (.iload_n 1, 1) := by decide +kernel
theorem dX3_insert_25 : decode cX3_insert 25 = .ok (.aload 6, 2) := by decide +kernel
theorem dX3_insert_27 : decode cX3_insert 27 = .ok (.invokevirtual 89, 3) := by decide +kernel
theorem dX3_insert_30 : decode cX3_insert 30 = .ok (.return_, 1) := by decide +kernel
theorem dX4_init_0 : decode cX4_init 0 = .ok (.aload_n 0, 1) := by decide +kernel
theorem dX4_init_1 : decode cX4_init 1 = .ok (.invokespecial 3, 3) := by decide +kernel
theorem dX4_init_4 : decode cX4_init 4 = .ok (.aload_n 0, 1) := by decide +kernel
theorem dX4_init_5 : decode cX4_init 5 = .ok (.bipush 7, 2) := by decide +kernel
theorem dX4_init_7 : decode cX4_init 7 = .ok (.anewarray 9, 3) := by decide +kernel
theorem dX4_init_10 : decode cX4_init 10 = .ok (.putfield 11, 3) := by decide +kernel
theorem dX4_init_13 : decode cX4_init 13 = .ok (.aload_n 0, 1) := by decide +kernel
theorem dX4_init_14 : decode cX4_init 14 = .ok (.iconst (-1), 1) := by decide +kernel
theorem dX4_init_15 : decode cX4_init 15 = .ok (.putfield 17, 3) := by decide +kernel
theorem dX4_init_18 : decode cX4_init 18 = .ok (.iconst 0, 1) := by decide +kernel
theorem dX4_init_19 : decode cX4_init 19 = .ok (.istore_n 1, 1) := by decide +kernel
theorem dX4_init_20 : decode cX4_init 20 = .ok (.iload_n 1, 1) := by decide +kernel
theorem dX4_init_21 : decode cX4_init 21 = .ok (.bipush 7, 2) := by decide +kernel
theorem dX4_init_23 : decode cX4_init 23 = .ok (.if_icmp .ge 22, 3) := by decide +kernel
theorem dX4_init_26 : decode cX4_init 26 = .ok (.aload_n 0, 1) := by decide +kernel
theorem dX4_init_27 : decode cX4_init 27 = .ok (.getfield 11, 3) := by decide +kernel
theorem dX4_init_30 : decode cX4_init 30 = .ok (.iload_n 1, 1) := by decide +kernel
theorem dX4_init_31 : decode cX4_init 31 = .ok (.new 9, 3) := by decide +kernel
theorem dX4_init_34 : decode cX4_init 34 = .ok (.dup, 1) := by decide +kernel
theorem dX4_init_35 : decode cX4_init 35 = .ok (.invokespecial 21, 3) := by decide +kernel
theorem dX4_init_38 : decode cX4_init 38 = .ok (.aastore, 1) := by decide +kernel
theorem dX4_init_39 : decode cX4_init 39 = .ok (.iinc 1 1, 3) := by decide +kernel
theorem dX4_init_42 : decode cX4_init 42 = .ok (.goto (-22), 3) := by decide +kernel
theorem dX4_init_45 : decode cX4_init 45 = .ok (.return_, 1) := by decide +kernel
theorem dX4_clear_0 : decode cX4_clear 0 = .ok (.iconst 0, 1) := by decide +kernel
theorem dX4_clear_1 : decode cX4_clear 1 = .ok (.istore_n 1, 1) := by decide +kernel
theorem dX4_clear_2 : decode cX4_clear 2 = .ok (.iload_n 1, 1) := by decide +kernel
theorem dX4_clear_3 : decode cX4_clear 3 = .ok (.aload_n 0, 1) := by decide +kernel
theorem dX4_clear_4 : decode cX4_clear 4 = .ok (.getfield 17, 3) := by decide +kernel
theorem dX4_clear_7 : decode cX4_clear 7 = .ok (.if_icmp .gt 18, 3) := by decide +kernel
theorem dX4_clear_10 : decode cX4_clear 10 = .ok (.aload_n 0, 1) := by decide +kernel
theorem dX4_clear_11 : decode cX4_clear 11 = .ok (.getfield 11, 3) := by decide +kernel
theorem dX4_clear_14 : decode cX4_clear 14 = .ok (.iload_n 1, 1) := by decide +kernel
theorem dX4_clear_15 : decode cX4_clear 15 = .ok (.aaload, 1) := by decide +kernel
theorem dX4_clear_16 : decode cX4_clear 16 = .ok (.invokevirtual 22, 3) := by decide +kernel
theorem dX4_clear_19 : decode cX4_clear 19 = .ok (.iinc 1 1, 3) := by decide +kernel
theorem dX4_clear_22 : decode cX4_clear 22 = .ok (.goto (-20), 3) := by decide +kernel
theorem dX4_clear_25 : decode cX4_clear 25 = .ok (.aload_n 0, 1) := by decide +kernel
theorem dX4_clear_26 : decode cX4_clear 26 = .ok (.iconst (-1), 1) := by decide +kernel
theorem dX4_clear_27 : decode cX4_clear 27 = .ok (.putfield 17, 3) := by decide +kernel
theorem dX4_clear_30 : decode cX4_clear 30 = .ok (.return_, 1) := by decide +kernel
theorem dX4_become_0 : decode cX4_become 0 = .ok (.iconst 0, 1) := by decide +kernel
theorem dX4_become_1 : decode cX4_become 1 = .ok (.istore_n 2, 1) := by decide +kernel
theorem dX4_become_2 : decode cX4_become 2 = .ok (.iload_n 2, 1) := by decide +kernel
theorem dX4_become_3 : decode cX4_become 3 = .ok (.bipush 7, 2) := by decide +kernel
theorem dX4_become_5 : decode cX4_become 5 = .ok (.if_icmp .ge 24, 3) := by decide +kernel
theorem dX4_become_8 : decode cX4_become 8 = .ok (.aload_n 0, 1) := by decide +kernel
theorem dX4_become_9 : decode cX4_become 9 = .ok (.getfield 11, 3) := by decide +kernel
theorem dX4_become_12 : decode cX4_become 12 = .ok (.iload_n 2, 1) := by decide +kernel
theorem dX4_become_13 : decode cX4_become 13 = .ok (.aaload, 1) := by decide +kernel
theorem dX4_become_14 : decode cX4_become 14 = .ok (.aload_n 1, 1) := by decide +kernel
theorem dX4_become_15 : decode cX4_become 15 = .ok (.getfield 11, 3) := by decide +kernel
theorem dX4_become_18 : decode cX4_become 18 = .ok (.iload_n 2, 1) := by decide +kernel
theorem dX4_become_19 : decode cX4_become 19 = .ok (.aaload, 1) := by decide +kernel
theorem dX4_become_20 : decode cX4_become 20 = .ok (.invokevirtual 25, 3) := by decide +kernel
theorem dX4_become_23 : decode cX4_become 23 = .ok (.iinc 2 1, 3) := by decide +kernel
theorem dX4_become_26 : decode cX4_become 26 = .ok (.goto (-24), 3) := by decide +kernel
theorem dX4_become_29 : decode cX4_become 29 = .ok (.aload_n 0, 1) := by decide +kernel
theorem dX4_become_30 : decode cX4_become 30 = .ok (.aload_n 1, 1) := by decide +kernel
theorem dX4_become_31 : decode cX4_become 31 = .ok (.getfield 17, 3) := by decide +kernel
theorem dX4_become_34 : decode cX4_become 34 = .ok (.putfield 17, 3) := by decide +kernel
theorem dX4_become_37 : decode cX4_become 37 = .ok (.return_, 1) := by decide +kernel
theorem dX4_becomeRow_0 : decode cX4_becomeRow 0 = .ok (.iconst 0, 1) := by decide +kernel
theorem dX4_becomeRow_1 : decode cX4_becomeRow 1 = .ok (.istore_n 2, 1) := by decide +kernel
theorem dX4_becomeRow_2 : decode cX4_becomeRow 2 = .ok (.iload_n 2, 1) := by decide +kernel
theorem dX4_becomeRow_3 : decode cX4_becomeRow 3 = .ok (.bipush 7, 2) := by decide +kernel
theorem dX4_becomeRow_5 : decode cX4_becomeRow 5 = .ok (.if_icmp .ge 22, 3) := by decide +kernel
theorem dX4_becomeRow_8 : decode cX4_becomeRow 8 = .ok (.aload_n 0, 1) := by decide +kernel
theorem dX4_becomeRow_9 : decode cX4_becomeRow 9 = .ok (.getfield 11, 3) := by decide +kernel
theorem dX4_becomeRow_12 : decode cX4_becomeRow 12 = .ok (.iload_n 2, 1) := by decide +kernel
theorem dX4_becomeRow_13 : decode cX4_becomeRow 13 = .ok (.aaload, 1) := by decide +kernel
theorem dX4_becomeRow_14 : decode cX4_becomeRow 14 = .ok (.aload_n 1, 1) := by decide +kernel
theorem dX4_becomeRow_15 : decode cX4_becomeRow 15 = .ok (.iload_n 2, 1) := by decide +kernel
theorem dX4_becomeRow_16 : decode cX4_becomeRow 16 = .ok (.iaload, 1) := by decide +kernel
theorem dX4_becomeRow_17 : decode cX4_becomeRow 17 = .ok (.i2l, 1) := by decide +kernel
theorem dX4_becomeRow_18 : decode cX4_becomeRow 18 = .ok (.invokevirtual 29, 3) := by decide +kernel
theorem dX4_becomeRow_21 : decode cX4_becomeRow 21 = .ok (.iinc 2 1, 3) := by decide +kernel
theorem dX4_becomeRow_24 : decode cX4_becomeRow 24 = .ok (.goto (-22), 3) := by decide +kernel
theorem dX4_becomeRow_27 : decode cX4_becomeRow 27 = .ok (.aload_n 0, 1) := by decide +kernel
theorem dX4_becomeRow_28 : decode cX4_becomeRow 28 = .ok (.invokevirtual 33, 3) := by decide +kernel
theorem dX4_becomeRow_31 : decode cX4_becomeRow 31 = .ok (.return_, 1) := by decide +kernel
theorem dX4_becomeDerivative_0 : decode cX4_becomeDerivative 0 = .ok (.iconst 1, 1) := by decide +kernel
theorem dX4_becomeDerivative_1 : decode cX4_becomeDerivative 1 = .ok (.istore_n 2, 1) := by decide +kernel
theorem dX4_becomeDerivative_2 : decode cX4_becomeDerivative 2 = .ok (.iload_n 2, 1) := by decide +kernel
theorem dX4_becomeDerivative_3 : decode cX4_becomeDerivative 3 = .ok (.bipush 7, 2) := by decide +kernel
theorem dX4_becomeDerivative_5 : decode cX4_becomeDerivative 5 = .ok (.if_icmp .ge 38, 3) := by decide +kernel
theorem dX4_becomeDerivative_8 : decode cX4_becomeDerivative 8 = .ok (.aload_n 0, 1) := by decide +kernel
theorem dX4_becomeDerivative_9 : decode cX4_becomeDerivative 9 = .ok (.getfield 11, 3) := by decide +kernel
theorem dX4_becomeDerivative_12 : decode cX4_becomeDerivative 12 = .ok (.iload_n 2, 1) := by decide +kernel
theorem dX4_becomeDerivative_13 : decode cX4_becomeDerivative 13 = .ok (.iconst 1, 1) := by decide +kernel
theorem dX4_becomeDerivative_14 : decode cX4_becomeDerivative 14 = .ok (.isub, 1) := by decide +kernel
theorem dX4_becomeDerivative_15 : decode cX4_becomeDerivative 15 = .ok (.aaload, 1) := by decide +kernel
theorem dX4_becomeDerivative_16 : decode cX4_becomeDerivative 16 = .ok (.aload_n 1, 1) := by decide +kernel
theorem dX4_becomeDerivative_17 : decode cX4_becomeDerivative 17 = .ok (.getfield 11, 3) := by decide +kernel
theorem dX4_becomeDerivative_20 : decode cX4_becomeDerivative 20 = .ok (.iload_n 2, 1) := by decide +kernel
theorem dX4_becomeDerivative_21 : decode cX4_becomeDerivative 21 = .ok (.aaload, 1) := by decide +kernel
theorem dX4_becomeDerivative_22 : decode cX4_becomeDerivative 22 = .ok (.invokevirtual 25, 3) := by decide +kernel
theorem dX4_becomeDerivative_25 : decode cX4_becomeDerivative 25 = .ok (.aload_n 0, 1) := by decide +kernel
theorem dX4_becomeDerivative_26 : decode cX4_becomeDerivative 26 = .ok (.getfield 11, 3) := by decide +kernel
theorem dX4_becomeDerivative_29 : decode cX4_becomeDerivative 29 = .ok (.iload_n 2, 1) := by decide +kernel
theorem dX4_becomeDerivative_30 : decode cX4_becomeDerivative 30 = .ok (.iconst 1, 1) := by decide +kernel
theorem dX4_becomeDerivative_31 : decode cX4_becomeDerivative 31 = .ok (.isub, 1) := by decide +kernel
theorem dX4_becomeDerivative_32 : decode cX4_becomeDerivative 32 = .ok (.aaload, 1) := by decide +kernel
theorem dX4_becomeDerivative_33 : decode cX4_becomeDerivative 33 = .ok (.iload_n 2, 1) := by decide +kernel
theorem dX4_becomeDerivative_34 : decode cX4_becomeDerivative 34 = .ok (.invokevirtual 36, 3) := by decide +kernel
theorem dX4_becomeDerivative_37 : decode cX4_becomeDerivative 37 = .ok (.iinc 2 1, 3) := by decide +kernel
theorem dX4_becomeDerivative_40 : decode cX4_becomeDerivative 40 = .ok (.goto (-38), 3) := by decide +kernel
theorem dX4_becomeDerivative_43 : decode cX4_becomeDerivative 43 = .ok (.aload_n 0, 1) := by decide +kernel
theorem dX4_becomeDerivative_44 : decode cX4_becomeDerivative 44 = .ok (.getfield 11, 3) := by decide +kernel
theorem dX4_becomeDerivative_47 : decode cX4_becomeDerivative 47 = .ok (.bipush 6, 2) := by decide +kernel
theorem dX4_becomeDerivative_49 : decode cX4_becomeDerivative 49 = .ok (.aaload, 1) := by decide +kernel
theorem dX4_becomeDerivative_50 : decode cX4_becomeDerivative 50 = .ok (.invokevirtual 22, 3) := by decide +kernel
theorem dX4_becomeDerivative_53 : decode cX4_becomeDerivative 53 = .ok (.aload_n 0, 1) := by decide +kernel
theorem dX4_becomeDerivative_54 : decode cX4_becomeDerivative 54 = .ok (.invokevirtual 33, 3) := by decide +kernel
theorem dX4_becomeDerivative_57 : decode cX4_becomeDerivative 57 = .ok (.return_, 1) := by decide +kernel
theorem dX4_writeRow_0 : decode cX4_writeRow 0 = .ok (.iconst 0, 1) := by decide +kernel
theorem dX4_writeRow_1 : decode cX4_writeRow 1 = .ok (.istore_n 2, 1) := by decide +kernel
theorem dX4_writeRow_2 : decode cX4_writeRow 2 = .ok (.iload_n 2, 1) := by decide +kernel
theorem dX4_writeRow_3 : decode cX4_writeRow 3 = .ok (.bipush 7, 2) := by decide +kernel
theorem dX4_writeRow_5 : decode cX4_writeRow 5 = .ok (.if_icmp .ge 50, 3) := by decide +kernel
theorem dX4_writeRow_8 : decode cX4_writeRow 8 = .ok (.aload_n 0, 1) := by decide +kernel
theorem dX4_writeRow_9 : decode cX4_writeRow 9 = .ok (.getfield 11, 3) := by decide +kernel
theorem dX4_writeRow_12 : decode cX4_writeRow 12 = .ok (.iload_n 2, 1) := by decide +kernel
theorem dX4_writeRow_13 : decode cX4_writeRow 13 = .ok (.aaload, 1) := by decide +kernel
theorem dX4_writeRow_14 : decode cX4_writeRow 14 = .ok (.getfield 40, 3) := by decide +kernel
theorem dX4_writeRow_17 : decode cX4_writeRow 17 = .ok (.iconst 1, 1) := by decide +kernel
theorem dX4_writeRow_18 : decode cX4_writeRow 18 = .ok (.if_icmp .le 7, 3) := by decide +kernel
theorem dX4_writeRow_21 : decode cX4_writeRow 21 = .ok (.iconst 1, 1) := by decide +kernel
theorem dX4_writeRow_22 : decode cX4_writeRow 22 = .ok (.goto 4, 3) := by decide +kernel
theorem dX4_writeRow_25 : decode cX4_writeRow 25 = .ok (.iconst 0, 1) := by decide +kernel
theorem dX4_writeRow_26 : decode cX4_writeRow 26 = .ok (.istore_n 3, 1) := by decide +kernel
theorem dX4_writeRow_27 : decode cX4_writeRow 27 = .ok (.aload_n 1, 1) := by decide +kernel
theorem dX4_writeRow_28 : decode cX4_writeRow 28 = .ok (.iload_n 2, 1) := by decide +kernel
theorem dX4_writeRow_29 : decode cX4_writeRow 29 = .ok (.iload_n 3, 1) := by decide +kernel
theorem dX4_writeRow_30 : decode cX4_writeRow 30 = .ok (.ifCond .eq 9, 3) := by decide +kernel
theorem dX4_writeRow_33 : decode cX4_writeRow 33 = .ok (.ldc2_w 43, 3) := by decide +kernel
theorem dX4_writeRow_36 : decode cX4_writeRow 36 = .ok (.goto 12, 3) := by decide +kernel
theorem dX4_writeRow_39 : decode cX4_writeRow 39 = .ok (.aload_n 0, 1) := by decide +kernel
theorem dX4_writeRow_40 : decode cX4_writeRow 40 = .ok (.getfield 11, 3) := by decide +kernel
theorem dX4_writeRow_43 : decode cX4_writeRow 43 = .ok (.iload_n 2, 1) := by decide +kernel
theorem dX4_writeRow_44 : decode cX4_writeRow 44 = .ok (.aaload, 1) := by decide +kernel
theorem dX4_writeRow_45 : decode cX4_writeRow 45 = .ok (.invokevirtual 45, 3) := by decide +kernel
theorem dX4_writeRow_48 : decode cX4_writeRow 48 = .ok (.lastore, 1) := by decide +kernel
theorem dX4_writeRow_49 : decode cX4_writeRow 49 = .ok (.iinc 2 1, 3) := by decide +kernel
theorem dX4_writeRow_52 : decode cX4_writeRow 52 = .ok (.goto (-50), 3) := by decide +kernel
theorem dX4_writeRow_55 : decode cX4_writeRow 55 = .ok (.return_, 1) := by decide +kernel
theorem dX4_settle_0 : decode cX4_settle 0 = .ok (.aload_n 0, 1) := by decide +kernel
theorem dX4_settle_1 : decode cX4_settle 1 = .ok (.bipush 6, 2) := by decide +kernel
theorem dX4_settle_3 : decode cX4_settle 3 = .ok (.putfield 17, 3) := by decide +kernel
theorem dX4_settle_6 : decode cX4_settle 6 = .ok (.aload_n 0, 1) := by decide +kernel
theorem dX4_settle_7 : decode cX4_settle 7 = .ok (.getfield 17, 3) := by decide +kernel
theorem dX4_settle_10 : decode cX4_settle 10 = .ok (.ifCond .lt 31, 3) := by decide +kernel
theorem dX4_settle_13 : decode cX4_settle 13 = .ok (.aload_n 0, 1) := by decide +kernel
theorem dX4_settle_14 : decode cX4_settle 14 = .ok (.getfield 11, 3) := by decide +kernel
theorem dX4_settle_17 : decode cX4_settle 17 = .ok (.aload_n 0, 1) := by decide +kernel
theorem dX4_settle_18 : decode cX4_settle 18 = .ok (.getfield 17, 3) := by decide +kernel
theorem dX4_settle_21 : decode cX4_settle 21 = .ok (.aaload, 1) := by decide +kernel
theorem dX4_settle_22 : decode cX4_settle 22 = .ok (.invokevirtual 49, 3) := by decide +kernel
theorem dX4_settle_25 : decode cX4_settle 25 = .ok (.ifCond .eq 16, 3) := by decide +kernel
theorem dX4_settle_28 : decode cX4_settle 28 = .ok (.aload_n 0, 1) := by decide +kernel
theorem dX4_settle_29 : decode cX4_settle 29 = .ok (.dup, 1) := by decide +kernel
theorem dX4_settle_30 : decode cX4_settle 30 = .ok (.getfield 17, 3) := by decide +kernel
theorem dX4_settle_33 : decode cX4_settle 33 = .ok (.iconst 1, 1) := by decide +kernel
theorem dX4_settle_34 : decode cX4_settle 34 = .ok (.isub, 1) := by decide +kernel
theorem dX4_settle_35 : decode cX4_settle 35 = .ok (.putfield 17, 3) := by decide +kernel
theorem dX4_settle_38 : decode cX4_settle 38 = .ok (.goto (-32), 3) := by decide +kernel
theorem dX4_settle_41 : decode cX4_settle 41 = .ok (.return_, 1) := by decide +kernel
theorem dX4_flipSigns_0 : decode cX4_flipSigns 0 = .ok (.iconst 0, 1) := by decide +kernel
theorem dX4_flipSigns_1 : decode cX4_flipSigns 1 = .ok (.istore_n 1, 1) := by decide +kernel
theorem dX4_flipSigns_2 : decode cX4_flipSigns 2 = .ok (.iload_n 1, 1) := by decide +kernel
theorem dX4_flipSigns_3 : decode cX4_flipSigns 3 = .ok (.aload_n 0, 1) := by decide +kernel
theorem dX4_flipSigns_4 : decode cX4_flipSigns 4 = .ok (.getfield 17, 3) := by decide +kernel
theorem dX4_flipSigns_7 : decode cX4_flipSigns 7 = .ok (.if_icmp .gt 18, 3) := by decide +kernel
theorem dX4_flipSigns_10 : decode cX4_flipSigns 10 = .ok (.aload_n 0, 1) := by decide +kernel
theorem dX4_flipSigns_11 : decode cX4_flipSigns 11 = .ok (.getfield 11, 3) := by decide +kernel
theorem dX4_flipSigns_14 : decode cX4_flipSigns 14 = .ok (.iload_n 1, 1) := by decide +kernel
theorem dX4_flipSigns_15 : decode cX4_flipSigns 15 = .ok (.aaload, 1) := by decide +kernel
theorem dX4_flipSigns_16 : decode cX4_flipSigns 16 = .ok (.invokevirtual 53, 3) := by decide +kernel
theorem dX4_flipSigns_19 : decode cX4_flipSigns 19 = .ok (.iinc 1 1, 3) := by decide +kernel
theorem dX4_flipSigns_22 : decode cX4_flipSigns 22 = .ok (.goto (-20), 3) := by decide +kernel
theorem dX4_flipSigns_25 : decode cX4_flipSigns 25 = .ok (.return_, 1) := by decide +kernel
theorem dX4_makeLeadPositive_0 : decode cX4_makeLeadPositive 0 = .ok (.aload_n 0, 1) := by decide +kernel
theorem dX4_makeLeadPositive_1 : decode cX4_makeLeadPositive 1 = .ok (.getfield 17, 3) := by decide +kernel
theorem dX4_makeLeadPositive_4 : decode cX4_makeLeadPositive 4 = .ok (.ifCond .lt 22, 3) := by decide +kernel
theorem dX4_makeLeadPositive_7 : decode cX4_makeLeadPositive 7 = .ok (.aload_n 0, 1) := by decide +kernel
theorem dX4_makeLeadPositive_8 : decode cX4_makeLeadPositive 8 = .ok (.getfield 11, 3) := by decide +kernel
theorem dX4_makeLeadPositive_11 : decode cX4_makeLeadPositive 11 = .ok (.aload_n 0, 1) := by decide +kernel
theorem dX4_makeLeadPositive_12 : decode cX4_makeLeadPositive 12 = .ok (.getfield 17, 3) := by decide +kernel
theorem dX4_makeLeadPositive_15 : decode cX4_makeLeadPositive 15 = .ok (.aaload, 1) := by decide +kernel
theorem dX4_makeLeadPositive_16 : decode cX4_makeLeadPositive 16 = .ok (.getfield 56, 3) := by decide +kernel
theorem dX4_makeLeadPositive_19 : decode cX4_makeLeadPositive 19 = .ok (.ifCond .eq 7, 3) := by decide +kernel
theorem dX4_makeLeadPositive_22 : decode cX4_makeLeadPositive 22 = .ok (.aload_n 0, 1) := by decide +kernel
theorem dX4_makeLeadPositive_23 : decode cX4_makeLeadPositive 23 = .ok (.invokevirtual 60, 3) := by decide +kernel
theorem dX4_makeLeadPositive_26 : decode cX4_makeLeadPositive 26 = .ok (.return_, 1) := by decide +kernel
theorem dX4_coefficientChanges_0 : decode cX4_coefficientChanges 0 = .ok (.iconst 0, 1) := by decide +kernel
theorem dX4_coefficientChanges_1 : decode cX4_coefficientChanges 1 = .ok (.istore_n 1, 1) := by decide +kernel
theorem dX4_coefficientChanges_2 : decode cX4_coefficientChanges 2 = .ok (.iconst 0, 1) := by decide +kernel
theorem dX4_coefficientChanges_3 : decode cX4_coefficientChanges 3 = .ok (.istore_n 2, 1) := by decide +kernel
theorem dX4_coefficientChanges_4 : decode cX4_coefficientChanges 4 = .ok (.iconst 0, 1) := by decide +kernel
theorem dX4_coefficientChanges_5 : decode cX4_coefficientChanges 5 = .ok (.istore_n 3, 1) := by decide +kernel
theorem dX4_coefficientChanges_6 : decode cX4_coefficientChanges 6 = .ok (.iload_n 3, 1) := by decide +kernel
theorem dX4_coefficientChanges_7 : decode cX4_coefficientChanges 7 = .ok (.aload_n 0, 1) := by decide +kernel
theorem dX4_coefficientChanges_8 : decode cX4_coefficientChanges 8 = .ok (.getfield 17, 3) := by decide +kernel
theorem dX4_coefficientChanges_11 : decode cX4_coefficientChanges 11 = .ok (.if_icmp .gt 38, 3) := by decide +kernel
theorem dX4_coefficientChanges_14 : decode cX4_coefficientChanges 14 = .ok (.aload_n 0, 1) := by decide +kernel
theorem dX4_coefficientChanges_15 : decode cX4_coefficientChanges 15 = .ok (.getfield 11, 3) := by decide +kernel
theorem dX4_coefficientChanges_18 : decode cX4_coefficientChanges 18 = .ok (.iload_n 3, 1) := by decide +kernel
theorem dX4_coefficientChanges_19 : decode cX4_coefficientChanges 19 = .ok (.aaload, 1) := by decide +kernel
theorem dX4_coefficientChanges_20 : decode cX4_coefficientChanges 20 = .ok (.invokevirtual 63, 3) := by decide +kernel
theorem dX4_coefficientChanges_23 : decode cX4_coefficientChanges 23 = .ok (.istore 4, 2) := by decide +kernel
theorem dX4_coefficientChanges_25 : decode cX4_coefficientChanges 25 = .ok (.iload 4, 2) := by decide +kernel
theorem dX4_coefficientChanges_27 : decode cX4_coefficientChanges 27 = .ok (.iload_n 2, 1) := by decide +kernel
theorem dX4_coefficientChanges_28 : decode cX4_coefficientChanges 28 = .ok (.imul, 1) := by decide +kernel
theorem dX4_coefficientChanges_29 : decode cX4_coefficientChanges 29 = .ok (.ifCond .ge 6, 3) := by decide +kernel
theorem dX4_coefficientChanges_32 : decode cX4_coefficientChanges 32 = .ok (.iinc 1 1, 3) := by decide +kernel
theorem dX4_coefficientChanges_35 : decode cX4_coefficientChanges 35 = .ok (.iload 4, 2) := by decide +kernel
theorem dX4_coefficientChanges_37 : decode cX4_coefficientChanges 37 = .ok (.ifCond .eq 6, 3) := by decide +kernel
theorem dX4_coefficientChanges_40 : decode cX4_coefficientChanges 40 = .ok (.iload 4, 2) := by decide +kernel
theorem dX4_coefficientChanges_42 : decode cX4_coefficientChanges 42 = .ok (.istore_n 2, 1) := by decide +kernel
theorem dX4_coefficientChanges_43 : decode cX4_coefficientChanges 43 = .ok (.iinc 3 1, 3) := by decide +kernel
theorem dX4_coefficientChanges_46 : decode cX4_coefficientChanges 46 = .ok (.goto (-40), 3) := by decide +kernel
theorem dX4_coefficientChanges_49 : decode cX4_coefficientChanges 49 = .ok (.iload_n 1, 1) := by decide +kernel
theorem dX4_coefficientChanges_50 : decode cX4_coefficientChanges 50 = .ok (.ireturn, 1) := by decide +kernel
theorem dX5_init_0 : decode cX5_init 0 = .ok (.aload_n 0, 1) := by decide +kernel
theorem dX5_init_1 : decode cX5_init 1 = .ok (.invokespecial 3, 3) := by decide +kernel
theorem dX5_init_4 : decode cX5_init 4 = .ok (.aload_n 0, 1) := by decide +kernel
theorem dX5_init_5 : decode cX5_init 5 = .ok (.bipush 7, 2) := by decide +kernel
theorem dX5_init_7 : decode cX5_init 7 = .ok (.anewarray 9, 3) := by decide +kernel
theorem dX5_init_10 : decode cX5_init 10 = .ok (.putfield 11, 3) := by decide +kernel
theorem dX5_init_13 : decode cX5_init 13 = .ok (.iconst 0, 1) := by decide +kernel
theorem dX5_init_14 : decode cX5_init 14 = .ok (.istore_n 1, 1) := by decide +kernel
theorem dX5_init_15 : decode cX5_init 15 = .ok (.iload_n 1, 1) := by decide +kernel
theorem dX5_init_16 : decode cX5_init 16 = .ok (.bipush 7, 2) := by decide +kernel
theorem dX5_init_18 : decode cX5_init 18 = .ok (.if_icmp .ge 22, 3) := by decide +kernel
theorem dX5_init_21 : decode cX5_init 21 = .ok (.aload_n 0, 1) := by decide +kernel
theorem dX5_init_22 : decode cX5_init 22 = .ok (.getfield 11, 3) := by decide +kernel
theorem dX5_init_25 : decode cX5_init 25 = .ok (.iload_n 1, 1) := by decide +kernel
theorem dX5_init_26 : decode cX5_init 26 = .ok (.new 9, 3) := by decide +kernel
theorem dX5_init_29 : decode cX5_init 29 = .ok (.dup, 1) := by decide +kernel
theorem dX5_init_30 : decode cX5_init 30 = .ok (.invokespecial 17, 3) := by decide +kernel
theorem dX5_init_33 : decode cX5_init 33 = .ok (.aastore, 1) := by decide +kernel
theorem dX5_init_34 : decode cX5_init 34 = .ok (.iinc 1 1, 3) := by decide +kernel
theorem dX5_init_37 : decode cX5_init 37 = .ok (.goto (-22), 3) := by decide +kernel
theorem dX5_init_40 : decode cX5_init 40 = .ok (.return_, 1) := by decide +kernel
