theorem dX7_init_0 : decode cX7_init 0 = .ok (.aload_n 0, 1) := by decide +kernel
theorem dX7_init_1 : decode cX7_init 1 = .ok (.invokespecial 1, 3) := by decide +kernel
theorem dX7_init_4 : decode cX7_init 4 = .ok (.aload_n 0, 1) := by decide +kernel
theorem dX7_init_5 : decode cX7_init 5 = .ok (.iconst 5, 1) := by decide +kernel
theorem dX7_init_6 : decode cX7_init 6 = .ok (.bipush 7, 2) := by decide +kernel
theorem dX7_init_8 : decode cX7_init 8 = .ok (.multianewarray 9 2, 4) := by decide +kernel
theorem dX7_init_12 : decode cX7_init 12 = .ok (.putfield 11, 3) := by decide +kernel
theorem dX7_init_15 : decode cX7_init 15 = .ok (.aload_n 0, 1) := by decide +kernel
theorem dX7_init_16 : decode cX7_init 16 = .ok (.bipush 48, 2) := by decide +kernel
theorem dX7_init_18 : decode cX7_init 18 = .ok (.newarray .int, 2) := by decide +kernel
theorem dX7_init_20 : decode cX7_init 20 = .ok (.putfield 14, 3) := by decide +kernel
theorem dX7_init_23 : decode cX7_init 23 = .ok (.aload_n 0, 1) := by decide +kernel
theorem dX7_init_24 : decode cX7_init 24 = .ok (.bipush 48, 2) := by decide +kernel
theorem dX7_init_26 : decode cX7_init 26 = .ok (.newarray .int, 2) := by decide +kernel
theorem dX7_init_28 : decode cX7_init 28 = .ok (.putfield 18, 3) := by decide +kernel
theorem dX7_init_31 : decode cX7_init 31 = .ok (.aload_n 0, 1) := by decide +kernel
theorem dX7_init_32 : decode cX7_init 32 = .ok (.bipush 48, 2) := by decide +kernel
theorem dX7_init_34 : decode cX7_init 34 = .ok (.newarray .int, 2) := by decide +kernel
theorem dX7_init_36 : decode cX7_init 36 = .ok (.putfield 21, 3) := by decide +kernel
theorem dX7_init_39 : decode cX7_init 39 = .ok (.aload_n 0, 1) := by decide +kernel
theorem dX7_init_40 : decode cX7_init 40 = .ok (.bipush 48, 2) := by decide +kernel
theorem dX7_init_42 : decode cX7_init 42 = .ok (.newarray .int, 2) := by decide +kernel
theorem dX7_init_44 : decode cX7_init 44 = .ok (.putfield 24, 3) := by decide +kernel
theorem dX7_init_47 : decode cX7_init 47 = .ok (.aload_n 0, 1) := by decide +kernel
theorem dX7_init_48 : decode cX7_init 48 = .ok (.bipush 48, 2) := by decide +kernel
theorem dX7_init_50 : decode cX7_init 50 = .ok (.newarray .int, 2) := by decide +kernel
theorem dX7_init_52 : decode cX7_init 52 = .ok (.putfield 27, 3) := by decide +kernel
theorem dX7_init_55 : decode cX7_init 55 = .ok (.aload_n 0, 1) := by decide +kernel
theorem dX7_init_56 : decode cX7_init 56 = .ok (.bipush 48, 2) := by decide +kernel
theorem dX7_init_58 : decode cX7_init 58 = .ok (.newarray .int, 2) := by decide +kernel
theorem dX7_init_60 : decode cX7_init 60 = .ok (.putfield 30, 3) := by decide +kernel
theorem dX7_init_63 : decode cX7_init 63 = .ok (.aload_n 0, 1) := by decide +kernel
theorem dX7_init_64 : decode cX7_init 64 = .ok (.bipush 7, 2) := by decide +kernel
theorem dX7_init_66 : decode cX7_init 66 = .ok (.bipush 48, 2) := by decide +kernel
theorem dX7_init_68 : decode cX7_init 68 = .ok (.multianewarray 9 2, 4) := by decide +kernel
theorem dX7_init_72 : decode cX7_init 72 = .ok (.putfield 33, 3) := by decide +kernel
theorem dX7_init_75 : decode cX7_init 75 = .ok (.aload_n 0, 1) := by decide +kernel
theorem dX7_init_76 : decode cX7_init 76 = .ok (.bipush 7, 2) := by decide +kernel
theorem dX7_init_78 : decode cX7_init 78 = .ok (.bipush 48, 2) := by decide +kernel
theorem dX7_init_80 : decode cX7_init 80 = .ok (.multianewarray 9 2, 4) := by decide +kernel
theorem dX7_init_84 : decode cX7_init 84 = .ok (.putfield 36, 3) := by decide +kernel
theorem dX7_init_87 : decode cX7_init 87 = .ok (.aload_n 0, 1) := by decide +kernel
theorem dX7_init_88 : decode cX7_init 88 = .ok (.bipush 7, 2) := by decide +kernel
theorem dX7_init_90 : decode cX7_init 90 = .ok (.bipush 48, 2) := by decide +kernel
theorem dX7_init_92 : decode cX7_init 92 = .ok (.multianewarray 9 2, 4) := by decide +kernel
theorem dX7_init_96 : decode cX7_init 96 = .ok (.putfield 39, 3) := by decide +kernel
theorem dX7_init_99 : decode cX7_init 99 = .ok (.aload_n 0, 1) := by decide +kernel
theorem dX7_init_100 : decode cX7_init 100 = .ok (.bipush 7, 2) := by decide +kernel
theorem dX7_init_102 : decode cX7_init 102 = .ok (.bipush 48, 2) := by decide +kernel
theorem dX7_init_104 : decode cX7_init 104 = .ok (.multianewarray 9 2, 4) := by decide +kernel
theorem dX7_init_108 : decode cX7_init 108 = .ok (.putfield 42, 3) := by decide +kernel
theorem dX7_init_111 : decode cX7_init 111 = .ok (.aload_n 0, 1) := by decide +kernel
theorem dX7_init_112 : decode cX7_init 112 = .ok (.bipush 7, 2) := by decide +kernel
theorem dX7_init_114 : decode cX7_init 114 = .ok (.bipush 48, 2) := by decide +kernel
theorem dX7_init_116 : decode cX7_init 116 = .ok (.multianewarray 9 2, 4) := by decide +kernel
theorem dX7_init_120 : decode cX7_init 120 = .ok (.putfield 45, 3) := by decide +kernel
theorem dX7_init_123 : decode cX7_init 123 = .ok (.aload_n 0, 1) := by decide +kernel
theorem dX7_init_124 : decode cX7_init 124 = .ok (.sipush 160, 3) := by decide +kernel
theorem dX7_init_127 : decode cX7_init 127 = .ok (.bipush 7, 2) := by decide +kernel
theorem dX7_init_129 : decode cX7_init 129 = .ok (.bipush 48, 2) := by decide +kernel
theorem dX7_init_131 : decode cX7_init 131 = .ok (.multianewarray 48 3, 4) := by decide +kernel
theorem dX7_init_135 : decode cX7_init 135 = .ok (.putfield 50, 3) := by decide +kernel
theorem dX7_init_138 : decode cX7_init 138 = .ok (.aload_n 0, 1) := by decide +kernel
theorem dX7_init_139 : decode cX7_init 139 = .ok (.sipush 160, 3) := by decide +kernel
theorem dX7_init_142 : decode cX7_init 142 = .ok (.newarray .int, 2) := by decide +kernel
theorem dX7_init_144 : decode cX7_init 144 = .ok (.putfield 53, 3) := by decide +kernel
theorem dX7_init_147 : decode cX7_init 147 = .ok (.aload_n 0, 1) := by decide +kernel
theorem dX7_init_148 : decode cX7_init 148 = .ok (.bipush 7, 2) := by decide +kernel
theorem dX7_init_150 : decode cX7_init 150 = .ok (.bipush 48, 2) := by decide +kernel
theorem dX7_init_152 : decode cX7_init 152 = .ok (.multianewarray 9 2, 4) := by decide +kernel
theorem dX7_init_156 : decode cX7_init 156 = .ok (.putfield 56, 3) := by decide +kernel
theorem dX7_init_159 : decode cX7_init 159 = .ok (.aload_n 0, 1) := by decide +kernel
theorem dX7_init_160 : decode cX7_init 160 = .ok (.bipush 14, 2) := by decide +kernel
theorem dX7_init_162 : decode cX7_init 162 = .ok (.newarray .long, 2) := by decide +kernel
theorem dX7_init_164 : decode cX7_init 164 = .ok (.putfield 59, 3) := by decide +kernel
theorem dX7_init_167 : decode cX7_init 167 = .ok (.aload_n 0, 1) := by decide +kernel
theorem dX7_init_168 : decode cX7_init 168 = .ok (.bipush 7, 2) := by decide +kernel
theorem dX7_init_170 : decode cX7_init 170 = .ok (.bipush 48, 2) := by decide +kernel
theorem dX7_init_172 : decode cX7_init 172 = .ok (.multianewarray 9 2, 4) := by decide +kernel
theorem dX7_init_176 : decode cX7_init 176 = .ok (.putfield 63, 3) := by decide +kernel
theorem dX7_init_179 : decode cX7_init 179 = .ok (.aload_n 0, 1) := by decide +kernel
theorem dX7_init_180 : decode cX7_init 180 = .ok (.bipush 8, 2) := by decide +kernel
theorem dX7_init_182 : decode cX7_init 182 = .ok (.bipush 7, 2) := by decide +kernel
theorem dX7_init_184 : decode cX7_init 184 = .ok (.bipush 48, 2) := by decide +kernel
theorem dX7_init_186 : decode cX7_init 186 = .ok (.multianewarray 48 3, 4) := by decide +kernel
theorem dX7_init_190 : decode cX7_init 190 = .ok (.putfield 66, 3) := by decide +kernel
theorem dX7_init_193 : decode cX7_init 193 = .ok (.aload_n 0, 1) := by decide +kernel
theorem dX7_init_194 : decode cX7_init 194 = .ok (.bipush 7, 2) := by decide +kernel
theorem dX7_init_196 : decode cX7_init 196 = .ok (.newarray .int, 2) := by decide +kernel
theorem dX7_init_198 : decode cX7_init 198 = .ok (.putfield 69, 3) := by decide +kernel
theorem dX7_init_201 : decode cX7_init 201 = .ok (.aload_n 0, 1) := by decide +kernel
theorem dX7_init_202 : decode cX7_init 202 = .ok (.bipush 7, 2) := by decide +kernel
theorem dX7_init_204 : decode cX7_init 204 = .ok (.bipush 48, 2) := by decide +kernel
theorem dX7_init_206 : decode cX7_init 206 = .ok (.multianewarray 9 2, 4) := by decide +kernel
theorem dX7_init_210 : decode cX7_init 210 = .ok (.putfield 72, 3) := by decide +kernel
theorem dX7_init_213 : decode cX7_init 213 = .ok (.aload_n 0, 1) := by decide +kernel
theorem dX7_init_214 : decode cX7_init 214 = .ok (.bipush 64, 2) := by decide +kernel
theorem dX7_init_216 : decode cX7_init 216 = .ok (.newarray .int, 2) := by decide +kernel
theorem dX7_init_218 : decode cX7_init 218 = .ok (.putfield 75, 3) := by decide +kernel
theorem dX7_init_221 : decode cX7_init 221 = .ok (.aload_n 0, 1) := by decide +kernel
theorem dX7_init_222 : decode cX7_init 222 = .ok (.bipush 64, 2) := by decide +kernel
theorem dX7_init_224 : decode cX7_init 224 = .ok (.newarray .int, 2) := by decide +kernel
theorem dX7_init_226 : decode cX7_init 226 = .ok (.putfield 78, 3) := by decide +kernel
theorem dX7_init_229 : decode cX7_init 229 = .ok (.aload_n 0, 1) := by decide +kernel
theorem dX7_init_230 : decode cX7_init 230 = .ok (.bipush 64, 2) := by decide +kernel
theorem dX7_init_232 : decode cX7_init 232 = .ok (.newarray .int, 2) := by decide +kernel
theorem dX7_init_234 : decode cX7_init 234 = .ok (.putfield 81, 3) := by decide +kernel
theorem dX7_init_237 : decode cX7_init 237 = .ok (.aload_n 0, 1) := by decide +kernel
theorem dX7_init_238 : decode cX7_init 238 = .ok (.bipush 64, 2) := by decide +kernel
theorem dX7_init_240 : decode cX7_init 240 = .ok (.newarray .int, 2) := by decide +kernel
theorem dX7_init_242 : decode cX7_init 242 = .ok (.putfield 84, 3) := by decide +kernel
theorem dX7_init_245 : decode cX7_init 245 = .ok (.return_, 1) := by decide +kernel
theorem dX7_thrown_0 : decode cX7_thrown 0 = .ok (.aload_n 0, 1) := by decide +kernel
theorem dX7_thrown_1 : decode cX7_thrown 1 = .ok (.getfield 87, 3) := by decide +kernel
theorem dX7_thrown_4 : decode cX7_thrown 4 = .ok (.ireturn, 1) := by decide +kernel
theorem dX7_fails_0 : decode cX7_fails 0 = .ok (.aload_n 0, 1) := by decide +kernel
theorem dX7_fails_1 : decode cX7_fails 1 = .ok (.iload_n 1, 1) := by decide +kernel
theorem dX7_fails_2 : decode cX7_fails 2 = .ok (.putfield 87, 3) := by decide +kernel
theorem dX7_fails_5 : decode cX7_fails 5 = .ok (.iconst 0, 1) := by decide +kernel
theorem dX7_fails_6 : decode cX7_fails 6 = .ok (.ireturn, 1) := by decide +kernel
theorem dX7_tells_0 : decode cX7_tells 0 = .ok (.aload_n 0, 1) := by decide +kernel
theorem dX7_tells_1 : decode cX7_tells 1 = .ok (.iconst 0, 1) := by decide +kernel
theorem dX7_tells_2 : decode cX7_tells 2 = .ok (.putfield 87, 3) := by decide +kernel
theorem dX7_tells_5 : decode cX7_tells 5 = .ok (.iload_n 1, 1) := by decide +kernel
theorem dX7_tells_6 : decode cX7_tells 6 = .ok (.ireturn, 1) := by decide +kernel
theorem dX7_set_0 : decode cX7_set 0 = .ok (.iconst 2, 1) := by decide +kernel
theorem dX7_set_1 : decode cX7_set 1 = .ok (.istore_n 3, 1) := by decide +kernel
theorem dX7_set_2 : decode cX7_set 2 = .ok (.iload_n 3, 1) := by decide +kernel
theorem dX7_set_3 : decode cX7_set 3 = .ok (.bipush 48, 2) := by decide +kernel
theorem dX7_set_5 : decode cX7_set 5 = .ok (.if_icmp .ge 23, 3) := by decide +kernel
theorem dX7_set_8 : decode cX7_set 8 = .ok (.aload_n 0, 1) := by decide +kernel
theorem dX7_set_9 : decode cX7_set 9 = .ok (.iload_n 3, 1) := by decide +kernel
theorem dX7_set_10 : decode cX7_set 10 = .ok (.lload_n 1, 1) := by decide +kernel
theorem dX7_set_11 : decode cX7_set 11 = .ok (.lconst 0, 1) := by decide +kernel
theorem dX7_set_12 : decode cX7_set 12 = .ok (.lcmp, 1) := by decide +kernel
theorem dX7_set_13 : decode cX7_set 13 = .ok (.ifCond .ge 7, 3) := by decide +kernel
theorem dX7_set_16 : decode cX7_set 16 = .ok (.iconst (-1), 1) := by decide +kernel
theorem dX7_set_17 : decode cX7_set 17 = .ok (.goto 4, 3) := by decide +kernel
theorem dX7_set_20 : decode cX7_set 20 = .ok (.iconst 0, 1) := by decide +kernel
theorem dX7_set_21 : decode cX7_set 21 = .ok (.iastore, 1) := by decide +kernel
theorem dX7_set_22 : decode cX7_set 22 = .ok (.iinc 3 1, 3) := by decide +kernel
theorem dX7_set_25 : decode cX7_set 25 = .ok (.goto (-23), 3) := by decide +kernel
theorem dX7_set_28 : decode cX7_set 28 = .ok (.aload_n 0, 1) := by decide +kernel
theorem dX7_set_29 : decode cX7_set 29 = .ok (.iconst 0, 1) := by decide +kernel
theorem dX7_set_30 : decode cX7_set 30 = .ok (.lload_n 1, 1) := by decide +kernel
theorem dX7_set_31 : decode cX7_set 31 = .ok (.l2i, 1) := by decide +kernel
theorem dX7_set_32 : decode cX7_set 32 = .ok (.iastore, 1) := by decide +kernel
theorem dX7_set_33 : decode cX7_set 33 = .ok (.aload_n 0, 1) := by decide +kernel
theorem dX7_set_34 : decode cX7_set 34 = .ok (.iconst 1, 1) := by decide +kernel
theorem dX7_set_35 : decode cX7_set 35 = .ok (.lload_n 1, 1) := by decide +kernel
theorem dX7_set_36 : decode cX7_set 36 = .ok (.bipush 32, 2) := by decide +kernel
theorem dX7_set_38 : decode cX7_set 38 = .ok (.lshr, 1) := by decide +kernel
theorem dX7_set_39 : decode cX7_set 39 = .ok (.l2i, 1) := by decide +kernel
theorem dX7_set_40 : decode cX7_set 40 = .ok (.iastore, 1) := by decide +kernel
theorem dX7_set_41 : decode cX7_set 41 = .ok (.return_, 1) := by decide +kernel
theorem dX7_copy_0 : decode cX7_copy 0 = .ok (.iconst 0, 1) := by decide +kernel
theorem dX7_copy_1 : decode cX7_copy 1 = .ok (.istore_n 2, 1) := by decide +kernel
theorem dX7_copy_2 : decode cX7_copy 2 = .ok (.iload_n 2, 1) := by decide +kernel
theorem dX7_copy_3 : decode cX7_copy 3 = .ok (.bipush 48, 2) := by decide +kernel
theorem dX7_copy_5 : decode cX7_copy 5 = .ok (.if_icmp .ge 15, 3) := by decide +kernel
theorem dX7_copy_8 : decode cX7_copy 8 = .ok (.aload_n 1, 1) := by decide +kernel
theorem dX7_copy_9 : decode cX7_copy 9 = .ok (.iload_n 2, 1) := by decide +kernel
theorem dX7_copy_10 : decode cX7_copy 10 = .ok (.aload_n 0, 1) := by decide +kernel
theorem dX7_copy_11 : decode cX7_copy 11 = .ok (.iload_n 2, 1) := by decide +kernel
theorem dX7_copy_12 : decode cX7_copy 12 = .ok (.iaload, 1) := by decide +kernel
theorem dX7_copy_13 : decode cX7_copy 13 = .ok (.iastore, 1) := by decide +kernel
theorem dX7_copy_14 : decode cX7_copy 14 = .ok (.iinc 2 1, 3) := by decide +kernel
theorem dX7_copy_17 : decode cX7_copy 17 = .ok (.goto (-15), 3) := by decide +kernel
theorem dX7_copy_20 : decode cX7_copy 20 = .ok (.return_, 1) := by decide +kernel
theorem dX7_sign_0 : decode cX7_sign 0 = .ok (.aload_n 0, 1) := by decide +kernel
theorem dX7_sign_1 : decode cX7_sign 1 = .ok (.bipush 47, 2) := by decide +kernel
theorem dX7_sign_3 : decode cX7_sign 3 = .ok (.iaload, 1) := by decide +kernel
theorem dX7_sign_4 : decode cX7_sign 4 = .ok (.ifCond .ge 5, 3) := by decide +kernel
theorem dX7_sign_7 : decode cX7_sign 7 = .ok (.iconst (-1), 1) := by decide +kernel
theorem dX7_sign_8 : decode cX7_sign 8 = .ok (.ireturn, 1) := by decide +kernel
theorem dX7_sign_9 : decode cX7_sign 9 = .ok (.iconst 0, 1) := by decide +kernel
theorem dX7_sign_10 : decode cX7_sign 10 = .ok (.istore_n 1, 1) := by decide +kernel
theorem dX7_sign_11 : decode cX7_sign 11 = .ok (.iload_n 1, 1) := by decide +kernel
theorem dX7_sign_12 : decode cX7_sign 12 = .ok (.bipush 48, 2) := by decide +kernel
theorem dX7_sign_14 : decode cX7_sign 14 = .ok (.if_icmp .ge 17, 3) := by decide +kernel
theorem dX7_sign_17 : decode cX7_sign 17 = .ok (.aload_n 0, 1) := by decide +kernel
theorem dX7_sign_18 : decode cX7_sign 18 = .ok (.iload_n 1, 1) := by decide +kernel
theorem dX7_sign_19 : decode cX7_sign 19 = .ok (.iaload, 1) := by decide +kernel
theorem dX7_sign_20 : decode cX7_sign 20 = .ok (.ifCond .eq 5, 3) := by decide +kernel
theorem dX7_sign_23 : decode cX7_sign 23 = .ok (.iconst 1, 1) := by decide +kernel
theorem dX7_sign_24 : decode cX7_sign 24 = .ok (.ireturn, 1) := by decide +kernel
theorem dX7_sign_25 : decode cX7_sign 25 = .ok (.iinc 1 1, 3) := by decide +kernel
theorem dX7_sign_28 : decode cX7_sign 28 = .ok (.goto (-17), 3) := by decide +kernel
theorem dX7_sign_31 : decode cX7_sign 31 = .ok (.iconst 0, 1) := by decide +kernel
theorem dX7_sign_32 : decode cX7_sign 32 = .ok (.ireturn, 1) := by decide +kernel
theorem dX7_add_0 : decode cX7_add 0 = .ok (.lconst 0, 1) := by decide +kernel
theorem dX7_add_1 : decode cX7_add 1 = .ok (.lstore_n 2, 1) := by decide +kernel
theorem dX7_add_2 : decode cX7_add 2 = .ok (.iconst 0, 1) := by decide +kernel
theorem dX7_add_3 : decode cX7_add 3 = .ok (.istore 4, 2) := by decide +kernel
theorem dX7_add_5 : decode cX7_add 5 = .ok (.iload 4, 2) := by decide +kernel
theorem dX7_add_7 : decode cX7_add 7 = .ok (.bipush 48, 2) := by decide +kernel
theorem dX7_add_9 : decode cX7_add 9 = .ok (.if_icmp .ge 42, 3) := by decide +kernel
theorem dX7_add_12 : decode cX7_add 12 = .ok (.lload_n 2, 1) := by decide +kernel
theorem dX7_add_13 : decode cX7_add 13 = .ok (.aload_n 0, 1) := by decide +kernel
theorem dX7_add_14 : decode cX7_add 14 = .ok (.iload 4, 2) := by decide +kernel
theorem dX7_add_16 : decode cX7_add 16 = .ok (.iaload, 1) := by decide +kernel
theorem dX7_add_17 : decode cX7_add 17 = .ok (.i2l, 1) := by decide +kernel
theorem dX7_add_18 : decode cX7_add 18 = .ok (.ldc2_w 91, 3) := by decide +kernel
theorem dX7_add_21 : decode cX7_add 21 = .ok (.land, 1) := by decide +kernel
theorem dX7_add_22 : decode cX7_add 22 = .ok (.aload_n 1, 1) := by decide +kernel
theorem dX7_add_23 : decode cX7_add 23 = .ok (.iload 4, 2) := by decide +kernel
theorem dX7_add_25 : decode cX7_add 25 = .ok (.iaload, 1) := by decide +kernel
theorem dX7_add_26 : decode cX7_add 26 = .ok (.i2l, 1) := by decide +kernel
theorem dX7_add_27 : decode cX7_add 27 = .ok (.ldc2_w 91, 3) := by decide +kernel
theorem dX7_add_30 : decode cX7_add 30 = .ok (.land, 1) := by decide +kernel
theorem dX7_add_31 : decode cX7_add 31 = .ok (.ladd, 1) := by decide +kernel
theorem dX7_add_32 : decode cX7_add 32 = .ok (.ladd, 1) := by decide +kernel
theorem dX7_add_33 : decode cX7_add 33 = .ok (.lstore_n 2, 1) := by decide +kernel
theorem dX7_add_34 : decode cX7_add 34 = .ok (.aload_n 0, 1) := by decide +kernel
theorem dX7_add_35 : decode cX7_add 35 = .ok (.iload 4, 2) := by decide +kernel
theorem dX7_add_37 : decode cX7_add 37 = .ok (.lload_n 2, 1) := by decide +kernel
theorem dX7_add_38 : decode cX7_add 38 = .ok (.l2i, 1) := by decide +kernel
theorem dX7_add_39 : decode cX7_add 39 = .ok (.iastore, 1) := by decide +kernel
theorem dX7_add_40 : decode cX7_add 40 = .ok (.lload_n 2, 1) := by decide +kernel
theorem dX7_add_41 : decode cX7_add 41 = .ok (.bipush 32, 2) := by decide +kernel
theorem dX7_add_43 : decode cX7_add 43 = .ok (.lushr, 1) := by decide +kernel
theorem dX7_add_44 : decode cX7_add 44 = .ok (.lstore_n 2, 1) := by decide +kernel
theorem dX7_add_45 : decode cX7_add 45 = .ok (.iinc 4 1, 3) := by decide +kernel
theorem dX7_add_48 : decode cX7_add 48 = .ok (.goto (-43), 3) := by decide +kernel
theorem dX7_add_51 : decode cX7_add 51 = .ok (.return_, 1) := by decide +kernel
theorem dX7_less_0 : decode cX7_less 0 = .ok (.lconst 0, 1) := by decide +kernel
theorem dX7_less_1 : decode cX7_less 1 = .ok (.lstore_n 3, 1) := by decide +kernel
theorem dX7_less_2 : decode cX7_less 2 = .ok (.iconst 0, 1) := by decide +kernel
theorem dX7_less_3 : decode cX7_less 3 = .ok (.istore 5, 2) := by decide +kernel
theorem dX7_less_5 : decode cX7_less 5 = .ok (.iload 5, 2) := by decide +kernel
theorem dX7_less_7 : decode cX7_less 7 = .ok (.iload_n 2, 1) := by decide +kernel
theorem dX7_less_8 : decode cX7_less 8 = .ok (.if_icmp .ge 42, 3) := by decide +kernel
theorem dX7_less_11 : decode cX7_less 11 = .ok (.lload_n 3, 1) := by decide +kernel
theorem dX7_less_12 : decode cX7_less 12 = .ok (.aload_n 0, 1) := by decide +kernel
theorem dX7_less_13 : decode cX7_less 13 = .ok (.iload 5, 2) := by decide +kernel
theorem dX7_less_15 : decode cX7_less 15 = .ok (.iaload, 1) := by decide +kernel
theorem dX7_less_16 : decode cX7_less 16 = .ok (.i2l, 1) := by decide +kernel
theorem dX7_less_17 : decode cX7_less 17 = .ok (.ldc2_w 91, 3) := by decide +kernel
theorem dX7_less_20 : decode cX7_less 20 = .ok (.land, 1) := by decide +kernel
theorem dX7_less_21 : decode cX7_less 21 = .ok (.aload_n 1, 1) := by decide +kernel
theorem dX7_less_22 : decode cX7_less 22 = .ok (.iload 5, 2) := by decide +kernel
theorem dX7_less_24 : decode cX7_less 24 = .ok (.iaload, 1) := by decide +kernel
theorem dX7_less_25 : decode cX7_less 25 = .ok (.i2l, 1) := by decide +kernel
theorem dX7_less_26 : decode cX7_less 26 = .ok (.ldc2_w 91, 3) := by decide +kernel
theorem dX7_less_29 : decode cX7_less 29 = .ok (.land, 1) := by decide +kernel
theorem dX7_less_30 : decode cX7_less 30 = .ok (.lsub, 1) := by decide +kernel
theorem dX7_less_31 : decode cX7_less 31 = .ok (.ladd, 1) := by decide +kernel
theorem dX7_less_32 : decode cX7_less 32 = .ok (.lstore_n 3, 1) := by decide +kernel
theorem dX7_less_33 : decode cX7_less 33 = .ok (.aload_n 0, 1) := by decide +kernel
theorem dX7_less_34 : decode cX7_less 34 = .ok (.iload 5, 2) := by decide +kernel
theorem dX7_less_36 : decode cX7_less 36 = .ok (.lload_n 3, 1) := by decide +kernel
theorem dX7_less_37 : decode cX7_less 37 = .ok (.l2i, 1) := by decide +kernel
theorem dX7_less_38 : decode cX7_less 38 = .ok (.iastore, 1) := by decide +kernel
theorem dX7_less_39 : decode cX7_less 39 = .ok (.lload_n 3, 1) := by decide +kernel
theorem dX7_less_40 : decode cX7_less 40 = .ok (.bipush 32, 2) := by decide +kernel
theorem dX7_less_42 : decode cX7_less 42 = .ok (.lshr, 1) := by decide +kernel
theorem dX7_less_43 : decode cX7_less 43 = .ok (.lstore_n 3, 1) := by decide +kernel
theorem dX7_less_44 : decode cX7_less 44 = .ok (.iinc 5 1, 3) := by decide +kernel
theorem dX7_less_47 : decode cX7_less 47 = .ok (.goto (-42), 3) := by decide +kernel
theorem dX7_less_50 : decode cX7_less 50 = .ok (.return_, 1) := by decide +kernel
theorem dX7_negate_0 : decode cX7_negate 0 = .ok (.lconst 1, 1) := by decide +kernel
theorem dX7_negate_1 : decode cX7_negate 1 = .ok (.lstore_n 1, 1) := by decide +kernel
theorem dX7_negate_2 : decode cX7_negate 2 = .ok (.iconst 0, 1) := by decide +kernel
theorem dX7_negate_3 : decode cX7_negate 3 = .ok (.istore_n 3, 1) := by decide +kernel
theorem dX7_negate_4 : decode cX7_negate 4 = .ok (.iload_n 3, 1) := by decide +kernel
theorem dX7_negate_5 : decode cX7_negate 5 = .ok (.bipush 48, 2) := by decide +kernel
theorem dX7_negate_7 : decode cX7_negate 7 = .ok (.if_icmp .ge 32, 3) := by decide +kernel
theorem dX7_negate_10 : decode cX7_negate 10 = .ok (.lload_n 1, 1) := by decide +kernel
theorem dX7_negate_11 : decode cX7_negate 11 = .ok (.aload_n 0, 1) := by decide +kernel
theorem dX7_negate_12 : decode cX7_negate 12 = .ok (.iload_n 3, 1) := by decide +kernel
theorem dX7_negate_13 : decode cX7_negate 13 = .ok (.iaload, 1) := by decide +kernel
theorem dX7_negate_14 : decode cX7_negate 14 = .ok (.iconst (-1), 1) := by decide +kernel
theorem dX7_negate_15 : decode cX7_negate 15 = .ok (.ixor, 1) := by decide +kernel
theorem dX7_negate_16 : decode cX7_negate 16 = .ok (.i2l, 1) := by decide +kernel
theorem dX7_negate_17 : decode cX7_negate 17 = .ok (.ldc2_w 91, 3) := by decide +kernel
theorem dX7_negate_20 : decode cX7_negate 20 = .ok (.land, 1) := by decide +kernel
theorem dX7_negate_21 : decode cX7_negate 21 = .ok (.ladd, 1) := by decide +kernel
theorem dX7_negate_22 : decode cX7_negate 22 = .ok (.lstore_n 1, 1) := by decide +kernel
theorem dX7_negate_23 : decode cX7_negate 23 = .ok (.aload_n 0, 1) := by decide +kernel
theorem dX7_negate_24 : decode cX7_negate 24 = .ok (.iload_n 3, 1) := by decide +kernel
theorem dX7_negate_25 : decode cX7_negate 25 = .ok (.lload_n 1, 1) := by decide +kernel
theorem dX7_negate_26 : decode cX7_negate 26 = .ok (.l2i, 1) := by decide +kernel
theorem dX7_negate_27 : decode cX7_negate 27 = .ok (.iastore, 1) := by decide +kernel
theorem dX7_negate_28 : decode cX7_negate 28 = .ok (.lload_n 1, 1) := by decide +kernel
theorem dX7_negate_29 : decode cX7_negate 29 = .ok (.bipush 32, 2) := by decide +kernel
theorem dX7_negate_31 : decode cX7_negate 31 = .ok (.lushr, 1) := by decide +kernel
theorem dX7_negate_32 : decode cX7_negate 32 = .ok (.lstore_n 1, 1) := by decide +kernel
theorem dX7_negate_33 : decode cX7_negate 33 = .ok (.iinc 3 1, 3) := by decide +kernel
theorem dX7_negate_36 : decode cX7_negate 36 = .ok (.goto (-32), 3) := by decide +kernel
theorem dX7_negate_39 : decode cX7_negate 39 = .ok (.return_, 1) := by decide +kernel
theorem dX7_bare_0 : decode cX7_bare 0 = .ok (.aload_n 0, 1) := by decide +kernel
theorem dX7_bare_1 : decode cX7_bare 1 = .ok (.bipush 47, 2) := by decide +kernel
theorem dX7_bare_3 : decode cX7_bare 3 = .ok (.iaload, 1) := by decide +kernel
theorem dX7_bare_4 : decode cX7_bare 4 = .ok (.ifCond .ge 7, 3) := by decide +kernel
theorem dX7_bare_7 : decode cX7_bare 7 = .ok (.iconst 1, 1) := by decide +kernel
theorem dX7_bare_8 : decode cX7_bare 8 = .ok (.goto 4, 3) := by decide +kernel
theorem dX7_bare_11 : decode cX7_bare 11 = .ok (.iconst 0, 1) := by decide +kernel
theorem dX7_bare_12 : decode cX7_bare 12 = .ok (.istore_n 1, 1) := by decide +kernel
theorem dX7_bare_13 : decode cX7_bare 13 = .ok (.iload_n 1, 1) := by decide +kernel
theorem dX7_bare_14 : decode cX7_bare 14 = .ok (.ifCond .eq 7, 3) := by decide +kernel
theorem dX7_bare_17 : decode cX7_bare 17 = .ok (.aload_n 0, 1) := by decide +kernel
theorem dX7_bare_18 : decode cX7_bare 18 = .ok (.invokestatic 93, 3) := by decide +kernel
theorem dX7_bare_21 : decode cX7_bare 21 = .ok (.iload_n 1, 1) := by decide +kernel
theorem dX7_bare_22 : decode cX7_bare 22 = .ok (.ireturn, 1) := by decide +kernel
theorem dX7_left_0 : decode cX7_left 0 = .ok (.iload_n 1, 1) := by decide +kernel
theorem dX7_left_1 : decode cX7_left 1 = .ok (.bipush 32, 2) := by decide +kernel
theorem dX7_left_3 : decode cX7_left 3 = .ok (.idiv, 1) := by decide +kernel
theorem dX7_left_4 : decode cX7_left 4 = .ok (.istore_n 2, 1) := by decide +kernel
theorem dX7_left_5 : decode cX7_left 5 = .ok (.iload_n 1, 1) := by decide +kernel
theorem dX7_left_6 : decode cX7_left 6 = .ok (.bipush 32, 2) := by decide +kernel
theorem dX7_left_8 : decode cX7_left 8 = .ok (.irem, 1) := by decide +kernel
theorem dX7_left_9 : decode cX7_left 9 = .ok (.istore_n 3, 1) := by decide +kernel
theorem dX7_left_10 : decode cX7_left 10 = .ok (.bipush 47, 2) := by decide +kernel
theorem dX7_left_12 : decode cX7_left 12 = .ok (.istore 4, 2) := by decide +kernel
theorem dX7_left_14 : decode cX7_left 14 = .ok (.iload 4, 2) := by decide +kernel
theorem dX7_left_16 : decode cX7_left 16 = .ok (.ifCond .lt 76, 3) := by decide +kernel
theorem dX7_left_19 : decode cX7_left 19 = .ok (.iload 4, 2) := by decide +kernel
theorem dX7_left_21 : decode cX7_left 21 = .ok (.iload_n 2, 1) := by decide +kernel
theorem dX7_left_22 : decode cX7_left 22 = .ok (.isub, 1) := by decide +kernel
theorem dX7_left_23 : decode cX7_left 23 = .ok (.ifCond .lt 12, 3) := by decide +kernel
theorem dX7_left_26 : decode cX7_left 26 = .ok (.aload_n 0, 1) := by decide +kernel
theorem dX7_left_27 : decode cX7_left 27 = .ok (.iload 4, 2) := by decide +kernel
theorem dX7_left_29 : decode cX7_left 29 = .ok (.iload_n 2, 1) := by decide +kernel
theorem dX7_left_30 : decode cX7_left 30 = .ok (.isub, 1) := by decide +kernel
theorem dX7_left_31 : decode cX7_left 31 = .ok (.iaload, 1) := by decide +kernel
theorem dX7_left_32 : decode cX7_left 32 = .ok (.goto 4, 3) := by decide +kernel
theorem dX7_left_35 : decode cX7_left 35 = .ok (.iconst 0, 1) := by decide +kernel
theorem dX7_left_36 : decode cX7_left 36 = .ok (.istore 5, 2) := by decide +kernel
theorem dX7_left_38 : decode cX7_left 38 = .ok (.iload 4, 2) := by decide +kernel
theorem dX7_left_40 : decode cX7_left 40 = .ok (.iload_n 2, 1) := by decide +kernel
theorem dX7_left_41 : decode cX7_left 41 = .ok (.isub, 1) := by decide +kernel
theorem dX7_left_42 : decode cX7_left 42 = .ok (.iconst 1, 1) := by decide +kernel
theorem dX7_left_43 : decode cX7_left 43 = .ok (.isub, 1) := by decide +kernel
theorem dX7_left_44 : decode cX7_left 44 = .ok (.ifCond .lt 14, 3) := by decide +kernel
theorem dX7_left_47 : decode cX7_left 47 = .ok (.aload_n 0, 1) := by decide +kernel
theorem dX7_left_48 : decode cX7_left 48 = .ok (.iload 4, 2) := by decide +kernel
theorem dX7_left_50 : decode cX7_left 50 = .ok (.iload_n 2, 1) := by decide +kernel
theorem dX7_left_51 : decode cX7_left 51 = .ok (.isub, 1) := by decide +kernel
theorem dX7_left_52 : decode cX7_left 52 = .ok (.iconst 1, 1) := by decide +kernel
theorem dX7_left_53 : decode cX7_left 53 = .ok (.isub, 1) := by decide +kernel
theorem dX7_left_54 : decode cX7_left 54 = .ok (.iaload, 1) := by decide +kernel
theorem dX7_left_55 : decode cX7_left 55 = .ok (.goto 4, 3) := by decide +kernel
theorem dX7_left_58 : decode cX7_left 58 = .ok (.iconst 0, 1) := by decide +kernel
theorem dX7_left_59 : decode cX7_left 59 = .ok (.istore 6, 2) := by decide +kernel
theorem dX7_left_61 : decode cX7_left 61 = .ok (.aload_n 0, 1) := by decide +kernel
theorem dX7_left_62 : decode cX7_left 62 = .ok (.iload 4, 2) := by decide +kernel
theorem dX7_left_64 : decode cX7_left 64 = .ok (.iload_n 3, 1) := by decide +kernel
theorem dX7_left_65 : decode cX7_left 65 = .ok (.ifCond .ne 8, 3) := by decide +kernel
theorem dX7_left_68 : decode cX7_left 68 = .ok (.iload 5, 2) := by decide +kernel
theorem dX7_left_70 : decode cX7_left 70 = .ok (.goto 15, 3) := by decide +kernel
theorem dX7_left_73 : decode cX7_left 73 = .ok (.iload 5, 2) := by decide +kernel
theorem dX7_left_75 : decode cX7_left 75 = .ok (.iload_n 3, 1) := by decide +kernel
theorem dX7_left_76 : decode cX7_left 76 = .ok (.ishl, 1) := by decide +kernel
theorem dX7_left_77 : decode cX7_left 77 = .ok (.iload 6, 2) := by decide +kernel
theorem dX7_left_79 : decode cX7_left 79 = .ok (.bipush 32, 2) := by decide +kernel
theorem dX7_left_81 : decode cX7_left 81 = .ok (.iload_n 3, 1) := by decide +kernel
theorem dX7_left_82 : decode cX7_left 82 = .ok (.isub, 1) := by decide +kernel
theorem dX7_left_83 : decode cX7_left 83 = .ok (.iushr, 1) := by decide +kernel
theorem dX7_left_84 : decode cX7_left 84 = .ok (.ior, 1) := by decide +kernel
theorem dX7_left_85 : decode cX7_left 85 = .ok (.iastore, 1) := by decide +kernel
theorem dX7_left_86 : decode cX7_left 86 = .ok (.iinc 4 (-1), 3) := by decide +kernel
theorem dX7_left_89 : decode cX7_left 89 = .ok (.goto (-75), 3) := by decide +kernel
theorem dX7_left_92 : decode cX7_left 92 = .ok (.return_, 1) := by decide +kernel
theorem dX7_right_0 : decode cX7_right 0 = .ok (.iload_n 1, 1) := by decide +kernel
theorem dX7_right_1 : decode cX7_right 1 = .ok (.bipush 32, 2) := by decide +kernel
theorem dX7_right_3 : decode cX7_right 3 = .ok (.idiv, 1) := by decide +kernel
theorem dX7_right_4 : decode cX7_right 4 = .ok (.istore_n 3, 1) := by decide +kernel
theorem dX7_right_5 : decode cX7_right 5 = .ok (.iload_n 1, 1) := by decide +kernel
theorem dX7_right_6 : decode cX7_right 6 = .ok (.bipush 32, 2) := by decide +kernel
theorem dX7_right_8 : decode cX7_right 8 = .ok (.irem, 1) := by decide +kernel
theorem dX7_right_9 : decode cX7_right 9 = .ok (.istore 4, 2) := by decide +kernel
theorem dX7_right_11 : decode cX7_right 11 = .ok (.iconst 0, 1) := by decide +kernel
theorem dX7_right_12 : decode cX7_right 12 = .ok (.istore 5, 2) := by decide +kernel
theorem dX7_right_14 : decode cX7_right 14 = .ok (.iload 5, 2) := by decide +kernel
theorem dX7_right_16 : decode cX7_right 16 = .ok (.iload_n 2, 1) := by decide +kernel
theorem dX7_right_17 : decode cX7_right 17 = .ok (.if_icmp .ge 81, 3) := by decide +kernel
theorem dX7_right_20 : decode cX7_right 20 = .ok (.iload 5, 2) := by decide +kernel
theorem dX7_right_22 : decode cX7_right 22 = .ok (.iload_n 3, 1) := by decide +kernel
theorem dX7_right_23 : decode cX7_right 23 = .ok (.iadd, 1) := by decide +kernel
theorem dX7_right_24 : decode cX7_right 24 = .ok (.iload_n 2, 1) := by decide +kernel
theorem dX7_right_25 : decode cX7_right 25 = .ok (.if_icmp .ge 12, 3) := by decide +kernel
theorem dX7_right_28 : decode cX7_right 28 = .ok (.aload_n 0, 1) := by decide +kernel
theorem dX7_right_29 : decode cX7_right 29 = .ok (.iload 5, 2) := by decide +kernel
theorem dX7_right_31 : decode cX7_right 31 = .ok (.iload_n 3, 1) := by decide +kernel
theorem dX7_right_32 : decode cX7_right 32 = .ok (.iadd, 1) := by decide +kernel
theorem dX7_right_33 : decode cX7_right 33 = .ok (.iaload, 1) := by decide +kernel
theorem dX7_right_34 : decode cX7_right 34 = .ok (.goto 4, 3) := by decide +kernel
theorem dX7_right_37 : decode cX7_right 37 = .ok (.iconst 0, 1) := by decide +kernel
theorem dX7_right_38 : decode cX7_right 38 = .ok (.istore 6, 2) := by decide +kernel
theorem dX7_right_40 : decode cX7_right 40 = .ok (.iload 5, 2) := by decide +kernel
theorem dX7_right_42 : decode cX7_right 42 = .ok (.iload_n 3, 1) := by decide +kernel
theorem dX7_right_43 : decode cX7_right 43 = .ok (.iadd, 1) := by decide +kernel
theorem dX7_right_44 : decode cX7_right 44 = .ok (.iconst 1, 1) := by decide +kernel
theorem dX7_right_45 : decode cX7_right 45 = .ok (.iadd, 1) := by decide +kernel
theorem dX7_right_46 : decode cX7_right 46 = .ok (.iload_n 2, 1) := by decide +kernel
theorem dX7_right_47 : decode cX7_right 47 = .ok (.if_icmp .ge 14, 3) := by decide +kernel
theorem dX7_right_50 : decode cX7_right 50 = .ok (.aload_n 0, 1) := by decide +kernel
theorem dX7_right_51 : decode cX7_right 51 = .ok (.iload 5, 2) := by decide +kernel
theorem dX7_right_53 : decode cX7_right 53 = .ok (.iload_n 3, 1) := by decide +kernel
theorem dX7_right_54 : decode cX7_right 54 = .ok (.iadd, 1) := by decide +kernel
theorem dX7_right_55 : decode cX7_right 55 = .ok (.iconst 1, 1) := by decide +kernel
theorem dX7_right_56 : decode cX7_right 56 = .ok (.iadd, 1) := by decide +kernel
theorem dX7_right_57 : decode cX7_right 57 = .ok (.iaload, 1) := by decide +kernel
theorem dX7_right_58 : decode cX7_right 58 = .ok (.goto 4, 3) := by decide +kernel
theorem dX7_right_61 : decode cX7_right 61 = .ok (.iconst 0, 1) := by decide +kernel
theorem dX7_right_62 : decode cX7_right 62 = .ok (.istore 7, 2) := by decide +kernel
theorem dX7_right_64 : decode cX7_right 64 = .ok (.aload_n 0, 1) := by decide +kernel
theorem dX7_right_65 : decode cX7_right 65 = .ok (.iload 5, 2) := by decide +kernel
theorem dX7_right_67 : decode cX7_right 67 = .ok (.iload 4, 2) := by decide +kernel
theorem dX7_right_69 : decode cX7_right 69 = .ok (.ifCond .ne 8, 3) := by decide +kernel
theorem dX7_right_72 : decode cX7_right 72 = .ok (.iload 6, 2) := by decide +kernel
theorem dX7_right_74 : decode cX7_right 74 = .ok (.goto 17, 3) := by decide +kernel
theorem dX7_right_77 : decode cX7_right 77 = .ok (.iload 6, 2) := by decide +kernel
theorem dX7_right_79 : decode cX7_right 79 = .ok (.iload 4, 2) := by decide +kernel
theorem dX7_right_81 : decode cX7_right 81 = .ok (.iushr, 1) := by decide +kernel
theorem dX7_right_82 : decode cX7_right 82 = .ok (.iload 7, 2) := by decide +kernel
theorem dX7_right_84 : decode cX7_right 84 = .ok (.bipush 32, 2) := by decide +kernel
theorem dX7_right_86 : decode cX7_right 86 = .ok (.iload 4, 2) := by decide +kernel
theorem dX7_right_88 : decode cX7_right 88 = .ok (.isub, 1) := by decide +kernel
theorem dX7_right_89 : decode cX7_right 89 = .ok (.ishl, 1) := by decide +kernel
theorem dX7_right_90 : decode cX7_right 90 = .ok (.ior, 1) := by decide +kernel
theorem dX7_right_91 : decode cX7_right 91 = .ok (.iastore, 1) := by decide +kernel
theorem dX7_right_92 : decode cX7_right 92 = .ok (.iinc 5 1, 3) := by decide +kernel
theorem dX7_right_95 : decode cX7_right 95 = .ok (.goto (-81), 3) := by decide +kernel
theorem dX7_right_98 : decode cX7_right 98 = .ok (.return_, 1) := by decide +kernel
theorem dX7_compare_0 : decode cX7_compare 0 = .ok (.iload_n 2, 1) := by decide +kernel
theorem dX7_compare_1 : decode cX7_compare 1 = .ok (.iconst 1, 1) := by decide +kernel
theorem dX7_compare_2 : decode cX7_compare 2 = .ok (.isub, 1) := by decide +kernel
theorem dX7_compare_3 : decode cX7_compare 3 = .ok (.istore_n 3, 1) := by decide +kernel
theorem dX7_compare_4 : decode cX7_compare 4 = .ok (.iload_n 3, 1) := by decide +kernel
theorem dX7_compare_5 : decode cX7_compare 5 = .ok (.ifCond .lt 44, 3) := by decide +kernel
theorem dX7_compare_8 : decode cX7_compare 8 = .ok (.aload_n 0, 1) := by decide +kernel
theorem dX7_compare_9 : decode cX7_compare 9 = .ok (.iload_n 3, 1) := by decide +kernel
theorem dX7_compare_10 : decode cX7_compare 10 = .ok (.iaload, 1) := by decide +kernel
theorem dX7_compare_11 : decode cX7_compare 11 = .ok (.aload_n 1, 1) := by decide +kernel
theorem dX7_compare_12 : decode cX7_compare 12 = .ok (.iload_n 3, 1) := by decide +kernel
theorem dX7_compare_13 : decode cX7_compare 13 = .ok (.iaload, 1) := by decide +kernel
theorem dX7_compare_14 : decode cX7_compare 14 = .ok (.if_icmp .eq 29, 3) := by decide +kernel
theorem dX7_compare_17 : decode cX7_compare 17 = .ok (.aload_n 0, 1) := by decide +kernel
theorem dX7_compare_18 : decode cX7_compare 18 = .ok (.iload_n 3, 1) := by decide +kernel
theorem dX7_compare_19 : decode cX7_compare 19 = .ok (.iaload, 1) := by decide +kernel
theorem dX7_compare_20 : decode cX7_compare 20 = .ok (.i2l, 1) := by decide +kernel
theorem dX7_compare_21 : decode cX7_compare 21 = .ok (.ldc2_w 91, 3) := by decide +kernel
theorem dX7_compare_24 : decode cX7_compare 24 = .ok (.land, 1) := by decide +kernel
theorem dX7_compare_25 : decode cX7_compare 25 = .ok (.aload_n 1, 1) := by decide +kernel
theorem dX7_compare_26 : decode cX7_compare 26 = .ok (.iload_n 3, 1) := by decide +kernel
theorem dX7_compare_27 : decode cX7_compare 27 = .ok (.iaload, 1) := by decide +kernel
theorem dX7_compare_28 : decode cX7_compare 28 = .ok (.i2l, 1) := by decide +kernel
theorem dX7_compare_29 : decode cX7_compare 29 = .ok (.ldc2_w 91, 3) := by decide +kernel
theorem dX7_compare_32 : decode cX7_compare 32 = .ok (.land, 1) := by decide +kernel
theorem dX7_compare_33 : decode cX7_compare 33 = .ok (.lcmp, 1) := by decide +kernel
theorem dX7_compare_34 : decode cX7_compare 34 = .ok (.ifCond .ge 7, 3) := by decide +kernel
theorem dX7_compare_37 : decode cX7_compare 37 = .ok (.iconst (-1), 1) := by decide +kernel
theorem dX7_compare_38 : decode cX7_compare 38 = .ok (.goto 4, 3) := by decide +kernel
theorem dX7_compare_41 : decode cX7_compare 41 = .ok (.iconst 1, 1) := by decide +kernel
theorem dX7_compare_42 : decode cX7_compare 42 = .ok (.ireturn, 1) := by decide +kernel
theorem dX7_compare_43 : decode cX7_compare 43 = .ok (.iinc 3 (-1), 3) := by decide +kernel
theorem dX7_compare_46 : decode cX7_compare 46 = .ok (.goto (-42), 3) := by decide +kernel
theorem dX7_compare_49 : decode cX7_compare 49 = .ok (.iconst 0, 1) := by decide +kernel
theorem dX7_compare_50 : decode cX7_compare 50 = .ok (.ireturn, 1) := by decide +kernel
theorem dX7_ints_0 : decode cX7_ints 0 = .ok (.bipush 48, 2) := by decide +kernel
theorem dX7_ints_2 : decode cX7_ints 2 = .ok (.istore_n 1, 1) := by decide +kernel
theorem dX7_ints_3 : decode cX7_ints 3 = .ok (.iload_n 1, 1) := by decide +kernel
theorem dX7_ints_4 : decode cX7_ints 4 = .ok (.ifCond .le 17, 3) := by decide +kernel
theorem dX7_ints_7 : decode cX7_ints 7 = .ok (.aload_n 0, 1) := by decide +kernel
theorem dX7_ints_8 : decode cX7_ints 8 = .ok (.iload_n 1, 1) := by decide +kernel
theorem dX7_ints_9 : decode cX7_ints 9 = .ok (.iconst 1, 1) := by decide +kernel
theorem dX7_ints_10 : decode cX7_ints 10 = .ok (.isub, 1) := by decide +kernel
theorem dX7_ints_11 : decode cX7_ints 11 = .ok (.iaload, 1) := by decide +kernel
theorem dX7_ints_12 : decode cX7_ints 12 = .ok (.ifCond .ne 9, 3) := by decide +kernel
theorem dX7_ints_15 : decode cX7_ints 15 = .ok (.iinc 1 (-1), 3) := by decide +kernel
theorem dX7_ints_18 : decode cX7_ints 18 = .ok (.goto (-15), 3) := by decide +kernel
theorem dX7_ints_21 : decode cX7_ints 21 = .ok (.iload_n 1, 1) := by decide +kernel
theorem dX7_ints_22 : decode cX7_ints 22 = .ok (.ireturn, 1) := by decide +kernel
theorem dX7_bits_0 : decode cX7_bits 0 = .ok (.aload_n 0, 1) := by decide +kernel
theorem dX7_bits_1 : decode cX7_bits 1 = .ok (.invokestatic 97, 3) := by decide +kernel
theorem dX7_bits_4 : decode cX7_bits 4 = .ok (.istore_n 1, 1) := by decide +kernel
theorem dX7_bits_5 : decode cX7_bits 5 = .ok (.iload_n 1, 1) := by decide +kernel
theorem dX7_bits_6 : decode cX7_bits 6 = .ok (.ifCond .ne 7, 3) := by decide +kernel
theorem dX7_bits_9 : decode cX7_bits 9 = .ok (.iconst 0, 1) := by decide +kernel
theorem dX7_bits_10 : decode cX7_bits 10 = .ok (.goto 16, 3) := by decide +kernel
theorem dX7_bits_13 : decode cX7_bits 13 = .ok (.bipush 32, 2) := by decide +kernel
theorem dX7_bits_15 : decode cX7_bits 15 = .ok (.iload_n 1, 1) := by decide +kernel
theorem dX7_bits_16 : decode cX7_bits 16 = .ok (.imul, 1) := by decide +kernel
theorem dX7_bits_17 : decode cX7_bits 17 = .ok (.aload_n 0, 1) := by decide +kernel
theorem dX7_bits_18 : decode cX7_bits 18 = .ok (.iload_n 1, 1) := by decide +kernel
theorem dX7_bits_19 : decode cX7_bits 19 = .ok (.iconst 1, 1) := by decide +kernel
theorem dX7_bits_20 : decode cX7_bits 20 = .ok (.isub, 1) := by decide +kernel
theorem dX7_bits_21 : decode cX7_bits 21 = .ok (.iaload, 1) := by decide +kernel
theorem dX7_bits_22 : decode cX7_bits 22 = .ok (.invokestatic 101, 3) := by decide +kernel
theorem dX7_bits_25 : decode cX7_bits 25 = .ok (.isub, 1) := by decide +kernel
theorem dX7_bits_26 : decode cX7_bits 26 = .ok (.ireturn, 1) := by decide +kernel
theorem dX7_zeros_0 : decode cX7_zeros 0 = .ok (.iconst 0, 1) := by decide +kernel
theorem dX7_zeros_1 : decode cX7_zeros 1 = .ok (.istore_n 1, 1) := by decide +kernel
theorem dX7_zeros_2 : decode cX7_zeros 2 = .ok (.aload_n 0, 1) := by decide +kernel
theorem dX7_zeros_3 : decode cX7_zeros 3 = .ok (.iload_n 1, 1) := by decide +kernel
theorem dX7_zeros_4 : decode cX7_zeros 4 = .ok (.iaload, 1) := by decide +kernel
theorem dX7_zeros_5 : decode cX7_zeros 5 = .ok (.ifCond .ne 9, 3) := by decide +kernel
theorem dX7_zeros_8 : decode cX7_zeros 8 = .ok (.iinc 1 1, 3) := by decide +kernel
theorem dX7_zeros_11 : decode cX7_zeros 11 = .ok (.goto (-9), 3) := by decide +kernel
theorem dX7_zeros_14 : decode cX7_zeros 14 = .ok (.bipush 32, 2) := by decide +kernel
theorem dX7_zeros_16 : decode cX7_zeros 16 = .ok (.iload_n 1, 1) := by decide +kernel
theorem dX7_zeros_17 : decode cX7_zeros 17 = .ok (.imul, 1) := by decide +kernel
theorem dX7_zeros_18 : decode cX7_zeros 18 = .ok (.aload_n 0, 1) := by decide +kernel
theorem dX7_zeros_19 : decode cX7_zeros 19 = .ok (.iload_n 1, 1) := by decide +kernel
theorem dX7_zeros_20 : decode cX7_zeros 20 = .ok (.iaload, 1) := by decide +kernel
theorem dX7_zeros_21 : decode cX7_zeros 21 = .ok (.invokestatic 107, 3) := by decide +kernel
theorem dX7_zeros_24 : decode cX7_zeros 24 = .ok (.iadd, 1) := by decide +kernel
theorem dX7_zeros_25 : decode cX7_zeros 25 = .ok (.ireturn, 1) := by decide +kernel
theorem dX7_times_0 : decode cX7_times 0 = .ok (.lload_n 1, 1) := by decide +kernel
theorem dX7_times_1 : decode cX7_times 1 = .ok (.lconst 0, 1) := by decide +kernel
theorem dX7_times_2 : decode cX7_times 2 = .ok (.lcmp, 1) := by decide +kernel
theorem dX7_times_3 : decode cX7_times 3 = .ok (.ifCond .ge 8, 3) := by decide +kernel
theorem dX7_times_6 : decode cX7_times 6 = .ok (.lload_n 1, 1) := by decide +kernel
theorem dX7_times_7 : decode cX7_times 7 = .ok (.lneg, 1) := by decide +kernel
theorem dX7_times_8 : decode cX7_times 8 = .ok (.goto 4, 3) := by decide +kernel
theorem dX7_times_11 : decode cX7_times 11 = .ok (.lload_n 1, 1) := by decide +kernel
theorem dX7_times_12 : decode cX7_times 12 = .ok (.lstore_n 3, 1) := by decide +kernel
theorem dX7_times_13 : decode cX7_times 13 = .ok (.lconst 0, 1) := by decide +kernel
theorem dX7_times_14 : decode cX7_times 14 = .ok (.lstore 5, 2) := by decide +kernel
theorem dX7_times_16 : decode cX7_times 16 = .ok (.iconst 0, 1) := by decide +kernel
theorem dX7_times_17 : decode cX7_times 17 = .ok (.istore 7, 2) := by decide +kernel
theorem dX7_times_19 : decode cX7_times 19 = .ok (.iload 7, 2) := by decide +kernel
theorem dX7_times_21 : decode cX7_times 21 = .ok (.bipush 48, 2) := by decide +kernel
theorem dX7_times_23 : decode cX7_times 23 = .ok (.if_icmp .ge 39, 3) := by decide +kernel
theorem dX7_times_26 : decode cX7_times 26 = .ok (.lload 5, 2) := by decide +kernel
theorem dX7_times_28 : decode cX7_times 28 = .ok (.aload_n 0, 1) := by decide +kernel
theorem dX7_times_29 : decode cX7_times 29 = .ok (.iload 7, 2) := by decide +kernel
theorem dX7_times_31 : decode cX7_times 31 = .ok (.iaload, 1) := by decide +kernel
theorem dX7_times_32 : decode cX7_times 32 = .ok (.i2l, 1) := by decide +kernel
theorem dX7_times_33 : decode cX7_times 33 = .ok (.ldc2_w 91, 3) := by decide +kernel
theorem dX7_times_36 : decode cX7_times 36 = .ok (.land, 1) := by decide +kernel
theorem dX7_times_37 : decode cX7_times 37 = .ok (.lload_n 3, 1) := by decide +kernel
theorem dX7_times_38 : decode cX7_times 38 = .ok (.lmul, 1) := by decide +kernel
theorem dX7_times_39 : decode cX7_times 39 = .ok (.ladd, 1) := by decide +kernel
theorem dX7_times_40 : decode cX7_times 40 = .ok (.lstore 5, 2) := by decide +kernel
theorem dX7_times_42 : decode cX7_times 42 = .ok (.aload_n 0, 1) := by decide +kernel
theorem dX7_times_43 : decode cX7_times 43 = .ok (.iload 7, 2) := by decide +kernel
theorem dX7_times_45 : decode cX7_times 45 = .ok (.lload 5, 2) := by decide +kernel
theorem dX7_times_47 : decode cX7_times 47 = .ok (.l2i, 1) := by decide +kernel
theorem dX7_times_48 : decode cX7_times 48 = .ok (.iastore, 1) := by decide +kernel
theorem dX7_times_49 : decode cX7_times 49 = .ok (.lload 5, 2) := by decide +kernel
theorem dX7_times_51 : decode cX7_times 51 = .ok (.bipush 32, 2) := by decide +kernel
theorem dX7_times_53 : decode cX7_times 53 = .ok (.lushr, 1) := by decide +kernel
theorem dX7_times_54 : decode cX7_times 54 = .ok (.lstore 5, 2) := by decide +kernel
theorem dX7_times_56 : decode cX7_times 56 = .ok (.iinc 7 1, 3) := by decide +kernel
theorem dX7_times_59 : decode cX7_times 59 = .ok (.goto (-40), 3) := by decide +kernel
theorem dX7_times_62 : decode cX7_times 62 = .ok (.lload_n 1, 1) := by decide +kernel
theorem dX7_times_63 : decode cX7_times 63 = .ok (.lconst 0, 1) := by decide +kernel
theorem dX7_times_64 : decode cX7_times 64 = .ok (.lcmp, 1) := by decide +kernel
theorem dX7_times_65 : decode cX7_times 65 = .ok (.ifCond .ge 7, 3) := by decide +kernel
theorem dX7_times_68 : decode cX7_times 68 = .ok (.aload_n 0, 1) := by decide +kernel
theorem dX7_times_69 : decode cX7_times 69 = .ok (.invokestatic 93, 3) := by decide +kernel
theorem dX7_times_72 : decode cX7_times 72 = .ok (.return_, 1) := by decide +kernel
theorem dX7_multiply_0 : decode cX7_multiply 0 = .ok (.iconst 0, 1) := by decide +kernel
theorem dX7_multiply_1 : decode cX7_multiply 1 = .ok (.istore_n 3, 1) := by decide +kernel
theorem dX7_multiply_2 : decode cX7_multiply 2 = .ok (.iload_n 3, 1) := by decide +kernel
theorem dX7_multiply_3 : decode cX7_multiply 3 = .ok (.bipush 48, 2) := by decide +kernel
theorem dX7_multiply_5 : decode cX7_multiply 5 = .ok (.if_icmp .ge 13, 3) := by decide +kernel
theorem dX7_multiply_8 : decode cX7_multiply 8 = .ok (.aload_n 2, 1) := by decide +kernel
theorem dX7_multiply_9 : decode cX7_multiply 9 = .ok (.iload_n 3, 1) := by decide +kernel
theorem dX7_multiply_10 : decode cX7_multiply 10 = .ok (.iconst 0, 1) := by decide +kernel
theorem dX7_multiply_11 : decode cX7_multiply 11 = .ok (.iastore, 1) := by decide +kernel
theorem dX7_multiply_12 : decode cX7_multiply 12 = .ok (.iinc 3 1, 3) := by decide +kernel
theorem dX7_multiply_15 : decode cX7_multiply 15 = .ok (.goto (-13), 3) := by decide +kernel
theorem dX7_multiply_18 : decode cX7_multiply 18 = .ok (.iconst 0, 1) := by decide +kernel
theorem dX7_multiply_19 : decode cX7_multiply 19 = .ok (.istore_n 3, 1) := by decide +kernel
theorem dX7_multiply_20 : decode cX7_multiply 20 = .ok (.iload_n 3, 1) := by decide +kernel
theorem dX7_multiply_21 : decode cX7_multiply 21 = .ok (.bipush 48, 2) := by decide +kernel
theorem dX7_multiply_23 : decode cX7_multiply 23 = .ok (.if_icmp .ge 87, 3) := by decide +kernel
theorem dX7_multiply_26 : decode cX7_multiply 26 = .ok (.lconst 0, 1) := by decide +kernel
theorem dX7_multiply_27 : decode cX7_multiply 27 = .ok (.lstore 4, 2) := by decide +kernel
theorem dX7_multiply_29 : decode cX7_multiply 29 = .ok (.iconst 0, 1) := by decide +kernel
theorem dX7_multiply_30 : decode cX7_multiply 30 = .ok (.istore 6, 2) := by decide +kernel
theorem dX7_multiply_32 : decode cX7_multiply 32 = .ok (.iload_n 3, 1) := by decide +kernel
theorem dX7_multiply_33 : decode cX7_multiply 33 = .ok (.iload 6, 2) := by decide +kernel
theorem dX7_multiply_35 : decode cX7_multiply 35 = .ok (.iadd, 1) := by decide +kernel
theorem dX7_multiply_36 : decode cX7_multiply 36 = .ok (.bipush 48, 2) := by decide +kernel
theorem dX7_multiply_38 : decode cX7_multiply 38 = .ok (.if_icmp .ge 66, 3) := by decide +kernel
theorem dX7_multiply_41 : decode cX7_multiply 41 = .ok (.aload_n 0, 1) := by decide +kernel
theorem dX7_multiply_42 : decode cX7_multiply 42 = .ok (.iload_n 3, 1) := by decide +kernel
theorem dX7_multiply_43 : decode cX7_multiply 43 = .ok (.iaload, 1) := by decide +kernel
theorem dX7_multiply_44 : decode cX7_multiply 44 = .ok (.ifCond .eq 60, 3) := by decide +kernel
theorem dX7_multiply_47 : decode cX7_multiply 47 = .ok (.lload 4, 2) := by decide +kernel
theorem dX7_multiply_49 : decode cX7_multiply 49 = .ok (.aload_n 0, 1) := by decide +kernel
theorem dX7_multiply_50 : decode cX7_multiply 50 = .ok (.iload_n 3, 1) := by decide +kernel
theorem dX7_multiply_51 : decode cX7_multiply 51 = .ok (.iaload, 1) := by decide +kernel
theorem dX7_multiply_52 : decode cX7_multiply 52 = .ok (.i2l, 1) := by decide +kernel
theorem dX7_multiply_53 : decode cX7_multiply 53 = .ok (.ldc2_w 91, 3) := by decide +kernel
theorem dX7_multiply_56 : decode cX7_multiply 56 = .ok (.land, 1) := by decide +kernel
theorem dX7_multiply_57 : decode cX7_multiply 57 = .ok (.aload_n 1, 1) := by decide +kernel
theorem dX7_multiply_58 : decode cX7_multiply 58 = .ok (.iload 6, 2) := by decide +kernel
theorem dX7_multiply_60 : decode cX7_multiply 60 = .ok (.iaload, 1) := by decide +kernel
theorem dX7_multiply_61 : decode cX7_multiply 61 = .ok (.i2l, 1) := by decide +kernel
theorem dX7_multiply_62 : decode cX7_multiply 62 = .ok (.ldc2_w 91, 3) := by decide +kernel
theorem dX7_multiply_65 : decode cX7_multiply 65 = .ok (.land, 1) := by decide +kernel
theorem dX7_multiply_66 : decode cX7_multiply 66 = .ok (.lmul, 1) := by decide +kernel
theorem dX7_multiply_67 : decode cX7_multiply 67 = .ok (.aload_n 2, 1) := by decide +kernel
theorem dX7_multiply_68 : decode cX7_multiply 68 = .ok (.iload_n 3, 1) := by decide +kernel
theorem dX7_multiply_69 : decode cX7_multiply 69 = .ok (.iload 6, 2) := by decide +kernel
theorem dX7_multiply_71 : decode cX7_multiply 71 = .ok (.iadd, 1) := by decide +kernel
theorem dX7_multiply_72 : decode cX7_multiply 72 = .ok (.iaload, 1) := by decide +kernel
theorem dX7_multiply_73 : decode cX7_multiply 73 = .ok (.i2l, 1) := by decide +kernel
theorem dX7_multiply_74 : decode cX7_multiply 74 = .ok (.ldc2_w 91, 3) := by decide +kernel
theorem dX7_multiply_77 : decode cX7_multiply 77 = .ok (.land, 1) := by decide +kernel
theorem dX7_multiply_78 : decode cX7_multiply 78 = .ok (.ladd, 1) := by decide +kernel
theorem dX7_multiply_79 : decode cX7_multiply 79 = .ok (.ladd, 1) := by decide +kernel
theorem dX7_multiply_80 : decode cX7_multiply 80 = .ok (.lstore 4, 2) := by decide +kernel
theorem dX7_multiply_82 : decode cX7_multiply 82 = .ok (.aload_n 2, 1) := by decide +kernel
theorem dX7_multiply_83 : decode cX7_multiply 83 = .ok (.iload_n 3, 1) := by decide +kernel
theorem dX7_multiply_84 : decode cX7_multiply 84 = .ok (.iload 6, 2) := by decide +kernel
theorem dX7_multiply_86 : decode cX7_multiply 86 = .ok (.iadd, 1) := by decide +kernel
theorem dX7_multiply_87 : decode cX7_multiply 87 = .ok (.lload 4, 2) := by decide +kernel
theorem dX7_multiply_89 : decode cX7_multiply 89 = .ok (.l2i, 1) := by decide +kernel
theorem dX7_multiply_90 : decode cX7_multiply 90 = .ok (.iastore, 1) := by decide +kernel
theorem dX7_multiply_91 : decode cX7_multiply 91 = .ok (.lload 4, 2) := by decide +kernel
theorem dX7_multiply_93 : decode cX7_multiply 93 = .ok (.bipush 32, 2) := by decide +kernel
theorem dX7_multiply_95 : decode cX7_multiply 95 = .ok (.lushr, 1) := by decide +kernel
theorem dX7_multiply_96 : decode cX7_multiply 96 = .ok (.lstore 4, 2) := by decide +kernel
theorem dX7_multiply_98 : decode cX7_multiply 98 = .ok (.iinc 6 1, 3) := by decide +kernel
theorem dX7_multiply_101 : decode cX7_multiply 101 = .ok (.goto (-69), 3) := by decide +kernel
theorem dX7_multiply_104 : decode cX7_multiply 104 = .ok (.iinc 3 1, 3) := by decide +kernel
theorem dX7_multiply_107 : decode cX7_multiply 107 = .ok (.goto (-87), 3) := by decide +kernel
theorem dX7_multiply_110 : decode cX7_multiply 110 = .ok (.return_, 1) := by decide +kernel
theorem dX7_divisor_0 : decode cX7_divisor 0 = .ok (.aload_n 1, 1) := by decide +kernel
theorem dX7_divisor_1 : decode cX7_divisor 1 = .ok (.invokestatic 110, 3) := by decide +kernel
theorem dX7_divisor_4 : decode cX7_divisor 4 = .ok (.ifCond .ne 4, 3) := by decide +kernel
theorem dX7_divisor_7 : decode cX7_divisor 7 = .ok (.return_, 1) := by decide +kernel
theorem dX7_divisor_8 : decode cX7_divisor 8 = .ok (.aload_n 0, 1) := by decide +kernel
theorem dX7_divisor_9 : decode cX7_divisor 9 = .ok (.invokestatic 110, 3) := by decide +kernel
theorem dX7_divisor_12 : decode cX7_divisor 12 = .ok (.ifCond .ne 9, 3) := by decide +kernel
theorem dX7_divisor_15 : decode cX7_divisor 15 = .ok (.aload_n 1, 1) := by decide +kernel
theorem dX7_divisor_16 : decode cX7_divisor 16 = .ok (.aload_n 0, 1) := by decide +kernel
theorem dX7_divisor_17 : decode cX7_divisor 17 = .ok (.invokestatic 113, 3) := by decide +kernel
theorem dX7_divisor_20 : decode cX7_divisor 20 = .ok (.return_, 1) := by decide +kernel
theorem dX7_divisor_21 : decode cX7_divisor 21 = .ok (.aload_n 0, 1) := by decide +kernel
theorem dX7_divisor_22 : decode cX7_divisor 22 = .ok (.invokestatic 97, 3) := by decide +kernel
theorem dX7_divisor_25 : decode cX7_divisor 25 = .ok (.aload_n 1, 1) := by decide +kernel
theorem dX7_divisor_26 : decode cX7_divisor 26 = .ok (.invokestatic 97, 3) := by decide +kernel
theorem dX7_divisor_29 : decode cX7_divisor 29 = .ok (.invokestatic 117, 3) := by decide +kernel
theorem dX7_divisor_32 : decode cX7_divisor 32 = .ok (.istore_n 2, 1) := by decide +kernel
theorem dX7_divisor_33 : decode cX7_divisor 33 = .ok (.aload_n 0, 1) := by decide +kernel
theorem dX7_divisor_34 : decode cX7_divisor 34 = .ok (.invokestatic 123, 3) := by decide +kernel
theorem dX7_divisor_37 : decode cX7_divisor 37 = .ok (.istore_n 3, 1) := by decide +kernel
theorem dX7_divisor_38 : decode cX7_divisor 38 = .ok (.aload_n 1, 1) := by decide +kernel
theorem dX7_divisor_39 : decode cX7_divisor 39 = .ok (.invokestatic 123, 3) := by decide +kernel
theorem dX7_divisor_42 : decode cX7_divisor 42 = .ok (.istore 4, 2) := by decide +kernel
theorem dX7_divisor_44 : decode cX7_divisor 44 = .ok (.aload_n 0, 1) := by decide +kernel
theorem dX7_divisor_45 : decode cX7_divisor 45 = .ok (.iload_n 3, 1) := by decide +kernel
theorem dX7_divisor_46 : decode cX7_divisor 46 = .ok (.iload_n 2, 1) := by decide +kernel
theorem dX7_divisor_47 : decode cX7_divisor 47 = .ok (.invokestatic 126, 3) := by decide +kernel
theorem dX7_divisor_50 : decode cX7_divisor 50 = .ok (.aload_n 1, 1) := by decide +kernel
theorem dX7_divisor_51 : decode cX7_divisor 51 = .ok (.iload 4, 2) := by decide +kernel
theorem dX7_divisor_53 : decode cX7_divisor 53 = .ok (.iload_n 2, 1) := by decide +kernel
theorem dX7_divisor_54 : decode cX7_divisor 54 = .ok (.invokestatic 126, 3) := by decide +kernel
theorem dX7_divisor_57 : decode cX7_divisor 57 = .ok (.aload_n 0, 1) := by decide +kernel
theorem dX7_divisor_58 : decode cX7_divisor 58 = .ok (.aload_n 1, 1) := by decide +kernel
theorem dX7_divisor_59 : decode cX7_divisor 59 = .ok (.iload_n 2, 1) := by decide +kernel
theorem dX7_divisor_60 : decode cX7_divisor 60 = .ok (.invokestatic 130, 3) := by decide +kernel
theorem dX7_divisor_63 : decode cX7_divisor 63 = .ok (.istore 5, 2) := by decide +kernel
theorem dX7_divisor_65 : decode cX7_divisor 65 = .ok (.iload 5, 2) := by decide +kernel
theorem dX7_divisor_67 : decode cX7_divisor 67 = .ok (.ifCond .eq 80, 3) := by decide +kernel
theorem dX7_divisor_70 : decode cX7_divisor 70 = .ok (.iload 5, 2) := by decide +kernel
theorem dX7_divisor_72 : decode cX7_divisor 72 = .ok (.ifCond .le 7, 3) := by decide +kernel
theorem dX7_divisor_75 : decode cX7_divisor 75 = .ok (.aload_n 0, 1) := by decide +kernel
theorem dX7_divisor_76 : decode cX7_divisor 76 = .ok (.goto 4, 3) := by decide +kernel
theorem dX7_divisor_79 : decode cX7_divisor 79 = .ok (.aload_n 1, 1) := by decide +kernel
theorem dX7_divisor_80 : decode cX7_divisor 80 = .ok (.astore 6, 2) := by decide +kernel
theorem dX7_divisor_82 : decode cX7_divisor 82 = .ok (.aload 6, 2) := by decide +kernel
theorem dX7_divisor_84 : decode cX7_divisor 84 = .ok (.iload 5, 2) := by decide +kernel
theorem dX7_divisor_86 : decode cX7_divisor 86 = .ok (.ifCond .le 7, 3) := by decide +kernel
theorem dX7_divisor_89 : decode cX7_divisor 89 = .ok (.aload_n 1, 1) := by decide +kernel
theorem dX7_divisor_90 : decode cX7_divisor 90 = .ok (.goto 4, 3) := by decide +kernel
theorem dX7_divisor_93 : decode cX7_divisor 93 = .ok (.aload_n 0, 1) := by decide +kernel
theorem dX7_divisor_94 : decode cX7_divisor 94 = .ok (.iload_n 2, 1) := by decide +kernel
theorem dX7_divisor_95 : decode cX7_divisor 95 = .ok (.invokestatic 134, 3) := by decide +kernel
theorem dX7_divisor_98 : decode cX7_divisor 98 = .ok (.aload 6, 2) := by decide +kernel
theorem dX7_divisor_100 : decode cX7_divisor 100 = .ok (.aload 6, 2) := by decide +kernel
theorem dX7_divisor_102 : decode cX7_divisor 102 = .ok (.invokestatic 123, 3) := by decide +kernel
theorem dX7_divisor_105 : decode cX7_divisor 105 = .ok (.iload_n 2, 1) := by decide +kernel
theorem dX7_divisor_106 : decode cX7_divisor 106 = .ok (.invokestatic 126, 3) := by decide +kernel
theorem dX7_divisor_109 : decode cX7_divisor 109 = .ok (.iload_n 2, 1) := by decide +kernel
theorem dX7_divisor_110 : decode cX7_divisor 110 = .ok (.iconst 1, 1) := by decide +kernel
theorem dX7_divisor_111 : decode cX7_divisor 111 = .ok (.if_icmp .le 25, 3) := by decide +kernel
theorem dX7_divisor_114 : decode cX7_divisor 114 = .ok (.aload_n 0, 1) := by decide +kernel
theorem dX7_divisor_115 : decode cX7_divisor 115 = .ok (.iload_n 2, 1) := by decide +kernel
theorem dX7_divisor_116 : decode cX7_divisor 116 = .ok (.iconst 1, 1) := by decide +kernel
theorem dX7_divisor_117 : decode cX7_divisor 117 = .ok (.isub, 1) := by decide +kernel
theorem dX7_divisor_118 : decode cX7_divisor 118 = .ok (.iaload, 1) := by decide +kernel
theorem dX7_divisor_119 : decode cX7_divisor 119 = .ok (.ifCond .ne 17, 3) := by decide +kernel
theorem dX7_divisor_122 : decode cX7_divisor 122 = .ok (.aload_n 1, 1) := by decide +kernel
theorem dX7_divisor_123 : decode cX7_divisor 123 = .ok (.iload_n 2, 1) := by decide +kernel
theorem dX7_divisor_124 : decode cX7_divisor 124 = .ok (.iconst 1, 1) := by decide +kernel
theorem dX7_divisor_125 : decode cX7_divisor 125 = .ok (.isub, 1) := by decide +kernel
theorem dX7_divisor_126 : decode cX7_divisor 126 = .ok (.iaload, 1) := by decide +kernel
theorem dX7_divisor_127 : decode cX7_divisor 127 = .ok (.ifCond .ne 9, 3) := by decide +kernel
theorem dX7_divisor_130 : decode cX7_divisor 130 = .ok (.iinc 2 (-1), 3) := by decide +kernel
theorem dX7_divisor_133 : decode cX7_divisor 133 = .ok (.goto (-24), 3) := by decide +kernel
theorem dX7_divisor_136 : decode cX7_divisor 136 = .ok (.aload_n 0, 1) := by decide +kernel
theorem dX7_divisor_137 : decode cX7_divisor 137 = .ok (.aload_n 1, 1) := by decide +kernel
theorem dX7_divisor_138 : decode cX7_divisor 138 = .ok (.iload_n 2, 1) := by decide +kernel
theorem dX7_divisor_139 : decode cX7_divisor 139 = .ok (.invokestatic 130, 3) := by decide +kernel
theorem dX7_divisor_142 : decode cX7_divisor 142 = .ok (.istore 5, 2) := by decide +kernel
theorem dX7_divisor_144 : decode cX7_divisor 144 = .ok (.goto (-79), 3) := by decide +kernel
theorem dX7_divisor_147 : decode cX7_divisor 147 = .ok (.aload_n 0, 1) := by decide +kernel
theorem dX7_divisor_148 : decode cX7_divisor 148 = .ok (.iload_n 3, 1) := by decide +kernel
theorem dX7_divisor_149 : decode cX7_divisor 149 = .ok (.iload 4, 2) := by decide +kernel
theorem dX7_divisor_151 : decode cX7_divisor 151 = .ok (.invokestatic 138, 3) := by decide +kernel
theorem dX7_divisor_154 : decode cX7_divisor 154 = .ok (.invokestatic 141, 3) := by decide +kernel
theorem dX7_divisor_157 : decode cX7_divisor 157 = .ok (.return_, 1) := by decide +kernel
theorem dX7_quotient_0 : decode cX7_quotient 0 = .ok (.aload_n 3, 1) := by decide +kernel
theorem dX7_quotient_1 : decode cX7_quotient 1 = .ok (.lconst 0, 1) := by decide +kernel
theorem dX7_quotient_2 : decode cX7_quotient 2 = .ok (.invokestatic 145, 3) := by decide +kernel
theorem dX7_quotient_5 : decode cX7_quotient 5 = .ok (.aload_n 1, 1) := by decide +kernel
theorem dX7_quotient_6 : decode cX7_quotient 6 = .ok (.invokestatic 149, 3) := by decide +kernel
theorem dX7_quotient_9 : decode cX7_quotient 9 = .ok (.aload_n 2, 1) := by decide +kernel
theorem dX7_quotient_10 : decode cX7_quotient 10 = .ok (.invokestatic 149, 3) := by decide +kernel
theorem dX7_quotient_13 : decode cX7_quotient 13 = .ok (.isub, 1) := by decide +kernel
theorem dX7_quotient_14 : decode cX7_quotient 14 = .ok (.istore 4, 2) := by decide +kernel
theorem dX7_quotient_16 : decode cX7_quotient 16 = .ok (.iload 4, 2) := by decide +kernel
theorem dX7_quotient_18 : decode cX7_quotient 18 = .ok (.ifCond .ge 4, 3) := by decide +kernel
theorem dX7_quotient_21 : decode cX7_quotient 21 = .ok (.return_, 1) := by decide +kernel
theorem dX7_quotient_22 : decode cX7_quotient 22 = .ok (.aload_n 2, 1) := by decide +kernel
theorem dX7_quotient_23 : decode cX7_quotient 23 = .ok (.aload_n 0, 1) := by decide +kernel
theorem dX7_quotient_24 : decode cX7_quotient 24 = .ok (.getfield 30, 3) := by decide +kernel
theorem dX7_quotient_27 : decode cX7_quotient 27 = .ok (.invokestatic 113, 3) := by decide +kernel
theorem dX7_quotient_30 : decode cX7_quotient 30 = .ok (.aload_n 0, 1) := by decide +kernel
theorem dX7_quotient_31 : decode cX7_quotient 31 = .ok (.getfield 30, 3) := by decide +kernel
theorem dX7_quotient_34 : decode cX7_quotient 34 = .ok (.iload 4, 2) := by decide +kernel
theorem dX7_quotient_36 : decode cX7_quotient 36 = .ok (.invokestatic 141, 3) := by decide +kernel
theorem dX7_quotient_39 : decode cX7_quotient 39 = .ok (.iconst 1, 1) := by decide +kernel
theorem dX7_quotient_40 : decode cX7_quotient 40 = .ok (.aload_n 1, 1) := by decide +kernel
theorem dX7_quotient_41 : decode cX7_quotient 41 = .ok (.invokestatic 97, 3) := by decide +kernel
theorem dX7_quotient_44 : decode cX7_quotient 44 = .ok (.aload_n 0, 1) := by decide +kernel
theorem dX7_quotient_45 : decode cX7_quotient 45 = .ok (.getfield 30, 3) := by decide +kernel
theorem dX7_quotient_48 : decode cX7_quotient 48 = .ok (.invokestatic 97, 3) := by decide +kernel
theorem dX7_quotient_51 : decode cX7_quotient 51 = .ok (.invokestatic 117, 3) := by decide +kernel
theorem dX7_quotient_54 : decode cX7_quotient 54 = .ok (.invokestatic 117, 3) := by decide +kernel
theorem dX7_quotient_57 : decode cX7_quotient 57 = .ok (.istore 5, 2) := by decide +kernel
theorem dX7_quotient_59 : decode cX7_quotient 59 = .ok (.iload 4, 2) := by decide +kernel
theorem dX7_quotient_61 : decode cX7_quotient 61 = .ok (.istore 6, 2) := by decide +kernel
theorem dX7_quotient_63 : decode cX7_quotient 63 = .ok (.iload 6, 2) := by decide +kernel
theorem dX7_quotient_65 : decode cX7_quotient 65 = .ok (.ifCond .lt 59, 3) := by decide +kernel
theorem dX7_quotient_68 : decode cX7_quotient 68 = .ok (.aload_n 1, 1) := by decide +kernel
theorem dX7_quotient_69 : decode cX7_quotient 69 = .ok (.aload_n 0, 1) := by decide +kernel
theorem dX7_quotient_70 : decode cX7_quotient 70 = .ok (.getfield 30, 3) := by decide +kernel
theorem dX7_quotient_73 : decode cX7_quotient 73 = .ok (.iload 5, 2) := by decide +kernel
theorem dX7_quotient_75 : decode cX7_quotient 75 = .ok (.invokestatic 130, 3) := by decide +kernel
theorem dX7_quotient_78 : decode cX7_quotient 78 = .ok (.ifCond .lt 30, 3) := by decide +kernel
theorem dX7_quotient_81 : decode cX7_quotient 81 = .ok (.aload_n 1, 1) := by decide +kernel
theorem dX7_quotient_82 : decode cX7_quotient 82 = .ok (.aload_n 0, 1) := by decide +kernel
theorem dX7_quotient_83 : decode cX7_quotient 83 = .ok (.getfield 30, 3) := by decide +kernel
theorem dX7_quotient_86 : decode cX7_quotient 86 = .ok (.iload 5, 2) := by decide +kernel
theorem dX7_quotient_88 : decode cX7_quotient 88 = .ok (.invokestatic 134, 3) := by decide +kernel
theorem dX7_quotient_91 : decode cX7_quotient 91 = .ok (.aload_n 3, 1) := by decide +kernel
theorem dX7_quotient_92 : decode cX7_quotient 92 = .ok (.iload 6, 2) := by decide +kernel
theorem dX7_quotient_94 : decode cX7_quotient 94 = .ok (.bipush 32, 2) := by decide +kernel
theorem dX7_quotient_96 : decode cX7_quotient 96 = .ok (.idiv, 1) := by decide +kernel
theorem dX7_quotient_97 : decode cX7_quotient 97 = .ok (.dup2, 1) := by decide +kernel
theorem dX7_quotient_98 : decode cX7_quotient 98 = .ok (.iaload, 1) := by decide +kernel
theorem dX7_quotient_99 : decode cX7_quotient 99 = .ok (.iconst 1, 1) := by decide +kernel
theorem dX7_quotient_100 : decode cX7_quotient 100 = .ok (.iload 6, 2) := by decide +kernel
theorem dX7_quotient_102 : decode cX7_quotient 102 = .ok (.bipush 32, 2) := by decide +kernel
theorem dX7_quotient_104 : decode cX7_quotient 104 = .ok (.irem, 1) := by decide +kernel
theorem dX7_quotient_105 : decode cX7_quotient 105 = .ok (.ishl, 1) := by decide +kernel
theorem dX7_quotient_106 : decode cX7_quotient 106 = .ok (.ior, 1) := by decide +kernel
theorem dX7_quotient_107 : decode cX7_quotient 107 = .ok (.iastore, 1) := by decide +kernel
theorem dX7_quotient_108 : decode cX7_quotient 108 = .ok (.aload_n 0, 1) := by decide +kernel
theorem dX7_quotient_109 : decode cX7_quotient 109 = .ok (.getfield 30, 3) := by decide +kernel
theorem dX7_quotient_112 : decode cX7_quotient 112 = .ok (.iconst 1, 1) := by decide +kernel
theorem dX7_quotient_113 : decode cX7_quotient 113 = .ok (.iload 5, 2) := by decide +kernel
theorem dX7_quotient_115 : decode cX7_quotient 115 = .ok (.invokestatic 126, 3) := by decide +kernel
theorem dX7_quotient_118 : decode cX7_quotient 118 = .ok (.iinc 6 (-1), 3) := by decide +kernel
theorem dX7_quotient_121 : decode cX7_quotient 121 = .ok (.goto (-58), 3) := by decide +kernel
theorem dX7_quotient_124 : decode cX7_quotient 124 = .ok (.return_, 1) := by decide +kernel
theorem dX7_degree_0 : decode cX7_degree 0 = .ok (.bipush 6, 2) := by decide +kernel
theorem dX7_degree_2 : decode cX7_degree 2 = .ok (.istore_n 1, 1) := by decide +kernel
theorem dX7_degree_3 : decode cX7_degree 3 = .ok (.iload_n 1, 1) := by decide +kernel
theorem dX7_degree_4 : decode cX7_degree 4 = .ok (.ifCond .lt 18, 3) := by decide +kernel
theorem dX7_degree_7 : decode cX7_degree 7 = .ok (.aload_n 0, 1) := by decide +kernel
theorem dX7_degree_8 : decode cX7_degree 8 = .ok (.iload_n 1, 1) := by decide +kernel
theorem dX7_degree_9 : decode cX7_degree 9 = .ok (.aaload, 1) := by decide +kernel
theorem dX7_degree_10 : decode cX7_degree 10 = .ok (.invokestatic 110, 3) := by decide +kernel
theorem dX7_degree_13 : decode cX7_degree 13 = .ok (.ifCond .ne 9, 3) := by decide +kernel
theorem dX7_degree_16 : decode cX7_degree 16 = .ok (.iinc 1 (-1), 3) := by decide +kernel
theorem dX7_degree_19 : decode cX7_degree 19 = .ok (.goto (-16), 3) := by decide +kernel
theorem dX7_degree_22 : decode cX7_degree 22 = .ok (.iload_n 1, 1) := by decide +kernel
theorem dX7_degree_23 : decode cX7_degree 23 = .ok (.ireturn, 1) := by decide +kernel
theorem dX7_degree__0 : decode cX7_degree_ 0 = .ok (.bipush 6, 2) := by decide +kernel
theorem dX7_degree__2 : decode cX7_degree_ 2 = .ok (.istore_n 1, 1) := by decide +kernel
theorem dX7_degree__3 : decode cX7_degree_ 3 = .ok (.iload_n 1, 1) := by decide +kernel
theorem dX7_degree__4 : decode cX7_degree_ 4 = .ok (.ifCond .lt 15, 3) := by decide +kernel
theorem dX7_degree__7 : decode cX7_degree_ 7 = .ok (.aload_n 0, 1) := by decide +kernel
theorem dX7_degree__8 : decode cX7_degree_ 8 = .ok (.iload_n 1, 1) := by decide +kernel
theorem dX7_degree__9 : decode cX7_degree_ 9 = .ok (.iaload, 1) := by decide +kernel
theorem dX7_degree__10 : decode cX7_degree_ 10 = .ok (.ifCond .ne 9, 3) := by decide +kernel
theorem dX7_degree__13 : decode cX7_degree_ 13 = .ok (.iinc 1 (-1), 3) := by decide +kernel
theorem dX7_degree__16 : decode cX7_degree_ 16 = .ok (.goto (-13), 3) := by decide +kernel
theorem dX7_degree__19 : decode cX7_degree_ 19 = .ok (.iload_n 1, 1) := by decide +kernel
theorem dX7_degree__20 : decode cX7_degree_ 20 = .ok (.ireturn, 1) := by decide +kernel
theorem dX7_copy__0 : decode cX7_copy_ 0 = .ok (.iconst 0, 1) := by decide +kernel
theorem dX7_copy__1 : decode cX7_copy_ 1 = .ok (.istore_n 2, 1) := by decide +kernel
theorem dX7_copy__2 : decode cX7_copy_ 2 = .ok (.iload_n 2, 1) := by decide +kernel
theorem dX7_copy__3 : decode cX7_copy_ 3 = .ok (.bipush 7, 2) := by decide +kernel
theorem dX7_copy__5 : decode cX7_copy_ 5 = .ok (.if_icmp .ge 18, 3) := by decide +kernel
theorem dX7_copy__8 : decode cX7_copy_ 8 = .ok (.aload_n 0, 1) := by decide +kernel
theorem dX7_copy__9 : decode cX7_copy_ 9 = .ok (.iload_n 2, 1) := by decide +kernel
theorem dX7_copy__10 : decode cX7_copy_ 10 = .ok (.aaload, 1) := by decide +kernel
theorem dX7_copy__11 : decode cX7_copy_ 11 = .ok (.aload_n 1, 1) := by decide +kernel
theorem dX7_copy__12 : decode cX7_copy_ 12 = .ok (.iload_n 2, 1) := by decide +kernel
theorem dX7_copy__13 : decode cX7_copy_ 13 = .ok (.aaload, 1) := by decide +kernel
theorem dX7_copy__14 : decode cX7_copy_ 14 = .ok (.invokestatic 113, 3) := by decide +kernel
theorem dX7_copy__17 : decode cX7_copy_ 17 = .ok (.iinc 2 1, 3) := by decide +kernel
theorem dX7_copy__20 : decode cX7_copy_ 20 = .ok (.goto (-18), 3) := by decide +kernel
theorem dX7_copy__23 : decode cX7_copy_ 23 = .ok (.return_, 1) := by decide +kernel
theorem dX7_negate__0 : decode cX7_negate_ 0 = .ok (.iconst 0, 1) := by decide +kernel
theorem dX7_negate__1 : decode cX7_negate_ 1 = .ok (.istore_n 1, 1) := by decide +kernel
theorem dX7_negate__2 : decode cX7_negate_ 2 = .ok (.iload_n 1, 1) := by decide +kernel
theorem dX7_negate__3 : decode cX7_negate_ 3 = .ok (.bipush 7, 2) := by decide +kernel
theorem dX7_negate__5 : decode cX7_negate_ 5 = .ok (.if_icmp .ge 15, 3) := by decide +kernel
theorem dX7_negate__8 : decode cX7_negate_ 8 = .ok (.aload_n 0, 1) := by decide +kernel
theorem dX7_negate__9 : decode cX7_negate_ 9 = .ok (.iload_n 1, 1) := by decide +kernel
theorem dX7_negate__10 : decode cX7_negate_ 10 = .ok (.aaload, 1) := by decide +kernel
theorem dX7_negate__11 : decode cX7_negate_ 11 = .ok (.invokestatic 93, 3) := by decide +kernel
theorem dX7_negate__14 : decode cX7_negate_ 14 = .ok (.iinc 1 1, 3) := by decide +kernel
theorem dX7_negate__17 : decode cX7_negate_ 17 = .ok (.goto (-15), 3) := by decide +kernel
theorem dX7_negate__20 : decode cX7_negate_ 20 = .ok (.return_, 1) := by decide +kernel
theorem dX7_load_0 : decode cX7_load 0 = .ok (.iconst 0, 1) := by decide +kernel
theorem dX7_load_1 : decode cX7_load 1 = .ok (.istore_n 2, 1) := by decide +kernel
theorem dX7_load_2 : decode cX7_load 2 = .ok (.iload_n 2, 1) := by decide +kernel
theorem dX7_load_3 : decode cX7_load 3 = .ok (.bipush 7, 2) := by decide +kernel
theorem dX7_load_5 : decode cX7_load 5 = .ok (.if_icmp .ge 19, 3) := by decide +kernel
theorem dX7_load_8 : decode cX7_load 8 = .ok (.aload_n 1, 1) := by decide +kernel
theorem dX7_load_9 : decode cX7_load 9 = .ok (.iload_n 2, 1) := by decide +kernel
theorem dX7_load_10 : decode cX7_load 10 = .ok (.aaload, 1) := by decide +kernel
theorem dX7_load_11 : decode cX7_load 11 = .ok (.aload_n 0, 1) := by decide +kernel
theorem dX7_load_12 : decode cX7_load 12 = .ok (.iload_n 2, 1) := by decide +kernel
theorem dX7_load_13 : decode cX7_load 13 = .ok (.iaload, 1) := by decide +kernel
theorem dX7_load_14 : decode cX7_load 14 = .ok (.i2l, 1) := by decide +kernel
theorem dX7_load_15 : decode cX7_load 15 = .ok (.invokestatic 145, 3) := by decide +kernel
theorem dX7_load_18 : decode cX7_load 18 = .ok (.iinc 2 1, 3) := by decide +kernel
theorem dX7_load_21 : decode cX7_load 21 = .ok (.goto (-19), 3) := by decide +kernel
theorem dX7_load_24 : decode cX7_load 24 = .ok (.return_, 1) := by decide +kernel
theorem dX7_derive_0 : decode cX7_derive 0 = .ok (.iconst 0, 1) := by decide +kernel
theorem dX7_derive_1 : decode cX7_derive 1 = .ok (.istore_n 2, 1) := by decide +kernel
theorem dX7_derive_2 : decode cX7_derive 2 = .ok (.iload_n 2, 1) := by decide +kernel
theorem dX7_derive_3 : decode cX7_derive 3 = .ok (.bipush 7, 2) := by decide +kernel
theorem dX7_derive_5 : decode cX7_derive 5 = .ok (.if_icmp .ge 53, 3) := by decide +kernel
theorem dX7_derive_8 : decode cX7_derive 8 = .ok (.iload_n 2, 1) := by decide +kernel
theorem dX7_derive_9 : decode cX7_derive 9 = .ok (.iconst 1, 1) := by decide +kernel
theorem dX7_derive_10 : decode cX7_derive 10 = .ok (.iadd, 1) := by decide +kernel
theorem dX7_derive_11 : decode cX7_derive 11 = .ok (.bipush 7, 2) := by decide +kernel
theorem dX7_derive_13 : decode cX7_derive 13 = .ok (.if_icmp .ge 14, 3) := by decide +kernel
theorem dX7_derive_16 : decode cX7_derive 16 = .ok (.aload_n 0, 1) := by decide +kernel
theorem dX7_derive_17 : decode cX7_derive 17 = .ok (.iload_n 2, 1) := by decide +kernel
theorem dX7_derive_18 : decode cX7_derive 18 = .ok (.iconst 1, 1) := by decide +kernel
theorem dX7_derive_19 : decode cX7_derive 19 = .ok (.iadd, 1) := by decide +kernel
theorem dX7_derive_20 : decode cX7_derive 20 = .ok (.aaload, 1) := by decide +kernel
theorem dX7_derive_21 : decode cX7_derive 21 = .ok (.aload_n 1, 1) := by decide +kernel
theorem dX7_derive_22 : decode cX7_derive 22 = .ok (.iload_n 2, 1) := by decide +kernel
theorem dX7_derive_23 : decode cX7_derive 23 = .ok (.aaload, 1) := by decide +kernel
theorem dX7_derive_24 : decode cX7_derive 24 = .ok (.invokestatic 113, 3) := by decide +kernel
theorem dX7_derive_27 : decode cX7_derive 27 = .ok (.iload_n 2, 1) := by decide +kernel
theorem dX7_derive_28 : decode cX7_derive 28 = .ok (.iconst 1, 1) := by decide +kernel
theorem dX7_derive_29 : decode cX7_derive 29 = .ok (.iadd, 1) := by decide +kernel
theorem dX7_derive_30 : decode cX7_derive 30 = .ok (.bipush 7, 2) := by decide +kernel
theorem dX7_derive_32 : decode cX7_derive 32 = .ok (.if_icmp .ne 10, 3) := by decide +kernel
theorem dX7_derive_35 : decode cX7_derive 35 = .ok (.aload_n 1, 1) := by decide +kernel
theorem dX7_derive_36 : decode cX7_derive 36 = .ok (.iload_n 2, 1) := by decide +kernel
theorem dX7_derive_37 : decode cX7_derive 37 = .ok (.aaload, 1) := by decide +kernel
theorem dX7_derive_38 : decode cX7_derive 38 = .ok (.lconst 0, 1) := by decide +kernel
theorem dX7_derive_39 : decode cX7_derive 39 = .ok (.invokestatic 145, 3) := by decide +kernel
theorem dX7_derive_42 : decode cX7_derive 42 = .ok (.aload_n 1, 1) := by decide +kernel
theorem dX7_derive_43 : decode cX7_derive 43 = .ok (.iload_n 2, 1) := by decide +kernel
theorem dX7_derive_44 : decode cX7_derive 44 = .ok (.aaload, 1) := by decide +kernel
theorem dX7_derive_45 : decode cX7_derive 45 = .ok (.iload_n 2, 1) := by decide +kernel
theorem dX7_derive_46 : decode cX7_derive 46 = .ok (.iconst 1, 1) := by decide +kernel
theorem dX7_derive_47 : decode cX7_derive 47 = .ok (.iadd, 1) := by decide +kernel
theorem dX7_derive_48 : decode cX7_derive 48 = .ok (.i2l, 1) := by decide +kernel
theorem dX7_derive_49 : decode cX7_derive 49 = .ok (.invokestatic 152, 3) := by decide +kernel
theorem dX7_derive_52 : decode cX7_derive 52 = .ok (.iinc 2 1, 3) := by decide +kernel
theorem dX7_derive_55 : decode cX7_derive 55 = .ok (.goto (-53), 3) := by decide +kernel
theorem dX7_derive_58 : decode cX7_derive 58 = .ok (.return_, 1) := by decide +kernel
theorem dX7_primitive_0 : decode cX7_primitive 0 = .ok (.aload_n 0, 1) := by decide +kernel
theorem dX7_primitive_1 : decode cX7_primitive 1 = .ok (.getfield 14, 3) := by decide +kernel
theorem dX7_primitive_4 : decode cX7_primitive 4 = .ok (.lconst 0, 1) := by decide +kernel
theorem dX7_primitive_5 : decode cX7_primitive 5 = .ok (.invokestatic 145, 3) := by decide +kernel
theorem dX7_primitive_8 : decode cX7_primitive 8 = .ok (.iconst 0, 1) := by decide +kernel
theorem dX7_primitive_9 : decode cX7_primitive 9 = .ok (.istore_n 2, 1) := by decide +kernel
theorem dX7_primitive_10 : decode cX7_primitive 10 = .ok (.iload_n 2, 1) := by decide +kernel
theorem dX7_primitive_11 : decode cX7_primitive 11 = .ok (.bipush 7, 2) := by decide +kernel
theorem dX7_primitive_13 : decode cX7_primitive 13 = .ok (.if_icmp .ge 38, 3) := by decide +kernel
theorem dX7_primitive_16 : decode cX7_primitive 16 = .ok (.aload_n 1, 1) := by decide +kernel
theorem dX7_primitive_17 : decode cX7_primitive 17 = .ok (.iload_n 2, 1) := by decide +kernel
theorem dX7_primitive_18 : decode cX7_primitive 18 = .ok (.aaload, 1) := by decide +kernel
theorem dX7_primitive_19 : decode cX7_primitive 19 = .ok (.aload_n 0, 1) := by decide +kernel
theorem dX7_primitive_20 : decode cX7_primitive 20 = .ok (.getfield 18, 3) := by decide +kernel
theorem dX7_primitive_23 : decode cX7_primitive 23 = .ok (.invokestatic 113, 3) := by decide +kernel
theorem dX7_primitive_26 : decode cX7_primitive 26 = .ok (.aload_n 0, 1) := by decide +kernel
theorem dX7_primitive_27 : decode cX7_primitive 27 = .ok (.getfield 18, 3) := by decide +kernel
theorem dX7_primitive_30 : decode cX7_primitive 30 = .ok (.invokestatic 155, 3) := by decide +kernel
theorem dX7_primitive_33 : decode cX7_primitive 33 = .ok (.pop, 1) := by decide +kernel
theorem dX7_primitive_34 : decode cX7_primitive 34 = .ok (.aload_n 0, 1) := by decide +kernel
theorem dX7_primitive_35 : decode cX7_primitive 35 = .ok (.getfield 14, 3) := by decide +kernel
theorem dX7_primitive_38 : decode cX7_primitive 38 = .ok (.aload_n 0, 1) := by decide +kernel
theorem dX7_primitive_39 : decode cX7_primitive 39 = .ok (.getfield 18, 3) := by decide +kernel
theorem dX7_primitive_42 : decode cX7_primitive 42 = .ok (.invokestatic 159, 3) := by decide +kernel
theorem dX7_primitive_45 : decode cX7_primitive 45 = .ok (.iinc 2 1, 3) := by decide +kernel
theorem dX7_primitive_48 : decode cX7_primitive 48 = .ok (.goto (-38), 3) := by decide +kernel
theorem dX7_primitive_51 : decode cX7_primitive 51 = .ok (.aload_n 0, 1) := by decide +kernel
theorem dX7_primitive_52 : decode cX7_primitive 52 = .ok (.getfield 14, 3) := by decide +kernel
theorem dX7_primitive_55 : decode cX7_primitive 55 = .ok (.invokestatic 149, 3) := by decide +kernel
theorem dX7_primitive_58 : decode cX7_primitive 58 = .ok (.iconst 2, 1) := by decide +kernel
theorem dX7_primitive_59 : decode cX7_primitive 59 = .ok (.if_icmp .ge 4, 3) := by decide +kernel
theorem dX7_primitive_62 : decode cX7_primitive 62 = .ok (.return_, 1) := by decide +kernel
theorem dX7_primitive_63 : decode cX7_primitive 63 = .ok (.iconst 0, 1) := by decide +kernel
theorem dX7_primitive_64 : decode cX7_primitive 64 = .ok (.istore_n 2, 1) := by decide +kernel
theorem dX7_primitive_65 : decode cX7_primitive 65 = .ok (.iload_n 2, 1) := by decide +kernel
theorem dX7_primitive_66 : decode cX7_primitive 66 = .ok (.bipush 7, 2) := by decide +kernel
theorem dX7_primitive_68 : decode cX7_primitive 68 = .ok (.if_icmp .ge 52, 3) := by decide +kernel
theorem dX7_primitive_71 : decode cX7_primitive 71 = .ok (.aload_n 1, 1) := by decide +kernel
theorem dX7_primitive_72 : decode cX7_primitive 72 = .ok (.iload_n 2, 1) := by decide +kernel
theorem dX7_primitive_73 : decode cX7_primitive 73 = .ok (.aaload, 1) := by decide +kernel
theorem dX7_primitive_74 : decode cX7_primitive 74 = .ok (.invokestatic 155, 3) := by decide +kernel
theorem dX7_primitive_77 : decode cX7_primitive 77 = .ok (.istore_n 3, 1) := by decide +kernel
theorem dX7_primitive_78 : decode cX7_primitive 78 = .ok (.aload_n 0, 1) := by decide +kernel
theorem dX7_primitive_79 : decode cX7_primitive 79 = .ok (.aload_n 1, 1) := by decide +kernel
theorem dX7_primitive_80 : decode cX7_primitive 80 = .ok (.iload_n 2, 1) := by decide +kernel
theorem dX7_primitive_81 : decode cX7_primitive 81 = .ok (.aaload, 1) := by decide +kernel
theorem dX7_primitive_82 : decode cX7_primitive 82 = .ok (.aload_n 0, 1) := by decide +kernel
theorem dX7_primitive_83 : decode cX7_primitive 83 = .ok (.getfield 14, 3) := by decide +kernel
theorem dX7_primitive_86 : decode cX7_primitive 86 = .ok (.aload_n 0, 1) := by decide +kernel
theorem dX7_primitive_87 : decode cX7_primitive 87 = .ok (.getfield 18, 3) := by decide +kernel
theorem dX7_primitive_90 : decode cX7_primitive 90 = .ok (.invokevirtual 162, 3) := by decide +kernel
theorem dX7_primitive_93 : decode cX7_primitive 93 = .ok (.iload_n 3, 1) := by decide +kernel
theorem dX7_primitive_94 : decode cX7_primitive 94 = .ok (.ifCond .eq 10, 3) := by decide +kernel
theorem dX7_primitive_97 : decode cX7_primitive 97 = .ok (.aload_n 0, 1) := by decide +kernel
theorem dX7_primitive_98 : decode cX7_primitive 98 = .ok (.getfield 18, 3) := by decide +kernel
theorem dX7_primitive_101 : decode cX7_primitive 101 = .ok (.invokestatic 93, 3) := by decide +kernel
theorem dX7_primitive_104 : decode cX7_primitive 104 = .ok (.aload_n 0, 1) := by decide +kernel
theorem dX7_primitive_105 : decode cX7_primitive 105 = .ok (.getfield 18, 3) := by decide +kernel
theorem dX7_primitive_108 : decode cX7_primitive 108 = .ok (.aload_n 1, 1) := by decide +kernel
theorem dX7_primitive_109 : decode cX7_primitive 109 = .ok (.iload_n 2, 1) := by decide +kernel
theorem dX7_primitive_110 : decode cX7_primitive 110 = .ok (.aaload, 1) := by decide +kernel
theorem dX7_primitive_111 : decode cX7_primitive 111 = .ok (.invokestatic 113, 3) := by decide +kernel
theorem dX7_primitive_114 : decode cX7_primitive 114 = .ok (.iinc 2 1, 3) := by decide +kernel
theorem dX7_primitive_117 : decode cX7_primitive 117 = .ok (.goto (-52), 3) := by decide +kernel
theorem dX7_primitive_120 : decode cX7_primitive 120 = .ok (.return_, 1) := by decide +kernel
theorem dX7_positive_0 : decode cX7_positive 0 = .ok (.aload_n 1, 1) := by decide +kernel
theorem dX7_positive_1 : decode cX7_positive 1 = .ok (.invokestatic 166, 3) := by decide +kernel
theorem dX7_positive_4 : decode cX7_positive 4 = .ok (.istore_n 2, 1) := by decide +kernel
theorem dX7_positive_5 : decode cX7_positive 5 = .ok (.iload_n 2, 1) := by decide +kernel
theorem dX7_positive_6 : decode cX7_positive 6 = .ok (.ifCond .lt 16, 3) := by decide +kernel
theorem dX7_positive_9 : decode cX7_positive 9 = .ok (.aload_n 1, 1) := by decide +kernel
theorem dX7_positive_10 : decode cX7_positive 10 = .ok (.iload_n 2, 1) := by decide +kernel
theorem dX7_positive_11 : decode cX7_positive 11 = .ok (.aaload, 1) := by decide +kernel
theorem dX7_positive_12 : decode cX7_positive 12 = .ok (.invokestatic 110, 3) := by decide +kernel
theorem dX7_positive_15 : decode cX7_positive 15 = .ok (.ifCond .ge 7, 3) := by decide +kernel
theorem dX7_positive_18 : decode cX7_positive 18 = .ok (.aload_n 1, 1) := by decide +kernel
theorem dX7_positive_19 : decode cX7_positive 19 = .ok (.invokestatic 170, 3) := by decide +kernel
theorem dX7_positive_22 : decode cX7_positive 22 = .ok (.return_, 1) := by decide +kernel
theorem dX7_remainder_0 : decode cX7_remainder 0 = .ok (.aload_n 2, 1) := by decide +kernel
theorem dX7_remainder_1 : decode cX7_remainder 1 = .ok (.invokestatic 166, 3) := by decide +kernel
theorem dX7_remainder_4 : decode cX7_remainder 4 = .ok (.istore_n 3, 1) := by decide +kernel
theorem dX7_remainder_5 : decode cX7_remainder 5 = .ok (.aload_n 1, 1) := by decide +kernel
theorem dX7_remainder_6 : decode cX7_remainder 6 = .ok (.invokestatic 166, 3) := by decide +kernel
theorem dX7_remainder_9 : decode cX7_remainder 9 = .ok (.istore 4, 2) := by decide +kernel
theorem dX7_remainder_11 : decode cX7_remainder 11 = .ok (.iload 4, 2) := by decide +kernel
theorem dX7_remainder_13 : decode cX7_remainder 13 = .ok (.iload_n 3, 1) := by decide +kernel
theorem dX7_remainder_14 : decode cX7_remainder 14 = .ok (.if_icmp .lt 142, 3) := by decide +kernel
theorem dX7_remainder_17 : decode cX7_remainder 17 = .ok (.aload_n 2, 1) := by decide +kernel
theorem dX7_remainder_18 : decode cX7_remainder 18 = .ok (.iload_n 3, 1) := by decide +kernel
theorem dX7_remainder_19 : decode cX7_remainder 19 = .ok (.aaload, 1) := by decide +kernel
theorem dX7_remainder_20 : decode cX7_remainder 20 = .ok (.aload_n 0, 1) := by decide +kernel
theorem dX7_remainder_21 : decode cX7_remainder 21 = .ok (.getfield 21, 3) := by decide +kernel
theorem dX7_remainder_24 : decode cX7_remainder 24 = .ok (.invokestatic 113, 3) := by decide +kernel
theorem dX7_remainder_27 : decode cX7_remainder 27 = .ok (.aload_n 1, 1) := by decide +kernel
theorem dX7_remainder_28 : decode cX7_remainder 28 = .ok (.iload 4, 2) := by decide +kernel
theorem dX7_remainder_30 : decode cX7_remainder 30 = .ok (.aaload, 1) := by decide +kernel
theorem dX7_remainder_31 : decode cX7_remainder 31 = .ok (.aload_n 0, 1) := by decide +kernel
theorem dX7_remainder_32 : decode cX7_remainder 32 = .ok (.getfield 24, 3) := by decide +kernel
theorem dX7_remainder_35 : decode cX7_remainder 35 = .ok (.invokestatic 113, 3) := by decide +kernel
theorem dX7_remainder_38 : decode cX7_remainder 38 = .ok (.aload_n 0, 1) := by decide +kernel
theorem dX7_remainder_39 : decode cX7_remainder 39 = .ok (.getfield 21, 3) := by decide +kernel
theorem dX7_remainder_42 : decode cX7_remainder 42 = .ok (.invokestatic 155, 3) := by decide +kernel
theorem dX7_remainder_45 : decode cX7_remainder 45 = .ok (.ifCond .eq 10, 3) := by decide +kernel
theorem dX7_remainder_48 : decode cX7_remainder 48 = .ok (.aload_n 0, 1) := by decide +kernel
theorem dX7_remainder_49 : decode cX7_remainder 49 = .ok (.getfield 24, 3) := by decide +kernel
theorem dX7_remainder_52 : decode cX7_remainder 52 = .ok (.invokestatic 93, 3) := by decide +kernel
theorem dX7_remainder_55 : decode cX7_remainder 55 = .ok (.iconst 0, 1) := by decide +kernel
theorem dX7_remainder_56 : decode cX7_remainder 56 = .ok (.istore 5, 2) := by decide +kernel
theorem dX7_remainder_58 : decode cX7_remainder 58 = .ok (.iload 5, 2) := by decide +kernel
theorem dX7_remainder_60 : decode cX7_remainder 60 = .ok (.iload 4, 2) := by decide +kernel
theorem dX7_remainder_62 : decode cX7_remainder 62 = .ok (.if_icmp .gt 80, 3) := by decide +kernel
theorem dX7_remainder_65 : decode cX7_remainder 65 = .ok (.aload_n 1, 1) := by decide +kernel
theorem dX7_remainder_66 : decode cX7_remainder 66 = .ok (.iload 5, 2) := by decide +kernel
theorem dX7_remainder_68 : decode cX7_remainder 68 = .ok (.aaload, 1) := by decide +kernel
theorem dX7_remainder_69 : decode cX7_remainder 69 = .ok (.aload_n 0, 1) := by decide +kernel
theorem dX7_remainder_70 : decode cX7_remainder 70 = .ok (.getfield 21, 3) := by decide +kernel
theorem dX7_remainder_73 : decode cX7_remainder 73 = .ok (.aload_n 0, 1) := by decide +kernel
theorem dX7_remainder_74 : decode cX7_remainder 74 = .ok (.getfield 27, 3) := by decide +kernel
theorem dX7_remainder_77 : decode cX7_remainder 77 = .ok (.invokestatic 173, 3) := by decide +kernel
theorem dX7_remainder_80 : decode cX7_remainder 80 = .ok (.aload_n 0, 1) := by decide +kernel
theorem dX7_remainder_81 : decode cX7_remainder 81 = .ok (.getfield 27, 3) := by decide +kernel
theorem dX7_remainder_84 : decode cX7_remainder 84 = .ok (.aload_n 1, 1) := by decide +kernel
theorem dX7_remainder_85 : decode cX7_remainder 85 = .ok (.iload 5, 2) := by decide +kernel
theorem dX7_remainder_87 : decode cX7_remainder 87 = .ok (.aaload, 1) := by decide +kernel
theorem dX7_remainder_88 : decode cX7_remainder 88 = .ok (.invokestatic 113, 3) := by decide +kernel
theorem dX7_remainder_91 : decode cX7_remainder 91 = .ok (.iload 5, 2) := by decide +kernel
theorem dX7_remainder_93 : decode cX7_remainder 93 = .ok (.iload 4, 2) := by decide +kernel
theorem dX7_remainder_95 : decode cX7_remainder 95 = .ok (.iload_n 3, 1) := by decide +kernel
theorem dX7_remainder_96 : decode cX7_remainder 96 = .ok (.isub, 1) := by decide +kernel
theorem dX7_remainder_97 : decode cX7_remainder 97 = .ok (.if_icmp .ge 6, 3) := by decide +kernel
theorem dX7_remainder_100 : decode cX7_remainder 100 = .ok (.goto 36, 3) := by decide +kernel
theorem dX7_remainder_103 : decode cX7_remainder 103 = .ok (.aload_n 2, 1) := by decide +kernel
theorem dX7_remainder_104 : decode cX7_remainder 104 = .ok (.iload 5, 2) := by decide +kernel
theorem dX7_remainder_106 : decode cX7_remainder 106 = .ok (.iload 4, 2) := by decide +kernel
theorem dX7_remainder_108 : decode cX7_remainder 108 = .ok (.isub, 1) := by decide +kernel
theorem dX7_remainder_109 : decode cX7_remainder 109 = .ok (.iload_n 3, 1) := by decide +kernel
theorem dX7_remainder_110 : decode cX7_remainder 110 = .ok (.iadd, 1) := by decide +kernel
theorem dX7_remainder_111 : decode cX7_remainder 111 = .ok (.aaload, 1) := by decide +kernel
theorem dX7_remainder_112 : decode cX7_remainder 112 = .ok (.aload_n 0, 1) := by decide +kernel
theorem dX7_remainder_113 : decode cX7_remainder 113 = .ok (.getfield 24, 3) := by decide +kernel
theorem dX7_remainder_116 : decode cX7_remainder 116 = .ok (.aload_n 0, 1) := by decide +kernel
theorem dX7_remainder_117 : decode cX7_remainder 117 = .ok (.getfield 27, 3) := by decide +kernel
theorem dX7_remainder_120 : decode cX7_remainder 120 = .ok (.invokestatic 173, 3) := by decide +kernel
theorem dX7_remainder_123 : decode cX7_remainder 123 = .ok (.aload_n 1, 1) := by decide +kernel
theorem dX7_remainder_124 : decode cX7_remainder 124 = .ok (.iload 5, 2) := by decide +kernel
theorem dX7_remainder_126 : decode cX7_remainder 126 = .ok (.aaload, 1) := by decide +kernel
theorem dX7_remainder_127 : decode cX7_remainder 127 = .ok (.aload_n 0, 1) := by decide +kernel
theorem dX7_remainder_128 : decode cX7_remainder 128 = .ok (.getfield 27, 3) := by decide +kernel
theorem dX7_remainder_131 : decode cX7_remainder 131 = .ok (.bipush 48, 2) := by decide +kernel
theorem dX7_remainder_133 : decode cX7_remainder 133 = .ok (.invokestatic 134, 3) := by decide +kernel
theorem dX7_remainder_136 : decode cX7_remainder 136 = .ok (.iinc 5 1, 3) := by decide +kernel
theorem dX7_remainder_139 : decode cX7_remainder 139 = .ok (.goto (-81), 3) := by decide +kernel
theorem dX7_remainder_142 : decode cX7_remainder 142 = .ok (.aload_n 0, 1) := by decide +kernel
theorem dX7_remainder_143 : decode cX7_remainder 143 = .ok (.aload_n 1, 1) := by decide +kernel
theorem dX7_remainder_144 : decode cX7_remainder 144 = .ok (.invokevirtual 176, 3) := by decide +kernel
theorem dX7_remainder_147 : decode cX7_remainder 147 = .ok (.aload_n 1, 1) := by decide +kernel
theorem dX7_remainder_148 : decode cX7_remainder 148 = .ok (.invokestatic 166, 3) := by decide +kernel
theorem dX7_remainder_151 : decode cX7_remainder 151 = .ok (.istore 4, 2) := by decide +kernel
theorem dX7_remainder_153 : decode cX7_remainder 153 = .ok (.goto (-142), 3) := by decide +kernel
theorem dX7_remainder_156 : decode cX7_remainder 156 = .ok (.return_, 1) := by decide +kernel
theorem dX7_findCommon_0 : decode cX7_findCommon 0 = .ok (.aload_n 0, 1) := by decide +kernel
theorem dX7_findCommon_1 : decode cX7_findCommon 1 = .ok (.getfield 33, 3) := by decide +kernel
theorem dX7_findCommon_4 : decode cX7_findCommon 4 = .ok (.invokestatic 166, 3) := by decide +kernel
theorem dX7_findCommon_7 : decode cX7_findCommon 7 = .ok (.aload_n 0, 1) := by decide +kernel
theorem dX7_findCommon_8 : decode cX7_findCommon 8 = .ok (.getfield 36, 3) := by decide +kernel
theorem dX7_findCommon_11 : decode cX7_findCommon 11 = .ok (.invokestatic 166, 3) := by decide +kernel
theorem dX7_findCommon_14 : decode cX7_findCommon 14 = .ok (.if_icmp .ge 10, 3) := by decide +kernel
theorem dX7_findCommon_17 : decode cX7_findCommon 17 = .ok (.aload_n 0, 1) := by decide +kernel
theorem dX7_findCommon_18 : decode cX7_findCommon 18 = .ok (.getfield 36, 3) := by decide +kernel
theorem dX7_findCommon_21 : decode cX7_findCommon 21 = .ok (.goto 7, 3) := by decide +kernel
theorem dX7_findCommon_24 : decode cX7_findCommon 24 = .ok (.aload_n 0, 1) := by decide +kernel
theorem dX7_findCommon_25 : decode cX7_findCommon 25 = .ok (.getfield 33, 3) := by decide +kernel
theorem dX7_findCommon_28 : decode cX7_findCommon 28 = .ok (.astore_n 1, 1) := by decide +kernel
theorem dX7_findCommon_29 : decode cX7_findCommon 29 = .ok (.aload_n 1, 1) := by decide +kernel
theorem dX7_findCommon_30 : decode cX7_findCommon 30 = .ok (.aload_n 0, 1) := by decide +kernel
theorem dX7_findCommon_31 : decode cX7_findCommon 31 = .ok (.getfield 33, 3) := by decide +kernel
theorem dX7_findCommon_34 : decode cX7_findCommon 34 = .ok (.if_acmp .ne 10, 3) := by decide +kernel
theorem dX7_findCommon_37 : decode cX7_findCommon 37 = .ok (.aload_n 0, 1) := by decide +kernel
theorem dX7_findCommon_38 : decode cX7_findCommon 38 = .ok (.getfield 36, 3) := by decide +kernel
theorem dX7_findCommon_41 : decode cX7_findCommon 41 = .ok (.goto 7, 3) := by decide +kernel
theorem dX7_findCommon_44 : decode cX7_findCommon 44 = .ok (.aload_n 0, 1) := by decide +kernel
theorem dX7_findCommon_45 : decode cX7_findCommon 45 = .ok (.getfield 33, 3) := by decide +kernel
theorem dX7_findCommon_48 : decode cX7_findCommon 48 = .ok (.astore_n 2, 1) := by decide +kernel
theorem dX7_findCommon_49 : decode cX7_findCommon 49 = .ok (.aload_n 2, 1) := by decide +kernel
theorem dX7_findCommon_50 : decode cX7_findCommon 50 = .ok (.invokestatic 166, 3) := by decide +kernel
theorem dX7_findCommon_53 : decode cX7_findCommon 53 = .ok (.ifCond .lt 18, 3) := by decide +kernel
theorem dX7_findCommon_56 : decode cX7_findCommon 56 = .ok (.aload_n 0, 1) := by decide +kernel
theorem dX7_findCommon_57 : decode cX7_findCommon 57 = .ok (.aload_n 1, 1) := by decide +kernel
theorem dX7_findCommon_58 : decode cX7_findCommon 58 = .ok (.aload_n 2, 1) := by decide +kernel
theorem dX7_findCommon_59 : decode cX7_findCommon 59 = .ok (.invokevirtual 179, 3) := by decide +kernel
theorem dX7_findCommon_62 : decode cX7_findCommon 62 = .ok (.aload_n 1, 1) := by decide +kernel
theorem dX7_findCommon_63 : decode cX7_findCommon 63 = .ok (.astore_n 3, 1) := by decide +kernel
theorem dX7_findCommon_64 : decode cX7_findCommon 64 = .ok (.aload_n 2, 1) := by decide +kernel
theorem dX7_findCommon_65 : decode cX7_findCommon 65 = .ok (.astore_n 1, 1) := by decide +kernel
theorem dX7_findCommon_66 : decode cX7_findCommon 66 = .ok (.aload_n 3, 1) := by decide +kernel
theorem dX7_findCommon_67 : decode cX7_findCommon 67 = .ok (.astore_n 2, 1) := by decide +kernel
theorem dX7_findCommon_68 : decode cX7_findCommon 68 = .ok (.goto (-19), 3) := by decide +kernel
theorem dX7_findCommon_71 : decode cX7_findCommon 71 = .ok (.aload_n 0, 1) := by decide +kernel
theorem dX7_findCommon_72 : decode cX7_findCommon 72 = .ok (.aload_n 1, 1) := by decide +kernel
theorem dX7_findCommon_73 : decode cX7_findCommon 73 = .ok (.invokevirtual 176, 3) := by decide +kernel
theorem dX7_findCommon_76 : decode cX7_findCommon 76 = .ok (.aload_n 0, 1) := by decide +kernel
theorem dX7_findCommon_77 : decode cX7_findCommon 77 = .ok (.aload_n 1, 1) := by decide +kernel
theorem dX7_findCommon_78 : decode cX7_findCommon 78 = .ok (.invokevirtual 183, 3) := by decide +kernel
theorem dX7_findCommon_81 : decode cX7_findCommon 81 = .ok (.aload_n 1, 1) := by decide +kernel
theorem dX7_findCommon_82 : decode cX7_findCommon 82 = .ok (.aload_n 0, 1) := by decide +kernel
theorem dX7_findCommon_83 : decode cX7_findCommon 83 = .ok (.getfield 42, 3) := by decide +kernel
theorem dX7_findCommon_86 : decode cX7_findCommon 86 = .ok (.invokestatic 186, 3) := by decide +kernel
theorem dX7_findCommon_89 : decode cX7_findCommon 89 = .ok (.return_, 1) := by decide +kernel
theorem dX7_findFree_0 : decode cX7_findFree 0 = .ok (.aload_n 1, 1) := by decide +kernel
theorem dX7_findFree_1 : decode cX7_findFree 1 = .ok (.aload_n 0, 1) := by decide +kernel
theorem dX7_findFree_2 : decode cX7_findFree 2 = .ok (.getfield 33, 3) := by decide +kernel
theorem dX7_findFree_5 : decode cX7_findFree 5 = .ok (.invokestatic 186, 3) := by decide +kernel
theorem dX7_findFree_8 : decode cX7_findFree 8 = .ok (.aload_n 1, 1) := by decide +kernel
theorem dX7_findFree_9 : decode cX7_findFree 9 = .ok (.aload_n 0, 1) := by decide +kernel
theorem dX7_findFree_10 : decode cX7_findFree 10 = .ok (.getfield 36, 3) := by decide +kernel
theorem dX7_findFree_13 : decode cX7_findFree 13 = .ok (.invokestatic 188, 3) := by decide +kernel
theorem dX7_findFree_16 : decode cX7_findFree 16 = .ok (.aload_n 1, 1) := by decide +kernel
theorem dX7_findFree_17 : decode cX7_findFree 17 = .ok (.aload_n 0, 1) := by decide +kernel
theorem dX7_findFree_18 : decode cX7_findFree 18 = .ok (.getfield 39, 3) := by decide +kernel
theorem dX7_findFree_21 : decode cX7_findFree 21 = .ok (.invokestatic 186, 3) := by decide +kernel
theorem dX7_findFree_24 : decode cX7_findFree 24 = .ok (.aload_n 0, 1) := by decide +kernel
theorem dX7_findFree_25 : decode cX7_findFree 25 = .ok (.invokevirtual 191, 3) := by decide +kernel
theorem dX7_findFree_28 : decode cX7_findFree 28 = .ok (.aload_n 0, 1) := by decide +kernel
theorem dX7_findFree_29 : decode cX7_findFree 29 = .ok (.aload_n 0, 1) := by decide +kernel
theorem dX7_findFree_30 : decode cX7_findFree 30 = .ok (.getfield 39, 3) := by decide +kernel
theorem dX7_findFree_33 : decode cX7_findFree 33 = .ok (.invokevirtual 176, 3) := by decide +kernel
theorem dX7_findFree_36 : decode cX7_findFree 36 = .ok (.aload_n 0, 1) := by decide +kernel
theorem dX7_findFree_37 : decode cX7_findFree 37 = .ok (.getfield 42, 3) := by decide +kernel
theorem dX7_findFree_40 : decode cX7_findFree 40 = .ok (.invokestatic 166, 3) := by decide +kernel
theorem dX7_findFree_43 : decode cX7_findFree 43 = .ok (.istore_n 2, 1) := by decide +kernel
theorem dX7_findFree_44 : decode cX7_findFree 44 = .ok (.iconst 0, 1) := by decide +kernel
theorem dX7_findFree_45 : decode cX7_findFree 45 = .ok (.istore_n 3, 1) := by decide +kernel
theorem dX7_findFree_46 : decode cX7_findFree 46 = .ok (.iload_n 3, 1) := by decide +kernel
theorem dX7_findFree_47 : decode cX7_findFree 47 = .ok (.bipush 7, 2) := by decide +kernel
theorem dX7_findFree_49 : decode cX7_findFree 49 = .ok (.if_icmp .ge 19, 3) := by decide +kernel
theorem dX7_findFree_52 : decode cX7_findFree 52 = .ok (.aload_n 0, 1) := by decide +kernel
theorem dX7_findFree_53 : decode cX7_findFree 53 = .ok (.getfield 45, 3) := by decide +kernel
theorem dX7_findFree_56 : decode cX7_findFree 56 = .ok (.iload_n 3, 1) := by decide +kernel
theorem dX7_findFree_57 : decode cX7_findFree 57 = .ok (.aaload, 1) := by decide +kernel
theorem dX7_findFree_58 : decode cX7_findFree 58 = .ok (.lconst 0, 1) := by decide +kernel
theorem dX7_findFree_59 : decode cX7_findFree 59 = .ok (.invokestatic 145, 3) := by decide +kernel
theorem dX7_findFree_62 : decode cX7_findFree 62 = .ok (.iinc 3 1, 3) := by decide +kernel
theorem dX7_findFree_65 : decode cX7_findFree 65 = .ok (.goto (-19), 3) := by decide +kernel
theorem dX7_findFree_68 : decode cX7_findFree 68 = .ok (.aload_n 0, 1) := by decide +kernel
theorem dX7_findFree_69 : decode cX7_findFree 69 = .ok (.getfield 39, 3) := by decide +kernel
theorem dX7_findFree_72 : decode cX7_findFree 72 = .ok (.invokestatic 166, 3) := by decide +kernel
theorem dX7_findFree_75 : decode cX7_findFree 75 = .ok (.iload_n 2, 1) := by decide +kernel
theorem dX7_findFree_76 : decode cX7_findFree 76 = .ok (.isub, 1) := by decide +kernel
theorem dX7_findFree_77 : decode cX7_findFree 77 = .ok (.istore_n 3, 1) := by decide +kernel
theorem dX7_findFree_78 : decode cX7_findFree 78 = .ok (.iload_n 3, 1) := by decide +kernel
theorem dX7_findFree_79 : decode cX7_findFree 79 = .ok (.ifCond .lt 120, 3) := by decide +kernel
theorem dX7_findFree_82 : decode cX7_findFree 82 = .ok (.aload_n 0, 1) := by decide +kernel
theorem dX7_findFree_83 : decode cX7_findFree 83 = .ok (.getfield 39, 3) := by decide +kernel
theorem dX7_findFree_86 : decode cX7_findFree 86 = .ok (.iload_n 3, 1) := by decide +kernel
theorem dX7_findFree_87 : decode cX7_findFree 87 = .ok (.iload_n 2, 1) := by decide +kernel
theorem dX7_findFree_88 : decode cX7_findFree 88 = .ok (.iadd, 1) := by decide +kernel
theorem dX7_findFree_89 : decode cX7_findFree 89 = .ok (.aaload, 1) := by decide +kernel
theorem dX7_findFree_90 : decode cX7_findFree 90 = .ok (.aload_n 0, 1) := by decide +kernel
theorem dX7_findFree_91 : decode cX7_findFree 91 = .ok (.getfield 18, 3) := by decide +kernel
theorem dX7_findFree_94 : decode cX7_findFree 94 = .ok (.invokestatic 113, 3) := by decide +kernel
theorem dX7_findFree_97 : decode cX7_findFree 97 = .ok (.aload_n 0, 1) := by decide +kernel
theorem dX7_findFree_98 : decode cX7_findFree 98 = .ok (.getfield 18, 3) := by decide +kernel
theorem dX7_findFree_101 : decode cX7_findFree 101 = .ok (.invokestatic 155, 3) := by decide +kernel
theorem dX7_findFree_104 : decode cX7_findFree 104 = .ok (.istore 4, 2) := by decide +kernel
theorem dX7_findFree_106 : decode cX7_findFree 106 = .ok (.aload_n 0, 1) := by decide +kernel
theorem dX7_findFree_107 : decode cX7_findFree 107 = .ok (.aload_n 0, 1) := by decide +kernel
theorem dX7_findFree_108 : decode cX7_findFree 108 = .ok (.getfield 18, 3) := by decide +kernel
theorem dX7_findFree_111 : decode cX7_findFree 111 = .ok (.aload_n 0, 1) := by decide +kernel
theorem dX7_findFree_112 : decode cX7_findFree 112 = .ok (.getfield 42, 3) := by decide +kernel
theorem dX7_findFree_115 : decode cX7_findFree 115 = .ok (.iload_n 2, 1) := by decide +kernel
theorem dX7_findFree_116 : decode cX7_findFree 116 = .ok (.aaload, 1) := by decide +kernel
theorem dX7_findFree_117 : decode cX7_findFree 117 = .ok (.aload_n 0, 1) := by decide +kernel
theorem dX7_findFree_118 : decode cX7_findFree 118 = .ok (.getfield 45, 3) := by decide +kernel
theorem dX7_findFree_121 : decode cX7_findFree 121 = .ok (.iload_n 3, 1) := by decide +kernel
theorem dX7_findFree_122 : decode cX7_findFree 122 = .ok (.aaload, 1) := by decide +kernel
theorem dX7_findFree_123 : decode cX7_findFree 123 = .ok (.invokevirtual 162, 3) := by decide +kernel
theorem dX7_findFree_126 : decode cX7_findFree 126 = .ok (.iload 4, 2) := by decide +kernel
theorem dX7_findFree_128 : decode cX7_findFree 128 = .ok (.ifCond .eq 12, 3) := by decide +kernel
theorem dX7_findFree_131 : decode cX7_findFree 131 = .ok (.aload_n 0, 1) := by decide +kernel
theorem dX7_findFree_132 : decode cX7_findFree 132 = .ok (.getfield 45, 3) := by decide +kernel
theorem dX7_findFree_135 : decode cX7_findFree 135 = .ok (.iload_n 3, 1) := by decide +kernel
theorem dX7_findFree_136 : decode cX7_findFree 136 = .ok (.aaload, 1) := by decide +kernel
theorem dX7_findFree_137 : decode cX7_findFree 137 = .ok (.invokestatic 93, 3) := by decide +kernel
theorem dX7_findFree_140 : decode cX7_findFree 140 = .ok (.iconst 0, 1) := by decide +kernel
theorem dX7_findFree_141 : decode cX7_findFree 141 = .ok (.istore 5, 2) := by decide +kernel
theorem dX7_findFree_143 : decode cX7_findFree 143 = .ok (.iload 5, 2) := by decide +kernel
theorem dX7_findFree_145 : decode cX7_findFree 145 = .ok (.iload_n 2, 1) := by decide +kernel
theorem dX7_findFree_146 : decode cX7_findFree 146 = .ok (.if_icmp .gt 47, 3) := by decide +kernel
theorem dX7_findFree_149 : decode cX7_findFree 149 = .ok (.aload_n 0, 1) := by decide +kernel
theorem dX7_findFree_150 : decode cX7_findFree 150 = .ok (.getfield 42, 3) := by decide +kernel
theorem dX7_findFree_153 : decode cX7_findFree 153 = .ok (.iload 5, 2) := by decide +kernel
theorem dX7_findFree_155 : decode cX7_findFree 155 = .ok (.aaload, 1) := by decide +kernel
theorem dX7_findFree_156 : decode cX7_findFree 156 = .ok (.aload_n 0, 1) := by decide +kernel
theorem dX7_findFree_157 : decode cX7_findFree 157 = .ok (.getfield 45, 3) := by decide +kernel
theorem dX7_findFree_160 : decode cX7_findFree 160 = .ok (.iload_n 3, 1) := by decide +kernel
theorem dX7_findFree_161 : decode cX7_findFree 161 = .ok (.aaload, 1) := by decide +kernel
theorem dX7_findFree_162 : decode cX7_findFree 162 = .ok (.aload_n 0, 1) := by decide +kernel
theorem dX7_findFree_163 : decode cX7_findFree 163 = .ok (.getfield 27, 3) := by decide +kernel
theorem dX7_findFree_166 : decode cX7_findFree 166 = .ok (.invokestatic 173, 3) := by decide +kernel
theorem dX7_findFree_169 : decode cX7_findFree 169 = .ok (.aload_n 0, 1) := by decide +kernel
theorem dX7_findFree_170 : decode cX7_findFree 170 = .ok (.getfield 39, 3) := by decide +kernel
theorem dX7_findFree_173 : decode cX7_findFree 173 = .ok (.iload_n 3, 1) := by decide +kernel
theorem dX7_findFree_174 : decode cX7_findFree 174 = .ok (.iload 5, 2) := by decide +kernel
theorem dX7_findFree_176 : decode cX7_findFree 176 = .ok (.iadd, 1) := by decide +kernel
theorem dX7_findFree_177 : decode cX7_findFree 177 = .ok (.aaload, 1) := by decide +kernel
theorem dX7_findFree_178 : decode cX7_findFree 178 = .ok (.aload_n 0, 1) := by decide +kernel
theorem dX7_findFree_179 : decode cX7_findFree 179 = .ok (.getfield 27, 3) := by decide +kernel
theorem dX7_findFree_182 : decode cX7_findFree 182 = .ok (.bipush 48, 2) := by decide +kernel
theorem dX7_findFree_184 : decode cX7_findFree 184 = .ok (.invokestatic 134, 3) := by decide +kernel
theorem dX7_findFree_187 : decode cX7_findFree 187 = .ok (.iinc 5 1, 3) := by decide +kernel
theorem dX7_findFree_190 : decode cX7_findFree 190 = .ok (.goto (-47), 3) := by decide +kernel
theorem dX7_findFree_193 : decode cX7_findFree 193 = .ok (.iinc 3 (-1), 3) := by decide +kernel
theorem dX7_findFree_196 : decode cX7_findFree 196 = .ok (.goto (-118), 3) := by decide +kernel
theorem dX7_findFree_199 : decode cX7_findFree 199 = .ok (.aload_n 0, 1) := by decide +kernel
theorem dX7_findFree_200 : decode cX7_findFree 200 = .ok (.aload_n 0, 1) := by decide +kernel
theorem dX7_findFree_201 : decode cX7_findFree 201 = .ok (.getfield 45, 3) := by decide +kernel
theorem dX7_findFree_204 : decode cX7_findFree 204 = .ok (.invokevirtual 176, 3) := by decide +kernel
theorem dX7_findFree_207 : decode cX7_findFree 207 = .ok (.aload_n 0, 1) := by decide +kernel
theorem dX7_findFree_208 : decode cX7_findFree 208 = .ok (.aload_n 0, 1) := by decide +kernel
theorem dX7_findFree_209 : decode cX7_findFree 209 = .ok (.getfield 45, 3) := by decide +kernel
theorem dX7_findFree_212 : decode cX7_findFree 212 = .ok (.invokevirtual 183, 3) := by decide +kernel
theorem dX7_findFree_215 : decode cX7_findFree 215 = .ok (.return_, 1) := by decide +kernel
theorem dX7_signAt_0 : decode cX7_signAt 0 = .ok (.aload_n 1, 1) := by decide +kernel
theorem dX7_signAt_1 : decode cX7_signAt 1 = .ok (.invokestatic 166, 3) := by decide +kernel
theorem dX7_signAt_4 : decode cX7_signAt 4 = .ok (.istore 5, 2) := by decide +kernel
theorem dX7_signAt_6 : decode cX7_signAt 6 = .ok (.aload_n 0, 1) := by decide +kernel
theorem dX7_signAt_7 : decode cX7_signAt 7 = .ok (.getfield 14, 3) := by decide +kernel
theorem dX7_signAt_10 : decode cX7_signAt 10 = .ok (.lconst 0, 1) := by decide +kernel
theorem dX7_signAt_11 : decode cX7_signAt 11 = .ok (.invokestatic 145, 3) := by decide +kernel
theorem dX7_signAt_14 : decode cX7_signAt 14 = .ok (.iload 5, 2) := by decide +kernel
theorem dX7_signAt_16 : decode cX7_signAt 16 = .ok (.istore 6, 2) := by decide +kernel
theorem dX7_signAt_18 : decode cX7_signAt 18 = .ok (.iload 6, 2) := by decide +kernel
theorem dX7_signAt_20 : decode cX7_signAt 20 = .ok (.ifCond .lt 54, 3) := by decide +kernel
theorem dX7_signAt_23 : decode cX7_signAt 23 = .ok (.aload_n 0, 1) := by decide +kernel
theorem dX7_signAt_24 : decode cX7_signAt 24 = .ok (.getfield 14, 3) := by decide +kernel
theorem dX7_signAt_27 : decode cX7_signAt 27 = .ok (.lload_n 2, 1) := by decide +kernel
theorem dX7_signAt_28 : decode cX7_signAt 28 = .ok (.invokestatic 152, 3) := by decide +kernel
theorem dX7_signAt_31 : decode cX7_signAt 31 = .ok (.aload_n 1, 1) := by decide +kernel
theorem dX7_signAt_32 : decode cX7_signAt 32 = .ok (.iload 6, 2) := by decide +kernel
theorem dX7_signAt_34 : decode cX7_signAt 34 = .ok (.aaload, 1) := by decide +kernel
theorem dX7_signAt_35 : decode cX7_signAt 35 = .ok (.aload_n 0, 1) := by decide +kernel
theorem dX7_signAt_36 : decode cX7_signAt 36 = .ok (.getfield 18, 3) := by decide +kernel
theorem dX7_signAt_39 : decode cX7_signAt 39 = .ok (.invokestatic 113, 3) := by decide +kernel
theorem dX7_signAt_42 : decode cX7_signAt 42 = .ok (.aload_n 0, 1) := by decide +kernel
theorem dX7_signAt_43 : decode cX7_signAt 43 = .ok (.getfield 18, 3) := by decide +kernel
theorem dX7_signAt_46 : decode cX7_signAt 46 = .ok (.iload 4, 2) := by decide +kernel
theorem dX7_signAt_48 : decode cX7_signAt 48 = .ok (.iload 5, 2) := by decide +kernel
theorem dX7_signAt_50 : decode cX7_signAt 50 = .ok (.iload 6, 2) := by decide +kernel
theorem dX7_signAt_52 : decode cX7_signAt 52 = .ok (.isub, 1) := by decide +kernel
theorem dX7_signAt_53 : decode cX7_signAt 53 = .ok (.imul, 1) := by decide +kernel
theorem dX7_signAt_54 : decode cX7_signAt 54 = .ok (.invokestatic 141, 3) := by decide +kernel
theorem dX7_signAt_57 : decode cX7_signAt 57 = .ok (.aload_n 0, 1) := by decide +kernel
theorem dX7_signAt_58 : decode cX7_signAt 58 = .ok (.getfield 14, 3) := by decide +kernel
theorem dX7_signAt_61 : decode cX7_signAt 61 = .ok (.aload_n 0, 1) := by decide +kernel
theorem dX7_signAt_62 : decode cX7_signAt 62 = .ok (.getfield 18, 3) := by decide +kernel
theorem dX7_signAt_65 : decode cX7_signAt 65 = .ok (.invokestatic 194, 3) := by decide +kernel
theorem dX7_signAt_68 : decode cX7_signAt 68 = .ok (.iinc 6 (-1), 3) := by decide +kernel
theorem dX7_signAt_71 : decode cX7_signAt 71 = .ok (.goto (-53), 3) := by decide +kernel
theorem dX7_signAt_74 : decode cX7_signAt 74 = .ok (.aload_n 0, 1) := by decide +kernel
theorem dX7_signAt_75 : decode cX7_signAt 75 = .ok (.getfield 14, 3) := by decide +kernel
theorem dX7_signAt_78 : decode cX7_signAt 78 = .ok (.invokestatic 110, 3) := by decide +kernel
theorem dX7_signAt_81 : decode cX7_signAt 81 = .ok (.ireturn, 1) := by decide +kernel
theorem dX7_moves_0 : decode cX7_moves 0 = .ok (.iconst 0, 1) := by decide +kernel
theorem dX7_moves_1 : decode cX7_moves 1 = .ok (.istore_n 2, 1) := by decide +kernel
theorem dX7_moves_2 : decode cX7_moves 2 = .ok (.iload_n 2, 1) := by decide +kernel
theorem dX7_moves_3 : decode cX7_moves 3 = .ok (.iload_n 1, 1) := by decide +kernel
theorem dX7_moves_4 : decode cX7_moves 4 = .ok (.if_icmp .ge 35, 3) := by decide +kernel
theorem dX7_moves_7 : decode cX7_moves 7 = .ok (.iload_n 1, 1) := by decide +kernel
theorem dX7_moves_8 : decode cX7_moves 8 = .ok (.iconst 1, 1) := by decide +kernel
theorem dX7_moves_9 : decode cX7_moves 9 = .ok (.isub, 1) := by decide +kernel
theorem dX7_moves_10 : decode cX7_moves 10 = .ok (.istore_n 3, 1) := by decide +kernel
theorem dX7_moves_11 : decode cX7_moves 11 = .ok (.iload_n 3, 1) := by decide +kernel
theorem dX7_moves_12 : decode cX7_moves 12 = .ok (.iload_n 2, 1) := by decide +kernel
theorem dX7_moves_13 : decode cX7_moves 13 = .ok (.if_icmp .lt 20, 3) := by decide +kernel
theorem dX7_moves_16 : decode cX7_moves 16 = .ok (.aload_n 0, 1) := by decide +kernel
theorem dX7_moves_17 : decode cX7_moves 17 = .ok (.iload_n 3, 1) := by decide +kernel
theorem dX7_moves_18 : decode cX7_moves 18 = .ok (.aaload, 1) := by decide +kernel
theorem dX7_moves_19 : decode cX7_moves 19 = .ok (.aload_n 0, 1) := by decide +kernel
theorem dX7_moves_20 : decode cX7_moves 20 = .ok (.iload_n 3, 1) := by decide +kernel
theorem dX7_moves_21 : decode cX7_moves 21 = .ok (.iconst 1, 1) := by decide +kernel
theorem dX7_moves_22 : decode cX7_moves 22 = .ok (.iadd, 1) := by decide +kernel
theorem dX7_moves_23 : decode cX7_moves 23 = .ok (.aaload, 1) := by decide +kernel
theorem dX7_moves_24 : decode cX7_moves 24 = .ok (.invokestatic 194, 3) := by decide +kernel
theorem dX7_moves_27 : decode cX7_moves 27 = .ok (.iinc 3 (-1), 3) := by decide +kernel
theorem dX7_moves_30 : decode cX7_moves 30 = .ok (.goto (-19), 3) := by decide +kernel
theorem dX7_moves_33 : decode cX7_moves 33 = .ok (.iinc 2 1, 3) := by decide +kernel
theorem dX7_moves_36 : decode cX7_moves 36 = .ok (.goto (-34), 3) := by decide +kernel
theorem dX7_moves_39 : decode cX7_moves 39 = .ok (.return_, 1) := by decide +kernel
theorem dX7_changes_0 : decode cX7_changes 0 = .ok (.iconst 0, 1) := by decide +kernel
theorem dX7_changes_1 : decode cX7_changes 1 = .ok (.istore_n 2, 1) := by decide +kernel
theorem dX7_changes_2 : decode cX7_changes 2 = .ok (.iconst 0, 1) := by decide +kernel
theorem dX7_changes_3 : decode cX7_changes 3 = .ok (.istore_n 3, 1) := by decide +kernel
theorem dX7_changes_4 : decode cX7_changes 4 = .ok (.iconst 0, 1) := by decide +kernel
theorem dX7_changes_5 : decode cX7_changes 5 = .ok (.istore 4, 2) := by decide +kernel
theorem dX7_changes_7 : decode cX7_changes 7 = .ok (.iload 4, 2) := by decide +kernel
theorem dX7_changes_9 : decode cX7_changes 9 = .ok (.iload_n 1, 1) := by decide +kernel
theorem dX7_changes_10 : decode cX7_changes 10 = .ok (.if_icmp .gt 53, 3) := by decide +kernel
theorem dX7_changes_13 : decode cX7_changes 13 = .ok (.aload_n 0, 1) := by decide +kernel
theorem dX7_changes_14 : decode cX7_changes 14 = .ok (.iload 4, 2) := by decide +kernel
theorem dX7_changes_16 : decode cX7_changes 16 = .ok (.aaload, 1) := by decide +kernel
theorem dX7_changes_17 : decode cX7_changes 17 = .ok (.invokestatic 110, 3) := by decide +kernel
theorem dX7_changes_20 : decode cX7_changes 20 = .ok (.istore 5, 2) := by decide +kernel
theorem dX7_changes_22 : decode cX7_changes 22 = .ok (.iload_n 2, 1) := by decide +kernel
theorem dX7_changes_23 : decode cX7_changes 23 = .ok (.iload 5, 2) := by decide +kernel
theorem dX7_changes_25 : decode cX7_changes 25 = .ok (.ifCond .eq 17, 3) := by decide +kernel
theorem dX7_changes_28 : decode cX7_changes 28 = .ok (.iload_n 3, 1) := by decide +kernel
theorem dX7_changes_29 : decode cX7_changes 29 = .ok (.ifCond .eq 13, 3) := by decide +kernel
theorem dX7_changes_32 : decode cX7_changes 32 = .ok (.iload 5, 2) := by decide +kernel
theorem dX7_changes_34 : decode cX7_changes 34 = .ok (.iload_n 3, 1) := by decide +kernel
theorem dX7_changes_35 : decode cX7_changes 35 = .ok (.if_icmp .eq 7, 3) := by decide +kernel
theorem dX7_changes_38 : decode cX7_changes 38 = .ok (.iconst 1, 1) := by decide +kernel
theorem dX7_changes_39 : decode cX7_changes 39 = .ok (.goto 4, 3) := by decide +kernel
theorem dX7_changes_42 : decode cX7_changes 42 = .ok (.iconst 0, 1) := by decide +kernel
theorem dX7_changes_43 : decode cX7_changes 43 = .ok (.iadd, 1) := by decide +kernel
theorem dX7_changes_44 : decode cX7_changes 44 = .ok (.istore_n 2, 1) := by decide +kernel
theorem dX7_changes_45 : decode cX7_changes 45 = .ok (.iload 5, 2) := by decide +kernel
theorem dX7_changes_47 : decode cX7_changes 47 = .ok (.ifCond .ne 7, 3) := by decide +kernel
theorem dX7_changes_50 : decode cX7_changes 50 = .ok (.iload_n 3, 1) := by decide +kernel
theorem dX7_changes_51 : decode cX7_changes 51 = .ok (.goto 5, 3) := by decide +kernel
theorem dX7_changes_54 : decode cX7_changes 54 = .ok (.iload 5, 2) := by decide +kernel
theorem dX7_changes_56 : decode cX7_changes 56 = .ok (.istore_n 3, 1) := by decide +kernel
theorem dX7_changes_57 : decode cX7_changes 57 = .ok (.iinc 4 1, 3) := by decide +kernel
theorem dX7_changes_60 : decode cX7_changes 60 = .ok (.goto (-53), 3) := by decide +kernel
theorem dX7_changes_63 : decode cX7_changes 63 = .ok (.iload_n 2, 1) := by decide +kernel
theorem dX7_changes_64 : decode cX7_changes 64 = .ok (.ireturn, 1) := by decide +kernel
theorem dX7_changesWithin_0 : decode cX7_changesWithin 0 = .ok (.iconst 0, 1) := by decide +kernel
theorem dX7_changesWithin_1 : decode cX7_changesWithin 1 = .ok (.istore_n 3, 1) := by decide +kernel
theorem dX7_changesWithin_2 : decode cX7_changesWithin 2 = .ok (.iload_n 3, 1) := by decide +kernel
theorem dX7_changesWithin_3 : decode cX7_changesWithin 3 = .ok (.iload_n 2, 1) := by decide +kernel
theorem dX7_changesWithin_4 : decode cX7_changesWithin 4 = .ok (.if_icmp .gt 23, 3) := by decide +kernel
theorem dX7_changesWithin_7 : decode cX7_changesWithin 7 = .ok (.aload_n 1, 1) := by decide +kernel
theorem dX7_changesWithin_8 : decode cX7_changesWithin 8 = .ok (.iload_n 2, 1) := by decide +kernel
theorem dX7_changesWithin_9 : decode cX7_changesWithin 9 = .ok (.iload_n 3, 1) := by decide +kernel
theorem dX7_changesWithin_10 : decode cX7_changesWithin 10 = .ok (.isub, 1) := by decide +kernel
theorem dX7_changesWithin_11 : decode cX7_changesWithin 11 = .ok (.aaload, 1) := by decide +kernel
theorem dX7_changesWithin_12 : decode cX7_changesWithin 12 = .ok (.aload_n 0, 1) := by decide +kernel
theorem dX7_changesWithin_13 : decode cX7_changesWithin 13 = .ok (.getfield 56, 3) := by decide +kernel
theorem dX7_changesWithin_16 : decode cX7_changesWithin 16 = .ok (.iload_n 3, 1) := by decide +kernel
theorem dX7_changesWithin_17 : decode cX7_changesWithin 17 = .ok (.aaload, 1) := by decide +kernel
theorem dX7_changesWithin_18 : decode cX7_changesWithin 18 = .ok (.invokestatic 113, 3) := by decide +kernel
theorem dX7_changesWithin_21 : decode cX7_changesWithin 21 = .ok (.iinc 3 1, 3) := by decide +kernel
theorem dX7_changesWithin_24 : decode cX7_changesWithin 24 = .ok (.goto (-22), 3) := by decide +kernel
theorem dX7_changesWithin_27 : decode cX7_changesWithin 27 = .ok (.aload_n 0, 1) := by decide +kernel
theorem dX7_changesWithin_28 : decode cX7_changesWithin 28 = .ok (.getfield 56, 3) := by decide +kernel
theorem dX7_changesWithin_31 : decode cX7_changesWithin 31 = .ok (.iload_n 2, 1) := by decide +kernel
theorem dX7_changesWithin_32 : decode cX7_changesWithin 32 = .ok (.invokestatic 197, 3) := by decide +kernel
theorem dX7_changesWithin_35 : decode cX7_changesWithin 35 = .ok (.aload_n 0, 1) := by decide +kernel
theorem dX7_changesWithin_36 : decode cX7_changesWithin 36 = .ok (.getfield 56, 3) := by decide +kernel
theorem dX7_changesWithin_39 : decode cX7_changesWithin 39 = .ok (.iload_n 2, 1) := by decide +kernel
theorem dX7_changesWithin_40 : decode cX7_changesWithin 40 = .ok (.invokestatic 201, 3) := by decide +kernel
theorem dX7_changesWithin_43 : decode cX7_changesWithin 43 = .ok (.ireturn, 1) := by decide +kernel
theorem dX7_between_0 : decode cX7_between 0 = .ok (.aload_n 1, 1) := by decide +kernel
theorem dX7_between_1 : decode cX7_between 1 = .ok (.invokestatic 166, 3) := by decide +kernel
theorem dX7_between_4 : decode cX7_between 4 = .ok (.istore 7, 2) := by decide +kernel
theorem dX7_between_6 : decode cX7_between 6 = .ok (.aload_n 0, 1) := by decide +kernel
theorem dX7_between_7 : decode cX7_between 7 = .ok (.getfield 50, 3) := by decide +kernel
theorem dX7_between_10 : decode cX7_between 10 = .ok (.iconst 0, 1) := by decide +kernel
theorem dX7_between_11 : decode cX7_between 11 = .ok (.aaload, 1) := by decide +kernel
theorem dX7_between_12 : decode cX7_between 12 = .ok (.astore 8, 2) := by decide +kernel
theorem dX7_between_14 : decode cX7_between 14 = .ok (.iconst 0, 1) := by decide +kernel
theorem dX7_between_15 : decode cX7_between 15 = .ok (.istore 9, 2) := by decide +kernel
theorem dX7_between_17 : decode cX7_between 17 = .ok (.iload 9, 2) := by decide +kernel
theorem dX7_between_19 : decode cX7_between 19 = .ok (.bipush 7, 2) := by decide +kernel
theorem dX7_between_21 : decode cX7_between 21 = .ok (.if_icmp .ge 18, 3) := by decide +kernel
theorem dX7_between_24 : decode cX7_between 24 = .ok (.aload 8, 2) := by decide +kernel
theorem dX7_between_26 : decode cX7_between 26 = .ok (.iload 9, 2) := by decide +kernel
theorem dX7_between_28 : decode cX7_between 28 = .ok (.aaload, 1) := by decide +kernel
theorem dX7_between_29 : decode cX7_between 29 = .ok (.lconst 0, 1) := by decide +kernel
theorem dX7_between_30 : decode cX7_between 30 = .ok (.invokestatic 145, 3) := by decide +kernel
theorem dX7_between_33 : decode cX7_between 33 = .ok (.iinc 9 1, 3) := by decide +kernel
theorem dX7_between_36 : decode cX7_between 36 = .ok (.goto (-19), 3) := by decide +kernel
theorem dX7_between_39 : decode cX7_between 39 = .ok (.iload 7, 2) := by decide +kernel
theorem dX7_between_41 : decode cX7_between 41 = .ok (.istore 9, 2) := by decide +kernel
theorem dX7_between_43 : decode cX7_between 43 = .ok (.iload 9, 2) := by decide +kernel
theorem dX7_between_45 : decode cX7_between 45 = .ok (.ifCond .lt 115, 3) := by decide +kernel
theorem dX7_between_48 : decode cX7_between 48 = .ok (.iload 7, 2) := by decide +kernel
theorem dX7_between_50 : decode cX7_between 50 = .ok (.istore 10, 2) := by decide +kernel
theorem dX7_between_52 : decode cX7_between 52 = .ok (.iload 10, 2) := by decide +kernel
theorem dX7_between_54 : decode cX7_between 54 = .ok (.ifCond .lt 63, 3) := by decide +kernel
theorem dX7_between_57 : decode cX7_between 57 = .ok (.aload 8, 2) := by decide +kernel
theorem dX7_between_59 : decode cX7_between 59 = .ok (.iload 10, 2) := by decide +kernel
theorem dX7_between_61 : decode cX7_between 61 = .ok (.aaload, 1) := by decide +kernel
theorem dX7_between_62 : decode cX7_between 62 = .ok (.lload_n 2, 1) := by decide +kernel
theorem dX7_between_63 : decode cX7_between 63 = .ok (.invokestatic 152, 3) := by decide +kernel
theorem dX7_between_66 : decode cX7_between 66 = .ok (.iload 10, 2) := by decide +kernel
theorem dX7_between_68 : decode cX7_between 68 = .ok (.ifCond .ne 6, 3) := by decide +kernel
theorem dX7_between_71 : decode cX7_between 71 = .ok (.goto 40, 3) := by decide +kernel
theorem dX7_between_74 : decode cX7_between 74 = .ok (.aload 8, 2) := by decide +kernel
theorem dX7_between_76 : decode cX7_between 76 = .ok (.iload 10, 2) := by decide +kernel
theorem dX7_between_78 : decode cX7_between 78 = .ok (.iconst 1, 1) := by decide +kernel
theorem dX7_between_79 : decode cX7_between 79 = .ok (.isub, 1) := by decide +kernel
theorem dX7_between_80 : decode cX7_between 80 = .ok (.aaload, 1) := by decide +kernel
theorem dX7_between_81 : decode cX7_between 81 = .ok (.aload_n 0, 1) := by decide +kernel
theorem dX7_between_82 : decode cX7_between 82 = .ok (.getfield 18, 3) := by decide +kernel
theorem dX7_between_85 : decode cX7_between 85 = .ok (.invokestatic 113, 3) := by decide +kernel
theorem dX7_between_88 : decode cX7_between 88 = .ok (.aload_n 0, 1) := by decide +kernel
theorem dX7_between_89 : decode cX7_between 89 = .ok (.getfield 18, 3) := by decide +kernel
theorem dX7_between_92 : decode cX7_between 92 = .ok (.lload 4, 2) := by decide +kernel
theorem dX7_between_94 : decode cX7_between 94 = .ok (.lload_n 2, 1) := by decide +kernel
theorem dX7_between_95 : decode cX7_between 95 = .ok (.lsub, 1) := by decide +kernel
theorem dX7_between_96 : decode cX7_between 96 = .ok (.invokestatic 152, 3) := by decide +kernel
theorem dX7_between_99 : decode cX7_between 99 = .ok (.aload 8, 2) := by decide +kernel
theorem dX7_between_101 : decode cX7_between 101 = .ok (.iload 10, 2) := by decide +kernel
theorem dX7_between_103 : decode cX7_between 103 = .ok (.aaload, 1) := by decide +kernel
theorem dX7_between_104 : decode cX7_between 104 = .ok (.aload_n 0, 1) := by decide +kernel
theorem dX7_between_105 : decode cX7_between 105 = .ok (.getfield 18, 3) := by decide +kernel
theorem dX7_between_108 : decode cX7_between 108 = .ok (.invokestatic 194, 3) := by decide +kernel
theorem dX7_between_111 : decode cX7_between 111 = .ok (.iinc 10 (-1), 3) := by decide +kernel
theorem dX7_between_114 : decode cX7_between 114 = .ok (.goto (-62), 3) := by decide +kernel
theorem dX7_between_117 : decode cX7_between 117 = .ok (.aload_n 1, 1) := by decide +kernel
theorem dX7_between_118 : decode cX7_between 118 = .ok (.iload 9, 2) := by decide +kernel
theorem dX7_between_120 : decode cX7_between 120 = .ok (.aaload, 1) := by decide +kernel
theorem dX7_between_121 : decode cX7_between 121 = .ok (.aload_n 0, 1) := by decide +kernel
theorem dX7_between_122 : decode cX7_between 122 = .ok (.getfield 18, 3) := by decide +kernel
theorem dX7_between_125 : decode cX7_between 125 = .ok (.invokestatic 113, 3) := by decide +kernel
theorem dX7_between_128 : decode cX7_between 128 = .ok (.aload_n 0, 1) := by decide +kernel
theorem dX7_between_129 : decode cX7_between 129 = .ok (.getfield 18, 3) := by decide +kernel
theorem dX7_between_132 : decode cX7_between 132 = .ok (.iload 6, 2) := by decide +kernel
theorem dX7_between_134 : decode cX7_between 134 = .ok (.iload 7, 2) := by decide +kernel
theorem dX7_between_136 : decode cX7_between 136 = .ok (.iload 9, 2) := by decide +kernel
theorem dX7_between_138 : decode cX7_between 138 = .ok (.isub, 1) := by decide +kernel
theorem dX7_between_139 : decode cX7_between 139 = .ok (.imul, 1) := by decide +kernel
theorem dX7_between_140 : decode cX7_between 140 = .ok (.invokestatic 141, 3) := by decide +kernel
theorem dX7_between_143 : decode cX7_between 143 = .ok (.aload 8, 2) := by decide +kernel
theorem dX7_between_145 : decode cX7_between 145 = .ok (.iconst 0, 1) := by decide +kernel
theorem dX7_between_146 : decode cX7_between 146 = .ok (.aaload, 1) := by decide +kernel
theorem dX7_between_147 : decode cX7_between 147 = .ok (.aload_n 0, 1) := by decide +kernel
theorem dX7_between_148 : decode cX7_between 148 = .ok (.getfield 18, 3) := by decide +kernel
theorem dX7_between_151 : decode cX7_between 151 = .ok (.invokestatic 194, 3) := by decide +kernel
theorem dX7_between_154 : decode cX7_between 154 = .ok (.iinc 9 (-1), 3) := by decide +kernel
theorem dX7_between_157 : decode cX7_between 157 = .ok (.goto (-114), 3) := by decide +kernel
theorem dX7_between_160 : decode cX7_between 160 = .ok (.iconst 0, 1) := by decide +kernel
theorem dX7_between_161 : decode cX7_between 161 = .ok (.istore 9, 2) := by decide +kernel
theorem dX7_between_163 : decode cX7_between 163 = .ok (.iconst 0, 1) := by decide +kernel
theorem dX7_between_164 : decode cX7_between 164 = .ok (.istore 10, 2) := by decide +kernel
theorem dX7_between_166 : decode cX7_between 166 = .ok (.aload_n 0, 1) := by decide +kernel
theorem dX7_between_167 : decode cX7_between 167 = .ok (.getfield 53, 3) := by decide +kernel
theorem dX7_between_170 : decode cX7_between 170 = .ok (.iconst 0, 1) := by decide +kernel
theorem dX7_between_171 : decode cX7_between 171 = .ok (.iconst 0, 1) := by decide +kernel
theorem dX7_between_172 : decode cX7_between 172 = .ok (.iastore, 1) := by decide +kernel
theorem dX7_between_173 : decode cX7_between 173 = .ok (.iload 10, 2) := by decide +kernel
theorem dX7_between_175 : decode cX7_between 175 = .ok (.ifCond .lt 180, 3) := by decide +kernel
theorem dX7_between_178 : decode cX7_between 178 = .ok (.aload_n 0, 1) := by decide +kernel
theorem dX7_between_179 : decode cX7_between 179 = .ok (.getfield 50, 3) := by decide +kernel
theorem dX7_between_182 : decode cX7_between 182 = .ok (.iload 10, 2) := by decide +kernel
theorem dX7_between_184 : decode cX7_between 184 = .ok (.aaload, 1) := by decide +kernel
theorem dX7_between_185 : decode cX7_between 185 = .ok (.astore 11, 2) := by decide +kernel
theorem dX7_between_187 : decode cX7_between 187 = .ok (.aload_n 0, 1) := by decide +kernel
theorem dX7_between_188 : decode cX7_between 188 = .ok (.getfield 50, 3) := by decide +kernel
theorem dX7_between_191 : decode cX7_between 191 = .ok (.iload 10, 2) := by decide +kernel
theorem dX7_between_193 : decode cX7_between 193 = .ok (.iconst 1, 1) := by decide +kernel
theorem dX7_between_194 : decode cX7_between 194 = .ok (.iadd, 1) := by decide +kernel
theorem dX7_between_195 : decode cX7_between 195 = .ok (.aaload, 1) := by decide +kernel
theorem dX7_between_196 : decode cX7_between 196 = .ok (.astore 12, 2) := by decide +kernel
theorem dX7_between_198 : decode cX7_between 198 = .ok (.aload_n 0, 1) := by decide +kernel
theorem dX7_between_199 : decode cX7_between 199 = .ok (.getfield 53, 3) := by decide +kernel
theorem dX7_between_202 : decode cX7_between 202 = .ok (.iload 10, 2) := by decide +kernel
theorem dX7_between_204 : decode cX7_between 204 = .ok (.dup2, 1) := by decide +kernel
theorem dX7_between_205 : decode cX7_between 205 = .ok (.iaload, 1) := by decide +kernel
theorem dX7_between_206 : decode cX7_between 206 = .ok (.iconst 1, 1) := by decide +kernel
theorem dX7_between_207 : decode cX7_between 207 = .ok (.iadd, 1) := by decide +kernel
theorem dX7_between_208 : decode cX7_between 208 = .ok (.iastore, 1) := by decide +kernel
theorem dX7_between_209 : decode cX7_between 209 = .ok (.aload_n 0, 1) := by decide +kernel
theorem dX7_between_210 : decode cX7_between 210 = .ok (.getfield 53, 3) := by decide +kernel
theorem dX7_between_213 : decode cX7_between 213 = .ok (.iload 10, 2) := by decide +kernel
theorem dX7_between_215 : decode cX7_between 215 = .ok (.iaload, 1) := by decide +kernel
theorem dX7_between_216 : decode cX7_between 216 = .ok (.iconst 1, 1) := by decide +kernel
theorem dX7_between_217 : decode cX7_between 217 = .ok (.if_icmp .ne 77, 3) := by decide +kernel
theorem dX7_between_220 : decode cX7_between 220 = .ok (.aload_n 0, 1) := by decide +kernel
theorem dX7_between_221 : decode cX7_between 221 = .ok (.aload 11, 2) := by decide +kernel
theorem dX7_between_223 : decode cX7_between 223 = .ok (.iload 7, 2) := by decide +kernel
theorem dX7_between_225 : decode cX7_between 225 = .ok (.invokevirtual 205, 3) := by decide +kernel
theorem dX7_between_228 : decode cX7_between 228 = .ok (.istore 13, 2) := by decide +kernel
theorem dX7_between_230 : decode cX7_between 230 = .ok (.iload 13, 2) := by decide +kernel
theorem dX7_between_232 : decode cX7_between 232 = .ok (.iconst 2, 1) := by decide +kernel
theorem dX7_between_233 : decode cX7_between 233 = .ok (.if_icmp .ge 16, 3) := by decide +kernel
theorem dX7_between_236 : decode cX7_between 236 = .ok (.iload 9, 2) := by decide +kernel
theorem dX7_between_238 : decode cX7_between 238 = .ok (.iload 13, 2) := by decide +kernel
theorem dX7_between_240 : decode cX7_between 240 = .ok (.iadd, 1) := by decide +kernel
theorem dX7_between_241 : decode cX7_between 241 = .ok (.istore 9, 2) := by decide +kernel
theorem dX7_between_243 : decode cX7_between 243 = .ok (.iinc 10 (-1), 3) := by decide +kernel
theorem dX7_between_246 : decode cX7_between 246 = .ok (.goto (-73), 3) := by decide +kernel
theorem dX7_between_249 : decode cX7_between 249 = .ok (.iconst 0, 1) := by decide +kernel
theorem dX7_between_250 : decode cX7_between 250 = .ok (.istore 14, 2) := by decide +kernel
theorem dX7_between_252 : decode cX7_between 252 = .ok (.iload 14, 2) := by decide +kernel
theorem dX7_between_254 : decode cX7_between 254 = .ok (.iload 7, 2) := by decide +kernel
theorem dX7_between_256 : decode cX7_between 256 = .ok (.if_icmp .gt 35, 3) := by decide +kernel
theorem dX7_between_259 : decode cX7_between 259 = .ok (.aload 11, 2) := by decide +kernel
theorem dX7_between_261 : decode cX7_between 261 = .ok (.iload 14, 2) := by decide +kernel
theorem dX7_between_263 : decode cX7_between 263 = .ok (.aaload, 1) := by decide +kernel
theorem dX7_between_264 : decode cX7_between 264 = .ok (.aload 12, 2) := by decide +kernel
theorem dX7_between_266 : decode cX7_between 266 = .ok (.iload 14, 2) := by decide +kernel
theorem dX7_between_268 : decode cX7_between 268 = .ok (.aaload, 1) := by decide +kernel
theorem dX7_between_269 : decode cX7_between 269 = .ok (.invokestatic 113, 3) := by decide +kernel
theorem dX7_between_272 : decode cX7_between 272 = .ok (.aload 12, 2) := by decide +kernel
theorem dX7_between_274 : decode cX7_between 274 = .ok (.iload 14, 2) := by decide +kernel
theorem dX7_between_276 : decode cX7_between 276 = .ok (.aaload, 1) := by decide +kernel
theorem dX7_between_277 : decode cX7_between 277 = .ok (.iload 7, 2) := by decide +kernel
theorem dX7_between_279 : decode cX7_between 279 = .ok (.iload 14, 2) := by decide +kernel
theorem dX7_between_281 : decode cX7_between 281 = .ok (.isub, 1) := by decide +kernel
theorem dX7_between_282 : decode cX7_between 282 = .ok (.invokestatic 141, 3) := by decide +kernel
theorem dX7_between_285 : decode cX7_between 285 = .ok (.iinc 14 1, 3) := by decide +kernel
theorem dX7_between_288 : decode cX7_between 288 = .ok (.goto (-36), 3) := by decide +kernel
theorem dX7_between_291 : decode cX7_between 291 = .ok (.goto 50, 3) := by decide +kernel
theorem dX7_between_294 : decode cX7_between 294 = .ok (.aload_n 0, 1) := by decide +kernel
theorem dX7_between_295 : decode cX7_between 295 = .ok (.getfield 53, 3) := by decide +kernel
theorem dX7_between_298 : decode cX7_between 298 = .ok (.iload 10, 2) := by decide +kernel
theorem dX7_between_300 : decode cX7_between 300 = .ok (.iaload, 1) := by decide +kernel
theorem dX7_between_301 : decode cX7_between 301 = .ok (.iconst 2, 1) := by decide +kernel
theorem dX7_between_302 : decode cX7_between 302 = .ok (.if_icmp .ne 33, 3) := by decide +kernel
theorem dX7_between_305 : decode cX7_between 305 = .ok (.aload 12, 2) := by decide +kernel
theorem dX7_between_307 : decode cX7_between 307 = .ok (.iload 7, 2) := by decide +kernel
theorem dX7_between_309 : decode cX7_between 309 = .ok (.invokestatic 197, 3) := by decide +kernel
theorem dX7_between_312 : decode cX7_between 312 = .ok (.iload 9, 2) := by decide +kernel
theorem dX7_between_314 : decode cX7_between 314 = .ok (.aload 12, 2) := by decide +kernel
theorem dX7_between_316 : decode cX7_between 316 = .ok (.iconst 0, 1) := by decide +kernel
theorem dX7_between_317 : decode cX7_between 317 = .ok (.aaload, 1) := by decide +kernel
theorem dX7_between_318 : decode cX7_between 318 = .ok (.invokestatic 110, 3) := by decide +kernel
theorem dX7_between_321 : decode cX7_between 321 = .ok (.ifCond .ne 7, 3) := by decide +kernel
theorem dX7_between_324 : decode cX7_between 324 = .ok (.iconst 1, 1) := by decide +kernel
theorem dX7_between_325 : decode cX7_between 325 = .ok (.goto 4, 3) := by decide +kernel
theorem dX7_between_328 : decode cX7_between 328 = .ok (.iconst 0, 1) := by decide +kernel
theorem dX7_between_329 : decode cX7_between 329 = .ok (.iadd, 1) := by decide +kernel
theorem dX7_between_330 : decode cX7_between 330 = .ok (.istore 9, 2) := by decide +kernel
theorem dX7_between_332 : decode cX7_between 332 = .ok (.goto 9, 3) := by decide +kernel
theorem dX7_between_335 : decode cX7_between 335 = .ok (.iinc 10 (-1), 3) := by decide +kernel
theorem dX7_between_338 : decode cX7_between 338 = .ok (.goto (-165), 3) := by decide +kernel
theorem dX7_between_341 : decode cX7_between 341 = .ok (.iinc 10 1, 3) := by decide +kernel
theorem dX7_between_344 : decode cX7_between 344 = .ok (.aload_n 0, 1) := by decide +kernel
theorem dX7_between_345 : decode cX7_between 345 = .ok (.getfield 53, 3) := by decide +kernel
theorem dX7_between_348 : decode cX7_between 348 = .ok (.iload 10, 2) := by decide +kernel
theorem dX7_between_350 : decode cX7_between 350 = .ok (.iconst 0, 1) := by decide +kernel
theorem dX7_between_351 : decode cX7_between 351 = .ok (.iastore, 1) := by decide +kernel
theorem dX7_between_352 : decode cX7_between 352 = .ok (.goto (-179), 3) := by decide +kernel
theorem dX7_between_355 : decode cX7_between 355 = .ok (.iload 9, 2) := by decide +kernel
theorem dX7_between_357 : decode cX7_between 357 = .ok (.ireturn, 1) := by decide +kernel
theorem dX7_isSlot_0 : decode cX7_isSlot 0 = .ok (.iload_n 0, 1) := by decide +kernel
theorem dX7_isSlot_1 : decode cX7_isSlot 1 = .ok (.ifCond .lt 12, 3) := by decide +kernel
theorem dX7_isSlot_4 : decode cX7_isSlot 4 = .ok (.iload_n 0, 1) := by decide +kernel
theorem dX7_isSlot_5 : decode cX7_isSlot 5 = .ok (.iconst 5, 1) := by decide +kernel
theorem dX7_isSlot_6 : decode cX7_isSlot 6 = .ok (.if_icmp .ge 7, 3) := by decide +kernel
theorem dX7_isSlot_9 : decode cX7_isSlot 9 = .ok (.iconst 1, 1) := by decide +kernel
theorem dX7_isSlot_10 : decode cX7_isSlot 10 = .ok (.goto 4, 3) := by decide +kernel
theorem dX7_isSlot_13 : decode cX7_isSlot 13 = .ok (.iconst 0, 1) := by decide +kernel
theorem dX7_isSlot_14 : decode cX7_isSlot 14 = .ok (.ireturn, 1) := by decide +kernel
theorem dX7_in_0 : decode cX7_in 0 = .ok (.iload_n 0, 1) := by decide +kernel
theorem dX7_in_1 : decode cX7_in 1 = .ok (.iload_n 1, 1) := by decide +kernel
theorem dX7_in_2 : decode cX7_in 2 = .ok (.if_icmp .lt 12, 3) := by decide +kernel
theorem dX7_in_5 : decode cX7_in 5 = .ok (.iload_n 0, 1) := by decide +kernel
theorem dX7_in_6 : decode cX7_in 6 = .ok (.iload_n 2, 1) := by decide +kernel
theorem dX7_in_7 : decode cX7_in 7 = .ok (.if_icmp .gt 7, 3) := by decide +kernel
theorem dX7_in_10 : decode cX7_in 10 = .ok (.iconst 1, 1) := by decide +kernel
theorem dX7_in_11 : decode cX7_in 11 = .ok (.goto 4, 3) := by decide +kernel
theorem dX7_in_14 : decode cX7_in 14 = .ok (.iconst 0, 1) := by decide +kernel
theorem dX7_in_15 : decode cX7_in 15 = .ok (.ireturn, 1) := by decide +kernel
theorem dX7_comes_0 : decode cX7_comes 0 = .ok (.iconst 0, 1) := by decide +kernel
theorem dX7_comes_1 : decode cX7_comes 1 = .ok (.istore_n 3, 1) := by decide +kernel
theorem dX7_comes_2 : decode cX7_comes 2 = .ok (.iload_n 3, 1) := by decide +kernel
theorem dX7_comes_3 : decode cX7_comes 3 = .ok (.aload_n 0, 1) := by decide +kernel
theorem dX7_comes_4 : decode cX7_comes 4 = .ok (.getfield 59, 3) := by decide +kernel
theorem dX7_comes_7 : decode cX7_comes 7 = .ok (.arraylength, 1) := by decide +kernel
theorem dX7_comes_8 : decode cX7_comes 8 = .ok (.if_icmp .ge 58, 3) := by decide +kernel
theorem dX7_comes_11 : decode cX7_comes 11 = .ok (.iload_n 3, 1) := by decide +kernel
theorem dX7_comes_12 : decode cX7_comes 12 = .ok (.bipush 7, 2) := by decide +kernel
theorem dX7_comes_14 : decode cX7_comes 14 = .ok (.if_icmp .lt 14, 3) := by decide +kernel
theorem dX7_comes_17 : decode cX7_comes 17 = .ok (.aload_n 0, 1) := by decide +kernel
theorem dX7_comes_18 : decode cX7_comes 18 = .ok (.getfield 59, 3) := by decide +kernel
theorem dX7_comes_21 : decode cX7_comes 21 = .ok (.iload_n 3, 1) := by decide +kernel
theorem dX7_comes_22 : decode cX7_comes 22 = .ok (.laload, 1) := by decide +kernel
theorem dX7_comes_23 : decode cX7_comes 23 = .ok (.lconst 0, 1) := by decide +kernel
theorem dX7_comes_24 : decode cX7_comes 24 = .ok (.lcmp, 1) := by decide +kernel
theorem dX7_comes_25 : decode cX7_comes 25 = .ok (.ifCond .ne 29, 3) := by decide +kernel
theorem dX7_comes_28 : decode cX7_comes 28 = .ok (.aload_n 0, 1) := by decide +kernel
theorem dX7_comes_29 : decode cX7_comes 29 = .ok (.getfield 59, 3) := by decide +kernel
theorem dX7_comes_32 : decode cX7_comes 32 = .ok (.iload_n 3, 1) := by decide +kernel
theorem dX7_comes_33 : decode cX7_comes 33 = .ok (.laload, 1) := by decide +kernel
theorem dX7_comes_34 : decode cX7_comes 34 = .ok (.ldc2_w 208, 3) := by decide +kernel
theorem dX7_comes_37 : decode cX7_comes 37 = .ok (.lcmp, 1) := by decide +kernel
theorem dX7_comes_38 : decode cX7_comes 38 = .ok (.ifCond .gt 16, 3) := by decide +kernel
theorem dX7_comes_41 : decode cX7_comes 41 = .ok (.aload_n 0, 1) := by decide +kernel
theorem dX7_comes_42 : decode cX7_comes 42 = .ok (.getfield 59, 3) := by decide +kernel
theorem dX7_comes_45 : decode cX7_comes 45 = .ok (.iload_n 3, 1) := by decide +kernel
theorem dX7_comes_46 : decode cX7_comes 46 = .ok (.laload, 1) := by decide +kernel
theorem dX7_comes_47 : decode cX7_comes 47 = .ok (.ldc2_w 210, 3) := by decide +kernel
theorem dX7_comes_50 : decode cX7_comes 50 = .ok (.lcmp, 1) := by decide +kernel
theorem dX7_comes_51 : decode cX7_comes 51 = .ok (.ifCond .ge 9, 3) := by decide +kernel
theorem dX7_comes_54 : decode cX7_comes 54 = .ok (.aload_n 0, 1) := by decide +kernel
theorem dX7_comes_55 : decode cX7_comes 55 = .ok (.iload_n 2, 1) := by decide +kernel
theorem dX7_comes_56 : decode cX7_comes 56 = .ok (.invokevirtual 212, 3) := by decide +kernel
theorem dX7_comes_59 : decode cX7_comes 59 = .ok (.ireturn, 1) := by decide +kernel
theorem dX7_comes_60 : decode cX7_comes 60 = .ok (.iinc 3 1, 3) := by decide +kernel
theorem dX7_comes_63 : decode cX7_comes 63 = .ok (.goto (-61), 3) := by decide +kernel
theorem dX7_comes_66 : decode cX7_comes 66 = .ok (.iconst 0, 1) := by decide +kernel
theorem dX7_comes_67 : decode cX7_comes 67 = .ok (.istore_n 3, 1) := by decide +kernel
theorem dX7_comes_68 : decode cX7_comes 68 = .ok (.iload_n 3, 1) := by decide +kernel
theorem dX7_comes_69 : decode cX7_comes 69 = .ok (.bipush 7, 2) := by decide +kernel
theorem dX7_comes_71 : decode cX7_comes 71 = .ok (.if_icmp .ge 24, 3) := by decide +kernel
theorem dX7_comes_74 : decode cX7_comes 74 = .ok (.aload_n 0, 1) := by decide +kernel
theorem dX7_comes_75 : decode cX7_comes 75 = .ok (.getfield 11, 3) := by decide +kernel
theorem dX7_comes_78 : decode cX7_comes 78 = .ok (.iload_n 1, 1) := by decide +kernel
theorem dX7_comes_79 : decode cX7_comes 79 = .ok (.aaload, 1) := by decide +kernel
theorem dX7_comes_80 : decode cX7_comes 80 = .ok (.iload_n 3, 1) := by decide +kernel
theorem dX7_comes_81 : decode cX7_comes 81 = .ok (.aload_n 0, 1) := by decide +kernel
theorem dX7_comes_82 : decode cX7_comes 82 = .ok (.getfield 59, 3) := by decide +kernel
theorem dX7_comes_85 : decode cX7_comes 85 = .ok (.iload_n 3, 1) := by decide +kernel
theorem dX7_comes_86 : decode cX7_comes 86 = .ok (.laload, 1) := by decide +kernel
theorem dX7_comes_87 : decode cX7_comes 87 = .ok (.l2i, 1) := by decide +kernel
theorem dX7_comes_88 : decode cX7_comes 88 = .ok (.iastore, 1) := by decide +kernel
theorem dX7_comes_89 : decode cX7_comes 89 = .ok (.iinc 3 1, 3) := by decide +kernel
theorem dX7_comes_92 : decode cX7_comes 92 = .ok (.goto (-24), 3) := by decide +kernel
theorem dX7_comes_95 : decode cX7_comes 95 = .ok (.aload_n 0, 1) := by decide +kernel
theorem dX7_comes_96 : decode cX7_comes 96 = .ok (.aload_n 0, 1) := by decide +kernel
theorem dX7_comes_97 : decode cX7_comes 97 = .ok (.getfield 11, 3) := by decide +kernel
theorem dX7_comes_100 : decode cX7_comes 100 = .ok (.iload_n 1, 1) := by decide +kernel
theorem dX7_comes_101 : decode cX7_comes 101 = .ok (.aaload, 1) := by decide +kernel
theorem dX7_comes_102 : decode cX7_comes 102 = .ok (.invokestatic 215, 3) := by decide +kernel
theorem dX7_comes_105 : decode cX7_comes 105 = .ok (.invokevirtual 217, 3) := by decide +kernel
theorem dX7_comes_108 : decode cX7_comes 108 = .ok (.ireturn, 1) := by decide +kernel
theorem dX7_clear_0 : decode cX7_clear 0 = .ok (.iconst 0, 1) := by decide +kernel
theorem dX7_clear_1 : decode cX7_clear 1 = .ok (.istore_n 1, 1) := by decide +kernel
theorem dX7_clear_2 : decode cX7_clear 2 = .ok (.iload_n 1, 1) := by decide +kernel
theorem dX7_clear_3 : decode cX7_clear 3 = .ok (.aload_n 0, 1) := by decide +kernel
theorem dX7_clear_4 : decode cX7_clear 4 = .ok (.getfield 59, 3) := by decide +kernel
theorem dX7_clear_7 : decode cX7_clear 7 = .ok (.arraylength, 1) := by decide +kernel
theorem dX7_clear_8 : decode cX7_clear 8 = .ok (.if_icmp .ge 16, 3) := by decide +kernel
theorem dX7_clear_11 : decode cX7_clear 11 = .ok (.aload_n 0, 1) := by decide +kernel
theorem dX7_clear_12 : decode cX7_clear 12 = .ok (.getfield 59, 3) := by decide +kernel
theorem dX7_clear_15 : decode cX7_clear 15 = .ok (.iload_n 1, 1) := by decide +kernel
theorem dX7_clear_16 : decode cX7_clear 16 = .ok (.lconst 0, 1) := by decide +kernel
theorem dX7_clear_17 : decode cX7_clear 17 = .ok (.lastore, 1) := by decide +kernel
theorem dX7_clear_18 : decode cX7_clear 18 = .ok (.iinc 1 1, 3) := by decide +kernel
theorem dX7_clear_21 : decode cX7_clear 21 = .ok (.goto (-19), 3) := by decide +kernel
theorem dX7_clear_24 : decode cX7_clear 24 = .ok (.return_, 1) := by decide +kernel
theorem dX7_comesGreat_0 : decode cX7_comesGreat 0 = .ok (.aload_n 0, 1) := by decide +kernel
theorem dX7_comesGreat_1 : decode cX7_comesGreat 1 = .ok (.invokevirtual 220, 3) := by decide +kernel
theorem dX7_comesGreat_4 : decode cX7_comesGreat 4 = .ok (.iconst 0, 1) := by decide +kernel
theorem dX7_comesGreat_5 : decode cX7_comesGreat 5 = .ok (.istore 4, 2) := by decide +kernel
theorem dX7_comesGreat_7 : decode cX7_comesGreat 7 = .ok (.iload 4, 2) := by decide +kernel
theorem dX7_comesGreat_9 : decode cX7_comesGreat 9 = .ok (.bipush 7, 2) := by decide +kernel
theorem dX7_comesGreat_11 : decode cX7_comesGreat 11 = .ok (.if_icmp .ge 77, 3) := by decide +kernel
theorem dX7_comesGreat_14 : decode cX7_comesGreat 14 = .ok (.aload_n 1, 1) := by decide +kernel
theorem dX7_comesGreat_15 : decode cX7_comesGreat 15 = .ok (.iload 4, 2) := by decide +kernel
theorem dX7_comesGreat_17 : decode cX7_comesGreat 17 = .ok (.aaload, 1) := by decide +kernel
theorem dX7_comesGreat_18 : decode cX7_comesGreat 18 = .ok (.aload_n 0, 1) := by decide +kernel
theorem dX7_comesGreat_19 : decode cX7_comesGreat 19 = .ok (.getfield 18, 3) := by decide +kernel
theorem dX7_comesGreat_22 : decode cX7_comesGreat 22 = .ok (.invokestatic 113, 3) := by decide +kernel
theorem dX7_comesGreat_25 : decode cX7_comesGreat 25 = .ok (.aload_n 0, 1) := by decide +kernel
theorem dX7_comesGreat_26 : decode cX7_comesGreat 26 = .ok (.getfield 18, 3) := by decide +kernel
theorem dX7_comesGreat_29 : decode cX7_comesGreat 29 = .ok (.invokestatic 155, 3) := by decide +kernel
theorem dX7_comesGreat_32 : decode cX7_comesGreat 32 = .ok (.istore 5, 2) := by decide +kernel
theorem dX7_comesGreat_34 : decode cX7_comesGreat 34 = .ok (.aload_n 0, 1) := by decide +kernel
theorem dX7_comesGreat_35 : decode cX7_comesGreat 35 = .ok (.getfield 59, 3) := by decide +kernel
theorem dX7_comesGreat_38 : decode cX7_comesGreat 38 = .ok (.iload 4, 2) := by decide +kernel
theorem dX7_comesGreat_40 : decode cX7_comesGreat 40 = .ok (.aload_n 0, 1) := by decide +kernel
theorem dX7_comesGreat_41 : decode cX7_comesGreat 41 = .ok (.getfield 18, 3) := by decide +kernel
theorem dX7_comesGreat_44 : decode cX7_comesGreat 44 = .ok (.invokestatic 149, 3) := by decide +kernel
theorem dX7_comesGreat_47 : decode cX7_comesGreat 47 = .ok (.bipush 31, 2) := by decide +kernel
theorem dX7_comesGreat_49 : decode cX7_comesGreat 49 = .ok (.if_icmp .le 9, 3) := by decide +kernel
theorem dX7_comesGreat_52 : decode cX7_comesGreat 52 = .ok (.ldc2_w 223, 3) := by decide +kernel
theorem dX7_comesGreat_55 : decode cX7_comesGreat 55 = .ok (.goto 26, 3) := by decide +kernel
theorem dX7_comesGreat_58 : decode cX7_comesGreat 58 = .ok (.iload 5, 2) := by decide +kernel
theorem dX7_comesGreat_60 : decode cX7_comesGreat 60 = .ok (.ifCond .eq 14, 3) := by decide +kernel
theorem dX7_comesGreat_63 : decode cX7_comesGreat 63 = .ok (.aload_n 0, 1) := by decide +kernel
theorem dX7_comesGreat_64 : decode cX7_comesGreat 64 = .ok (.getfield 18, 3) := by decide +kernel
theorem dX7_comesGreat_67 : decode cX7_comesGreat 67 = .ok (.iconst 0, 1) := by decide +kernel
theorem dX7_comesGreat_68 : decode cX7_comesGreat 68 = .ok (.iaload, 1) := by decide +kernel
theorem dX7_comesGreat_69 : decode cX7_comesGreat 69 = .ok (.ineg, 1) := by decide +kernel
theorem dX7_comesGreat_70 : decode cX7_comesGreat 70 = .ok (.i2l, 1) := by decide +kernel
theorem dX7_comesGreat_71 : decode cX7_comesGreat 71 = .ok (.goto 10, 3) := by decide +kernel
theorem dX7_comesGreat_74 : decode cX7_comesGreat 74 = .ok (.aload_n 0, 1) := by decide +kernel
theorem dX7_comesGreat_75 : decode cX7_comesGreat 75 = .ok (.getfield 18, 3) := by decide +kernel
theorem dX7_comesGreat_78 : decode cX7_comesGreat 78 = .ok (.iconst 0, 1) := by decide +kernel
theorem dX7_comesGreat_79 : decode cX7_comesGreat 79 = .ok (.iaload, 1) := by decide +kernel
theorem dX7_comesGreat_80 : decode cX7_comesGreat 80 = .ok (.i2l, 1) := by decide +kernel
theorem dX7_comesGreat_81 : decode cX7_comesGreat 81 = .ok (.lastore, 1) := by decide +kernel
theorem dX7_comesGreat_82 : decode cX7_comesGreat 82 = .ok (.iinc 4 1, 3) := by decide +kernel
theorem dX7_comesGreat_85 : decode cX7_comesGreat 85 = .ok (.goto (-78), 3) := by decide +kernel
theorem dX7_comesGreat_88 : decode cX7_comesGreat 88 = .ok (.aload_n 0, 1) := by decide +kernel
theorem dX7_comesGreat_89 : decode cX7_comesGreat 89 = .ok (.iload_n 2, 1) := by decide +kernel
theorem dX7_comesGreat_90 : decode cX7_comesGreat 90 = .ok (.iload_n 3, 1) := by decide +kernel
theorem dX7_comesGreat_91 : decode cX7_comesGreat 91 = .ok (.invokevirtual 225, 3) := by decide +kernel
theorem dX7_comesGreat_94 : decode cX7_comesGreat 94 = .ok (.ireturn, 1) := by decide +kernel
theorem dX7_set__0 : decode cX7_set_ 0 = .ok (.iload_n 1, 1) := by decide +kernel
theorem dX7_set__1 : decode cX7_set_ 1 = .ok (.invokestatic 228, 3) := by decide +kernel
theorem dX7_set__4 : decode cX7_set_ 4 = .ok (.ifCond .eq 13, 3) := by decide +kernel
theorem dX7_set__7 : decode cX7_set_ 7 = .ok (.iload_n 2, 1) := by decide +kernel
theorem dX7_set__8 : decode cX7_set_ 8 = .ok (.iconst 0, 1) := by decide +kernel
theorem dX7_set__9 : decode cX7_set_ 9 = .ok (.bipush 6, 2) := by decide +kernel
theorem dX7_set__11 : decode cX7_set_ 11 = .ok (.invokestatic 232, 3) := by decide +kernel
theorem dX7_set__14 : decode cX7_set_ 14 = .ok (.ifCond .ne 9, 3) := by decide +kernel
theorem dX7_set__17 : decode cX7_set_ 17 = .ok (.aload_n 0, 1) := by decide +kernel
theorem dX7_set__18 : decode cX7_set_ 18 = .ok (.iconst 1, 1) := by decide +kernel
theorem dX7_set__19 : decode cX7_set_ 19 = .ok (.invokevirtual 212, 3) := by decide +kernel
theorem dX7_set__22 : decode cX7_set_ 22 = .ok (.ireturn, 1) := by decide +kernel
theorem dX7_set__23 : decode cX7_set_ 23 = .ok (.iload_n 3, 1) := by decide +kernel
theorem dX7_set__24 : decode cX7_set_ 24 = .ok (.bipush (-99), 2) := by decide +kernel
theorem dX7_set__26 : decode cX7_set_ 26 = .ok (.bipush 99, 2) := by decide +kernel
theorem dX7_set__28 : decode cX7_set_ 28 = .ok (.invokestatic 232, 3) := by decide +kernel
theorem dX7_set__31 : decode cX7_set_ 31 = .ok (.ifCond .ne 9, 3) := by decide +kernel
theorem dX7_set__34 : decode cX7_set_ 34 = .ok (.aload_n 0, 1) := by decide +kernel
theorem dX7_set__35 : decode cX7_set_ 35 = .ok (.iconst 2, 1) := by decide +kernel
theorem dX7_set__36 : decode cX7_set_ 36 = .ok (.invokevirtual 212, 3) := by decide +kernel
theorem dX7_set__39 : decode cX7_set_ 39 = .ok (.ireturn, 1) := by decide +kernel
theorem dX7_set__40 : decode cX7_set_ 40 = .ok (.aload_n 0, 1) := by decide +kernel
theorem dX7_set__41 : decode cX7_set_ 41 = .ok (.getfield 11, 3) := by decide +kernel
theorem dX7_set__44 : decode cX7_set_ 44 = .ok (.iload_n 1, 1) := by decide +kernel
theorem dX7_set__45 : decode cX7_set_ 45 = .ok (.aaload, 1) := by decide +kernel
theorem dX7_set__46 : decode cX7_set_ 46 = .ok (.iload_n 2, 1) := by decide +kernel
theorem dX7_set__47 : decode cX7_set_ 47 = .ok (.iload_n 3, 1) := by decide +kernel
theorem dX7_set__48 : decode cX7_set_ 48 = .ok (.iastore, 1) := by decide +kernel
theorem dX7_set__49 : decode cX7_set_ 49 = .ok (.aload_n 0, 1) := by decide +kernel
theorem dX7_set__50 : decode cX7_set_ 50 = .ok (.aload_n 0, 1) := by decide +kernel
theorem dX7_set__51 : decode cX7_set_ 51 = .ok (.getfield 11, 3) := by decide +kernel
theorem dX7_set__54 : decode cX7_set_ 54 = .ok (.iload_n 1, 1) := by decide +kernel
theorem dX7_set__55 : decode cX7_set_ 55 = .ok (.aaload, 1) := by decide +kernel
theorem dX7_set__56 : decode cX7_set_ 56 = .ok (.invokestatic 215, 3) := by decide +kernel
theorem dX7_set__59 : decode cX7_set_ 59 = .ok (.invokevirtual 217, 3) := by decide +kernel
theorem dX7_set__62 : decode cX7_set_ 62 = .ok (.ireturn, 1) := by decide +kernel
theorem dX7_coefficient_0 : decode cX7_coefficient 0 = .ok (.iload_n 1, 1) := by decide +kernel
theorem dX7_coefficient_1 : decode cX7_coefficient 1 = .ok (.invokestatic 228, 3) := by decide +kernel
theorem dX7_coefficient_4 : decode cX7_coefficient 4 = .ok (.ifCond .eq 28, 3) := by decide +kernel
theorem dX7_coefficient_7 : decode cX7_coefficient 7 = .ok (.iload_n 2, 1) := by decide +kernel
theorem dX7_coefficient_8 : decode cX7_coefficient 8 = .ok (.iconst 0, 1) := by decide +kernel
theorem dX7_coefficient_9 : decode cX7_coefficient 9 = .ok (.bipush 6, 2) := by decide +kernel
theorem dX7_coefficient_11 : decode cX7_coefficient 11 = .ok (.invokestatic 232, 3) := by decide +kernel
theorem dX7_coefficient_14 : decode cX7_coefficient 14 = .ok (.ifCond .eq 18, 3) := by decide +kernel
theorem dX7_coefficient_17 : decode cX7_coefficient 17 = .ok (.aload_n 0, 1) := by decide +kernel
theorem dX7_coefficient_18 : decode cX7_coefficient 18 = .ok (.aload_n 0, 1) := by decide +kernel
theorem dX7_coefficient_19 : decode cX7_coefficient 19 = .ok (.getfield 11, 3) := by decide +kernel
theorem dX7_coefficient_22 : decode cX7_coefficient 22 = .ok (.iload_n 1, 1) := by decide +kernel
theorem dX7_coefficient_23 : decode cX7_coefficient 23 = .ok (.aaload, 1) := by decide +kernel
theorem dX7_coefficient_24 : decode cX7_coefficient 24 = .ok (.iload_n 2, 1) := by decide +kernel
theorem dX7_coefficient_25 : decode cX7_coefficient 25 = .ok (.iaload, 1) := by decide +kernel
theorem dX7_coefficient_26 : decode cX7_coefficient 26 = .ok (.invokevirtual 217, 3) := by decide +kernel
theorem dX7_coefficient_29 : decode cX7_coefficient 29 = .ok (.goto 8, 3) := by decide +kernel
theorem dX7_coefficient_32 : decode cX7_coefficient 32 = .ok (.aload_n 0, 1) := by decide +kernel
theorem dX7_coefficient_33 : decode cX7_coefficient 33 = .ok (.iconst 1, 1) := by decide +kernel
theorem dX7_coefficient_34 : decode cX7_coefficient 34 = .ok (.invokevirtual 212, 3) := by decide +kernel
theorem dX7_coefficient_37 : decode cX7_coefficient 37 = .ok (.ireturn, 1) := by decide +kernel
theorem dX7_degree___0 : decode cX7_degree__ 0 = .ok (.iload_n 1, 1) := by decide +kernel
theorem dX7_degree___1 : decode cX7_degree__ 1 = .ok (.invokestatic 228, 3) := by decide +kernel
theorem dX7_degree___4 : decode cX7_degree__ 4 = .ok (.ifCond .eq 19, 3) := by decide +kernel
theorem dX7_degree___7 : decode cX7_degree__ 7 = .ok (.aload_n 0, 1) := by decide +kernel
theorem dX7_degree___8 : decode cX7_degree__ 8 = .ok (.aload_n 0, 1) := by decide +kernel
theorem dX7_degree___9 : decode cX7_degree__ 9 = .ok (.getfield 11, 3) := by decide +kernel
theorem dX7_degree___12 : decode cX7_degree__ 12 = .ok (.iload_n 1, 1) := by decide +kernel
theorem dX7_degree___13 : decode cX7_degree__ 13 = .ok (.aaload, 1) := by decide +kernel
theorem dX7_degree___14 : decode cX7_degree__ 14 = .ok (.invokestatic 215, 3) := by decide +kernel
theorem dX7_degree___17 : decode cX7_degree__ 17 = .ok (.invokevirtual 217, 3) := by decide +kernel
theorem dX7_degree___20 : decode cX7_degree__ 20 = .ok (.goto 8, 3) := by decide +kernel
theorem dX7_degree___23 : decode cX7_degree__ 23 = .ok (.aload_n 0, 1) := by decide +kernel
theorem dX7_degree___24 : decode cX7_degree__ 24 = .ok (.iconst 1, 1) := by decide +kernel
theorem dX7_degree___25 : decode cX7_degree__ 25 = .ok (.invokevirtual 212, 3) := by decide +kernel
theorem dX7_degree___28 : decode cX7_degree__ 28 = .ok (.ireturn, 1) := by decide +kernel
theorem dX7_copy___0 : decode cX7_copy__ 0 = .ok (.iload_n 1, 1) := by decide +kernel
theorem dX7_copy___1 : decode cX7_copy__ 1 = .ok (.invokestatic 228, 3) := by decide +kernel
theorem dX7_copy___4 : decode cX7_copy__ 4 = .ok (.ifCond .eq 10, 3) := by decide +kernel
theorem dX7_copy___7 : decode cX7_copy__ 7 = .ok (.iload_n 2, 1) := by decide +kernel
theorem dX7_copy___8 : decode cX7_copy__ 8 = .ok (.invokestatic 228, 3) := by decide +kernel
theorem dX7_copy___11 : decode cX7_copy__ 11 = .ok (.ifCond .ne 9, 3) := by decide +kernel
theorem dX7_copy___14 : decode cX7_copy__ 14 = .ok (.aload_n 0, 1) := by decide +kernel
theorem dX7_copy___15 : decode cX7_copy__ 15 = .ok (.iconst 1, 1) := by decide +kernel
theorem dX7_copy___16 : decode cX7_copy__ 16 = .ok (.invokevirtual 212, 3) := by decide +kernel
theorem dX7_copy___19 : decode cX7_copy__ 19 = .ok (.ireturn, 1) := by decide +kernel
theorem dX7_copy___20 : decode cX7_copy__ 20 = .ok (.aload_n 0, 1) := by decide +kernel
theorem dX7_copy___21 : decode cX7_copy__ 21 = .ok (.invokevirtual 220, 3) := by decide +kernel
theorem dX7_copy___24 : decode cX7_copy__ 24 = .ok (.iconst 0, 1) := by decide +kernel
theorem dX7_copy___25 : decode cX7_copy__ 25 = .ok (.istore_n 3, 1) := by decide +kernel
theorem dX7_copy___26 : decode cX7_copy__ 26 = .ok (.iload_n 3, 1) := by decide +kernel
theorem dX7_copy___27 : decode cX7_copy__ 27 = .ok (.bipush 7, 2) := by decide +kernel
theorem dX7_copy___29 : decode cX7_copy__ 29 = .ok (.if_icmp .ge 24, 3) := by decide +kernel
theorem dX7_copy___32 : decode cX7_copy__ 32 = .ok (.aload_n 0, 1) := by decide +kernel
theorem dX7_copy___33 : decode cX7_copy__ 33 = .ok (.getfield 59, 3) := by decide +kernel
theorem dX7_copy___36 : decode cX7_copy__ 36 = .ok (.iload_n 3, 1) := by decide +kernel
theorem dX7_copy___37 : decode cX7_copy__ 37 = .ok (.aload_n 0, 1) := by decide +kernel
theorem dX7_copy___38 : decode cX7_copy__ 38 = .ok (.getfield 11, 3) := by decide +kernel
theorem dX7_copy___41 : decode cX7_copy__ 41 = .ok (.iload_n 1, 1) := by decide +kernel
theorem dX7_copy___42 : decode cX7_copy__ 42 = .ok (.aaload, 1) := by decide +kernel
theorem dX7_copy___43 : decode cX7_copy__ 43 = .ok (.iload_n 3, 1) := by decide +kernel
theorem dX7_copy___44 : decode cX7_copy__ 44 = .ok (.iaload, 1) := by decide +kernel
theorem dX7_copy___45 : decode cX7_copy__ 45 = .ok (.i2l, 1) := by decide +kernel
theorem dX7_copy___46 : decode cX7_copy__ 46 = .ok (.lastore, 1) := by decide +kernel
theorem dX7_copy___47 : decode cX7_copy__ 47 = .ok (.iinc 3 1, 3) := by decide +kernel
theorem dX7_copy___50 : decode cX7_copy__ 50 = .ok (.goto (-24), 3) := by decide +kernel
theorem dX7_copy___53 : decode cX7_copy__ 53 = .ok (.aload_n 0, 1) := by decide +kernel
theorem dX7_copy___54 : decode cX7_copy__ 54 = .ok (.iload_n 2, 1) := by decide +kernel
theorem dX7_copy___55 : decode cX7_copy__ 55 = .ok (.iconst 0, 1) := by decide +kernel
theorem dX7_copy___56 : decode cX7_copy__ 56 = .ok (.invokevirtual 225, 3) := by decide +kernel
theorem dX7_copy___59 : decode cX7_copy__ 59 = .ok (.ireturn, 1) := by decide +kernel
theorem dX7_add__0 : decode cX7_add_ 0 = .ok (.iload_n 1, 1) := by decide +kernel
theorem dX7_add__1 : decode cX7_add_ 1 = .ok (.invokestatic 228, 3) := by decide +kernel
theorem dX7_add__4 : decode cX7_add_ 4 = .ok (.ifCond .eq 17, 3) := by decide +kernel
theorem dX7_add__7 : decode cX7_add_ 7 = .ok (.iload_n 2, 1) := by decide +kernel
theorem dX7_add__8 : decode cX7_add_ 8 = .ok (.invokestatic 228, 3) := by decide +kernel
theorem dX7_add__11 : decode cX7_add_ 11 = .ok (.ifCond .eq 10, 3) := by decide +kernel
theorem dX7_add__14 : decode cX7_add_ 14 = .ok (.iload_n 3, 1) := by decide +kernel
theorem dX7_add__15 : decode cX7_add_ 15 = .ok (.invokestatic 228, 3) := by decide +kernel
theorem dX7_add__18 : decode cX7_add_ 18 = .ok (.ifCond .ne 9, 3) := by decide +kernel
theorem dX7_add__21 : decode cX7_add_ 21 = .ok (.aload_n 0, 1) := by decide +kernel
theorem dX7_add__22 : decode cX7_add_ 22 = .ok (.iconst 1, 1) := by decide +kernel
theorem dX7_add__23 : decode cX7_add_ 23 = .ok (.invokevirtual 212, 3) := by decide +kernel
theorem dX7_add__26 : decode cX7_add_ 26 = .ok (.ireturn, 1) := by decide +kernel
theorem dX7_add__27 : decode cX7_add_ 27 = .ok (.aload_n 0, 1) := by decide +kernel
theorem dX7_add__28 : decode cX7_add_ 28 = .ok (.invokevirtual 220, 3) := by decide +kernel
theorem dX7_add__31 : decode cX7_add_ 31 = .ok (.iconst 0, 1) := by decide +kernel
theorem dX7_add__32 : decode cX7_add_ 32 = .ok (.istore 4, 2) := by decide +kernel
theorem dX7_add__34 : decode cX7_add_ 34 = .ok (.iload 4, 2) := by decide +kernel
theorem dX7_add__36 : decode cX7_add_ 36 = .ok (.bipush 7, 2) := by decide +kernel
theorem dX7_add__38 : decode cX7_add_ 38 = .ok (.if_icmp .ge 36, 3) := by decide +kernel
theorem dX7_add__41 : decode cX7_add_ 41 = .ok (.aload_n 0, 1) := by decide +kernel
theorem dX7_add__42 : decode cX7_add_ 42 = .ok (.getfield 59, 3) := by decide +kernel
theorem dX7_add__45 : decode cX7_add_ 45 = .ok (.iload 4, 2) := by decide +kernel
theorem dX7_add__47 : decode cX7_add_ 47 = .ok (.aload_n 0, 1) := by decide +kernel
theorem dX7_add__48 : decode cX7_add_ 48 = .ok (.getfield 11, 3) := by decide +kernel
theorem dX7_add__51 : decode cX7_add_ 51 = .ok (.iload_n 1, 1) := by decide +kernel
theorem dX7_add__52 : decode cX7_add_ 52 = .ok (.aaload, 1) := by decide +kernel
theorem dX7_add__53 : decode cX7_add_ 53 = .ok (.iload 4, 2) := by decide +kernel
theorem dX7_add__55 : decode cX7_add_ 55 = .ok (.iaload, 1) := by decide +kernel
theorem dX7_add__56 : decode cX7_add_ 56 = .ok (.aload_n 0, 1) := by decide +kernel
theorem dX7_add__57 : decode cX7_add_ 57 = .ok (.getfield 11, 3) := by decide +kernel
theorem dX7_add__60 : decode cX7_add_ 60 = .ok (.iload_n 2, 1) := by decide +kernel
theorem dX7_add__61 : decode cX7_add_ 61 = .ok (.aaload, 1) := by decide +kernel
theorem dX7_add__62 : decode cX7_add_ 62 = .ok (.iload 4, 2) := by decide +kernel
theorem dX7_add__64 : decode cX7_add_ 64 = .ok (.iaload, 1) := by decide +kernel
theorem dX7_add__65 : decode cX7_add_ 65 = .ok (.iadd, 1) := by decide +kernel
theorem dX7_add__66 : decode cX7_add_ 66 = .ok (.i2l, 1) := by decide +kernel
theorem dX7_add__67 : decode cX7_add_ 67 = .ok (.lastore, 1) := by decide +kernel
theorem dX7_add__68 : decode cX7_add_ 68 = .ok (.iinc 4 1, 3) := by decide +kernel
theorem dX7_add__71 : decode cX7_add_ 71 = .ok (.goto (-37), 3) := by decide +kernel
theorem dX7_add__74 : decode cX7_add_ 74 = .ok (.aload_n 0, 1) := by decide +kernel
theorem dX7_add__75 : decode cX7_add_ 75 = .ok (.iload_n 3, 1) := by decide +kernel
theorem dX7_add__76 : decode cX7_add_ 76 = .ok (.iconst 2, 1) := by decide +kernel
theorem dX7_add__77 : decode cX7_add_ 77 = .ok (.invokevirtual 225, 3) := by decide +kernel
theorem dX7_add__80 : decode cX7_add_ 80 = .ok (.ireturn, 1) := by decide +kernel
theorem dX7_multiply__0 : decode cX7_multiply_ 0 = .ok (.iload_n 1, 1) := by decide +kernel
theorem dX7_multiply__1 : decode cX7_multiply_ 1 = .ok (.invokestatic 228, 3) := by decide +kernel
theorem dX7_multiply__4 : decode cX7_multiply_ 4 = .ok (.ifCond .eq 17, 3) := by decide +kernel
theorem dX7_multiply__7 : decode cX7_multiply_ 7 = .ok (.iload_n 2, 1) := by decide +kernel
theorem dX7_multiply__8 : decode cX7_multiply_ 8 = .ok (.invokestatic 228, 3) := by decide +kernel
theorem dX7_multiply__11 : decode cX7_multiply_ 11 = .ok (.ifCond .eq 10, 3) := by decide +kernel
theorem dX7_multiply__14 : decode cX7_multiply_ 14 = .ok (.iload_n 3, 1) := by decide +kernel
theorem dX7_multiply__15 : decode cX7_multiply_ 15 = .ok (.invokestatic 228, 3) := by decide +kernel
theorem dX7_multiply__18 : decode cX7_multiply_ 18 = .ok (.ifCond .ne 9, 3) := by decide +kernel
theorem dX7_multiply__21 : decode cX7_multiply_ 21 = .ok (.aload_n 0, 1) := by decide +kernel
theorem dX7_multiply__22 : decode cX7_multiply_ 22 = .ok (.iconst 1, 1) := by decide +kernel
theorem dX7_multiply__23 : decode cX7_multiply_ 23 = .ok (.invokevirtual 212, 3) := by decide +kernel
theorem dX7_multiply__26 : decode cX7_multiply_ 26 = .ok (.ireturn, 1) := by decide +kernel
theorem dX7_multiply__27 : decode cX7_multiply_ 27 = .ok (.aload_n 0, 1) := by decide +kernel
theorem dX7_multiply__28 : decode cX7_multiply_ 28 = .ok (.invokevirtual 220, 3) := by decide +kernel
theorem dX7_multiply__31 : decode cX7_multiply_ 31 = .ok (.iconst 0, 1) := by decide +kernel
theorem dX7_multiply__32 : decode cX7_multiply_ 32 = .ok (.istore 4, 2) := by decide +kernel
theorem dX7_multiply__34 : decode cX7_multiply_ 34 = .ok (.iload 4, 2) := by decide +kernel
theorem dX7_multiply__36 : decode cX7_multiply_ 36 = .ok (.bipush 7, 2) := by decide +kernel
theorem dX7_multiply__38 : decode cX7_multiply_ 38 = .ok (.if_icmp .ge 59, 3) := by decide +kernel
theorem dX7_multiply__41 : decode cX7_multiply_ 41 = .ok (.iconst 0, 1) := by decide +kernel
theorem dX7_multiply__42 : decode cX7_multiply_ 42 = .ok (.istore 5, 2) := by decide +kernel
theorem dX7_multiply__44 : decode cX7_multiply_ 44 = .ok (.iload 5, 2) := by decide +kernel
theorem dX7_multiply__46 : decode cX7_multiply_ 46 = .ok (.bipush 7, 2) := by decide +kernel
theorem dX7_multiply__48 : decode cX7_multiply_ 48 = .ok (.if_icmp .ge 43, 3) := by decide +kernel
theorem dX7_multiply__51 : decode cX7_multiply_ 51 = .ok (.aload_n 0, 1) := by decide +kernel
theorem dX7_multiply__52 : decode cX7_multiply_ 52 = .ok (.getfield 59, 3) := by decide +kernel
theorem dX7_multiply__55 : decode cX7_multiply_ 55 = .ok (.iload 4, 2) := by decide +kernel
theorem dX7_multiply__57 : decode cX7_multiply_ 57 = .ok (.iload 5, 2) := by decide +kernel
theorem dX7_multiply__59 : decode cX7_multiply_ 59 = .ok (.iadd, 1) := by decide +kernel
theorem dX7_multiply__60 : decode cX7_multiply_ 60 = .ok (.dup2, 1) := by decide +kernel
theorem dX7_multiply__61 : decode cX7_multiply_ 61 = .ok (.laload, 1) := by decide +kernel
theorem dX7_multiply__62 : decode cX7_multiply_ 62 = .ok (.aload_n 0, 1) := by decide +kernel
theorem dX7_multiply__63 : decode cX7_multiply_ 63 = .ok (.getfield 11, 3) := by decide +kernel
theorem dX7_multiply__66 : decode cX7_multiply_ 66 = .ok (.iload_n 1, 1) := by decide +kernel
theorem dX7_multiply__67 : decode cX7_multiply_ 67 = .ok (.aaload, 1) := by decide +kernel
theorem dX7_multiply__68 : decode cX7_multiply_ 68 = .ok (.iload 4, 2) := by decide +kernel
theorem dX7_multiply__70 : decode cX7_multiply_ 70 = .ok (.iaload, 1) := by decide +kernel
theorem dX7_multiply__71 : decode cX7_multiply_ 71 = .ok (.i2l, 1) := by decide +kernel
theorem dX7_multiply__72 : decode cX7_multiply_ 72 = .ok (.aload_n 0, 1) := by decide +kernel
theorem dX7_multiply__73 : decode cX7_multiply_ 73 = .ok (.getfield 11, 3) := by decide +kernel
theorem dX7_multiply__76 : decode cX7_multiply_ 76 = .ok (.iload_n 2, 1) := by decide +kernel
theorem dX7_multiply__77 : decode cX7_multiply_ 77 = .ok (.aaload, 1) := by decide +kernel
theorem dX7_multiply__78 : decode cX7_multiply_ 78 = .ok (.iload 5, 2) := by decide +kernel
theorem dX7_multiply__80 : decode cX7_multiply_ 80 = .ok (.iaload, 1) := by decide +kernel
theorem dX7_multiply__81 : decode cX7_multiply_ 81 = .ok (.i2l, 1) := by decide +kernel
theorem dX7_multiply__82 : decode cX7_multiply_ 82 = .ok (.lmul, 1) := by decide +kernel
theorem dX7_multiply__83 : decode cX7_multiply_ 83 = .ok (.ladd, 1) := by decide +kernel
theorem dX7_multiply__84 : decode cX7_multiply_ 84 = .ok (.lastore, 1) := by decide +kernel
theorem dX7_multiply__85 : decode cX7_multiply_ 85 = .ok (.iinc 5 1, 3) := by decide +kernel
theorem dX7_multiply__88 : decode cX7_multiply_ 88 = .ok (.goto (-44), 3) := by decide +kernel
theorem dX7_multiply__91 : decode cX7_multiply_ 91 = .ok (.iinc 4 1, 3) := by decide +kernel
theorem dX7_multiply__94 : decode cX7_multiply_ 94 = .ok (.goto (-60), 3) := by decide +kernel
theorem dX7_multiply__97 : decode cX7_multiply_ 97 = .ok (.aload_n 0, 1) := by decide +kernel
theorem dX7_multiply__98 : decode cX7_multiply_ 98 = .ok (.iload_n 3, 1) := by decide +kernel
theorem dX7_multiply__99 : decode cX7_multiply_ 99 = .ok (.iconst 2, 1) := by decide +kernel
theorem dX7_multiply__100 : decode cX7_multiply_ 100 = .ok (.invokevirtual 225, 3) := by decide +kernel
theorem dX7_multiply__103 : decode cX7_multiply_ 103 = .ok (.ireturn, 1) := by decide +kernel
theorem dX7_derivative_0 : decode cX7_derivative 0 = .ok (.iload_n 1, 1) := by decide +kernel
theorem dX7_derivative_1 : decode cX7_derivative 1 = .ok (.invokestatic 228, 3) := by decide +kernel
theorem dX7_derivative_4 : decode cX7_derivative 4 = .ok (.ifCond .eq 10, 3) := by decide +kernel
theorem dX7_derivative_7 : decode cX7_derivative 7 = .ok (.iload_n 2, 1) := by decide +kernel
theorem dX7_derivative_8 : decode cX7_derivative 8 = .ok (.invokestatic 228, 3) := by decide +kernel
theorem dX7_derivative_11 : decode cX7_derivative 11 = .ok (.ifCond .ne 9, 3) := by decide +kernel
theorem dX7_derivative_14 : decode cX7_derivative 14 = .ok (.aload_n 0, 1) := by decide +kernel
theorem dX7_derivative_15 : decode cX7_derivative 15 = .ok (.iconst 1, 1) := by decide +kernel
theorem dX7_derivative_16 : decode cX7_derivative 16 = .ok (.invokevirtual 212, 3) := by decide +kernel
theorem dX7_derivative_19 : decode cX7_derivative 19 = .ok (.ireturn, 1) := by decide +kernel
theorem dX7_derivative_20 : decode cX7_derivative 20 = .ok (.aload_n 0, 1) := by decide +kernel
theorem dX7_derivative_21 : decode cX7_derivative 21 = .ok (.invokevirtual 220, 3) := by decide +kernel
theorem dX7_derivative_24 : decode cX7_derivative 24 = .ok (.iconst 1, 1) := by decide +kernel
theorem dX7_derivative_25 : decode cX7_derivative 25 = .ok (.istore_n 3, 1) := by decide +kernel
theorem dX7_derivative_26 : decode cX7_derivative 26 = .ok (.iload_n 3, 1) := by decide +kernel
theorem dX7_derivative_27 : decode cX7_derivative 27 = .ok (.bipush 7, 2) := by decide +kernel
theorem dX7_derivative_29 : decode cX7_derivative 29 = .ok (.if_icmp .ge 29, 3) := by decide +kernel
theorem dX7_derivative_32 : decode cX7_derivative 32 = .ok (.aload_n 0, 1) := by decide +kernel
theorem dX7_derivative_33 : decode cX7_derivative 33 = .ok (.getfield 59, 3) := by decide +kernel
theorem dX7_derivative_36 : decode cX7_derivative 36 = .ok (.iload_n 3, 1) := by decide +kernel
theorem dX7_derivative_37 : decode cX7_derivative 37 = .ok (.iconst 1, 1) := by decide +kernel
theorem dX7_derivative_38 : decode cX7_derivative 38 = .ok (.isub, 1) := by decide +kernel
theorem dX7_derivative_39 : decode cX7_derivative 39 = .ok (.iload_n 3, 1) := by decide +kernel
theorem dX7_derivative_40 : decode cX7_derivative 40 = .ok (.i2l, 1) := by decide +kernel
theorem dX7_derivative_41 : decode cX7_derivative 41 = .ok (.aload_n 0, 1) := by decide +kernel
theorem dX7_derivative_42 : decode cX7_derivative 42 = .ok (.getfield 11, 3) := by decide +kernel
theorem dX7_derivative_45 : decode cX7_derivative 45 = .ok (.iload_n 1, 1) := by decide +kernel
theorem dX7_derivative_46 : decode cX7_derivative 46 = .ok (.aaload, 1) := by decide +kernel
theorem dX7_derivative_47 : decode cX7_derivative 47 = .ok (.iload_n 3, 1) := by decide +kernel
theorem dX7_derivative_48 : decode cX7_derivative 48 = .ok (.iaload, 1) := by decide +kernel
theorem dX7_derivative_49 : decode cX7_derivative 49 = .ok (.i2l, 1) := by decide +kernel
theorem dX7_derivative_50 : decode cX7_derivative 50 = .ok (.lmul, 1) := by decide +kernel
theorem dX7_derivative_51 : decode cX7_derivative 51 = .ok (.lastore, 1) := by decide +kernel
theorem dX7_derivative_52 : decode cX7_derivative 52 = .ok (.iinc 3 1, 3) := by decide +kernel
theorem dX7_derivative_55 : decode cX7_derivative 55 = .ok (.goto (-29), 3) := by decide +kernel
theorem dX7_derivative_58 : decode cX7_derivative 58 = .ok (.aload_n 0, 1) := by decide +kernel
theorem dX7_derivative_59 : decode cX7_derivative 59 = .ok (.iload_n 2, 1) := by decide +kernel
theorem dX7_derivative_60 : decode cX7_derivative 60 = .ok (.iconst 2, 1) := by decide +kernel
theorem dX7_derivative_61 : decode cX7_derivative 61 = .ok (.invokevirtual 225, 3) := by decide +kernel
theorem dX7_derivative_64 : decode cX7_derivative 64 = .ok (.ireturn, 1) := by decide +kernel
theorem dX7_shift_0 : decode cX7_shift 0 = .ok (.iload_n 1, 1) := by decide +kernel
theorem dX7_shift_1 : decode cX7_shift 1 = .ok (.invokestatic 228, 3) := by decide +kernel
theorem dX7_shift_4 : decode cX7_shift 4 = .ok (.ifCond .eq 10, 3) := by decide +kernel
theorem dX7_shift_7 : decode cX7_shift 7 = .ok (.iload_n 3, 1) := by decide +kernel
theorem dX7_shift_8 : decode cX7_shift 8 = .ok (.invokestatic 228, 3) := by decide +kernel
theorem dX7_shift_11 : decode cX7_shift 11 = .ok (.ifCond .ne 9, 3) := by decide +kernel
theorem dX7_shift_14 : decode cX7_shift 14 = .ok (.aload_n 0, 1) := by decide +kernel
theorem dX7_shift_15 : decode cX7_shift 15 = .ok (.iconst 1, 1) := by decide +kernel
theorem dX7_shift_16 : decode cX7_shift 16 = .ok (.invokevirtual 212, 3) := by decide +kernel
theorem dX7_shift_19 : decode cX7_shift 19 = .ok (.ireturn, 1) := by decide +kernel
theorem dX7_shift_20 : decode cX7_shift 20 = .ok (.iload_n 2, 1) := by decide +kernel
theorem dX7_shift_21 : decode cX7_shift 21 = .ok (.bipush (-9), 2) := by decide +kernel
theorem dX7_shift_23 : decode cX7_shift 23 = .ok (.bipush 9, 2) := by decide +kernel
theorem dX7_shift_25 : decode cX7_shift 25 = .ok (.invokestatic 232, 3) := by decide +kernel
theorem dX7_shift_28 : decode cX7_shift 28 = .ok (.ifCond .ne 9, 3) := by decide +kernel
theorem dX7_shift_31 : decode cX7_shift 31 = .ok (.aload_n 0, 1) := by decide +kernel
theorem dX7_shift_32 : decode cX7_shift 32 = .ok (.iconst 2, 1) := by decide +kernel
theorem dX7_shift_33 : decode cX7_shift 33 = .ok (.invokevirtual 212, 3) := by decide +kernel
theorem dX7_shift_36 : decode cX7_shift 36 = .ok (.ireturn, 1) := by decide +kernel
theorem dX7_shift_37 : decode cX7_shift 37 = .ok (.aload_n 0, 1) := by decide +kernel
theorem dX7_shift_38 : decode cX7_shift 38 = .ok (.invokevirtual 220, 3) := by decide +kernel
theorem dX7_shift_41 : decode cX7_shift 41 = .ok (.bipush 6, 2) := by decide +kernel
theorem dX7_shift_43 : decode cX7_shift 43 = .ok (.istore 4, 2) := by decide +kernel
theorem dX7_shift_45 : decode cX7_shift 45 = .ok (.iload 4, 2) := by decide +kernel
theorem dX7_shift_47 : decode cX7_shift 47 = .ok (.ifCond .lt 69, 3) := by decide +kernel
theorem dX7_shift_50 : decode cX7_shift 50 = .ok (.bipush 6, 2) := by decide +kernel
theorem dX7_shift_52 : decode cX7_shift 52 = .ok (.istore 5, 2) := by decide +kernel
theorem dX7_shift_54 : decode cX7_shift 54 = .ok (.iload 5, 2) := by decide +kernel
theorem dX7_shift_56 : decode cX7_shift 56 = .ok (.ifCond .lt 54, 3) := by decide +kernel
theorem dX7_shift_59 : decode cX7_shift 59 = .ok (.aload_n 0, 1) := by decide +kernel
theorem dX7_shift_60 : decode cX7_shift 60 = .ok (.getfield 59, 3) := by decide +kernel
theorem dX7_shift_63 : decode cX7_shift 63 = .ok (.iload 5, 2) := by decide +kernel
theorem dX7_shift_65 : decode cX7_shift 65 = .ok (.aload_n 0, 1) := by decide +kernel
theorem dX7_shift_66 : decode cX7_shift 66 = .ok (.getfield 59, 3) := by decide +kernel
theorem dX7_shift_69 : decode cX7_shift 69 = .ok (.iload 5, 2) := by decide +kernel
theorem dX7_shift_71 : decode cX7_shift 71 = .ok (.laload, 1) := by decide +kernel
theorem dX7_shift_72 : decode cX7_shift 72 = .ok (.iload_n 2, 1) := by decide +kernel
theorem dX7_shift_73 : decode cX7_shift 73 = .ok (.i2l, 1) := by decide +kernel
theorem dX7_shift_74 : decode cX7_shift 74 = .ok (.lmul, 1) := by decide +kernel
theorem dX7_shift_75 : decode cX7_shift 75 = .ok (.iload 5, 2) := by decide +kernel
theorem dX7_shift_77 : decode cX7_shift 77 = .ok (.ifCond .le 15, 3) := by decide +kernel
theorem dX7_shift_80 : decode cX7_shift 80 = .ok (.aload_n 0, 1) := by decide +kernel
theorem dX7_shift_81 : decode cX7_shift 81 = .ok (.getfield 59, 3) := by decide +kernel
theorem dX7_shift_84 : decode cX7_shift 84 = .ok (.iload 5, 2) := by decide +kernel
theorem dX7_shift_86 : decode cX7_shift 86 = .ok (.iconst 1, 1) := by decide +kernel
theorem dX7_shift_87 : decode cX7_shift 87 = .ok (.isub, 1) := by decide +kernel
theorem dX7_shift_88 : decode cX7_shift 88 = .ok (.laload, 1) := by decide +kernel
theorem dX7_shift_89 : decode cX7_shift 89 = .ok (.goto 13, 3) := by decide +kernel
theorem dX7_shift_92 : decode cX7_shift 92 = .ok (.aload_n 0, 1) := by decide +kernel
theorem dX7_shift_93 : decode cX7_shift 93 = .ok (.getfield 11, 3) := by decide +kernel
theorem dX7_shift_96 : decode cX7_shift 96 = .ok (.iload_n 1, 1) := by decide +kernel
theorem dX7_shift_97 : decode cX7_shift 97 = .ok (.aaload, 1) := by decide +kernel
theorem dX7_shift_98 : decode cX7_shift 98 = .ok (.iload 4, 2) := by decide +kernel
theorem dX7_shift_100 : decode cX7_shift 100 = .ok (.iaload, 1) := by decide +kernel
theorem dX7_shift_101 : decode cX7_shift 101 = .ok (.i2l, 1) := by decide +kernel
theorem dX7_shift_102 : decode cX7_shift 102 = .ok (.ladd, 1) := by decide +kernel
theorem dX7_shift_103 : decode cX7_shift 103 = .ok (.lastore, 1) := by decide +kernel
theorem dX7_shift_104 : decode cX7_shift 104 = .ok (.iinc 5 (-1), 3) := by decide +kernel
theorem dX7_shift_107 : decode cX7_shift 107 = .ok (.goto (-53), 3) := by decide +kernel
theorem dX7_shift_110 : decode cX7_shift 110 = .ok (.iinc 4 (-1), 3) := by decide +kernel
theorem dX7_shift_113 : decode cX7_shift 113 = .ok (.goto (-68), 3) := by decide +kernel
theorem dX7_shift_116 : decode cX7_shift 116 = .ok (.aload_n 0, 1) := by decide +kernel
theorem dX7_shift_117 : decode cX7_shift 117 = .ok (.iload_n 3, 1) := by decide +kernel
theorem dX7_shift_118 : decode cX7_shift 118 = .ok (.iconst 3, 1) := by decide +kernel
theorem dX7_shift_119 : decode cX7_shift 119 = .ok (.invokevirtual 225, 3) := by decide +kernel
theorem dX7_shift_122 : decode cX7_shift 122 = .ok (.ireturn, 1) := by decide +kernel
theorem dX7_reflect_0 : decode cX7_reflect 0 = .ok (.iload_n 1, 1) := by decide +kernel
theorem dX7_reflect_1 : decode cX7_reflect 1 = .ok (.invokestatic 228, 3) := by decide +kernel
theorem dX7_reflect_4 : decode cX7_reflect 4 = .ok (.ifCond .eq 10, 3) := by decide +kernel
theorem dX7_reflect_7 : decode cX7_reflect 7 = .ok (.iload_n 2, 1) := by decide +kernel
theorem dX7_reflect_8 : decode cX7_reflect 8 = .ok (.invokestatic 228, 3) := by decide +kernel
theorem dX7_reflect_11 : decode cX7_reflect 11 = .ok (.ifCond .ne 9, 3) := by decide +kernel
theorem dX7_reflect_14 : decode cX7_reflect 14 = .ok (.aload_n 0, 1) := by decide +kernel
theorem dX7_reflect_15 : decode cX7_reflect 15 = .ok (.iconst 1, 1) := by decide +kernel
theorem dX7_reflect_16 : decode cX7_reflect 16 = .ok (.invokevirtual 212, 3) := by decide +kernel
theorem dX7_reflect_19 : decode cX7_reflect 19 = .ok (.ireturn, 1) := by decide +kernel
theorem dX7_reflect_20 : decode cX7_reflect 20 = .ok (.aload_n 0, 1) := by decide +kernel
theorem dX7_reflect_21 : decode cX7_reflect 21 = .ok (.invokevirtual 220, 3) := by decide +kernel
theorem dX7_reflect_24 : decode cX7_reflect 24 = .ok (.iconst 0, 1) := by decide +kernel
theorem dX7_reflect_25 : decode cX7_reflect 25 = .ok (.istore_n 3, 1) := by decide +kernel
theorem dX7_reflect_26 : decode cX7_reflect 26 = .ok (.iload_n 3, 1) := by decide +kernel
theorem dX7_reflect_27 : decode cX7_reflect 27 = .ok (.bipush 7, 2) := by decide +kernel
theorem dX7_reflect_29 : decode cX7_reflect 29 = .ok (.if_icmp .ge 43, 3) := by decide +kernel
theorem dX7_reflect_32 : decode cX7_reflect 32 = .ok (.aload_n 0, 1) := by decide +kernel
theorem dX7_reflect_33 : decode cX7_reflect 33 = .ok (.getfield 59, 3) := by decide +kernel
theorem dX7_reflect_36 : decode cX7_reflect 36 = .ok (.iload_n 3, 1) := by decide +kernel
theorem dX7_reflect_37 : decode cX7_reflect 37 = .ok (.iload_n 3, 1) := by decide +kernel
theorem dX7_reflect_38 : decode cX7_reflect 38 = .ok (.iconst 2, 1) := by decide +kernel
theorem dX7_reflect_39 : decode cX7_reflect 39 = .ok (.irem, 1) := by decide +kernel
theorem dX7_reflect_40 : decode cX7_reflect 40 = .ok (.ifCond .ne 15, 3) := by decide +kernel
theorem dX7_reflect_43 : decode cX7_reflect 43 = .ok (.aload_n 0, 1) := by decide +kernel
theorem dX7_reflect_44 : decode cX7_reflect 44 = .ok (.getfield 11, 3) := by decide +kernel
theorem dX7_reflect_47 : decode cX7_reflect 47 = .ok (.iload_n 1, 1) := by decide +kernel
theorem dX7_reflect_48 : decode cX7_reflect 48 = .ok (.aaload, 1) := by decide +kernel
theorem dX7_reflect_49 : decode cX7_reflect 49 = .ok (.iload_n 3, 1) := by decide +kernel
theorem dX7_reflect_50 : decode cX7_reflect 50 = .ok (.iaload, 1) := by decide +kernel
theorem dX7_reflect_51 : decode cX7_reflect 51 = .ok (.i2l, 1) := by decide +kernel
theorem dX7_reflect_52 : decode cX7_reflect 52 = .ok (.goto 13, 3) := by decide +kernel
theorem dX7_reflect_55 : decode cX7_reflect 55 = .ok (.aload_n 0, 1) := by decide +kernel
theorem dX7_reflect_56 : decode cX7_reflect 56 = .ok (.getfield 11, 3) := by decide +kernel
theorem dX7_reflect_59 : decode cX7_reflect 59 = .ok (.iload_n 1, 1) := by decide +kernel
theorem dX7_reflect_60 : decode cX7_reflect 60 = .ok (.aaload, 1) := by decide +kernel
theorem dX7_reflect_61 : decode cX7_reflect 61 = .ok (.iload_n 3, 1) := by decide +kernel
theorem dX7_reflect_62 : decode cX7_reflect 62 = .ok (.iaload, 1) := by decide +kernel
theorem dX7_reflect_63 : decode cX7_reflect 63 = .ok (.ineg, 1) := by decide +kernel
theorem dX7_reflect_64 : decode cX7_reflect 64 = .ok (.i2l, 1) := by decide +kernel
theorem dX7_reflect_65 : decode cX7_reflect 65 = .ok (.lastore, 1) := by decide +kernel
theorem dX7_reflect_66 : decode cX7_reflect 66 = .ok (.iinc 3 1, 3) := by decide +kernel
theorem dX7_reflect_69 : decode cX7_reflect 69 = .ok (.goto (-43), 3) := by decide +kernel
theorem dX7_reflect_72 : decode cX7_reflect 72 = .ok (.aload_n 0, 1) := by decide +kernel
theorem dX7_reflect_73 : decode cX7_reflect 73 = .ok (.iload_n 2, 1) := by decide +kernel
theorem dX7_reflect_74 : decode cX7_reflect 74 = .ok (.iconst 0, 1) := by decide +kernel
theorem dX7_reflect_75 : decode cX7_reflect 75 = .ok (.invokevirtual 225, 3) := by decide +kernel
theorem dX7_reflect_78 : decode cX7_reflect 78 = .ok (.ireturn, 1) := by decide +kernel
theorem dX7_scale_0 : decode cX7_scale 0 = .ok (.iload_n 1, 1) := by decide +kernel
theorem dX7_scale_1 : decode cX7_scale 1 = .ok (.invokestatic 228, 3) := by decide +kernel
theorem dX7_scale_4 : decode cX7_scale 4 = .ok (.ifCond .eq 10, 3) := by decide +kernel
theorem dX7_scale_7 : decode cX7_scale 7 = .ok (.iload_n 3, 1) := by decide +kernel
theorem dX7_scale_8 : decode cX7_scale 8 = .ok (.invokestatic 228, 3) := by decide +kernel
theorem dX7_scale_11 : decode cX7_scale 11 = .ok (.ifCond .ne 9, 3) := by decide +kernel
theorem dX7_scale_14 : decode cX7_scale 14 = .ok (.aload_n 0, 1) := by decide +kernel
theorem dX7_scale_15 : decode cX7_scale 15 = .ok (.iconst 1, 1) := by decide +kernel
theorem dX7_scale_16 : decode cX7_scale 16 = .ok (.invokevirtual 212, 3) := by decide +kernel
theorem dX7_scale_19 : decode cX7_scale 19 = .ok (.ireturn, 1) := by decide +kernel
theorem dX7_scale_20 : decode cX7_scale 20 = .ok (.iload_n 2, 1) := by decide +kernel
theorem dX7_scale_21 : decode cX7_scale 21 = .ok (.iconst 2, 1) := by decide +kernel
theorem dX7_scale_22 : decode cX7_scale 22 = .ok (.bipush 9, 2) := by decide +kernel
theorem dX7_scale_24 : decode cX7_scale 24 = .ok (.invokestatic 232, 3) := by decide +kernel
theorem dX7_scale_27 : decode cX7_scale 27 = .ok (.ifCond .ne 9, 3) := by decide +kernel
theorem dX7_scale_30 : decode cX7_scale 30 = .ok (.aload_n 0, 1) := by decide +kernel
theorem dX7_scale_31 : decode cX7_scale 31 = .ok (.iconst 2, 1) := by decide +kernel
theorem dX7_scale_32 : decode cX7_scale 32 = .ok (.invokevirtual 212, 3) := by decide +kernel
theorem dX7_scale_35 : decode cX7_scale 35 = .ok (.ireturn, 1) := by decide +kernel
theorem dX7_scale_36 : decode cX7_scale 36 = .ok (.aload_n 0, 1) := by decide +kernel
theorem dX7_scale_37 : decode cX7_scale 37 = .ok (.invokevirtual 220, 3) := by decide +kernel
theorem dX7_scale_40 : decode cX7_scale 40 = .ok (.lconst 1, 1) := by decide +kernel
theorem dX7_scale_41 : decode cX7_scale 41 = .ok (.lstore 4, 2) := by decide +kernel
theorem dX7_scale_43 : decode cX7_scale 43 = .ok (.aload_n 0, 1) := by decide +kernel
theorem dX7_scale_44 : decode cX7_scale 44 = .ok (.getfield 11, 3) := by decide +kernel
theorem dX7_scale_47 : decode cX7_scale 47 = .ok (.iload_n 1, 1) := by decide +kernel
theorem dX7_scale_48 : decode cX7_scale 48 = .ok (.aaload, 1) := by decide +kernel
theorem dX7_scale_49 : decode cX7_scale 49 = .ok (.invokestatic 215, 3) := by decide +kernel
theorem dX7_scale_52 : decode cX7_scale 52 = .ok (.istore 6, 2) := by decide +kernel
theorem dX7_scale_54 : decode cX7_scale 54 = .ok (.iload 6, 2) := by decide +kernel
theorem dX7_scale_56 : decode cX7_scale 56 = .ok (.ifCond .lt 36, 3) := by decide +kernel
theorem dX7_scale_59 : decode cX7_scale 59 = .ok (.aload_n 0, 1) := by decide +kernel
theorem dX7_scale_60 : decode cX7_scale 60 = .ok (.getfield 59, 3) := by decide +kernel
theorem dX7_scale_63 : decode cX7_scale 63 = .ok (.iload 6, 2) := by decide +kernel
theorem dX7_scale_65 : decode cX7_scale 65 = .ok (.aload_n 0, 1) := by decide +kernel
theorem dX7_scale_66 : decode cX7_scale 66 = .ok (.getfield 11, 3) := by decide +kernel
theorem dX7_scale_69 : decode cX7_scale 69 = .ok (.iload_n 1, 1) := by decide +kernel
theorem dX7_scale_70 : decode cX7_scale 70 = .ok (.aaload, 1) := by decide +kernel
theorem dX7_scale_71 : decode cX7_scale 71 = .ok (.iload 6, 2) := by decide +kernel
theorem dX7_scale_73 : decode cX7_scale 73 = .ok (.iaload, 1) := by decide +kernel
theorem dX7_scale_74 : decode cX7_scale 74 = .ok (.i2l, 1) := by decide +kernel
theorem dX7_scale_75 : decode cX7_scale 75 = .ok (.lload 4, 2) := by decide +kernel
theorem dX7_scale_77 : decode cX7_scale 77 = .ok (.lmul, 1) := by decide +kernel
theorem dX7_scale_78 : decode cX7_scale 78 = .ok (.lastore, 1) := by decide +kernel
theorem dX7_scale_79 : decode cX7_scale 79 = .ok (.lload 4, 2) := by decide +kernel
theorem dX7_scale_81 : decode cX7_scale 81 = .ok (.iload_n 2, 1) := by decide +kernel
theorem dX7_scale_82 : decode cX7_scale 82 = .ok (.i2l, 1) := by decide +kernel
theorem dX7_scale_83 : decode cX7_scale 83 = .ok (.lmul, 1) := by decide +kernel
theorem dX7_scale_84 : decode cX7_scale 84 = .ok (.lstore 4, 2) := by decide +kernel
theorem dX7_scale_86 : decode cX7_scale 86 = .ok (.iinc 6 (-1), 3) := by decide +kernel
theorem dX7_scale_89 : decode cX7_scale 89 = .ok (.goto (-35), 3) := by decide +kernel
theorem dX7_scale_92 : decode cX7_scale 92 = .ok (.aload_n 0, 1) := by decide +kernel
theorem dX7_scale_93 : decode cX7_scale 93 = .ok (.iload_n 3, 1) := by decide +kernel
theorem dX7_scale_94 : decode cX7_scale 94 = .ok (.iconst 3, 1) := by decide +kernel
theorem dX7_scale_95 : decode cX7_scale 95 = .ok (.invokevirtual 225, 3) := by decide +kernel
theorem dX7_scale_98 : decode cX7_scale 98 = .ok (.ireturn, 1) := by decide +kernel
theorem dX7_gcd_0 : decode cX7_gcd 0 = .ok (.iload_n 1, 1) := by decide +kernel
theorem dX7_gcd_1 : decode cX7_gcd 1 = .ok (.invokestatic 228, 3) := by decide +kernel
theorem dX7_gcd_4 : decode cX7_gcd 4 = .ok (.ifCond .eq 17, 3) := by decide +kernel
theorem dX7_gcd_7 : decode cX7_gcd 7 = .ok (.iload_n 2, 1) := by decide +kernel
theorem dX7_gcd_8 : decode cX7_gcd 8 = .ok (.invokestatic 228, 3) := by decide +kernel
theorem dX7_gcd_11 : decode cX7_gcd 11 = .ok (.ifCond .eq 10, 3) := by decide +kernel
theorem dX7_gcd_14 : decode cX7_gcd 14 = .ok (.iload_n 3, 1) := by decide +kernel
theorem dX7_gcd_15 : decode cX7_gcd 15 = .ok (.invokestatic 228, 3) := by decide +kernel
theorem dX7_gcd_18 : decode cX7_gcd 18 = .ok (.ifCond .ne 9, 3) := by decide +kernel
theorem dX7_gcd_21 : decode cX7_gcd 21 = .ok (.aload_n 0, 1) := by decide +kernel
theorem dX7_gcd_22 : decode cX7_gcd 22 = .ok (.iconst 1, 1) := by decide +kernel
theorem dX7_gcd_23 : decode cX7_gcd 23 = .ok (.invokevirtual 212, 3) := by decide +kernel
theorem dX7_gcd_26 : decode cX7_gcd 26 = .ok (.ireturn, 1) := by decide +kernel
theorem dX7_gcd_27 : decode cX7_gcd 27 = .ok (.aload_n 0, 1) := by decide +kernel
theorem dX7_gcd_28 : decode cX7_gcd 28 = .ok (.getfield 11, 3) := by decide +kernel
theorem dX7_gcd_31 : decode cX7_gcd 31 = .ok (.iload_n 1, 1) := by decide +kernel
theorem dX7_gcd_32 : decode cX7_gcd 32 = .ok (.aaload, 1) := by decide +kernel
theorem dX7_gcd_33 : decode cX7_gcd 33 = .ok (.aload_n 0, 1) := by decide +kernel
theorem dX7_gcd_34 : decode cX7_gcd 34 = .ok (.getfield 33, 3) := by decide +kernel
theorem dX7_gcd_37 : decode cX7_gcd 37 = .ok (.invokestatic 236, 3) := by decide +kernel
theorem dX7_gcd_40 : decode cX7_gcd 40 = .ok (.aload_n 0, 1) := by decide +kernel
theorem dX7_gcd_41 : decode cX7_gcd 41 = .ok (.getfield 11, 3) := by decide +kernel
theorem dX7_gcd_44 : decode cX7_gcd 44 = .ok (.iload_n 2, 1) := by decide +kernel
theorem dX7_gcd_45 : decode cX7_gcd 45 = .ok (.aaload, 1) := by decide +kernel
theorem dX7_gcd_46 : decode cX7_gcd 46 = .ok (.aload_n 0, 1) := by decide +kernel
theorem dX7_gcd_47 : decode cX7_gcd 47 = .ok (.getfield 36, 3) := by decide +kernel
theorem dX7_gcd_50 : decode cX7_gcd 50 = .ok (.invokestatic 236, 3) := by decide +kernel
theorem dX7_gcd_53 : decode cX7_gcd 53 = .ok (.aload_n 0, 1) := by decide +kernel
theorem dX7_gcd_54 : decode cX7_gcd 54 = .ok (.invokevirtual 191, 3) := by decide +kernel
theorem dX7_gcd_57 : decode cX7_gcd 57 = .ok (.aload_n 0, 1) := by decide +kernel
theorem dX7_gcd_58 : decode cX7_gcd 58 = .ok (.aload_n 0, 1) := by decide +kernel
theorem dX7_gcd_59 : decode cX7_gcd 59 = .ok (.getfield 42, 3) := by decide +kernel
theorem dX7_gcd_62 : decode cX7_gcd 62 = .ok (.iload_n 3, 1) := by decide +kernel
theorem dX7_gcd_63 : decode cX7_gcd 63 = .ok (.iconst 2, 1) := by decide +kernel
theorem dX7_gcd_64 : decode cX7_gcd 64 = .ok (.invokevirtual 240, 3) := by decide +kernel
theorem dX7_gcd_67 : decode cX7_gcd 67 = .ok (.ireturn, 1) := by decide +kernel
theorem dX7_isZero_0 : decode cX7_isZero 0 = .ok (.aload_n 0, 1) := by decide +kernel
theorem dX7_isZero_1 : decode cX7_isZero 1 = .ok (.getfield 11, 3) := by decide +kernel
theorem dX7_isZero_4 : decode cX7_isZero 4 = .ok (.iload_n 1, 1) := by decide +kernel
theorem dX7_isZero_5 : decode cX7_isZero 5 = .ok (.aaload, 1) := by decide +kernel
theorem dX7_isZero_6 : decode cX7_isZero 6 = .ok (.invokestatic 215, 3) := by decide +kernel
theorem dX7_isZero_9 : decode cX7_isZero 9 = .ok (.ifCond .ge 7, 3) := by decide +kernel
theorem dX7_isZero_12 : decode cX7_isZero 12 = .ok (.iconst 1, 1) := by decide +kernel
theorem dX7_isZero_13 : decode cX7_isZero 13 = .ok (.goto 4, 3) := by decide +kernel
theorem dX7_isZero_16 : decode cX7_isZero 16 = .ok (.iconst 0, 1) := by decide +kernel
theorem dX7_isZero_17 : decode cX7_isZero 17 = .ok (.ireturn, 1) := by decide +kernel
theorem dX7_squareFreePart_0 : decode cX7_squareFreePart 0 = .ok (.iload_n 1, 1) := by decide +kernel
theorem dX7_squareFreePart_1 : decode cX7_squareFreePart 1 = .ok (.invokestatic 228, 3) := by decide +kernel
theorem dX7_squareFreePart_4 : decode cX7_squareFreePart 4 = .ok (.ifCond .eq 10, 3) := by decide +kernel
theorem dX7_squareFreePart_7 : decode cX7_squareFreePart 7 = .ok (.iload_n 2, 1) := by decide +kernel
theorem dX7_squareFreePart_8 : decode cX7_squareFreePart 8 = .ok (.invokestatic 228, 3) := by decide +kernel
theorem dX7_squareFreePart_11 : decode cX7_squareFreePart 11 = .ok (.ifCond .ne 9, 3) := by decide +kernel
theorem dX7_squareFreePart_14 : decode cX7_squareFreePart 14 = .ok (.aload_n 0, 1) := by decide +kernel
theorem dX7_squareFreePart_15 : decode cX7_squareFreePart 15 = .ok (.iconst 1, 1) := by decide +kernel
theorem dX7_squareFreePart_16 : decode cX7_squareFreePart 16 = .ok (.invokevirtual 212, 3) := by decide +kernel
theorem dX7_squareFreePart_19 : decode cX7_squareFreePart 19 = .ok (.ireturn, 1) := by decide +kernel
theorem dX7_squareFreePart_20 : decode cX7_squareFreePart 20 = .ok (.aload_n 0, 1) := by decide +kernel
theorem dX7_squareFreePart_21 : decode cX7_squareFreePart 21 = .ok (.iload_n 1, 1) := by decide +kernel
theorem dX7_squareFreePart_22 : decode cX7_squareFreePart 22 = .ok (.invokevirtual 244, 3) := by decide +kernel
theorem dX7_squareFreePart_25 : decode cX7_squareFreePart 25 = .ok (.ifCond .eq 9, 3) := by decide +kernel
theorem dX7_squareFreePart_28 : decode cX7_squareFreePart 28 = .ok (.aload_n 0, 1) := by decide +kernel
theorem dX7_squareFreePart_29 : decode cX7_squareFreePart 29 = .ok (.iconst 2, 1) := by decide +kernel
theorem dX7_squareFreePart_30 : decode cX7_squareFreePart 30 = .ok (.invokevirtual 212, 3) := by decide +kernel
theorem dX7_squareFreePart_33 : decode cX7_squareFreePart 33 = .ok (.ireturn, 1) := by decide +kernel
theorem dX7_squareFreePart_34 : decode cX7_squareFreePart 34 = .ok (.aload_n 0, 1) := by decide +kernel
theorem dX7_squareFreePart_35 : decode cX7_squareFreePart 35 = .ok (.getfield 11, 3) := by decide +kernel
theorem dX7_squareFreePart_38 : decode cX7_squareFreePart 38 = .ok (.iload_n 1, 1) := by decide +kernel
theorem dX7_squareFreePart_39 : decode cX7_squareFreePart 39 = .ok (.aaload, 1) := by decide +kernel
theorem dX7_squareFreePart_40 : decode cX7_squareFreePart 40 = .ok (.aload_n 0, 1) := by decide +kernel
theorem dX7_squareFreePart_41 : decode cX7_squareFreePart 41 = .ok (.getfield 63, 3) := by decide +kernel
theorem dX7_squareFreePart_44 : decode cX7_squareFreePart 44 = .ok (.invokestatic 236, 3) := by decide +kernel
theorem dX7_squareFreePart_47 : decode cX7_squareFreePart 47 = .ok (.aload_n 0, 1) := by decide +kernel
theorem dX7_squareFreePart_48 : decode cX7_squareFreePart 48 = .ok (.aload_n 0, 1) := by decide +kernel
theorem dX7_squareFreePart_49 : decode cX7_squareFreePart 49 = .ok (.getfield 63, 3) := by decide +kernel
theorem dX7_squareFreePart_52 : decode cX7_squareFreePart 52 = .ok (.invokevirtual 247, 3) := by decide +kernel
theorem dX7_squareFreePart_55 : decode cX7_squareFreePart 55 = .ok (.aload_n 0, 1) := by decide +kernel
theorem dX7_squareFreePart_56 : decode cX7_squareFreePart 56 = .ok (.aload_n 0, 1) := by decide +kernel
theorem dX7_squareFreePart_57 : decode cX7_squareFreePart 57 = .ok (.getfield 45, 3) := by decide +kernel
theorem dX7_squareFreePart_60 : decode cX7_squareFreePart 60 = .ok (.iload_n 2, 1) := by decide +kernel
theorem dX7_squareFreePart_61 : decode cX7_squareFreePart 61 = .ok (.iconst 3, 1) := by decide +kernel
theorem dX7_squareFreePart_62 : decode cX7_squareFreePart 62 = .ok (.invokevirtual 240, 3) := by decide +kernel
theorem dX7_squareFreePart_65 : decode cX7_squareFreePart 65 = .ok (.ireturn, 1) := by decide +kernel
theorem dX7_findRow_0 : decode cX7_findRow 0 = .ok (.aload_n 0, 1) := by decide +kernel
theorem dX7_findRow_1 : decode cX7_findRow 1 = .ok (.getfield 11, 3) := by decide +kernel
theorem dX7_findRow_4 : decode cX7_findRow 4 = .ok (.iload_n 1, 1) := by decide +kernel
theorem dX7_findRow_5 : decode cX7_findRow 5 = .ok (.aaload, 1) := by decide +kernel
theorem dX7_findRow_6 : decode cX7_findRow 6 = .ok (.aload_n 0, 1) := by decide +kernel
theorem dX7_findRow_7 : decode cX7_findRow 7 = .ok (.getfield 66, 3) := by decide +kernel
theorem dX7_findRow_10 : decode cX7_findRow 10 = .ok (.iconst 0, 1) := by decide +kernel
theorem dX7_findRow_11 : decode cX7_findRow 11 = .ok (.aaload, 1) := by decide +kernel
theorem dX7_findRow_12 : decode cX7_findRow 12 = .ok (.invokestatic 236, 3) := by decide +kernel
theorem dX7_findRow_15 : decode cX7_findRow 15 = .ok (.aload_n 0, 1) := by decide +kernel
theorem dX7_findRow_16 : decode cX7_findRow 16 = .ok (.getfield 66, 3) := by decide +kernel
theorem dX7_findRow_19 : decode cX7_findRow 19 = .ok (.iconst 0, 1) := by decide +kernel
theorem dX7_findRow_20 : decode cX7_findRow 20 = .ok (.aaload, 1) := by decide +kernel
theorem dX7_findRow_21 : decode cX7_findRow 21 = .ok (.aload_n 0, 1) := by decide +kernel
theorem dX7_findRow_22 : decode cX7_findRow 22 = .ok (.getfield 66, 3) := by decide +kernel
theorem dX7_findRow_25 : decode cX7_findRow 25 = .ok (.iconst 1, 1) := by decide +kernel
theorem dX7_findRow_26 : decode cX7_findRow 26 = .ok (.aaload, 1) := by decide +kernel
theorem dX7_findRow_27 : decode cX7_findRow 27 = .ok (.invokestatic 188, 3) := by decide +kernel
theorem dX7_findRow_30 : decode cX7_findRow 30 = .ok (.aload_n 0, 1) := by decide +kernel
theorem dX7_findRow_31 : decode cX7_findRow 31 = .ok (.aload_n 0, 1) := by decide +kernel
theorem dX7_findRow_32 : decode cX7_findRow 32 = .ok (.getfield 66, 3) := by decide +kernel
theorem dX7_findRow_35 : decode cX7_findRow 35 = .ok (.iconst 0, 1) := by decide +kernel
theorem dX7_findRow_36 : decode cX7_findRow 36 = .ok (.aaload, 1) := by decide +kernel
theorem dX7_findRow_37 : decode cX7_findRow 37 = .ok (.invokevirtual 176, 3) := by decide +kernel
theorem dX7_findRow_40 : decode cX7_findRow 40 = .ok (.aload_n 0, 1) := by decide +kernel
theorem dX7_findRow_41 : decode cX7_findRow 41 = .ok (.aload_n 0, 1) := by decide +kernel
theorem dX7_findRow_42 : decode cX7_findRow 42 = .ok (.getfield 66, 3) := by decide +kernel
theorem dX7_findRow_45 : decode cX7_findRow 45 = .ok (.iconst 1, 1) := by decide +kernel
theorem dX7_findRow_46 : decode cX7_findRow 46 = .ok (.aaload, 1) := by decide +kernel
theorem dX7_findRow_47 : decode cX7_findRow 47 = .ok (.invokevirtual 176, 3) := by decide +kernel
theorem dX7_findRow_50 : decode cX7_findRow 50 = .ok (.aload_n 0, 1) := by decide +kernel
theorem dX7_findRow_51 : decode cX7_findRow 51 = .ok (.aload_n 0, 1) := by decide +kernel
theorem dX7_findRow_52 : decode cX7_findRow 52 = .ok (.getfield 66, 3) := by decide +kernel
theorem dX7_findRow_55 : decode cX7_findRow 55 = .ok (.iconst 1, 1) := by decide +kernel
theorem dX7_findRow_56 : decode cX7_findRow 56 = .ok (.aaload, 1) := by decide +kernel
theorem dX7_findRow_57 : decode cX7_findRow 57 = .ok (.invokestatic 166, 3) := by decide +kernel
theorem dX7_findRow_60 : decode cX7_findRow 60 = .ok (.ifCond .ge 7, 3) := by decide +kernel
theorem dX7_findRow_63 : decode cX7_findRow 63 = .ok (.iconst 1, 1) := by decide +kernel
theorem dX7_findRow_64 : decode cX7_findRow 64 = .ok (.goto 4, 3) := by decide +kernel
theorem dX7_findRow_67 : decode cX7_findRow 67 = .ok (.iconst 2, 1) := by decide +kernel
theorem dX7_findRow_68 : decode cX7_findRow 68 = .ok (.putfield 250, 3) := by decide +kernel
theorem dX7_findRow_71 : decode cX7_findRow 71 = .ok (.aload_n 0, 1) := by decide +kernel
theorem dX7_findRow_72 : decode cX7_findRow 72 = .ok (.getfield 250, 3) := by decide +kernel
theorem dX7_findRow_75 : decode cX7_findRow 75 = .ok (.iconst 1, 1) := by decide +kernel
theorem dX7_findRow_76 : decode cX7_findRow 76 = .ok (.if_icmp .le 87, 3) := by decide +kernel
theorem dX7_findRow_79 : decode cX7_findRow 79 = .ok (.aload_n 0, 1) := by decide +kernel
theorem dX7_findRow_80 : decode cX7_findRow 80 = .ok (.getfield 66, 3) := by decide +kernel
theorem dX7_findRow_83 : decode cX7_findRow 83 = .ok (.aload_n 0, 1) := by decide +kernel
theorem dX7_findRow_84 : decode cX7_findRow 84 = .ok (.getfield 250, 3) := by decide +kernel
theorem dX7_findRow_87 : decode cX7_findRow 87 = .ok (.iconst 2, 1) := by decide +kernel
theorem dX7_findRow_88 : decode cX7_findRow 88 = .ok (.isub, 1) := by decide +kernel
theorem dX7_findRow_89 : decode cX7_findRow 89 = .ok (.aaload, 1) := by decide +kernel
theorem dX7_findRow_90 : decode cX7_findRow 90 = .ok (.aload_n 0, 1) := by decide +kernel
theorem dX7_findRow_91 : decode cX7_findRow 91 = .ok (.getfield 39, 3) := by decide +kernel
theorem dX7_findRow_94 : decode cX7_findRow 94 = .ok (.invokestatic 186, 3) := by decide +kernel
theorem dX7_findRow_97 : decode cX7_findRow 97 = .ok (.aload_n 0, 1) := by decide +kernel
theorem dX7_findRow_98 : decode cX7_findRow 98 = .ok (.aload_n 0, 1) := by decide +kernel
theorem dX7_findRow_99 : decode cX7_findRow 99 = .ok (.getfield 39, 3) := by decide +kernel
theorem dX7_findRow_102 : decode cX7_findRow 102 = .ok (.aload_n 0, 1) := by decide +kernel
theorem dX7_findRow_103 : decode cX7_findRow 103 = .ok (.getfield 66, 3) := by decide +kernel
theorem dX7_findRow_106 : decode cX7_findRow 106 = .ok (.aload_n 0, 1) := by decide +kernel
theorem dX7_findRow_107 : decode cX7_findRow 107 = .ok (.getfield 250, 3) := by decide +kernel
theorem dX7_findRow_110 : decode cX7_findRow 110 = .ok (.iconst 1, 1) := by decide +kernel
theorem dX7_findRow_111 : decode cX7_findRow 111 = .ok (.isub, 1) := by decide +kernel
theorem dX7_findRow_112 : decode cX7_findRow 112 = .ok (.aaload, 1) := by decide +kernel
theorem dX7_findRow_113 : decode cX7_findRow 113 = .ok (.invokevirtual 179, 3) := by decide +kernel
theorem dX7_findRow_116 : decode cX7_findRow 116 = .ok (.aload_n 0, 1) := by decide +kernel
theorem dX7_findRow_117 : decode cX7_findRow 117 = .ok (.getfield 39, 3) := by decide +kernel
theorem dX7_findRow_120 : decode cX7_findRow 120 = .ok (.invokestatic 166, 3) := by decide +kernel
theorem dX7_findRow_123 : decode cX7_findRow 123 = .ok (.ifCond .ge 4, 3) := by decide +kernel
theorem dX7_findRow_126 : decode cX7_findRow 126 = .ok (.return_, 1) := by decide +kernel
theorem dX7_findRow_127 : decode cX7_findRow 127 = .ok (.aload_n 0, 1) := by decide +kernel
theorem dX7_findRow_128 : decode cX7_findRow 128 = .ok (.getfield 39, 3) := by decide +kernel
theorem dX7_findRow_131 : decode cX7_findRow 131 = .ok (.invokestatic 170, 3) := by decide +kernel
theorem dX7_findRow_134 : decode cX7_findRow 134 = .ok (.aload_n 0, 1) := by decide +kernel
theorem dX7_findRow_135 : decode cX7_findRow 135 = .ok (.getfield 39, 3) := by decide +kernel
theorem dX7_findRow_138 : decode cX7_findRow 138 = .ok (.aload_n 0, 1) := by decide +kernel
theorem dX7_findRow_139 : decode cX7_findRow 139 = .ok (.getfield 66, 3) := by decide +kernel
theorem dX7_findRow_142 : decode cX7_findRow 142 = .ok (.aload_n 0, 1) := by decide +kernel
theorem dX7_findRow_143 : decode cX7_findRow 143 = .ok (.getfield 250, 3) := by decide +kernel
theorem dX7_findRow_146 : decode cX7_findRow 146 = .ok (.aaload, 1) := by decide +kernel
theorem dX7_findRow_147 : decode cX7_findRow 147 = .ok (.invokestatic 186, 3) := by decide +kernel
theorem dX7_findRow_150 : decode cX7_findRow 150 = .ok (.aload_n 0, 1) := by decide +kernel
theorem dX7_findRow_151 : decode cX7_findRow 151 = .ok (.dup, 1) := by decide +kernel
theorem dX7_findRow_152 : decode cX7_findRow 152 = .ok (.getfield 250, 3) := by decide +kernel
theorem dX7_findRow_155 : decode cX7_findRow 155 = .ok (.iconst 1, 1) := by decide +kernel
theorem dX7_findRow_156 : decode cX7_findRow 156 = .ok (.iadd, 1) := by decide +kernel
theorem dX7_findRow_157 : decode cX7_findRow 157 = .ok (.putfield 250, 3) := by decide +kernel
theorem dX7_findRow_160 : decode cX7_findRow 160 = .ok (.goto (-89), 3) := by decide +kernel
theorem dX7_findRow_163 : decode cX7_findRow 163 = .ok (.return_, 1) := by decide +kernel
theorem dX7_sturmLength_0 : decode cX7_sturmLength 0 = .ok (.iload_n 1, 1) := by decide +kernel
theorem dX7_sturmLength_1 : decode cX7_sturmLength 1 = .ok (.invokestatic 228, 3) := by decide +kernel
theorem dX7_sturmLength_4 : decode cX7_sturmLength 4 = .ok (.ifCond .ne 9, 3) := by decide +kernel
theorem dX7_sturmLength_7 : decode cX7_sturmLength 7 = .ok (.aload_n 0, 1) := by decide +kernel
theorem dX7_sturmLength_8 : decode cX7_sturmLength 8 = .ok (.iconst 1, 1) := by decide +kernel
theorem dX7_sturmLength_9 : decode cX7_sturmLength 9 = .ok (.invokevirtual 212, 3) := by decide +kernel
theorem dX7_sturmLength_12 : decode cX7_sturmLength 12 = .ok (.ireturn, 1) := by decide +kernel
theorem dX7_sturmLength_13 : decode cX7_sturmLength 13 = .ok (.aload_n 0, 1) := by decide +kernel
theorem dX7_sturmLength_14 : decode cX7_sturmLength 14 = .ok (.iload_n 1, 1) := by decide +kernel
theorem dX7_sturmLength_15 : decode cX7_sturmLength 15 = .ok (.invokevirtual 244, 3) := by decide +kernel
theorem dX7_sturmLength_18 : decode cX7_sturmLength 18 = .ok (.ifCond .eq 9, 3) := by decide +kernel
theorem dX7_sturmLength_21 : decode cX7_sturmLength 21 = .ok (.aload_n 0, 1) := by decide +kernel
theorem dX7_sturmLength_22 : decode cX7_sturmLength 22 = .ok (.iconst 2, 1) := by decide +kernel
theorem dX7_sturmLength_23 : decode cX7_sturmLength 23 = .ok (.invokevirtual 212, 3) := by decide +kernel
theorem dX7_sturmLength_26 : decode cX7_sturmLength 26 = .ok (.ireturn, 1) := by decide +kernel
theorem dX7_sturmLength_27 : decode cX7_sturmLength 27 = .ok (.aload_n 0, 1) := by decide +kernel
theorem dX7_sturmLength_28 : decode cX7_sturmLength 28 = .ok (.iload_n 1, 1) := by decide +kernel
theorem dX7_sturmLength_29 : decode cX7_sturmLength 29 = .ok (.invokevirtual 253, 3) := by decide +kernel
theorem dX7_sturmLength_32 : decode cX7_sturmLength 32 = .ok (.aload_n 0, 1) := by decide +kernel
theorem dX7_sturmLength_33 : decode cX7_sturmLength 33 = .ok (.aload_n 0, 1) := by decide +kernel
theorem dX7_sturmLength_34 : decode cX7_sturmLength 34 = .ok (.getfield 250, 3) := by decide +kernel
theorem dX7_sturmLength_37 : decode cX7_sturmLength 37 = .ok (.invokevirtual 217, 3) := by decide +kernel
theorem dX7_sturmLength_40 : decode cX7_sturmLength 40 = .ok (.ireturn, 1) := by decide +kernel
theorem dX7_sturmCoefficient_0 : decode cX7_sturmCoefficient 0 = .ok (.iload_n 1, 1) := by decide +kernel
theorem dX7_sturmCoefficient_1 : decode cX7_sturmCoefficient 1 = .ok (.invokestatic 228, 3) := by decide +kernel
theorem dX7_sturmCoefficient_4 : decode cX7_sturmCoefficient 4 = .ok (.ifCond .eq 13, 3) := by decide +kernel
theorem dX7_sturmCoefficient_7 : decode cX7_sturmCoefficient 7 = .ok (.iload_n 3, 1) := by decide +kernel
theorem dX7_sturmCoefficient_8 : decode cX7_sturmCoefficient 8 = .ok (.iconst 0, 1) := by decide +kernel
theorem dX7_sturmCoefficient_9 : decode cX7_sturmCoefficient 9 = .ok (.bipush 6, 2) := by decide +kernel
theorem dX7_sturmCoefficient_11 : decode cX7_sturmCoefficient 11 = .ok (.invokestatic 232, 3) := by decide +kernel
theorem dX7_sturmCoefficient_14 : decode cX7_sturmCoefficient 14 = .ok (.ifCond .ne 10, 3) := by decide +kernel
theorem dX7_sturmCoefficient_17 : decode cX7_sturmCoefficient 17 = .ok (.aload_n 0, 1) := by decide +kernel
theorem dX7_sturmCoefficient_18 : decode cX7_sturmCoefficient 18 = .ok (.iconst 1, 1) := by decide +kernel
theorem dX7_sturmCoefficient_19 : decode cX7_sturmCoefficient 19 = .ok (.invokevirtual 212, 3) := by decide +kernel
theorem dX7_sturmCoefficient_22 : decode cX7_sturmCoefficient 22 = .ok (.i2l, 1) := by decide +kernel
theorem dX7_sturmCoefficient_23 : decode cX7_sturmCoefficient 23 = .ok (.lreturn, 1) := by decide +kernel
theorem dX7_sturmCoefficient_24 : decode cX7_sturmCoefficient 24 = .ok (.aload_n 0, 1) := by decide +kernel
theorem dX7_sturmCoefficient_25 : decode cX7_sturmCoefficient 25 = .ok (.iload_n 1, 1) := by decide +kernel
theorem dX7_sturmCoefficient_26 : decode cX7_sturmCoefficient 26 = .ok (.invokevirtual 244, 3) := by decide +kernel
theorem dX7_sturmCoefficient_29 : decode cX7_sturmCoefficient 29 = .ok (.ifCond .eq 10, 3) := by decide +kernel
theorem dX7_sturmCoefficient_32 : decode cX7_sturmCoefficient 32 = .ok (.aload_n 0, 1) := by decide +kernel
theorem dX7_sturmCoefficient_33 : decode cX7_sturmCoefficient 33 = .ok (.iconst 2, 1) := by decide +kernel
theorem dX7_sturmCoefficient_34 : decode cX7_sturmCoefficient 34 = .ok (.invokevirtual 212, 3) := by decide +kernel
theorem dX7_sturmCoefficient_37 : decode cX7_sturmCoefficient 37 = .ok (.i2l, 1) := by decide +kernel
theorem dX7_sturmCoefficient_38 : decode cX7_sturmCoefficient 38 = .ok (.lreturn, 1) := by decide +kernel
theorem dX7_sturmCoefficient_39 : decode cX7_sturmCoefficient 39 = .ok (.aload_n 0, 1) := by decide +kernel
theorem dX7_sturmCoefficient_40 : decode cX7_sturmCoefficient 40 = .ok (.iload_n 1, 1) := by decide +kernel
theorem dX7_sturmCoefficient_41 : decode cX7_sturmCoefficient 41 = .ok (.invokevirtual 253, 3) := by decide +kernel
theorem dX7_sturmCoefficient_44 : decode cX7_sturmCoefficient 44 = .ok (.iload_n 2, 1) := by decide +kernel
theorem dX7_sturmCoefficient_45 : decode cX7_sturmCoefficient 45 = .ok (.iconst 0, 1) := by decide +kernel
theorem dX7_sturmCoefficient_46 : decode cX7_sturmCoefficient 46 = .ok (.aload_n 0, 1) := by decide +kernel
theorem dX7_sturmCoefficient_47 : decode cX7_sturmCoefficient 47 = .ok (.getfield 250, 3) := by decide +kernel
theorem dX7_sturmCoefficient_50 : decode cX7_sturmCoefficient 50 = .ok (.iconst 1, 1) := by decide +kernel
theorem dX7_sturmCoefficient_51 : decode cX7_sturmCoefficient 51 = .ok (.isub, 1) := by decide +kernel
theorem dX7_sturmCoefficient_52 : decode cX7_sturmCoefficient 52 = .ok (.invokestatic 232, 3) := by decide +kernel
theorem dX7_sturmCoefficient_55 : decode cX7_sturmCoefficient 55 = .ok (.ifCond .ne 10, 3) := by decide +kernel
theorem dX7_sturmCoefficient_58 : decode cX7_sturmCoefficient 58 = .ok (.aload_n 0, 1) := by decide +kernel
theorem dX7_sturmCoefficient_59 : decode cX7_sturmCoefficient 59 = .ok (.iconst 3, 1) := by decide +kernel
theorem dX7_sturmCoefficient_60 : decode cX7_sturmCoefficient 60 = .ok (.invokevirtual 212, 3) := by decide +kernel
theorem dX7_sturmCoefficient_63 : decode cX7_sturmCoefficient 63 = .ok (.i2l, 1) := by decide +kernel
theorem dX7_sturmCoefficient_64 : decode cX7_sturmCoefficient 64 = .ok (.lreturn, 1) := by decide +kernel
theorem dX7_sturmCoefficient_65 : decode cX7_sturmCoefficient 65 = .ok (.aload_n 0, 1) := by decide +kernel
theorem dX7_sturmCoefficient_66 : decode cX7_sturmCoefficient 66 = .ok (.iconst 0, 1) := by decide +kernel
theorem dX7_sturmCoefficient_67 : decode cX7_sturmCoefficient 67 = .ok (.putfield 87, 3) := by decide +kernel
theorem dX7_sturmCoefficient_70 : decode cX7_sturmCoefficient 70 = .ok (.aload_n 0, 1) := by decide +kernel
theorem dX7_sturmCoefficient_71 : decode cX7_sturmCoefficient 71 = .ok (.getfield 66, 3) := by decide +kernel
theorem dX7_sturmCoefficient_74 : decode cX7_sturmCoefficient 74 = .ok (.iload_n 2, 1) := by decide +kernel
theorem dX7_sturmCoefficient_75 : decode cX7_sturmCoefficient 75 = .ok (.aaload, 1) := by decide +kernel
theorem dX7_sturmCoefficient_76 : decode cX7_sturmCoefficient 76 = .ok (.iload_n 3, 1) := by decide +kernel
theorem dX7_sturmCoefficient_77 : decode cX7_sturmCoefficient 77 = .ok (.aaload, 1) := by decide +kernel
theorem dX7_sturmCoefficient_78 : decode cX7_sturmCoefficient 78 = .ok (.astore 4, 2) := by decide +kernel
theorem dX7_sturmCoefficient_80 : decode cX7_sturmCoefficient 80 = .ok (.aload 4, 2) := by decide +kernel
theorem dX7_sturmCoefficient_82 : decode cX7_sturmCoefficient 82 = .ok (.iconst 1, 1) := by decide +kernel
theorem dX7_sturmCoefficient_83 : decode cX7_sturmCoefficient 83 = .ok (.iaload, 1) := by decide +kernel
theorem dX7_sturmCoefficient_84 : decode cX7_sturmCoefficient 84 = .ok (.i2l, 1) := by decide +kernel
theorem dX7_sturmCoefficient_85 : decode cX7_sturmCoefficient 85 = .ok (.bipush 32, 2) := by decide +kernel
theorem dX7_sturmCoefficient_87 : decode cX7_sturmCoefficient 87 = .ok (.lshl, 1) := by decide +kernel
theorem dX7_sturmCoefficient_88 : decode cX7_sturmCoefficient 88 = .ok (.aload 4, 2) := by decide +kernel
theorem dX7_sturmCoefficient_90 : decode cX7_sturmCoefficient 90 = .ok (.iconst 0, 1) := by decide +kernel
theorem dX7_sturmCoefficient_91 : decode cX7_sturmCoefficient 91 = .ok (.iaload, 1) := by decide +kernel
theorem dX7_sturmCoefficient_92 : decode cX7_sturmCoefficient 92 = .ok (.i2l, 1) := by decide +kernel
theorem dX7_sturmCoefficient_93 : decode cX7_sturmCoefficient 93 = .ok (.ldc2_w 91, 3) := by decide +kernel
theorem dX7_sturmCoefficient_96 : decode cX7_sturmCoefficient 96 = .ok (.land, 1) := by decide +kernel
theorem dX7_sturmCoefficient_97 : decode cX7_sturmCoefficient 97 = .ok (.lor, 1) := by decide +kernel
theorem dX7_sturmCoefficient_98 : decode cX7_sturmCoefficient 98 = .ok (.lreturn, 1) := by decide +kernel
theorem dX7_sturmDegree_0 : decode cX7_sturmDegree 0 = .ok (.iload_n 1, 1) := by decide +kernel
theorem dX7_sturmDegree_1 : decode cX7_sturmDegree 1 = .ok (.invokestatic 228, 3) := by decide +kernel
theorem dX7_sturmDegree_4 : decode cX7_sturmDegree 4 = .ok (.ifCond .ne 9, 3) := by decide +kernel
theorem dX7_sturmDegree_7 : decode cX7_sturmDegree 7 = .ok (.aload_n 0, 1) := by decide +kernel
theorem dX7_sturmDegree_8 : decode cX7_sturmDegree 8 = .ok (.iconst 1, 1) := by decide +kernel
theorem dX7_sturmDegree_9 : decode cX7_sturmDegree 9 = .ok (.invokevirtual 212, 3) := by decide +kernel
theorem dX7_sturmDegree_12 : decode cX7_sturmDegree 12 = .ok (.ireturn, 1) := by decide +kernel
theorem dX7_sturmDegree_13 : decode cX7_sturmDegree 13 = .ok (.aload_n 0, 1) := by decide +kernel
theorem dX7_sturmDegree_14 : decode cX7_sturmDegree 14 = .ok (.iload_n 1, 1) := by decide +kernel
theorem dX7_sturmDegree_15 : decode cX7_sturmDegree 15 = .ok (.invokevirtual 244, 3) := by decide +kernel
theorem dX7_sturmDegree_18 : decode cX7_sturmDegree 18 = .ok (.ifCond .eq 9, 3) := by decide +kernel
theorem dX7_sturmDegree_21 : decode cX7_sturmDegree 21 = .ok (.aload_n 0, 1) := by decide +kernel
theorem dX7_sturmDegree_22 : decode cX7_sturmDegree 22 = .ok (.iconst 2, 1) := by decide +kernel
theorem dX7_sturmDegree_23 : decode cX7_sturmDegree 23 = .ok (.invokevirtual 212, 3) := by decide +kernel
theorem dX7_sturmDegree_26 : decode cX7_sturmDegree 26 = .ok (.ireturn, 1) := by decide +kernel
theorem dX7_sturmDegree_27 : decode cX7_sturmDegree 27 = .ok (.aload_n 0, 1) := by decide +kernel
theorem dX7_sturmDegree_28 : decode cX7_sturmDegree 28 = .ok (.iload_n 1, 1) := by decide +kernel
theorem dX7_sturmDegree_29 : decode cX7_sturmDegree 29 = .ok (.invokevirtual 253, 3) := by decide +kernel
theorem dX7_sturmDegree_32 : decode cX7_sturmDegree 32 = .ok (.iload_n 2, 1) := by decide +kernel
theorem dX7_sturmDegree_33 : decode cX7_sturmDegree 33 = .ok (.iconst 0, 1) := by decide +kernel
theorem dX7_sturmDegree_34 : decode cX7_sturmDegree 34 = .ok (.aload_n 0, 1) := by decide +kernel
theorem dX7_sturmDegree_35 : decode cX7_sturmDegree 35 = .ok (.getfield 250, 3) := by decide +kernel
theorem dX7_sturmDegree_38 : decode cX7_sturmDegree 38 = .ok (.iconst 1, 1) := by decide +kernel
theorem dX7_sturmDegree_39 : decode cX7_sturmDegree 39 = .ok (.isub, 1) := by decide +kernel
theorem dX7_sturmDegree_40 : decode cX7_sturmDegree 40 = .ok (.invokestatic 232, 3) := by decide +kernel
theorem dX7_sturmDegree_43 : decode cX7_sturmDegree 43 = .ok (.ifCond .eq 19, 3) := by decide +kernel
theorem dX7_sturmDegree_46 : decode cX7_sturmDegree 46 = .ok (.aload_n 0, 1) := by decide +kernel
theorem dX7_sturmDegree_47 : decode cX7_sturmDegree 47 = .ok (.aload_n 0, 1) := by decide +kernel
theorem dX7_sturmDegree_48 : decode cX7_sturmDegree 48 = .ok (.getfield 66, 3) := by decide +kernel
theorem dX7_sturmDegree_51 : decode cX7_sturmDegree 51 = .ok (.iload_n 2, 1) := by decide +kernel
theorem dX7_sturmDegree_52 : decode cX7_sturmDegree 52 = .ok (.aaload, 1) := by decide +kernel
theorem dX7_sturmDegree_53 : decode cX7_sturmDegree 53 = .ok (.invokestatic 166, 3) := by decide +kernel
theorem dX7_sturmDegree_56 : decode cX7_sturmDegree 56 = .ok (.invokevirtual 217, 3) := by decide +kernel
theorem dX7_sturmDegree_59 : decode cX7_sturmDegree 59 = .ok (.goto 8, 3) := by decide +kernel
theorem dX7_sturmDegree_62 : decode cX7_sturmDegree 62 = .ok (.aload_n 0, 1) := by decide +kernel
theorem dX7_sturmDegree_63 : decode cX7_sturmDegree 63 = .ok (.iconst 3, 1) := by decide +kernel
theorem dX7_sturmDegree_64 : decode cX7_sturmDegree 64 = .ok (.invokevirtual 212, 3) := by decide +kernel
theorem dX7_sturmDegree_67 : decode cX7_sturmDegree 67 = .ok (.ireturn, 1) := by decide +kernel
theorem dX7_isPoint_0 : decode cX7_isPoint 0 = .ok (.iload_n 0, 1) := by decide +kernel
theorem dX7_isPoint_1 : decode cX7_isPoint 1 = .ok (.ldc_w 257, 3) := by decide +kernel
theorem dX7_isPoint_4 : decode cX7_isPoint 4 = .ok (.ldc_w 258, 3) := by decide +kernel
theorem dX7_isPoint_7 : decode cX7_isPoint 7 = .ok (.invokestatic 232, 3) := by decide +kernel
theorem dX7_isPoint_10 : decode cX7_isPoint 10 = .ok (.ifCond .eq 17, 3) := by decide +kernel
theorem dX7_isPoint_13 : decode cX7_isPoint 13 = .ok (.iload_n 1, 1) := by decide +kernel
theorem dX7_isPoint_14 : decode cX7_isPoint 14 = .ok (.iconst 0, 1) := by decide +kernel
theorem dX7_isPoint_15 : decode cX7_isPoint 15 = .ok (.bipush 12, 2) := by decide +kernel
theorem dX7_isPoint_17 : decode cX7_isPoint 17 = .ok (.invokestatic 232, 3) := by decide +kernel
theorem dX7_isPoint_20 : decode cX7_isPoint 20 = .ok (.ifCond .eq 7, 3) := by decide +kernel
theorem dX7_isPoint_23 : decode cX7_isPoint 23 = .ok (.iconst 1, 1) := by decide +kernel
theorem dX7_isPoint_24 : decode cX7_isPoint 24 = .ok (.goto 4, 3) := by decide +kernel
theorem dX7_isPoint_27 : decode cX7_isPoint 27 = .ok (.iconst 0, 1) := by decide +kernel
theorem dX7_isPoint_28 : decode cX7_isPoint 28 = .ok (.ireturn, 1) := by decide +kernel
theorem dX7_signChanges_0 : decode cX7_signChanges 0 = .ok (.iload_n 1, 1) := by decide +kernel
theorem dX7_signChanges_1 : decode cX7_signChanges 1 = .ok (.invokestatic 228, 3) := by decide +kernel
theorem dX7_signChanges_4 : decode cX7_signChanges 4 = .ok (.ifCond .ne 9, 3) := by decide +kernel
theorem dX7_signChanges_7 : decode cX7_signChanges 7 = .ok (.aload_n 0, 1) := by decide +kernel
theorem dX7_signChanges_8 : decode cX7_signChanges 8 = .ok (.iconst 1, 1) := by decide +kernel
theorem dX7_signChanges_9 : decode cX7_signChanges 9 = .ok (.invokevirtual 212, 3) := by decide +kernel
theorem dX7_signChanges_12 : decode cX7_signChanges 12 = .ok (.ireturn, 1) := by decide +kernel
theorem dX7_signChanges_13 : decode cX7_signChanges 13 = .ok (.iload_n 2, 1) := by decide +kernel
theorem dX7_signChanges_14 : decode cX7_signChanges 14 = .ok (.iload_n 3, 1) := by decide +kernel
theorem dX7_signChanges_15 : decode cX7_signChanges 15 = .ok (.invokestatic 259, 3) := by decide +kernel
theorem dX7_signChanges_18 : decode cX7_signChanges 18 = .ok (.ifCond .ne 9, 3) := by decide +kernel
theorem dX7_signChanges_21 : decode cX7_signChanges 21 = .ok (.aload_n 0, 1) := by decide +kernel
theorem dX7_signChanges_22 : decode cX7_signChanges 22 = .ok (.iconst 2, 1) := by decide +kernel
theorem dX7_signChanges_23 : decode cX7_signChanges 23 = .ok (.invokevirtual 212, 3) := by decide +kernel
theorem dX7_signChanges_26 : decode cX7_signChanges 26 = .ok (.ireturn, 1) := by decide +kernel
theorem dX7_signChanges_27 : decode cX7_signChanges 27 = .ok (.aload_n 0, 1) := by decide +kernel
theorem dX7_signChanges_28 : decode cX7_signChanges 28 = .ok (.iload_n 1, 1) := by decide +kernel
theorem dX7_signChanges_29 : decode cX7_signChanges 29 = .ok (.invokevirtual 244, 3) := by decide +kernel
theorem dX7_signChanges_32 : decode cX7_signChanges 32 = .ok (.ifCond .eq 9, 3) := by decide +kernel
theorem dX7_signChanges_35 : decode cX7_signChanges 35 = .ok (.aload_n 0, 1) := by decide +kernel
theorem dX7_signChanges_36 : decode cX7_signChanges 36 = .ok (.iconst 3, 1) := by decide +kernel
theorem dX7_signChanges_37 : decode cX7_signChanges 37 = .ok (.invokevirtual 212, 3) := by decide +kernel
theorem dX7_signChanges_40 : decode cX7_signChanges 40 = .ok (.ireturn, 1) := by decide +kernel
theorem dX7_signChanges_41 : decode cX7_signChanges 41 = .ok (.aload_n 0, 1) := by decide +kernel
theorem dX7_signChanges_42 : decode cX7_signChanges 42 = .ok (.iload_n 1, 1) := by decide +kernel
theorem dX7_signChanges_43 : decode cX7_signChanges 43 = .ok (.invokevirtual 253, 3) := by decide +kernel
theorem dX7_signChanges_46 : decode cX7_signChanges 46 = .ok (.iconst 0, 1) := by decide +kernel
theorem dX7_signChanges_47 : decode cX7_signChanges 47 = .ok (.istore 4, 2) := by decide +kernel
theorem dX7_signChanges_49 : decode cX7_signChanges 49 = .ok (.iconst 0, 1) := by decide +kernel
theorem dX7_signChanges_50 : decode cX7_signChanges 50 = .ok (.istore 5, 2) := by decide +kernel
theorem dX7_signChanges_52 : decode cX7_signChanges 52 = .ok (.iconst 0, 1) := by decide +kernel
theorem dX7_signChanges_53 : decode cX7_signChanges 53 = .ok (.istore 6, 2) := by decide +kernel
theorem dX7_signChanges_55 : decode cX7_signChanges 55 = .ok (.iload 6, 2) := by decide +kernel
theorem dX7_signChanges_57 : decode cX7_signChanges 57 = .ok (.aload_n 0, 1) := by decide +kernel
theorem dX7_signChanges_58 : decode cX7_signChanges 58 = .ok (.getfield 250, 3) := by decide +kernel
theorem dX7_signChanges_61 : decode cX7_signChanges 61 = .ok (.if_icmp .ge 66, 3) := by decide +kernel
theorem dX7_signChanges_64 : decode cX7_signChanges 64 = .ok (.aload_n 0, 1) := by decide +kernel
theorem dX7_signChanges_65 : decode cX7_signChanges 65 = .ok (.aload_n 0, 1) := by decide +kernel
theorem dX7_signChanges_66 : decode cX7_signChanges 66 = .ok (.getfield 66, 3) := by decide +kernel
theorem dX7_signChanges_69 : decode cX7_signChanges 69 = .ok (.iload 6, 2) := by decide +kernel
theorem dX7_signChanges_71 : decode cX7_signChanges 71 = .ok (.aaload, 1) := by decide +kernel
theorem dX7_signChanges_72 : decode cX7_signChanges 72 = .ok (.iload_n 2, 1) := by decide +kernel
theorem dX7_signChanges_73 : decode cX7_signChanges 73 = .ok (.i2l, 1) := by decide +kernel
theorem dX7_signChanges_74 : decode cX7_signChanges 74 = .ok (.iload_n 3, 1) := by decide +kernel
theorem dX7_signChanges_75 : decode cX7_signChanges 75 = .ok (.invokevirtual 263, 3) := by decide +kernel
theorem dX7_signChanges_78 : decode cX7_signChanges 78 = .ok (.istore 7, 2) := by decide +kernel
theorem dX7_signChanges_80 : decode cX7_signChanges 80 = .ok (.iload 4, 2) := by decide +kernel
theorem dX7_signChanges_82 : decode cX7_signChanges 82 = .ok (.iload 7, 2) := by decide +kernel
theorem dX7_signChanges_84 : decode cX7_signChanges 84 = .ok (.ifCond .eq 19, 3) := by decide +kernel
theorem dX7_signChanges_87 : decode cX7_signChanges 87 = .ok (.iload 5, 2) := by decide +kernel
theorem dX7_signChanges_89 : decode cX7_signChanges 89 = .ok (.ifCond .eq 14, 3) := by decide +kernel
theorem dX7_signChanges_92 : decode cX7_signChanges 92 = .ok (.iload 7, 2) := by decide +kernel
theorem dX7_signChanges_94 : decode cX7_signChanges 94 = .ok (.iload 5, 2) := by decide +kernel
theorem dX7_signChanges_96 : decode cX7_signChanges 96 = .ok (.if_icmp .eq 7, 3) := by decide +kernel
theorem dX7_signChanges_99 : decode cX7_signChanges 99 = .ok (.iconst 1, 1) := by decide +kernel
theorem dX7_signChanges_100 : decode cX7_signChanges 100 = .ok (.goto 4, 3) := by decide +kernel
theorem dX7_signChanges_103 : decode cX7_signChanges 103 = .ok (.iconst 0, 1) := by decide +kernel
theorem dX7_signChanges_104 : decode cX7_signChanges 104 = .ok (.iadd, 1) := by decide +kernel
theorem dX7_signChanges_105 : decode cX7_signChanges 105 = .ok (.istore 4, 2) := by decide +kernel
theorem dX7_signChanges_107 : decode cX7_signChanges 107 = .ok (.iload 7, 2) := by decide +kernel
theorem dX7_signChanges_109 : decode cX7_signChanges 109 = .ok (.ifCond .ne 8, 3) := by decide +kernel
theorem dX7_signChanges_112 : decode cX7_signChanges 112 = .ok (.iload 5, 2) := by decide +kernel
theorem dX7_signChanges_114 : decode cX7_signChanges 114 = .ok (.goto 5, 3) := by decide +kernel
theorem dX7_signChanges_117 : decode cX7_signChanges 117 = .ok (.iload 7, 2) := by decide +kernel
theorem dX7_signChanges_119 : decode cX7_signChanges 119 = .ok (.istore 5, 2) := by decide +kernel
theorem dX7_signChanges_121 : decode cX7_signChanges 121 = .ok (.iinc 6 1, 3) := by decide +kernel
theorem dX7_signChanges_124 : decode cX7_signChanges 124 = .ok (.goto (-69), 3) := by decide +kernel
theorem dX7_signChanges_127 : decode cX7_signChanges 127 = .ok (.aload_n 0, 1) := by decide +kernel
theorem dX7_signChanges_128 : decode cX7_signChanges 128 = .ok (.iload 4, 2) := by decide +kernel
theorem dX7_signChanges_130 : decode cX7_signChanges 130 = .ok (.invokevirtual 217, 3) := by decide +kernel
theorem dX7_signChanges_133 : decode cX7_signChanges 133 = .ok (.ireturn, 1) := by decide +kernel
theorem dX7_sign__0 : decode cX7_sign_ 0 = .ok (.iload_n 1, 1) := by decide +kernel
theorem dX7_sign__1 : decode cX7_sign_ 1 = .ok (.invokestatic 228, 3) := by decide +kernel
theorem dX7_sign__4 : decode cX7_sign_ 4 = .ok (.ifCond .ne 9, 3) := by decide +kernel
theorem dX7_sign__7 : decode cX7_sign_ 7 = .ok (.aload_n 0, 1) := by decide +kernel
theorem dX7_sign__8 : decode cX7_sign_ 8 = .ok (.iconst 1, 1) := by decide +kernel
theorem dX7_sign__9 : decode cX7_sign_ 9 = .ok (.invokevirtual 212, 3) := by decide +kernel
theorem dX7_sign__12 : decode cX7_sign_ 12 = .ok (.ireturn, 1) := by decide +kernel
theorem dX7_sign__13 : decode cX7_sign_ 13 = .ok (.iload_n 2, 1) := by decide +kernel
theorem dX7_sign__14 : decode cX7_sign_ 14 = .ok (.iload_n 3, 1) := by decide +kernel
theorem dX7_sign__15 : decode cX7_sign_ 15 = .ok (.invokestatic 259, 3) := by decide +kernel
theorem dX7_sign__18 : decode cX7_sign_ 18 = .ok (.ifCond .ne 9, 3) := by decide +kernel
theorem dX7_sign__21 : decode cX7_sign_ 21 = .ok (.aload_n 0, 1) := by decide +kernel
theorem dX7_sign__22 : decode cX7_sign_ 22 = .ok (.iconst 2, 1) := by decide +kernel
theorem dX7_sign__23 : decode cX7_sign_ 23 = .ok (.invokevirtual 212, 3) := by decide +kernel
theorem dX7_sign__26 : decode cX7_sign_ 26 = .ok (.ireturn, 1) := by decide +kernel
theorem dX7_sign__27 : decode cX7_sign_ 27 = .ok (.aload_n 0, 1) := by decide +kernel
theorem dX7_sign__28 : decode cX7_sign_ 28 = .ok (.getfield 11, 3) := by decide +kernel
theorem dX7_sign__31 : decode cX7_sign_ 31 = .ok (.iload_n 1, 1) := by decide +kernel
theorem dX7_sign__32 : decode cX7_sign_ 32 = .ok (.aaload, 1) := by decide +kernel
theorem dX7_sign__33 : decode cX7_sign_ 33 = .ok (.aload_n 0, 1) := by decide +kernel
theorem dX7_sign__34 : decode cX7_sign_ 34 = .ok (.getfield 63, 3) := by decide +kernel
theorem dX7_sign__37 : decode cX7_sign_ 37 = .ok (.invokestatic 236, 3) := by decide +kernel
theorem dX7_sign__40 : decode cX7_sign_ 40 = .ok (.aload_n 0, 1) := by decide +kernel
theorem dX7_sign__41 : decode cX7_sign_ 41 = .ok (.aload_n 0, 1) := by decide +kernel
theorem dX7_sign__42 : decode cX7_sign_ 42 = .ok (.aload_n 0, 1) := by decide +kernel
theorem dX7_sign__43 : decode cX7_sign_ 43 = .ok (.getfield 63, 3) := by decide +kernel
theorem dX7_sign__46 : decode cX7_sign_ 46 = .ok (.iload_n 2, 1) := by decide +kernel
theorem dX7_sign__47 : decode cX7_sign_ 47 = .ok (.i2l, 1) := by decide +kernel
theorem dX7_sign__48 : decode cX7_sign_ 48 = .ok (.iload_n 3, 1) := by decide +kernel
theorem dX7_sign__49 : decode cX7_sign_ 49 = .ok (.invokevirtual 263, 3) := by decide +kernel
theorem dX7_sign__52 : decode cX7_sign_ 52 = .ok (.invokevirtual 217, 3) := by decide +kernel
theorem dX7_sign__55 : decode cX7_sign_ 55 = .ok (.ireturn, 1) := by decide +kernel
theorem dX7_refused_0 : decode cX7_refused 0 = .ok (.iload_n 1, 1) := by decide +kernel
theorem dX7_refused_1 : decode cX7_refused 1 = .ok (.invokestatic 228, 3) := by decide +kernel
theorem dX7_refused_4 : decode cX7_refused 4 = .ok (.ifCond .ne 5, 3) := by decide +kernel
theorem dX7_refused_7 : decode cX7_refused 7 = .ok (.iconst 1, 1) := by decide +kernel
theorem dX7_refused_8 : decode cX7_refused 8 = .ok (.ireturn, 1) := by decide +kernel
theorem dX7_refused_9 : decode cX7_refused 9 = .ok (.iload_n 2, 1) := by decide +kernel
theorem dX7_refused_10 : decode cX7_refused 10 = .ok (.iload_n 3, 1) := by decide +kernel
theorem dX7_refused_11 : decode cX7_refused 11 = .ok (.invokestatic 259, 3) := by decide +kernel
theorem dX7_refused_14 : decode cX7_refused 14 = .ok (.ifCond .eq 27, 3) := by decide +kernel
theorem dX7_refused_17 : decode cX7_refused 17 = .ok (.iload 4, 2) := by decide +kernel
theorem dX7_refused_19 : decode cX7_refused 19 = .ok (.iload 5, 2) := by decide +kernel
theorem dX7_refused_21 : decode cX7_refused 21 = .ok (.invokestatic 259, 3) := by decide +kernel
theorem dX7_refused_24 : decode cX7_refused 24 = .ok (.ifCond .eq 17, 3) := by decide +kernel
theorem dX7_refused_27 : decode cX7_refused 27 = .ok (.iload_n 2, 1) := by decide +kernel
theorem dX7_refused_28 : decode cX7_refused 28 = .ok (.i2l, 1) := by decide +kernel
theorem dX7_refused_29 : decode cX7_refused 29 = .ok (.iload 5, 2) := by decide +kernel
theorem dX7_refused_31 : decode cX7_refused 31 = .ok (.lshl, 1) := by decide +kernel
theorem dX7_refused_32 : decode cX7_refused 32 = .ok (.iload 4, 2) := by decide +kernel
theorem dX7_refused_34 : decode cX7_refused 34 = .ok (.i2l, 1) := by decide +kernel
theorem dX7_refused_35 : decode cX7_refused 35 = .ok (.iload_n 3, 1) := by decide +kernel
theorem dX7_refused_36 : decode cX7_refused 36 = .ok (.lshl, 1) := by decide +kernel
theorem dX7_refused_37 : decode cX7_refused 37 = .ok (.lcmp, 1) := by decide +kernel
theorem dX7_refused_38 : decode cX7_refused 38 = .ok (.ifCond .lt 5, 3) := by decide +kernel
theorem dX7_refused_41 : decode cX7_refused 41 = .ok (.iconst 2, 1) := by decide +kernel
theorem dX7_refused_42 : decode cX7_refused 42 = .ok (.ireturn, 1) := by decide +kernel
theorem dX7_refused_43 : decode cX7_refused 43 = .ok (.aload_n 0, 1) := by decide +kernel
theorem dX7_refused_44 : decode cX7_refused 44 = .ok (.iload_n 1, 1) := by decide +kernel
theorem dX7_refused_45 : decode cX7_refused 45 = .ok (.invokevirtual 244, 3) := by decide +kernel
theorem dX7_refused_48 : decode cX7_refused 48 = .ok (.ifCond .eq 5, 3) := by decide +kernel
theorem dX7_refused_51 : decode cX7_refused 51 = .ok (.iconst 3, 1) := by decide +kernel
theorem dX7_refused_52 : decode cX7_refused 52 = .ok (.ireturn, 1) := by decide +kernel
theorem dX7_refused_53 : decode cX7_refused 53 = .ok (.aload_n 0, 1) := by decide +kernel
theorem dX7_refused_54 : decode cX7_refused 54 = .ok (.getfield 11, 3) := by decide +kernel
theorem dX7_refused_57 : decode cX7_refused 57 = .ok (.iload_n 1, 1) := by decide +kernel
theorem dX7_refused_58 : decode cX7_refused 58 = .ok (.aaload, 1) := by decide +kernel
theorem dX7_refused_59 : decode cX7_refused 59 = .ok (.aload_n 0, 1) := by decide +kernel
theorem dX7_refused_60 : decode cX7_refused 60 = .ok (.getfield 63, 3) := by decide +kernel
theorem dX7_refused_63 : decode cX7_refused 63 = .ok (.invokestatic 236, 3) := by decide +kernel
theorem dX7_refused_66 : decode cX7_refused 66 = .ok (.aload_n 0, 1) := by decide +kernel
theorem dX7_refused_67 : decode cX7_refused 67 = .ok (.aload_n 0, 1) := by decide +kernel
theorem dX7_refused_68 : decode cX7_refused 68 = .ok (.getfield 63, 3) := by decide +kernel
theorem dX7_refused_71 : decode cX7_refused 71 = .ok (.iload_n 2, 1) := by decide +kernel
theorem dX7_refused_72 : decode cX7_refused 72 = .ok (.i2l, 1) := by decide +kernel
theorem dX7_refused_73 : decode cX7_refused 73 = .ok (.iload_n 3, 1) := by decide +kernel
theorem dX7_refused_74 : decode cX7_refused 74 = .ok (.invokevirtual 263, 3) := by decide +kernel
theorem dX7_refused_77 : decode cX7_refused 77 = .ok (.ifCond .eq 19, 3) := by decide +kernel
theorem dX7_refused_80 : decode cX7_refused 80 = .ok (.aload_n 0, 1) := by decide +kernel
theorem dX7_refused_81 : decode cX7_refused 81 = .ok (.aload_n 0, 1) := by decide +kernel
theorem dX7_refused_82 : decode cX7_refused 82 = .ok (.getfield 63, 3) := by decide +kernel
theorem dX7_refused_85 : decode cX7_refused 85 = .ok (.iload 4, 2) := by decide +kernel
theorem dX7_refused_87 : decode cX7_refused 87 = .ok (.i2l, 1) := by decide +kernel
theorem dX7_refused_88 : decode cX7_refused 88 = .ok (.iload 5, 2) := by decide +kernel
theorem dX7_refused_90 : decode cX7_refused 90 = .ok (.invokevirtual 263, 3) := by decide +kernel
theorem dX7_refused_93 : decode cX7_refused 93 = .ok (.ifCond .ne 7, 3) := by decide +kernel
theorem dX7_refused_96 : decode cX7_refused 96 = .ok (.iconst 4, 1) := by decide +kernel
theorem dX7_refused_97 : decode cX7_refused 97 = .ok (.goto 4, 3) := by decide +kernel
theorem dX7_refused_100 : decode cX7_refused 100 = .ok (.iconst 0, 1) := by decide +kernel
theorem dX7_refused_101 : decode cX7_refused 101 = .ok (.ireturn, 1) := by decide +kernel
theorem dX7_distinct_0 : decode cX7_distinct 0 = .ok (.iload_n 2, 1) := by decide +kernel
theorem dX7_distinct_1 : decode cX7_distinct 1 = .ok (.iload 4, 2) := by decide +kernel
theorem dX7_distinct_3 : decode cX7_distinct 3 = .ok (.invokestatic 117, 3) := by decide +kernel
theorem dX7_distinct_6 : decode cX7_distinct 6 = .ok (.istore 5, 2) := by decide +kernel
theorem dX7_distinct_8 : decode cX7_distinct 8 = .ok (.aload_n 0, 1) := by decide +kernel
theorem dX7_distinct_9 : decode cX7_distinct 9 = .ok (.aload_n 0, 1) := by decide +kernel
theorem dX7_distinct_10 : decode cX7_distinct 10 = .ok (.getfield 63, 3) := by decide +kernel
theorem dX7_distinct_13 : decode cX7_distinct 13 = .ok (.invokevirtual 247, 3) := by decide +kernel
theorem dX7_distinct_16 : decode cX7_distinct 16 = .ok (.aload_n 0, 1) := by decide +kernel
theorem dX7_distinct_17 : decode cX7_distinct 17 = .ok (.aload_n 0, 1) := by decide +kernel
theorem dX7_distinct_18 : decode cX7_distinct 18 = .ok (.getfield 45, 3) := by decide +kernel
theorem dX7_distinct_21 : decode cX7_distinct 21 = .ok (.iload_n 1, 1) := by decide +kernel
theorem dX7_distinct_22 : decode cX7_distinct 22 = .ok (.i2l, 1) := by decide +kernel
theorem dX7_distinct_23 : decode cX7_distinct 23 = .ok (.iload 5, 2) := by decide +kernel
theorem dX7_distinct_25 : decode cX7_distinct 25 = .ok (.iload_n 2, 1) := by decide +kernel
theorem dX7_distinct_26 : decode cX7_distinct 26 = .ok (.isub, 1) := by decide +kernel
theorem dX7_distinct_27 : decode cX7_distinct 27 = .ok (.lshl, 1) := by decide +kernel
theorem dX7_distinct_28 : decode cX7_distinct 28 = .ok (.iload_n 3, 1) := by decide +kernel
theorem dX7_distinct_29 : decode cX7_distinct 29 = .ok (.i2l, 1) := by decide +kernel
theorem dX7_distinct_30 : decode cX7_distinct 30 = .ok (.iload 5, 2) := by decide +kernel
theorem dX7_distinct_32 : decode cX7_distinct 32 = .ok (.iload 4, 2) := by decide +kernel
theorem dX7_distinct_34 : decode cX7_distinct 34 = .ok (.isub, 1) := by decide +kernel
theorem dX7_distinct_35 : decode cX7_distinct 35 = .ok (.lshl, 1) := by decide +kernel
theorem dX7_distinct_36 : decode cX7_distinct 36 = .ok (.iload 5, 2) := by decide +kernel
theorem dX7_distinct_38 : decode cX7_distinct 38 = .ok (.invokevirtual 267, 3) := by decide +kernel
theorem dX7_distinct_41 : decode cX7_distinct 41 = .ok (.ireturn, 1) := by decide +kernel
theorem dX7_countDistinct_0 : decode cX7_countDistinct 0 = .ok (.aload_n 0, 1) := by decide +kernel
theorem dX7_countDistinct_1 : decode cX7_countDistinct 1 = .ok (.iload_n 1, 1) := by decide +kernel
theorem dX7_countDistinct_2 : decode cX7_countDistinct 2 = .ok (.iload_n 2, 1) := by decide +kernel
theorem dX7_countDistinct_3 : decode cX7_countDistinct 3 = .ok (.iload_n 3, 1) := by decide +kernel
theorem dX7_countDistinct_4 : decode cX7_countDistinct 4 = .ok (.iload 4, 2) := by decide +kernel
theorem dX7_countDistinct_6 : decode cX7_countDistinct 6 = .ok (.iload 5, 2) := by decide +kernel
theorem dX7_countDistinct_8 : decode cX7_countDistinct 8 = .ok (.invokevirtual 271, 3) := by decide +kernel
theorem dX7_countDistinct_11 : decode cX7_countDistinct 11 = .ok (.istore 6, 2) := by decide +kernel
theorem dX7_countDistinct_13 : decode cX7_countDistinct 13 = .ok (.iload 6, 2) := by decide +kernel
theorem dX7_countDistinct_15 : decode cX7_countDistinct 15 = .ok (.ifCond .le 12, 3) := by decide +kernel
theorem dX7_countDistinct_18 : decode cX7_countDistinct 18 = .ok (.aload_n 0, 1) := by decide +kernel
theorem dX7_countDistinct_19 : decode cX7_countDistinct 19 = .ok (.iload 6, 2) := by decide +kernel
theorem dX7_countDistinct_21 : decode cX7_countDistinct 21 = .ok (.invokevirtual 212, 3) := by decide +kernel
theorem dX7_countDistinct_24 : decode cX7_countDistinct 24 = .ok (.goto 17, 3) := by decide +kernel
theorem dX7_countDistinct_27 : decode cX7_countDistinct 27 = .ok (.aload_n 0, 1) := by decide +kernel
theorem dX7_countDistinct_28 : decode cX7_countDistinct 28 = .ok (.aload_n 0, 1) := by decide +kernel
theorem dX7_countDistinct_29 : decode cX7_countDistinct 29 = .ok (.iload_n 2, 1) := by decide +kernel
theorem dX7_countDistinct_30 : decode cX7_countDistinct 30 = .ok (.iload_n 3, 1) := by decide +kernel
theorem dX7_countDistinct_31 : decode cX7_countDistinct 31 = .ok (.iload 4, 2) := by decide +kernel
theorem dX7_countDistinct_33 : decode cX7_countDistinct 33 = .ok (.iload 5, 2) := by decide +kernel
theorem dX7_countDistinct_35 : decode cX7_countDistinct 35 = .ok (.invokevirtual 275, 3) := by decide +kernel
theorem dX7_countDistinct_38 : decode cX7_countDistinct 38 = .ok (.invokevirtual 217, 3) := by decide +kernel
theorem dX7_countDistinct_41 : decode cX7_countDistinct 41 = .ok (.ireturn, 1) := by decide +kernel
theorem dX7_countAll_0 : decode cX7_countAll 0 = .ok (.aload_n 0, 1) := by decide +kernel
theorem dX7_countAll_1 : decode cX7_countAll 1 = .ok (.iload_n 1, 1) := by decide +kernel
theorem dX7_countAll_2 : decode cX7_countAll 2 = .ok (.iload_n 2, 1) := by decide +kernel
theorem dX7_countAll_3 : decode cX7_countAll 3 = .ok (.iload_n 3, 1) := by decide +kernel
theorem dX7_countAll_4 : decode cX7_countAll 4 = .ok (.iload 4, 2) := by decide +kernel
theorem dX7_countAll_6 : decode cX7_countAll 6 = .ok (.iload 5, 2) := by decide +kernel
theorem dX7_countAll_8 : decode cX7_countAll 8 = .ok (.invokevirtual 271, 3) := by decide +kernel
theorem dX7_countAll_11 : decode cX7_countAll 11 = .ok (.istore 6, 2) := by decide +kernel
theorem dX7_countAll_13 : decode cX7_countAll 13 = .ok (.iload 6, 2) := by decide +kernel
theorem dX7_countAll_15 : decode cX7_countAll 15 = .ok (.ifCond .le 10, 3) := by decide +kernel
theorem dX7_countAll_18 : decode cX7_countAll 18 = .ok (.aload_n 0, 1) := by decide +kernel
theorem dX7_countAll_19 : decode cX7_countAll 19 = .ok (.iload 6, 2) := by decide +kernel
theorem dX7_countAll_21 : decode cX7_countAll 21 = .ok (.invokevirtual 212, 3) := by decide +kernel
theorem dX7_countAll_24 : decode cX7_countAll 24 = .ok (.ireturn, 1) := by decide +kernel
theorem dX7_countAll_25 : decode cX7_countAll 25 = .ok (.iconst 0, 1) := by decide +kernel
theorem dX7_countAll_26 : decode cX7_countAll 26 = .ok (.istore 7, 2) := by decide +kernel
theorem dX7_countAll_28 : decode cX7_countAll 28 = .ok (.aload_n 0, 1) := by decide +kernel
theorem dX7_countAll_29 : decode cX7_countAll 29 = .ok (.getfield 63, 3) := by decide +kernel
theorem dX7_countAll_32 : decode cX7_countAll 32 = .ok (.invokestatic 166, 3) := by decide +kernel
theorem dX7_countAll_35 : decode cX7_countAll 35 = .ok (.ifCond .le 32, 3) := by decide +kernel
theorem dX7_countAll_38 : decode cX7_countAll 38 = .ok (.iload 7, 2) := by decide +kernel
theorem dX7_countAll_40 : decode cX7_countAll 40 = .ok (.aload_n 0, 1) := by decide +kernel
theorem dX7_countAll_41 : decode cX7_countAll 41 = .ok (.iload_n 2, 1) := by decide +kernel
theorem dX7_countAll_42 : decode cX7_countAll 42 = .ok (.iload_n 3, 1) := by decide +kernel
theorem dX7_countAll_43 : decode cX7_countAll 43 = .ok (.iload 4, 2) := by decide +kernel
theorem dX7_countAll_45 : decode cX7_countAll 45 = .ok (.iload 5, 2) := by decide +kernel
theorem dX7_countAll_47 : decode cX7_countAll 47 = .ok (.invokevirtual 275, 3) := by decide +kernel
theorem dX7_countAll_50 : decode cX7_countAll 50 = .ok (.iadd, 1) := by decide +kernel
theorem dX7_countAll_51 : decode cX7_countAll 51 = .ok (.istore 7, 2) := by decide +kernel
theorem dX7_countAll_53 : decode cX7_countAll 53 = .ok (.aload_n 0, 1) := by decide +kernel
theorem dX7_countAll_54 : decode cX7_countAll 54 = .ok (.getfield 42, 3) := by decide +kernel
theorem dX7_countAll_57 : decode cX7_countAll 57 = .ok (.aload_n 0, 1) := by decide +kernel
theorem dX7_countAll_58 : decode cX7_countAll 58 = .ok (.getfield 63, 3) := by decide +kernel
theorem dX7_countAll_61 : decode cX7_countAll 61 = .ok (.invokestatic 186, 3) := by decide +kernel
theorem dX7_countAll_64 : decode cX7_countAll 64 = .ok (.goto (-36), 3) := by decide +kernel
theorem dX7_countAll_67 : decode cX7_countAll 67 = .ok (.aload_n 0, 1) := by decide +kernel
theorem dX7_countAll_68 : decode cX7_countAll 68 = .ok (.iload 7, 2) := by decide +kernel
theorem dX7_countAll_70 : decode cX7_countAll 70 = .ok (.invokevirtual 217, 3) := by decide +kernel
theorem dX7_countAll_73 : decode cX7_countAll 73 = .ok (.ireturn, 1) := by decide +kernel
theorem dX7_bound_0 : decode cX7_bound 0 = .ok (.aload_n 0, 1) := by decide +kernel
theorem dX7_bound_1 : decode cX7_bound 1 = .ok (.invokestatic 215, 3) := by decide +kernel
theorem dX7_bound_4 : decode cX7_bound 4 = .ok (.istore_n 1, 1) := by decide +kernel
theorem dX7_bound_5 : decode cX7_bound 5 = .ok (.iconst 1, 1) := by decide +kernel
theorem dX7_bound_6 : decode cX7_bound 6 = .ok (.istore_n 2, 1) := by decide +kernel
theorem dX7_bound_7 : decode cX7_bound 7 = .ok (.iconst 0, 1) := by decide +kernel
theorem dX7_bound_8 : decode cX7_bound 8 = .ok (.istore_n 3, 1) := by decide +kernel
theorem dX7_bound_9 : decode cX7_bound 9 = .ok (.iconst 0, 1) := by decide +kernel
theorem dX7_bound_10 : decode cX7_bound 10 = .ok (.istore 4, 2) := by decide +kernel
theorem dX7_bound_12 : decode cX7_bound 12 = .ok (.iload 4, 2) := by decide +kernel
theorem dX7_bound_14 : decode cX7_bound 14 = .ok (.iload_n 1, 1) := by decide +kernel
theorem dX7_bound_15 : decode cX7_bound 15 = .ok (.if_icmp .ge 21, 3) := by decide +kernel
theorem dX7_bound_18 : decode cX7_bound 18 = .ok (.iload_n 3, 1) := by decide +kernel
theorem dX7_bound_19 : decode cX7_bound 19 = .ok (.aload_n 0, 1) := by decide +kernel
theorem dX7_bound_20 : decode cX7_bound 20 = .ok (.iload 4, 2) := by decide +kernel
theorem dX7_bound_22 : decode cX7_bound 22 = .ok (.iaload, 1) := by decide +kernel
theorem dX7_bound_23 : decode cX7_bound 23 = .ok (.invokestatic 279, 3) := by decide +kernel
theorem dX7_bound_26 : decode cX7_bound 26 = .ok (.invokestatic 117, 3) := by decide +kernel
theorem dX7_bound_29 : decode cX7_bound 29 = .ok (.istore_n 3, 1) := by decide +kernel
theorem dX7_bound_30 : decode cX7_bound 30 = .ok (.iinc 4 1, 3) := by decide +kernel
theorem dX7_bound_33 : decode cX7_bound 33 = .ok (.goto (-21), 3) := by decide +kernel
theorem dX7_bound_36 : decode cX7_bound 36 = .ok (.iload_n 2, 1) := by decide +kernel
theorem dX7_bound_37 : decode cX7_bound 37 = .ok (.i2l, 1) := by decide +kernel
theorem dX7_bound_38 : decode cX7_bound 38 = .ok (.lconst 1, 1) := by decide +kernel
theorem dX7_bound_39 : decode cX7_bound 39 = .ok (.lsub, 1) := by decide +kernel
theorem dX7_bound_40 : decode cX7_bound 40 = .ok (.aload_n 0, 1) := by decide +kernel
theorem dX7_bound_41 : decode cX7_bound 41 = .ok (.iload_n 1, 1) := by decide +kernel
theorem dX7_bound_42 : decode cX7_bound 42 = .ok (.iaload, 1) := by decide +kernel
theorem dX7_bound_43 : decode cX7_bound 43 = .ok (.invokestatic 279, 3) := by decide +kernel
theorem dX7_bound_46 : decode cX7_bound 46 = .ok (.i2l, 1) := by decide +kernel
theorem dX7_bound_47 : decode cX7_bound 47 = .ok (.lmul, 1) := by decide +kernel
theorem dX7_bound_48 : decode cX7_bound 48 = .ok (.iload_n 3, 1) := by decide +kernel
theorem dX7_bound_49 : decode cX7_bound 49 = .ok (.i2l, 1) := by decide +kernel
theorem dX7_bound_50 : decode cX7_bound 50 = .ok (.lcmp, 1) := by decide +kernel
theorem dX7_bound_51 : decode cX7_bound 51 = .ok (.ifCond .ge 10, 3) := by decide +kernel
theorem dX7_bound_54 : decode cX7_bound 54 = .ok (.iload_n 2, 1) := by decide +kernel
theorem dX7_bound_55 : decode cX7_bound 55 = .ok (.iconst 2, 1) := by decide +kernel
theorem dX7_bound_56 : decode cX7_bound 56 = .ok (.imul, 1) := by decide +kernel
theorem dX7_bound_57 : decode cX7_bound 57 = .ok (.istore_n 2, 1) := by decide +kernel
theorem dX7_bound_58 : decode cX7_bound 58 = .ok (.goto (-22), 3) := by decide +kernel
theorem dX7_bound_61 : decode cX7_bound 61 = .ok (.iload_n 2, 1) := by decide +kernel
theorem dX7_bound_62 : decode cX7_bound 62 = .ok (.ireturn, 1) := by decide +kernel
theorem dX7_distinctRoots_0 : decode cX7_distinctRoots 0 = .ok (.iload_n 1, 1) := by decide +kernel
theorem dX7_distinctRoots_1 : decode cX7_distinctRoots 1 = .ok (.invokestatic 228, 3) := by decide +kernel
theorem dX7_distinctRoots_4 : decode cX7_distinctRoots 4 = .ok (.ifCond .ne 9, 3) := by decide +kernel
theorem dX7_distinctRoots_7 : decode cX7_distinctRoots 7 = .ok (.aload_n 0, 1) := by decide +kernel
theorem dX7_distinctRoots_8 : decode cX7_distinctRoots 8 = .ok (.iconst 1, 1) := by decide +kernel
theorem dX7_distinctRoots_9 : decode cX7_distinctRoots 9 = .ok (.invokevirtual 212, 3) := by decide +kernel
theorem dX7_distinctRoots_12 : decode cX7_distinctRoots 12 = .ok (.ireturn, 1) := by decide +kernel
theorem dX7_distinctRoots_13 : decode cX7_distinctRoots 13 = .ok (.aload_n 0, 1) := by decide +kernel
theorem dX7_distinctRoots_14 : decode cX7_distinctRoots 14 = .ok (.iload_n 1, 1) := by decide +kernel
theorem dX7_distinctRoots_15 : decode cX7_distinctRoots 15 = .ok (.invokevirtual 244, 3) := by decide +kernel
theorem dX7_distinctRoots_18 : decode cX7_distinctRoots 18 = .ok (.ifCond .eq 9, 3) := by decide +kernel
theorem dX7_distinctRoots_21 : decode cX7_distinctRoots 21 = .ok (.aload_n 0, 1) := by decide +kernel
theorem dX7_distinctRoots_22 : decode cX7_distinctRoots 22 = .ok (.iconst 2, 1) := by decide +kernel
theorem dX7_distinctRoots_23 : decode cX7_distinctRoots 23 = .ok (.invokevirtual 212, 3) := by decide +kernel
theorem dX7_distinctRoots_26 : decode cX7_distinctRoots 26 = .ok (.ireturn, 1) := by decide +kernel
theorem dX7_distinctRoots_27 : decode cX7_distinctRoots 27 = .ok (.aload_n 0, 1) := by decide +kernel
theorem dX7_distinctRoots_28 : decode cX7_distinctRoots 28 = .ok (.getfield 11, 3) := by decide +kernel
theorem dX7_distinctRoots_31 : decode cX7_distinctRoots 31 = .ok (.iload_n 1, 1) := by decide +kernel
theorem dX7_distinctRoots_32 : decode cX7_distinctRoots 32 = .ok (.aaload, 1) := by decide +kernel
theorem dX7_distinctRoots_33 : decode cX7_distinctRoots 33 = .ok (.aload_n 0, 1) := by decide +kernel
theorem dX7_distinctRoots_34 : decode cX7_distinctRoots 34 = .ok (.getfield 63, 3) := by decide +kernel
theorem dX7_distinctRoots_37 : decode cX7_distinctRoots 37 = .ok (.invokestatic 236, 3) := by decide +kernel
theorem dX7_distinctRoots_40 : decode cX7_distinctRoots 40 = .ok (.aload_n 0, 1) := by decide +kernel
theorem dX7_distinctRoots_41 : decode cX7_distinctRoots 41 = .ok (.getfield 11, 3) := by decide +kernel
theorem dX7_distinctRoots_44 : decode cX7_distinctRoots 44 = .ok (.iload_n 1, 1) := by decide +kernel
theorem dX7_distinctRoots_45 : decode cX7_distinctRoots 45 = .ok (.aaload, 1) := by decide +kernel
theorem dX7_distinctRoots_46 : decode cX7_distinctRoots 46 = .ok (.invokestatic 282, 3) := by decide +kernel
theorem dX7_distinctRoots_49 : decode cX7_distinctRoots 49 = .ok (.istore_n 2, 1) := by decide +kernel
theorem dX7_distinctRoots_50 : decode cX7_distinctRoots 50 = .ok (.aload_n 0, 1) := by decide +kernel
theorem dX7_distinctRoots_51 : decode cX7_distinctRoots 51 = .ok (.aload_n 0, 1) := by decide +kernel
theorem dX7_distinctRoots_52 : decode cX7_distinctRoots 52 = .ok (.iload_n 2, 1) := by decide +kernel
theorem dX7_distinctRoots_53 : decode cX7_distinctRoots 53 = .ok (.ineg, 1) := by decide +kernel
theorem dX7_distinctRoots_54 : decode cX7_distinctRoots 54 = .ok (.iconst 0, 1) := by decide +kernel
theorem dX7_distinctRoots_55 : decode cX7_distinctRoots 55 = .ok (.iload_n 2, 1) := by decide +kernel
theorem dX7_distinctRoots_56 : decode cX7_distinctRoots 56 = .ok (.iconst 0, 1) := by decide +kernel
theorem dX7_distinctRoots_57 : decode cX7_distinctRoots 57 = .ok (.invokevirtual 275, 3) := by decide +kernel
theorem dX7_distinctRoots_60 : decode cX7_distinctRoots 60 = .ok (.invokevirtual 217, 3) := by decide +kernel
theorem dX7_distinctRoots_63 : decode cX7_distinctRoots 63 = .ok (.ireturn, 1) := by decide +kernel
theorem dX7_coefficientSignChanges_0 : decode cX7_coefficientSignChanges 0 = .ok (.iload_n 1, 1) := by decide +kernel
theorem dX7_coefficientSignChanges_1 : decode cX7_coefficientSignChanges 1 = .ok (.invokestatic 228, 3) := by decide +kernel
theorem dX7_coefficientSignChanges_4 : decode cX7_coefficientSignChanges 4 = .ok (.ifCond .ne 9, 3) := by decide +kernel
theorem dX7_coefficientSignChanges_7 : decode cX7_coefficientSignChanges 7 = .ok (.aload_n 0, 1) := by decide +kernel
theorem dX7_coefficientSignChanges_8 : decode cX7_coefficientSignChanges 8 = .ok (.iconst 1, 1) := by decide +kernel
theorem dX7_coefficientSignChanges_9 : decode cX7_coefficientSignChanges 9 = .ok (.invokevirtual 212, 3) := by decide +kernel
theorem dX7_coefficientSignChanges_12 : decode cX7_coefficientSignChanges 12 = .ok (.ireturn, 1) := by decide +kernel
theorem dX7_coefficientSignChanges_13 : decode cX7_coefficientSignChanges 13 = .ok (.aload_n 0, 1) := by decide +kernel
theorem dX7_coefficientSignChanges_14 : decode cX7_coefficientSignChanges 14 = .ok (.getfield 11, 3) := by decide +kernel
theorem dX7_coefficientSignChanges_17 : decode cX7_coefficientSignChanges 17 = .ok (.iload_n 1, 1) := by decide +kernel
theorem dX7_coefficientSignChanges_18 : decode cX7_coefficientSignChanges 18 = .ok (.aaload, 1) := by decide +kernel
theorem dX7_coefficientSignChanges_19 : decode cX7_coefficientSignChanges 19 = .ok (.aload_n 0, 1) := by decide +kernel
theorem dX7_coefficientSignChanges_20 : decode cX7_coefficientSignChanges 20 = .ok (.getfield 63, 3) := by decide +kernel
theorem dX7_coefficientSignChanges_23 : decode cX7_coefficientSignChanges 23 = .ok (.invokestatic 236, 3) := by decide +kernel
theorem dX7_coefficientSignChanges_26 : decode cX7_coefficientSignChanges 26 = .ok (.aload_n 0, 1) := by decide +kernel
theorem dX7_coefficientSignChanges_27 : decode cX7_coefficientSignChanges 27 = .ok (.aload_n 0, 1) := by decide +kernel
theorem dX7_coefficientSignChanges_28 : decode cX7_coefficientSignChanges 28 = .ok (.getfield 63, 3) := by decide +kernel
theorem dX7_coefficientSignChanges_31 : decode cX7_coefficientSignChanges 31 = .ok (.bipush 6, 2) := by decide +kernel
theorem dX7_coefficientSignChanges_33 : decode cX7_coefficientSignChanges 33 = .ok (.invokestatic 201, 3) := by decide +kernel
theorem dX7_coefficientSignChanges_36 : decode cX7_coefficientSignChanges 36 = .ok (.invokevirtual 217, 3) := by decide +kernel
theorem dX7_coefficientSignChanges_39 : decode cX7_coefficientSignChanges 39 = .ok (.ireturn, 1) := by decide +kernel
theorem dX7_longer_0 : decode cX7_longer 0 = .ok (.iconst 2, 1) := by decide +kernel
theorem dX7_longer_1 : decode cX7_longer 1 = .ok (.aload_n 0, 1) := by decide +kernel
theorem dX7_longer_2 : decode cX7_longer 2 = .ok (.arraylength, 1) := by decide +kernel
theorem dX7_longer_3 : decode cX7_longer 3 = .ok (.imul, 1) := by decide +kernel
theorem dX7_longer_4 : decode cX7_longer 4 = .ok (.newarray .int, 2) := by decide +kernel
theorem dX7_longer_6 : decode cX7_longer 6 = .ok (.astore_n 1, 1) := by decide +kernel
theorem dX7_longer_7 : decode cX7_longer 7 = .ok (.iconst 0, 1) := by decide +kernel
theorem dX7_longer_8 : decode cX7_longer 8 = .ok (.istore_n 2, 1) := by decide +kernel
theorem dX7_longer_9 : decode cX7_longer 9 = .ok (.iload_n 2, 1) := by decide +kernel
theorem dX7_longer_10 : decode cX7_longer 10 = .ok (.aload_n 0, 1) := by decide +kernel
theorem dX7_longer_11 : decode cX7_longer 11 = .ok (.arraylength, 1) := by decide +kernel
theorem dX7_longer_12 : decode cX7_longer 12 = .ok (.if_icmp .ge 15, 3) := by decide +kernel
theorem dX7_longer_15 : decode cX7_longer 15 = .ok (.aload_n 1, 1) := by decide +kernel
theorem dX7_longer_16 : decode cX7_longer 16 = .ok (.iload_n 2, 1) := by decide +kernel
theorem dX7_longer_17 : decode cX7_longer 17 = .ok (.aload_n 0, 1) := by decide +kernel
theorem dX7_longer_18 : decode cX7_longer 18 = .ok (.iload_n 2, 1) := by decide +kernel
theorem dX7_longer_19 : decode cX7_longer 19 = .ok (.iaload, 1) := by decide +kernel
theorem dX7_longer_20 : decode cX7_longer 20 = .ok (.iastore, 1) := by decide +kernel
theorem dX7_longer_21 : decode cX7_longer 21 = .ok (.iinc 2 1, 3) := by decide +kernel
theorem dX7_longer_24 : decode cX7_longer 24 = .ok (.goto (-15), 3) := by decide +kernel
theorem dX7_longer_27 : decode cX7_longer 27 = .ok (.aload_n 1, 1) := by decide +kernel
theorem dX7_longer_28 : decode cX7_longer 28 = .ok (.areturn, 1) := by decide +kernel
theorem dX7_place_0 : decode cX7_place 0 = .ok (.aload_n 0, 1) := by decide +kernel
theorem dX7_place_1 : decode cX7_place 1 = .ok (.getfield 75, 3) := by decide +kernel
theorem dX7_place_4 : decode cX7_place 4 = .ok (.iload_n 1, 1) := by decide +kernel
theorem dX7_place_5 : decode cX7_place 5 = .ok (.iload_n 2, 1) := by decide +kernel
theorem dX7_place_6 : decode cX7_place 6 = .ok (.iastore, 1) := by decide +kernel
theorem dX7_place_7 : decode cX7_place 7 = .ok (.aload_n 0, 1) := by decide +kernel
theorem dX7_place_8 : decode cX7_place 8 = .ok (.getfield 78, 3) := by decide +kernel
theorem dX7_place_11 : decode cX7_place 11 = .ok (.iload_n 1, 1) := by decide +kernel
theorem dX7_place_12 : decode cX7_place 12 = .ok (.iload_n 3, 1) := by decide +kernel
theorem dX7_place_13 : decode cX7_place 13 = .ok (.iastore, 1) := by decide +kernel
theorem dX7_place_14 : decode cX7_place 14 = .ok (.aload_n 0, 1) := by decide +kernel
theorem dX7_place_15 : decode cX7_place 15 = .ok (.getfield 81, 3) := by decide +kernel
theorem dX7_place_18 : decode cX7_place 18 = .ok (.iload_n 1, 1) := by decide +kernel
theorem dX7_place_19 : decode cX7_place 19 = .ok (.iload 4, 2) := by decide +kernel
theorem dX7_place_21 : decode cX7_place 21 = .ok (.iastore, 1) := by decide +kernel
theorem dX7_place_22 : decode cX7_place 22 = .ok (.aload_n 0, 1) := by decide +kernel
theorem dX7_place_23 : decode cX7_place 23 = .ok (.getfield 84, 3) := by decide +kernel
theorem dX7_place_26 : decode cX7_place 26 = .ok (.iload_n 1, 1) := by decide +kernel
theorem dX7_place_27 : decode cX7_place 27 = .ok (.iload_n 3, 1) := by decide +kernel
theorem dX7_place_28 : decode cX7_place 28 = .ok (.iload 4, 2) := by decide +kernel
theorem dX7_place_30 : decode cX7_place 30 = .ok (.if_icmp .ne 7, 3) := by decide +kernel
theorem dX7_place_33 : decode cX7_place 33 = .ok (.iconst 1, 1) := by decide +kernel
theorem dX7_place_34 : decode cX7_place 34 = .ok (.goto 17, 3) := by decide +kernel
theorem dX7_place_37 : decode cX7_place 37 = .ok (.aload_n 0, 1) := by decide +kernel
theorem dX7_place_38 : decode cX7_place 38 = .ok (.aload_n 0, 1) := by decide +kernel
theorem dX7_place_39 : decode cX7_place 39 = .ok (.getfield 72, 3) := by decide +kernel
theorem dX7_place_42 : decode cX7_place 42 = .ok (.iload_n 3, 1) := by decide +kernel
theorem dX7_place_43 : decode cX7_place 43 = .ok (.i2l, 1) := by decide +kernel
theorem dX7_place_44 : decode cX7_place 44 = .ok (.iload 4, 2) := by decide +kernel
theorem dX7_place_46 : decode cX7_place 46 = .ok (.i2l, 1) := by decide +kernel
theorem dX7_place_47 : decode cX7_place 47 = .ok (.iload_n 2, 1) := by decide +kernel
theorem dX7_place_48 : decode cX7_place 48 = .ok (.invokevirtual 267, 3) := by decide +kernel
theorem dX7_place_51 : decode cX7_place 51 = .ok (.iastore, 1) := by decide +kernel
theorem dX7_place_52 : decode cX7_place 52 = .ok (.return_, 1) := by decide +kernel
theorem dX7_opens_0 : decode cX7_opens 0 = .ok (.aload_n 0, 1) := by decide +kernel
theorem dX7_opens_1 : decode cX7_opens 1 = .ok (.getfield 285, 3) := by decide +kernel
theorem dX7_opens_4 : decode cX7_opens 4 = .ok (.iload_n 2, 1) := by decide +kernel
theorem dX7_opens_5 : decode cX7_opens 5 = .ok (.iadd, 1) := by decide +kernel
theorem dX7_opens_6 : decode cX7_opens 6 = .ok (.aload_n 0, 1) := by decide +kernel
theorem dX7_opens_7 : decode cX7_opens 7 = .ok (.getfield 75, 3) := by decide +kernel
theorem dX7_opens_10 : decode cX7_opens 10 = .ok (.arraylength, 1) := by decide +kernel
theorem dX7_opens_11 : decode cX7_opens 11 = .ok (.if_icmp .le 47, 3) := by decide +kernel
theorem dX7_opens_14 : decode cX7_opens 14 = .ok (.aload_n 0, 1) := by decide +kernel
theorem dX7_opens_15 : decode cX7_opens 15 = .ok (.aload_n 0, 1) := by decide +kernel
theorem dX7_opens_16 : decode cX7_opens 16 = .ok (.getfield 75, 3) := by decide +kernel
theorem dX7_opens_19 : decode cX7_opens 19 = .ok (.invokestatic 288, 3) := by decide +kernel
theorem dX7_opens_22 : decode cX7_opens 22 = .ok (.putfield 75, 3) := by decide +kernel
theorem dX7_opens_25 : decode cX7_opens 25 = .ok (.aload_n 0, 1) := by decide +kernel
theorem dX7_opens_26 : decode cX7_opens 26 = .ok (.aload_n 0, 1) := by decide +kernel
theorem dX7_opens_27 : decode cX7_opens 27 = .ok (.getfield 78, 3) := by decide +kernel
theorem dX7_opens_30 : decode cX7_opens 30 = .ok (.invokestatic 288, 3) := by decide +kernel
theorem dX7_opens_33 : decode cX7_opens 33 = .ok (.putfield 78, 3) := by decide +kernel
theorem dX7_opens_36 : decode cX7_opens 36 = .ok (.aload_n 0, 1) := by decide +kernel
theorem dX7_opens_37 : decode cX7_opens 37 = .ok (.aload_n 0, 1) := by decide +kernel
theorem dX7_opens_38 : decode cX7_opens 38 = .ok (.getfield 81, 3) := by decide +kernel
theorem dX7_opens_41 : decode cX7_opens 41 = .ok (.invokestatic 288, 3) := by decide +kernel
theorem dX7_opens_44 : decode cX7_opens 44 = .ok (.putfield 81, 3) := by decide +kernel
theorem dX7_opens_47 : decode cX7_opens 47 = .ok (.aload_n 0, 1) := by decide +kernel
theorem dX7_opens_48 : decode cX7_opens 48 = .ok (.aload_n 0, 1) := by decide +kernel
theorem dX7_opens_49 : decode cX7_opens 49 = .ok (.getfield 84, 3) := by decide +kernel
theorem dX7_opens_52 : decode cX7_opens 52 = .ok (.invokestatic 288, 3) := by decide +kernel
theorem dX7_opens_55 : decode cX7_opens 55 = .ok (.putfield 84, 3) := by decide +kernel
theorem dX7_opens_58 : decode cX7_opens 58 = .ok (.aload_n 0, 1) := by decide +kernel
theorem dX7_opens_59 : decode cX7_opens 59 = .ok (.getfield 285, 3) := by decide +kernel
theorem dX7_opens_62 : decode cX7_opens 62 = .ok (.iconst 1, 1) := by decide +kernel
theorem dX7_opens_63 : decode cX7_opens 63 = .ok (.isub, 1) := by decide +kernel
theorem dX7_opens_64 : decode cX7_opens 64 = .ok (.istore_n 3, 1) := by decide +kernel
theorem dX7_opens_65 : decode cX7_opens 65 = .ok (.iload_n 3, 1) := by decide +kernel
theorem dX7_opens_66 : decode cX7_opens 66 = .ok (.iload_n 1, 1) := by decide +kernel
theorem dX7_opens_67 : decode cX7_opens 67 = .ok (.if_icmp .le 65, 3) := by decide +kernel
theorem dX7_opens_70 : decode cX7_opens 70 = .ok (.aload_n 0, 1) := by decide +kernel
theorem dX7_opens_71 : decode cX7_opens 71 = .ok (.getfield 75, 3) := by decide +kernel
theorem dX7_opens_74 : decode cX7_opens 74 = .ok (.iload_n 3, 1) := by decide +kernel
theorem dX7_opens_75 : decode cX7_opens 75 = .ok (.iload_n 2, 1) := by decide +kernel
theorem dX7_opens_76 : decode cX7_opens 76 = .ok (.iadd, 1) := by decide +kernel
theorem dX7_opens_77 : decode cX7_opens 77 = .ok (.aload_n 0, 1) := by decide +kernel
theorem dX7_opens_78 : decode cX7_opens 78 = .ok (.getfield 75, 3) := by decide +kernel
theorem dX7_opens_81 : decode cX7_opens 81 = .ok (.iload_n 3, 1) := by decide +kernel
theorem dX7_opens_82 : decode cX7_opens 82 = .ok (.iaload, 1) := by decide +kernel
theorem dX7_opens_83 : decode cX7_opens 83 = .ok (.iastore, 1) := by decide +kernel
theorem dX7_opens_84 : decode cX7_opens 84 = .ok (.aload_n 0, 1) := by decide +kernel
theorem dX7_opens_85 : decode cX7_opens 85 = .ok (.getfield 78, 3) := by decide +kernel
theorem dX7_opens_88 : decode cX7_opens 88 = .ok (.iload_n 3, 1) := by decide +kernel
theorem dX7_opens_89 : decode cX7_opens 89 = .ok (.iload_n 2, 1) := by decide +kernel
theorem dX7_opens_90 : decode cX7_opens 90 = .ok (.iadd, 1) := by decide +kernel
theorem dX7_opens_91 : decode cX7_opens 91 = .ok (.aload_n 0, 1) := by decide +kernel
theorem dX7_opens_92 : decode cX7_opens 92 = .ok (.getfield 78, 3) := by decide +kernel
theorem dX7_opens_95 : decode cX7_opens 95 = .ok (.iload_n 3, 1) := by decide +kernel
theorem dX7_opens_96 : decode cX7_opens 96 = .ok (.iaload, 1) := by decide +kernel
theorem dX7_opens_97 : decode cX7_opens 97 = .ok (.iastore, 1) := by decide +kernel
theorem dX7_opens_98 : decode cX7_opens 98 = .ok (.aload_n 0, 1) := by decide +kernel
theorem dX7_opens_99 : decode cX7_opens 99 = .ok (.getfield 81, 3) := by decide +kernel
theorem dX7_opens_102 : decode cX7_opens 102 = .ok (.iload_n 3, 1) := by decide +kernel
theorem dX7_opens_103 : decode cX7_opens 103 = .ok (.iload_n 2, 1) := by decide +kernel
theorem dX7_opens_104 : decode cX7_opens 104 = .ok (.iadd, 1) := by decide +kernel
theorem dX7_opens_105 : decode cX7_opens 105 = .ok (.aload_n 0, 1) := by decide +kernel
theorem dX7_opens_106 : decode cX7_opens 106 = .ok (.getfield 81, 3) := by decide +kernel
theorem dX7_opens_109 : decode cX7_opens 109 = .ok (.iload_n 3, 1) := by decide +kernel
theorem dX7_opens_110 : decode cX7_opens 110 = .ok (.iaload, 1) := by decide +kernel
theorem dX7_opens_111 : decode cX7_opens 111 = .ok (.iastore, 1) := by decide +kernel
theorem dX7_opens_112 : decode cX7_opens 112 = .ok (.aload_n 0, 1) := by decide +kernel
theorem dX7_opens_113 : decode cX7_opens 113 = .ok (.getfield 84, 3) := by decide +kernel
theorem dX7_opens_116 : decode cX7_opens 116 = .ok (.iload_n 3, 1) := by decide +kernel
theorem dX7_opens_117 : decode cX7_opens 117 = .ok (.iload_n 2, 1) := by decide +kernel
theorem dX7_opens_118 : decode cX7_opens 118 = .ok (.iadd, 1) := by decide +kernel
theorem dX7_opens_119 : decode cX7_opens 119 = .ok (.aload_n 0, 1) := by decide +kernel
theorem dX7_opens_120 : decode cX7_opens 120 = .ok (.getfield 84, 3) := by decide +kernel
theorem dX7_opens_123 : decode cX7_opens 123 = .ok (.iload_n 3, 1) := by decide +kernel
theorem dX7_opens_124 : decode cX7_opens 124 = .ok (.iaload, 1) := by decide +kernel
theorem dX7_opens_125 : decode cX7_opens 125 = .ok (.iastore, 1) := by decide +kernel
theorem dX7_opens_126 : decode cX7_opens 126 = .ok (.iinc 3 (-1), 3) := by decide +kernel
theorem dX7_opens_129 : decode cX7_opens 129 = .ok (.goto (-64), 3) := by decide +kernel
theorem dX7_opens_132 : decode cX7_opens 132 = .ok (.aload_n 0, 1) := by decide +kernel
theorem dX7_opens_133 : decode cX7_opens 133 = .ok (.dup, 1) := by decide +kernel
theorem dX7_opens_134 : decode cX7_opens 134 = .ok (.getfield 285, 3) := by decide +kernel
theorem dX7_opens_137 : decode cX7_opens 137 = .ok (.iload_n 2, 1) := by decide +kernel
theorem dX7_opens_138 : decode cX7_opens 138 = .ok (.iadd, 1) := by decide +kernel
theorem dX7_opens_139 : decode cX7_opens 139 = .ok (.putfield 285, 3) := by decide +kernel
theorem dX7_opens_142 : decode cX7_opens 142 = .ok (.return_, 1) := by decide +kernel
theorem dX7_isolate_0 : decode cX7_isolate 0 = .ok (.iload_n 1, 1) := by decide +kernel
theorem dX7_isolate_1 : decode cX7_isolate 1 = .ok (.invokestatic 228, 3) := by decide +kernel
theorem dX7_isolate_4 : decode cX7_isolate 4 = .ok (.ifCond .ne 9, 3) := by decide +kernel
theorem dX7_isolate_7 : decode cX7_isolate 7 = .ok (.aload_n 0, 1) := by decide +kernel
theorem dX7_isolate_8 : decode cX7_isolate 8 = .ok (.iconst 1, 1) := by decide +kernel
theorem dX7_isolate_9 : decode cX7_isolate 9 = .ok (.invokevirtual 212, 3) := by decide +kernel
theorem dX7_isolate_12 : decode cX7_isolate 12 = .ok (.ireturn, 1) := by decide +kernel
theorem dX7_isolate_13 : decode cX7_isolate 13 = .ok (.aload_n 0, 1) := by decide +kernel
theorem dX7_isolate_14 : decode cX7_isolate 14 = .ok (.iload_n 1, 1) := by decide +kernel
theorem dX7_isolate_15 : decode cX7_isolate 15 = .ok (.invokevirtual 244, 3) := by decide +kernel
theorem dX7_isolate_18 : decode cX7_isolate 18 = .ok (.ifCond .eq 9, 3) := by decide +kernel
theorem dX7_isolate_21 : decode cX7_isolate 21 = .ok (.aload_n 0, 1) := by decide +kernel
theorem dX7_isolate_22 : decode cX7_isolate 22 = .ok (.iconst 2, 1) := by decide +kernel
theorem dX7_isolate_23 : decode cX7_isolate 23 = .ok (.invokevirtual 212, 3) := by decide +kernel
theorem dX7_isolate_26 : decode cX7_isolate 26 = .ok (.ireturn, 1) := by decide +kernel
theorem dX7_isolate_27 : decode cX7_isolate 27 = .ok (.iconst 0, 1) := by decide +kernel
theorem dX7_isolate_28 : decode cX7_isolate 28 = .ok (.istore_n 2, 1) := by decide +kernel
theorem dX7_isolate_29 : decode cX7_isolate 29 = .ok (.iload_n 2, 1) := by decide +kernel
theorem dX7_isolate_30 : decode cX7_isolate 30 = .ok (.bipush 7, 2) := by decide +kernel
theorem dX7_isolate_32 : decode cX7_isolate 32 = .ok (.if_icmp .ge 23, 3) := by decide +kernel
theorem dX7_isolate_35 : decode cX7_isolate 35 = .ok (.aload_n 0, 1) := by decide +kernel
theorem dX7_isolate_36 : decode cX7_isolate 36 = .ok (.getfield 69, 3) := by decide +kernel
theorem dX7_isolate_39 : decode cX7_isolate 39 = .ok (.iload_n 2, 1) := by decide +kernel
theorem dX7_isolate_40 : decode cX7_isolate 40 = .ok (.aload_n 0, 1) := by decide +kernel
theorem dX7_isolate_41 : decode cX7_isolate 41 = .ok (.getfield 11, 3) := by decide +kernel
theorem dX7_isolate_44 : decode cX7_isolate 44 = .ok (.iload_n 1, 1) := by decide +kernel
theorem dX7_isolate_45 : decode cX7_isolate 45 = .ok (.aaload, 1) := by decide +kernel
theorem dX7_isolate_46 : decode cX7_isolate 46 = .ok (.iload_n 2, 1) := by decide +kernel
theorem dX7_isolate_47 : decode cX7_isolate 47 = .ok (.iaload, 1) := by decide +kernel
theorem dX7_isolate_48 : decode cX7_isolate 48 = .ok (.iastore, 1) := by decide +kernel
theorem dX7_isolate_49 : decode cX7_isolate 49 = .ok (.iinc 2 1, 3) := by decide +kernel
theorem dX7_isolate_52 : decode cX7_isolate 52 = .ok (.goto (-23), 3) := by decide +kernel
theorem dX7_isolate_55 : decode cX7_isolate 55 = .ok (.aload_n 0, 1) := by decide +kernel
theorem dX7_isolate_56 : decode cX7_isolate 56 = .ok (.getfield 69, 3) := by decide +kernel
theorem dX7_isolate_59 : decode cX7_isolate 59 = .ok (.aload_n 0, 1) := by decide +kernel
theorem dX7_isolate_60 : decode cX7_isolate 60 = .ok (.getfield 63, 3) := by decide +kernel
theorem dX7_isolate_63 : decode cX7_isolate 63 = .ok (.invokestatic 236, 3) := by decide +kernel
theorem dX7_isolate_66 : decode cX7_isolate 66 = .ok (.aload_n 0, 1) := by decide +kernel
theorem dX7_isolate_67 : decode cX7_isolate 67 = .ok (.aload_n 0, 1) := by decide +kernel
theorem dX7_isolate_68 : decode cX7_isolate 68 = .ok (.getfield 63, 3) := by decide +kernel
theorem dX7_isolate_71 : decode cX7_isolate 71 = .ok (.invokevirtual 247, 3) := by decide +kernel
theorem dX7_isolate_74 : decode cX7_isolate 74 = .ok (.aload_n 0, 1) := by decide +kernel
theorem dX7_isolate_75 : decode cX7_isolate 75 = .ok (.getfield 45, 3) := by decide +kernel
theorem dX7_isolate_78 : decode cX7_isolate 78 = .ok (.aload_n 0, 1) := by decide +kernel
theorem dX7_isolate_79 : decode cX7_isolate 79 = .ok (.getfield 72, 3) := by decide +kernel
theorem dX7_isolate_82 : decode cX7_isolate 82 = .ok (.invokestatic 186, 3) := by decide +kernel
theorem dX7_isolate_85 : decode cX7_isolate 85 = .ok (.aload_n 0, 1) := by decide +kernel
theorem dX7_isolate_86 : decode cX7_isolate 86 = .ok (.iconst 1, 1) := by decide +kernel
theorem dX7_isolate_87 : decode cX7_isolate 87 = .ok (.putfield 285, 3) := by decide +kernel
theorem dX7_isolate_90 : decode cX7_isolate 90 = .ok (.aload_n 0, 1) := by decide +kernel
theorem dX7_isolate_91 : decode cX7_isolate 91 = .ok (.iconst 0, 1) := by decide +kernel
theorem dX7_isolate_92 : decode cX7_isolate 92 = .ok (.iconst 0, 1) := by decide +kernel
theorem dX7_isolate_93 : decode cX7_isolate 93 = .ok (.aload_n 0, 1) := by decide +kernel
theorem dX7_isolate_94 : decode cX7_isolate 94 = .ok (.getfield 69, 3) := by decide +kernel
theorem dX7_isolate_97 : decode cX7_isolate 97 = .ok (.invokestatic 282, 3) := by decide +kernel
theorem dX7_isolate_100 : decode cX7_isolate 100 = .ok (.ineg, 1) := by decide +kernel
theorem dX7_isolate_101 : decode cX7_isolate 101 = .ok (.aload_n 0, 1) := by decide +kernel
theorem dX7_isolate_102 : decode cX7_isolate 102 = .ok (.getfield 69, 3) := by decide +kernel
theorem dX7_isolate_105 : decode cX7_isolate 105 = .ok (.invokestatic 282, 3) := by decide +kernel
theorem dX7_isolate_108 : decode cX7_isolate 108 = .ok (.invokevirtual 292, 3) := by decide +kernel
theorem dX7_isolate_111 : decode cX7_isolate 111 = .ok (.aload_n 0, 1) := by decide +kernel
theorem dX7_isolate_112 : decode cX7_isolate 112 = .ok (.aload_n 0, 1) := by decide +kernel
theorem dX7_isolate_113 : decode cX7_isolate 113 = .ok (.getfield 84, 3) := by decide +kernel
theorem dX7_isolate_116 : decode cX7_isolate 116 = .ok (.iconst 0, 1) := by decide +kernel
theorem dX7_isolate_117 : decode cX7_isolate 117 = .ok (.iaload, 1) := by decide +kernel
theorem dX7_isolate_118 : decode cX7_isolate 118 = .ok (.invokevirtual 217, 3) := by decide +kernel
theorem dX7_isolate_121 : decode cX7_isolate 121 = .ok (.ireturn, 1) := by decide +kernel
theorem dX7_intervals_0 : decode cX7_intervals 0 = .ok (.aload_n 0, 1) := by decide +kernel
theorem dX7_intervals_1 : decode cX7_intervals 1 = .ok (.aload_n 0, 1) := by decide +kernel
theorem dX7_intervals_2 : decode cX7_intervals 2 = .ok (.getfield 285, 3) := by decide +kernel
theorem dX7_intervals_5 : decode cX7_intervals 5 = .ok (.invokevirtual 217, 3) := by decide +kernel
theorem dX7_intervals_8 : decode cX7_intervals 8 = .ok (.ireturn, 1) := by decide +kernel
theorem dX7_isInterval_0 : decode cX7_isInterval 0 = .ok (.iload_n 1, 1) := by decide +kernel
theorem dX7_isInterval_1 : decode cX7_isInterval 1 = .ok (.ifCond .lt 15, 3) := by decide +kernel
theorem dX7_isInterval_4 : decode cX7_isInterval 4 = .ok (.iload_n 1, 1) := by decide +kernel
theorem dX7_isInterval_5 : decode cX7_isInterval 5 = .ok (.aload_n 0, 1) := by decide +kernel
theorem dX7_isInterval_6 : decode cX7_isInterval 6 = .ok (.getfield 285, 3) := by decide +kernel
theorem dX7_isInterval_9 : decode cX7_isInterval 9 = .ok (.if_icmp .ge 7, 3) := by decide +kernel
theorem dX7_isInterval_12 : decode cX7_isInterval 12 = .ok (.iconst 1, 1) := by decide +kernel
theorem dX7_isInterval_13 : decode cX7_isInterval 13 = .ok (.goto 4, 3) := by decide +kernel
theorem dX7_isInterval_16 : decode cX7_isInterval 16 = .ok (.iconst 0, 1) := by decide +kernel
theorem dX7_isInterval_17 : decode cX7_isInterval 17 = .ok (.ireturn, 1) := by decide +kernel
theorem dX7_rootsIn_0 : decode cX7_rootsIn 0 = .ok (.aload_n 0, 1) := by decide +kernel
theorem dX7_rootsIn_1 : decode cX7_rootsIn 1 = .ok (.iload_n 1, 1) := by decide +kernel
theorem dX7_rootsIn_2 : decode cX7_rootsIn 2 = .ok (.invokevirtual 296, 3) := by decide +kernel
theorem dX7_rootsIn_5 : decode cX7_rootsIn 5 = .ok (.ifCond .eq 16, 3) := by decide +kernel
theorem dX7_rootsIn_8 : decode cX7_rootsIn 8 = .ok (.aload_n 0, 1) := by decide +kernel
theorem dX7_rootsIn_9 : decode cX7_rootsIn 9 = .ok (.aload_n 0, 1) := by decide +kernel
theorem dX7_rootsIn_10 : decode cX7_rootsIn 10 = .ok (.getfield 84, 3) := by decide +kernel
theorem dX7_rootsIn_13 : decode cX7_rootsIn 13 = .ok (.iload_n 1, 1) := by decide +kernel
theorem dX7_rootsIn_14 : decode cX7_rootsIn 14 = .ok (.iaload, 1) := by decide +kernel
theorem dX7_rootsIn_15 : decode cX7_rootsIn 15 = .ok (.invokevirtual 217, 3) := by decide +kernel
theorem dX7_rootsIn_18 : decode cX7_rootsIn 18 = .ok (.goto 8, 3) := by decide +kernel
theorem dX7_rootsIn_21 : decode cX7_rootsIn 21 = .ok (.aload_n 0, 1) := by decide +kernel
theorem dX7_rootsIn_22 : decode cX7_rootsIn 22 = .ok (.iconst 1, 1) := by decide +kernel
theorem dX7_rootsIn_23 : decode cX7_rootsIn 23 = .ok (.invokevirtual 212, 3) := by decide +kernel
theorem dX7_rootsIn_26 : decode cX7_rootsIn 26 = .ok (.ireturn, 1) := by decide +kernel
theorem dX7_interval_0 : decode cX7_interval 0 = .ok (.aload_n 0, 1) := by decide +kernel
theorem dX7_interval_1 : decode cX7_interval 1 = .ok (.iload_n 1, 1) := by decide +kernel
theorem dX7_interval_2 : decode cX7_interval 2 = .ok (.invokevirtual 296, 3) := by decide +kernel
theorem dX7_interval_5 : decode cX7_interval 5 = .ok (.ifCond .ne 9, 3) := by decide +kernel
theorem dX7_interval_8 : decode cX7_interval 8 = .ok (.aload_n 0, 1) := by decide +kernel
theorem dX7_interval_9 : decode cX7_interval 9 = .ok (.iconst 1, 1) := by decide +kernel
theorem dX7_interval_10 : decode cX7_interval 10 = .ok (.invokevirtual 212, 3) := by decide +kernel
theorem dX7_interval_13 : decode cX7_interval 13 = .ok (.ireturn, 1) := by decide +kernel
theorem dX7_interval_14 : decode cX7_interval 14 = .ok (.iload_n 2, 1) := by decide +kernel
theorem dX7_interval_15 : decode cX7_interval 15 = .ok (.bipush 100, 2) := by decide +kernel
theorem dX7_interval_17 : decode cX7_interval 17 = .ok (.if_icmp .eq 21, 3) := by decide +kernel
theorem dX7_interval_20 : decode cX7_interval 20 = .ok (.iload_n 2, 1) := by decide +kernel
theorem dX7_interval_21 : decode cX7_interval 21 = .ok (.bipush 109, 2) := by decide +kernel
theorem dX7_interval_23 : decode cX7_interval 23 = .ok (.if_icmp .eq 15, 3) := by decide +kernel
theorem dX7_interval_26 : decode cX7_interval 26 = .ok (.iload_n 2, 1) := by decide +kernel
theorem dX7_interval_27 : decode cX7_interval 27 = .ok (.bipush 110, 2) := by decide +kernel
theorem dX7_interval_29 : decode cX7_interval 29 = .ok (.if_icmp .eq 9, 3) := by decide +kernel
theorem dX7_interval_32 : decode cX7_interval 32 = .ok (.aload_n 0, 1) := by decide +kernel
theorem dX7_interval_33 : decode cX7_interval 33 = .ok (.iconst 2, 1) := by decide +kernel
theorem dX7_interval_34 : decode cX7_interval 34 = .ok (.invokevirtual 212, 3) := by decide +kernel
theorem dX7_interval_37 : decode cX7_interval 37 = .ok (.ireturn, 1) := by decide +kernel
theorem dX7_interval_38 : decode cX7_interval 38 = .ok (.aload_n 0, 1) := by decide +kernel
theorem dX7_interval_39 : decode cX7_interval 39 = .ok (.iload_n 2, 1) := by decide +kernel
theorem dX7_interval_40 : decode cX7_interval 40 = .ok (.bipush 100, 2) := by decide +kernel
theorem dX7_interval_42 : decode cX7_interval 42 = .ok (.if_icmp .ne 12, 3) := by decide +kernel
theorem dX7_interval_45 : decode cX7_interval 45 = .ok (.aload_n 0, 1) := by decide +kernel
theorem dX7_interval_46 : decode cX7_interval 46 = .ok (.getfield 75, 3) := by decide +kernel
theorem dX7_interval_49 : decode cX7_interval 49 = .ok (.iload_n 1, 1) := by decide +kernel
theorem dX7_interval_50 : decode cX7_interval 50 = .ok (.iaload, 1) := by decide +kernel
theorem dX7_interval_51 : decode cX7_interval 51 = .ok (.goto 24, 3) := by decide +kernel
theorem dX7_interval_54 : decode cX7_interval 54 = .ok (.iload_n 2, 1) := by decide +kernel
theorem dX7_interval_55 : decode cX7_interval 55 = .ok (.bipush 109, 2) := by decide +kernel
theorem dX7_interval_57 : decode cX7_interval 57 = .ok (.if_icmp .ne 12, 3) := by decide +kernel
theorem dX7_interval_60 : decode cX7_interval 60 = .ok (.aload_n 0, 1) := by decide +kernel
theorem dX7_interval_61 : decode cX7_interval 61 = .ok (.getfield 78, 3) := by decide +kernel
theorem dX7_interval_64 : decode cX7_interval 64 = .ok (.iload_n 1, 1) := by decide +kernel
theorem dX7_interval_65 : decode cX7_interval 65 = .ok (.iaload, 1) := by decide +kernel
theorem dX7_interval_66 : decode cX7_interval 66 = .ok (.goto 9, 3) := by decide +kernel
theorem dX7_interval_69 : decode cX7_interval 69 = .ok (.aload_n 0, 1) := by decide +kernel
theorem dX7_interval_70 : decode cX7_interval 70 = .ok (.getfield 81, 3) := by decide +kernel
theorem dX7_interval_73 : decode cX7_interval 73 = .ok (.iload_n 1, 1) := by decide +kernel
theorem dX7_interval_74 : decode cX7_interval 74 = .ok (.iaload, 1) := by decide +kernel
theorem dX7_interval_75 : decode cX7_interval 75 = .ok (.invokevirtual 217, 3) := by decide +kernel
theorem dX7_interval_78 : decode cX7_interval 78 = .ok (.ireturn, 1) := by decide +kernel
theorem dX7_isRoot_0 : decode cX7_isRoot 0 = .ok (.aload_n 0, 1) := by decide +kernel
theorem dX7_isRoot_1 : decode cX7_isRoot 1 = .ok (.getfield 69, 3) := by decide +kernel
theorem dX7_isRoot_4 : decode cX7_isRoot 4 = .ok (.aload_n 0, 1) := by decide +kernel
theorem dX7_isRoot_5 : decode cX7_isRoot 5 = .ok (.getfield 63, 3) := by decide +kernel
theorem dX7_isRoot_8 : decode cX7_isRoot 8 = .ok (.invokestatic 236, 3) := by decide +kernel
theorem dX7_isRoot_11 : decode cX7_isRoot 11 = .ok (.aload_n 0, 1) := by decide +kernel
theorem dX7_isRoot_12 : decode cX7_isRoot 12 = .ok (.aload_n 0, 1) := by decide +kernel
theorem dX7_isRoot_13 : decode cX7_isRoot 13 = .ok (.getfield 63, 3) := by decide +kernel
theorem dX7_isRoot_16 : decode cX7_isRoot 16 = .ok (.iload_n 1, 1) := by decide +kernel
theorem dX7_isRoot_17 : decode cX7_isRoot 17 = .ok (.i2l, 1) := by decide +kernel
theorem dX7_isRoot_18 : decode cX7_isRoot 18 = .ok (.iload_n 2, 1) := by decide +kernel
theorem dX7_isRoot_19 : decode cX7_isRoot 19 = .ok (.invokevirtual 263, 3) := by decide +kernel
theorem dX7_isRoot_22 : decode cX7_isRoot 22 = .ok (.ifCond .ne 7, 3) := by decide +kernel
theorem dX7_isRoot_25 : decode cX7_isRoot 25 = .ok (.iconst 1, 1) := by decide +kernel
theorem dX7_isRoot_26 : decode cX7_isRoot 26 = .ok (.goto 4, 3) := by decide +kernel
theorem dX7_isRoot_29 : decode cX7_isRoot 29 = .ok (.iconst 0, 1) := by decide +kernel
theorem dX7_isRoot_30 : decode cX7_isRoot 30 = .ok (.ireturn, 1) := by decide +kernel
theorem dX7_bisect_0 : decode cX7_bisect 0 = .ok (.aload_n 0, 1) := by decide +kernel
theorem dX7_bisect_1 : decode cX7_bisect 1 = .ok (.iload_n 1, 1) := by decide +kernel
theorem dX7_bisect_2 : decode cX7_bisect 2 = .ok (.invokevirtual 296, 3) := by decide +kernel
theorem dX7_bisect_5 : decode cX7_bisect 5 = .ok (.ifCond .ne 9, 3) := by decide +kernel
theorem dX7_bisect_8 : decode cX7_bisect 8 = .ok (.aload_n 0, 1) := by decide +kernel
theorem dX7_bisect_9 : decode cX7_bisect 9 = .ok (.iconst 1, 1) := by decide +kernel
theorem dX7_bisect_10 : decode cX7_bisect 10 = .ok (.invokevirtual 212, 3) := by decide +kernel
theorem dX7_bisect_13 : decode cX7_bisect 13 = .ok (.ireturn, 1) := by decide +kernel
theorem dX7_bisect_14 : decode cX7_bisect 14 = .ok (.aload_n 0, 1) := by decide +kernel
theorem dX7_bisect_15 : decode cX7_bisect 15 = .ok (.getfield 78, 3) := by decide +kernel
theorem dX7_bisect_18 : decode cX7_bisect 18 = .ok (.iload_n 1, 1) := by decide +kernel
theorem dX7_bisect_19 : decode cX7_bisect 19 = .ok (.iaload, 1) := by decide +kernel
theorem dX7_bisect_20 : decode cX7_bisect 20 = .ok (.aload_n 0, 1) := by decide +kernel
theorem dX7_bisect_21 : decode cX7_bisect 21 = .ok (.getfield 81, 3) := by decide +kernel
theorem dX7_bisect_24 : decode cX7_bisect 24 = .ok (.iload_n 1, 1) := by decide +kernel
theorem dX7_bisect_25 : decode cX7_bisect 25 = .ok (.iaload, 1) := by decide +kernel
theorem dX7_bisect_26 : decode cX7_bisect 26 = .ok (.if_icmp .eq 14, 3) := by decide +kernel
theorem dX7_bisect_29 : decode cX7_bisect 29 = .ok (.aload_n 0, 1) := by decide +kernel
theorem dX7_bisect_30 : decode cX7_bisect 30 = .ok (.getfield 75, 3) := by decide +kernel
theorem dX7_bisect_33 : decode cX7_bisect 33 = .ok (.iload_n 1, 1) := by decide +kernel
theorem dX7_bisect_34 : decode cX7_bisect 34 = .ok (.iaload, 1) := by decide +kernel
theorem dX7_bisect_35 : decode cX7_bisect 35 = .ok (.bipush 12, 2) := by decide +kernel
theorem dX7_bisect_37 : decode cX7_bisect 37 = .ok (.if_icmp .ne 9, 3) := by decide +kernel
theorem dX7_bisect_40 : decode cX7_bisect 40 = .ok (.aload_n 0, 1) := by decide +kernel
theorem dX7_bisect_41 : decode cX7_bisect 41 = .ok (.iconst 2, 1) := by decide +kernel
theorem dX7_bisect_42 : decode cX7_bisect 42 = .ok (.invokevirtual 212, 3) := by decide +kernel
theorem dX7_bisect_45 : decode cX7_bisect 45 = .ok (.ireturn, 1) := by decide +kernel
theorem dX7_bisect_46 : decode cX7_bisect 46 = .ok (.aload_n 0, 1) := by decide +kernel
theorem dX7_bisect_47 : decode cX7_bisect 47 = .ok (.getfield 75, 3) := by decide +kernel
theorem dX7_bisect_50 : decode cX7_bisect 50 = .ok (.iload_n 1, 1) := by decide +kernel
theorem dX7_bisect_51 : decode cX7_bisect 51 = .ok (.iaload, 1) := by decide +kernel
theorem dX7_bisect_52 : decode cX7_bisect 52 = .ok (.iconst 1, 1) := by decide +kernel
theorem dX7_bisect_53 : decode cX7_bisect 53 = .ok (.iadd, 1) := by decide +kernel
theorem dX7_bisect_54 : decode cX7_bisect 54 = .ok (.istore_n 2, 1) := by decide +kernel
theorem dX7_bisect_55 : decode cX7_bisect 55 = .ok (.iconst 2, 1) := by decide +kernel
theorem dX7_bisect_56 : decode cX7_bisect 56 = .ok (.aload_n 0, 1) := by decide +kernel
theorem dX7_bisect_57 : decode cX7_bisect 57 = .ok (.getfield 78, 3) := by decide +kernel
theorem dX7_bisect_60 : decode cX7_bisect 60 = .ok (.iload_n 1, 1) := by decide +kernel
theorem dX7_bisect_61 : decode cX7_bisect 61 = .ok (.iaload, 1) := by decide +kernel
theorem dX7_bisect_62 : decode cX7_bisect 62 = .ok (.imul, 1) := by decide +kernel
theorem dX7_bisect_63 : decode cX7_bisect 63 = .ok (.istore_n 3, 1) := by decide +kernel
theorem dX7_bisect_64 : decode cX7_bisect 64 = .ok (.iconst 2, 1) := by decide +kernel
theorem dX7_bisect_65 : decode cX7_bisect 65 = .ok (.aload_n 0, 1) := by decide +kernel
theorem dX7_bisect_66 : decode cX7_bisect 66 = .ok (.getfield 81, 3) := by decide +kernel
theorem dX7_bisect_69 : decode cX7_bisect 69 = .ok (.iload_n 1, 1) := by decide +kernel
theorem dX7_bisect_70 : decode cX7_bisect 70 = .ok (.iaload, 1) := by decide +kernel
theorem dX7_bisect_71 : decode cX7_bisect 71 = .ok (.imul, 1) := by decide +kernel
theorem dX7_bisect_72 : decode cX7_bisect 72 = .ok (.istore 4, 2) := by decide +kernel
theorem dX7_bisect_74 : decode cX7_bisect 74 = .ok (.aload_n 0, 1) := by decide +kernel
theorem dX7_bisect_75 : decode cX7_bisect 75 = .ok (.getfield 78, 3) := by decide +kernel
theorem dX7_bisect_78 : decode cX7_bisect 78 = .ok (.iload_n 1, 1) := by decide +kernel
theorem dX7_bisect_79 : decode cX7_bisect 79 = .ok (.iaload, 1) := by decide +kernel
theorem dX7_bisect_80 : decode cX7_bisect 80 = .ok (.aload_n 0, 1) := by decide +kernel
theorem dX7_bisect_81 : decode cX7_bisect 81 = .ok (.getfield 81, 3) := by decide +kernel
theorem dX7_bisect_84 : decode cX7_bisect 84 = .ok (.iload_n 1, 1) := by decide +kernel
theorem dX7_bisect_85 : decode cX7_bisect 85 = .ok (.iaload, 1) := by decide +kernel
theorem dX7_bisect_86 : decode cX7_bisect 86 = .ok (.iadd, 1) := by decide +kernel
theorem dX7_bisect_87 : decode cX7_bisect 87 = .ok (.istore 5, 2) := by decide +kernel
theorem dX7_bisect_89 : decode cX7_bisect 89 = .ok (.aload_n 0, 1) := by decide +kernel
theorem dX7_bisect_90 : decode cX7_bisect 90 = .ok (.iload 5, 2) := by decide +kernel
theorem dX7_bisect_92 : decode cX7_bisect 92 = .ok (.iload_n 2, 1) := by decide +kernel
theorem dX7_bisect_93 : decode cX7_bisect 93 = .ok (.invokevirtual 299, 3) := by decide +kernel
theorem dX7_bisect_96 : decode cX7_bisect 96 = .ok (.istore 6, 2) := by decide +kernel
theorem dX7_bisect_98 : decode cX7_bisect 98 = .ok (.aload_n 0, 1) := by decide +kernel
theorem dX7_bisect_99 : decode cX7_bisect 99 = .ok (.iload_n 1, 1) := by decide +kernel
theorem dX7_bisect_100 : decode cX7_bisect 100 = .ok (.iload 6, 2) := by decide +kernel
theorem dX7_bisect_102 : decode cX7_bisect 102 = .ok (.ifCond .eq 7, 3) := by decide +kernel
theorem dX7_bisect_105 : decode cX7_bisect 105 = .ok (.iconst 2, 1) := by decide +kernel
theorem dX7_bisect_106 : decode cX7_bisect 106 = .ok (.goto 4, 3) := by decide +kernel
theorem dX7_bisect_109 : decode cX7_bisect 109 = .ok (.iconst 1, 1) := by decide +kernel
theorem dX7_bisect_110 : decode cX7_bisect 110 = .ok (.invokevirtual 302, 3) := by decide +kernel
theorem dX7_bisect_113 : decode cX7_bisect 113 = .ok (.aload_n 0, 1) := by decide +kernel
theorem dX7_bisect_114 : decode cX7_bisect 114 = .ok (.iload_n 1, 1) := by decide +kernel
theorem dX7_bisect_115 : decode cX7_bisect 115 = .ok (.iload_n 2, 1) := by decide +kernel
theorem dX7_bisect_116 : decode cX7_bisect 116 = .ok (.iload_n 3, 1) := by decide +kernel
theorem dX7_bisect_117 : decode cX7_bisect 117 = .ok (.iload 5, 2) := by decide +kernel
theorem dX7_bisect_119 : decode cX7_bisect 119 = .ok (.invokevirtual 292, 3) := by decide +kernel
theorem dX7_bisect_122 : decode cX7_bisect 122 = .ok (.iload 6, 2) := by decide +kernel
theorem dX7_bisect_124 : decode cX7_bisect 124 = .ok (.ifCond .eq 15, 3) := by decide +kernel
theorem dX7_bisect_127 : decode cX7_bisect 127 = .ok (.aload_n 0, 1) := by decide +kernel
theorem dX7_bisect_128 : decode cX7_bisect 128 = .ok (.iload_n 1, 1) := by decide +kernel
theorem dX7_bisect_129 : decode cX7_bisect 129 = .ok (.iconst 1, 1) := by decide +kernel
theorem dX7_bisect_130 : decode cX7_bisect 130 = .ok (.iadd, 1) := by decide +kernel
theorem dX7_bisect_131 : decode cX7_bisect 131 = .ok (.iload_n 2, 1) := by decide +kernel
theorem dX7_bisect_132 : decode cX7_bisect 132 = .ok (.iload 5, 2) := by decide +kernel
theorem dX7_bisect_134 : decode cX7_bisect 134 = .ok (.iload 5, 2) := by decide +kernel
theorem dX7_bisect_136 : decode cX7_bisect 136 = .ok (.invokevirtual 292, 3) := by decide +kernel
theorem dX7_bisect_139 : decode cX7_bisect 139 = .ok (.aload_n 0, 1) := by decide +kernel
theorem dX7_bisect_140 : decode cX7_bisect 140 = .ok (.iload 6, 2) := by decide +kernel
theorem dX7_bisect_142 : decode cX7_bisect 142 = .ok (.ifCond .eq 9, 3) := by decide +kernel
theorem dX7_bisect_145 : decode cX7_bisect 145 = .ok (.iload_n 1, 1) := by decide +kernel
theorem dX7_bisect_146 : decode cX7_bisect 146 = .ok (.iconst 2, 1) := by decide +kernel
theorem dX7_bisect_147 : decode cX7_bisect 147 = .ok (.iadd, 1) := by decide +kernel
theorem dX7_bisect_148 : decode cX7_bisect 148 = .ok (.goto 6, 3) := by decide +kernel
theorem dX7_bisect_151 : decode cX7_bisect 151 = .ok (.iload_n 1, 1) := by decide +kernel
theorem dX7_bisect_152 : decode cX7_bisect 152 = .ok (.iconst 1, 1) := by decide +kernel
theorem dX7_bisect_153 : decode cX7_bisect 153 = .ok (.iadd, 1) := by decide +kernel
theorem dX7_bisect_154 : decode cX7_bisect 154 = .ok (.iload_n 2, 1) := by decide +kernel
theorem dX7_bisect_155 : decode cX7_bisect 155 = .ok (.iload 5, 2) := by decide +kernel
theorem dX7_bisect_157 : decode cX7_bisect 157 = .ok (.iload 4, 2) := by decide +kernel
theorem dX7_bisect_159 : decode cX7_bisect 159 = .ok (.invokevirtual 292, 3) := by decide +kernel
theorem dX7_bisect_162 : decode cX7_bisect 162 = .ok (.aload_n 0, 1) := by decide +kernel
theorem dX7_bisect_163 : decode cX7_bisect 163 = .ok (.aload_n 0, 1) := by decide +kernel
theorem dX7_bisect_164 : decode cX7_bisect 164 = .ok (.getfield 285, 3) := by decide +kernel
theorem dX7_bisect_167 : decode cX7_bisect 167 = .ok (.invokevirtual 217, 3) := by decide +kernel
theorem dX7_bisect_170 : decode cX7_bisect 170 = .ok (.ireturn, 1) := by decide +kernel
theorem dX7_refine_0 : decode cX7_refine 0 = .ok (.aload_n 0, 1) := by decide +kernel
theorem dX7_refine_1 : decode cX7_refine 1 = .ok (.iload_n 1, 1) := by decide +kernel
theorem dX7_refine_2 : decode cX7_refine 2 = .ok (.invokevirtual 296, 3) := by decide +kernel
theorem dX7_refine_5 : decode cX7_refine 5 = .ok (.ifCond .ne 9, 3) := by decide +kernel
theorem dX7_refine_8 : decode cX7_refine 8 = .ok (.aload_n 0, 1) := by decide +kernel
theorem dX7_refine_9 : decode cX7_refine 9 = .ok (.iconst 1, 1) := by decide +kernel
theorem dX7_refine_10 : decode cX7_refine 10 = .ok (.invokevirtual 212, 3) := by decide +kernel
theorem dX7_refine_13 : decode cX7_refine 13 = .ok (.ireturn, 1) := by decide +kernel
theorem dX7_refine_14 : decode cX7_refine 14 = .ok (.iload_n 2, 1) := by decide +kernel
theorem dX7_refine_15 : decode cX7_refine 15 = .ok (.iconst 1, 1) := by decide +kernel
theorem dX7_refine_16 : decode cX7_refine 16 = .ok (.bipush 6, 2) := by decide +kernel
theorem dX7_refine_18 : decode cX7_refine 18 = .ok (.invokestatic 232, 3) := by decide +kernel
theorem dX7_refine_21 : decode cX7_refine 21 = .ok (.ifCond .ne 9, 3) := by decide +kernel
theorem dX7_refine_24 : decode cX7_refine 24 = .ok (.aload_n 0, 1) := by decide +kernel
theorem dX7_refine_25 : decode cX7_refine 25 = .ok (.iconst 2, 1) := by decide +kernel
theorem dX7_refine_26 : decode cX7_refine 26 = .ok (.invokevirtual 212, 3) := by decide +kernel
theorem dX7_refine_29 : decode cX7_refine 29 = .ok (.ireturn, 1) := by decide +kernel
theorem dX7_refine_30 : decode cX7_refine 30 = .ok (.aload_n 0, 1) := by decide +kernel
theorem dX7_refine_31 : decode cX7_refine 31 = .ok (.getfield 84, 3) := by decide +kernel
theorem dX7_refine_34 : decode cX7_refine 34 = .ok (.iload_n 1, 1) := by decide +kernel
theorem dX7_refine_35 : decode cX7_refine 35 = .ok (.iaload, 1) := by decide +kernel
theorem dX7_refine_36 : decode cX7_refine 36 = .ok (.iconst 1, 1) := by decide +kernel
theorem dX7_refine_37 : decode cX7_refine 37 = .ok (.if_icmp .ne 31, 3) := by decide +kernel
theorem dX7_refine_40 : decode cX7_refine 40 = .ok (.aload_n 0, 1) := by decide +kernel
theorem dX7_refine_41 : decode cX7_refine 41 = .ok (.getfield 78, 3) := by decide +kernel
theorem dX7_refine_44 : decode cX7_refine 44 = .ok (.iload_n 1, 1) := by decide +kernel
theorem dX7_refine_45 : decode cX7_refine 45 = .ok (.iaload, 1) := by decide +kernel
theorem dX7_refine_46 : decode cX7_refine 46 = .ok (.aload_n 0, 1) := by decide +kernel
theorem dX7_refine_47 : decode cX7_refine 47 = .ok (.getfield 81, 3) := by decide +kernel
theorem dX7_refine_50 : decode cX7_refine 50 = .ok (.iload_n 1, 1) := by decide +kernel
theorem dX7_refine_51 : decode cX7_refine 51 = .ok (.iaload, 1) := by decide +kernel
theorem dX7_refine_52 : decode cX7_refine 52 = .ok (.if_icmp .eq 16, 3) := by decide +kernel
theorem dX7_refine_55 : decode cX7_refine 55 = .ok (.aload_n 0, 1) := by decide +kernel
theorem dX7_refine_56 : decode cX7_refine 56 = .ok (.getfield 75, 3) := by decide +kernel
theorem dX7_refine_59 : decode cX7_refine 59 = .ok (.iload_n 1, 1) := by decide +kernel
theorem dX7_refine_60 : decode cX7_refine 60 = .ok (.iaload, 1) := by decide +kernel
theorem dX7_refine_61 : decode cX7_refine 61 = .ok (.iload_n 2, 1) := by decide +kernel
theorem dX7_refine_62 : decode cX7_refine 62 = .ok (.iadd, 1) := by decide +kernel
theorem dX7_refine_63 : decode cX7_refine 63 = .ok (.bipush 12, 2) := by decide +kernel
theorem dX7_refine_65 : decode cX7_refine 65 = .ok (.if_icmp .le 9, 3) := by decide +kernel
theorem dX7_refine_68 : decode cX7_refine 68 = .ok (.aload_n 0, 1) := by decide +kernel
theorem dX7_refine_69 : decode cX7_refine 69 = .ok (.iconst 3, 1) := by decide +kernel
theorem dX7_refine_70 : decode cX7_refine 70 = .ok (.invokevirtual 212, 3) := by decide +kernel
theorem dX7_refine_73 : decode cX7_refine 73 = .ok (.ireturn, 1) := by decide +kernel
theorem dX7_refine_74 : decode cX7_refine 74 = .ok (.iconst 0, 1) := by decide +kernel
theorem dX7_refine_75 : decode cX7_refine 75 = .ok (.istore_n 3, 1) := by decide +kernel
theorem dX7_refine_76 : decode cX7_refine 76 = .ok (.iload_n 3, 1) := by decide +kernel
theorem dX7_refine_77 : decode cX7_refine 77 = .ok (.iload_n 2, 1) := by decide +kernel
theorem dX7_refine_78 : decode cX7_refine 78 = .ok (.if_icmp .ge 125, 3) := by decide +kernel
theorem dX7_refine_81 : decode cX7_refine 81 = .ok (.aload_n 0, 1) := by decide +kernel
theorem dX7_refine_82 : decode cX7_refine 82 = .ok (.getfield 78, 3) := by decide +kernel
theorem dX7_refine_85 : decode cX7_refine 85 = .ok (.iload_n 1, 1) := by decide +kernel
theorem dX7_refine_86 : decode cX7_refine 86 = .ok (.iaload, 1) := by decide +kernel
theorem dX7_refine_87 : decode cX7_refine 87 = .ok (.aload_n 0, 1) := by decide +kernel
theorem dX7_refine_88 : decode cX7_refine 88 = .ok (.getfield 81, 3) := by decide +kernel
theorem dX7_refine_91 : decode cX7_refine 91 = .ok (.iload_n 1, 1) := by decide +kernel
theorem dX7_refine_92 : decode cX7_refine 92 = .ok (.iaload, 1) := by decide +kernel
theorem dX7_refine_93 : decode cX7_refine 93 = .ok (.if_icmp .ge 110, 3) := by decide +kernel
theorem dX7_refine_96 : decode cX7_refine 96 = .ok (.aload_n 0, 1) := by decide +kernel
theorem dX7_refine_97 : decode cX7_refine 97 = .ok (.getfield 75, 3) := by decide +kernel
theorem dX7_refine_100 : decode cX7_refine 100 = .ok (.iload_n 1, 1) := by decide +kernel
theorem dX7_refine_101 : decode cX7_refine 101 = .ok (.iaload, 1) := by decide +kernel
theorem dX7_refine_102 : decode cX7_refine 102 = .ok (.iconst 1, 1) := by decide +kernel
theorem dX7_refine_103 : decode cX7_refine 103 = .ok (.iadd, 1) := by decide +kernel
theorem dX7_refine_104 : decode cX7_refine 104 = .ok (.istore 4, 2) := by decide +kernel
theorem dX7_refine_106 : decode cX7_refine 106 = .ok (.iconst 2, 1) := by decide +kernel
theorem dX7_refine_107 : decode cX7_refine 107 = .ok (.aload_n 0, 1) := by decide +kernel
theorem dX7_refine_108 : decode cX7_refine 108 = .ok (.getfield 78, 3) := by decide +kernel
theorem dX7_refine_111 : decode cX7_refine 111 = .ok (.iload_n 1, 1) := by decide +kernel
theorem dX7_refine_112 : decode cX7_refine 112 = .ok (.iaload, 1) := by decide +kernel
theorem dX7_refine_113 : decode cX7_refine 113 = .ok (.imul, 1) := by decide +kernel
theorem dX7_refine_114 : decode cX7_refine 114 = .ok (.istore 5, 2) := by decide +kernel
theorem dX7_refine_116 : decode cX7_refine 116 = .ok (.iconst 2, 1) := by decide +kernel
theorem dX7_refine_117 : decode cX7_refine 117 = .ok (.aload_n 0, 1) := by decide +kernel
theorem dX7_refine_118 : decode cX7_refine 118 = .ok (.getfield 81, 3) := by decide +kernel
theorem dX7_refine_121 : decode cX7_refine 121 = .ok (.iload_n 1, 1) := by decide +kernel
theorem dX7_refine_122 : decode cX7_refine 122 = .ok (.iaload, 1) := by decide +kernel
theorem dX7_refine_123 : decode cX7_refine 123 = .ok (.imul, 1) := by decide +kernel
theorem dX7_refine_124 : decode cX7_refine 124 = .ok (.istore 6, 2) := by decide +kernel
theorem dX7_refine_126 : decode cX7_refine 126 = .ok (.aload_n 0, 1) := by decide +kernel
theorem dX7_refine_127 : decode cX7_refine 127 = .ok (.getfield 78, 3) := by decide +kernel
theorem dX7_refine_130 : decode cX7_refine 130 = .ok (.iload_n 1, 1) := by decide +kernel
theorem dX7_refine_131 : decode cX7_refine 131 = .ok (.iaload, 1) := by decide +kernel
theorem dX7_refine_132 : decode cX7_refine 132 = .ok (.aload_n 0, 1) := by decide +kernel
theorem dX7_refine_133 : decode cX7_refine 133 = .ok (.getfield 81, 3) := by decide +kernel
theorem dX7_refine_136 : decode cX7_refine 136 = .ok (.iload_n 1, 1) := by decide +kernel
theorem dX7_refine_137 : decode cX7_refine 137 = .ok (.iaload, 1) := by decide +kernel
theorem dX7_refine_138 : decode cX7_refine 138 = .ok (.iadd, 1) := by decide +kernel
theorem dX7_refine_139 : decode cX7_refine 139 = .ok (.istore 7, 2) := by decide +kernel
theorem dX7_refine_141 : decode cX7_refine 141 = .ok (.aload_n 0, 1) := by decide +kernel
theorem dX7_refine_142 : decode cX7_refine 142 = .ok (.iload 7, 2) := by decide +kernel
theorem dX7_refine_144 : decode cX7_refine 144 = .ok (.iload 4, 2) := by decide +kernel
theorem dX7_refine_146 : decode cX7_refine 146 = .ok (.invokevirtual 299, 3) := by decide +kernel
theorem dX7_refine_149 : decode cX7_refine 149 = .ok (.ifCond .eq 17, 3) := by decide +kernel
theorem dX7_refine_152 : decode cX7_refine 152 = .ok (.aload_n 0, 1) := by decide +kernel
theorem dX7_refine_153 : decode cX7_refine 153 = .ok (.iload_n 1, 1) := by decide +kernel
theorem dX7_refine_154 : decode cX7_refine 154 = .ok (.iload 4, 2) := by decide +kernel
theorem dX7_refine_156 : decode cX7_refine 156 = .ok (.iload 7, 2) := by decide +kernel
theorem dX7_refine_158 : decode cX7_refine 158 = .ok (.iload 7, 2) := by decide +kernel
theorem dX7_refine_160 : decode cX7_refine 160 = .ok (.invokevirtual 292, 3) := by decide +kernel
theorem dX7_refine_163 : decode cX7_refine 163 = .ok (.goto 34, 3) := by decide +kernel
theorem dX7_refine_166 : decode cX7_refine 166 = .ok (.aload_n 0, 1) := by decide +kernel
theorem dX7_refine_167 : decode cX7_refine 167 = .ok (.iload_n 1, 1) := by decide +kernel
theorem dX7_refine_168 : decode cX7_refine 168 = .ok (.iload 4, 2) := by decide +kernel
theorem dX7_refine_170 : decode cX7_refine 170 = .ok (.iload 5, 2) := by decide +kernel
theorem dX7_refine_172 : decode cX7_refine 172 = .ok (.iload 7, 2) := by decide +kernel
theorem dX7_refine_174 : decode cX7_refine 174 = .ok (.invokevirtual 292, 3) := by decide +kernel
theorem dX7_refine_177 : decode cX7_refine 177 = .ok (.aload_n 0, 1) := by decide +kernel
theorem dX7_refine_178 : decode cX7_refine 178 = .ok (.getfield 84, 3) := by decide +kernel
theorem dX7_refine_181 : decode cX7_refine 181 = .ok (.iload_n 1, 1) := by decide +kernel
theorem dX7_refine_182 : decode cX7_refine 182 = .ok (.iaload, 1) := by decide +kernel
theorem dX7_refine_183 : decode cX7_refine 183 = .ok (.ifCond .ne 14, 3) := by decide +kernel
theorem dX7_refine_186 : decode cX7_refine 186 = .ok (.aload_n 0, 1) := by decide +kernel
theorem dX7_refine_187 : decode cX7_refine 187 = .ok (.iload_n 1, 1) := by decide +kernel
theorem dX7_refine_188 : decode cX7_refine 188 = .ok (.iload 4, 2) := by decide +kernel
theorem dX7_refine_190 : decode cX7_refine 190 = .ok (.iload 7, 2) := by decide +kernel
theorem dX7_refine_192 : decode cX7_refine 192 = .ok (.iload 6, 2) := by decide +kernel
theorem dX7_refine_194 : decode cX7_refine 194 = .ok (.invokevirtual 292, 3) := by decide +kernel
theorem dX7_refine_197 : decode cX7_refine 197 = .ok (.iinc 3 1, 3) := by decide +kernel
theorem dX7_refine_200 : decode cX7_refine 200 = .ok (.goto (-124), 3) := by decide +kernel
theorem dX7_refine_203 : decode cX7_refine 203 = .ok (.aload_n 0, 1) := by decide +kernel
theorem dX7_refine_204 : decode cX7_refine 204 = .ok (.aload_n 0, 1) := by decide +kernel
theorem dX7_refine_205 : decode cX7_refine 205 = .ok (.getfield 75, 3) := by decide +kernel
theorem dX7_refine_208 : decode cX7_refine 208 = .ok (.iload_n 1, 1) := by decide +kernel
theorem dX7_refine_209 : decode cX7_refine 209 = .ok (.iaload, 1) := by decide +kernel
theorem dX7_refine_210 : decode cX7_refine 210 = .ok (.invokevirtual 217, 3) := by decide +kernel
theorem dX7_refine_213 : decode cX7_refine 213 = .ok (.ireturn, 1) := by decide +kernel
theorem dX7_removeEmpty_0 : decode cX7_removeEmpty 0 = .ok (.iconst 0, 1) := by decide +kernel
theorem dX7_removeEmpty_1 : decode cX7_removeEmpty 1 = .ok (.istore_n 1, 1) := by decide +kernel
theorem dX7_removeEmpty_2 : decode cX7_removeEmpty 2 = .ok (.iconst 0, 1) := by decide +kernel
theorem dX7_removeEmpty_3 : decode cX7_removeEmpty 3 = .ok (.istore_n 2, 1) := by decide +kernel
theorem dX7_removeEmpty_4 : decode cX7_removeEmpty 4 = .ok (.iload_n 2, 1) := by decide +kernel
theorem dX7_removeEmpty_5 : decode cX7_removeEmpty 5 = .ok (.aload_n 0, 1) := by decide +kernel
theorem dX7_removeEmpty_6 : decode cX7_removeEmpty 6 = .ok (.getfield 285, 3) := by decide +kernel
theorem dX7_removeEmpty_9 : decode cX7_removeEmpty 9 = .ok (.if_icmp .ge 74, 3) := by decide +kernel
theorem dX7_removeEmpty_12 : decode cX7_removeEmpty 12 = .ok (.aload_n 0, 1) := by decide +kernel
theorem dX7_removeEmpty_13 : decode cX7_removeEmpty 13 = .ok (.getfield 75, 3) := by decide +kernel
theorem dX7_removeEmpty_16 : decode cX7_removeEmpty 16 = .ok (.iload_n 1, 1) := by decide +kernel
theorem dX7_removeEmpty_17 : decode cX7_removeEmpty 17 = .ok (.aload_n 0, 1) := by decide +kernel
theorem dX7_removeEmpty_18 : decode cX7_removeEmpty 18 = .ok (.getfield 75, 3) := by decide +kernel
theorem dX7_removeEmpty_21 : decode cX7_removeEmpty 21 = .ok (.iload_n 2, 1) := by decide +kernel
theorem dX7_removeEmpty_22 : decode cX7_removeEmpty 22 = .ok (.iaload, 1) := by decide +kernel
theorem dX7_removeEmpty_23 : decode cX7_removeEmpty 23 = .ok (.iastore, 1) := by decide +kernel
theorem dX7_removeEmpty_24 : decode cX7_removeEmpty 24 = .ok (.aload_n 0, 1) := by decide +kernel
theorem dX7_removeEmpty_25 : decode cX7_removeEmpty 25 = .ok (.getfield 78, 3) := by decide +kernel
theorem dX7_removeEmpty_28 : decode cX7_removeEmpty 28 = .ok (.iload_n 1, 1) := by decide +kernel
theorem dX7_removeEmpty_29 : decode cX7_removeEmpty 29 = .ok (.aload_n 0, 1) := by decide +kernel
theorem dX7_removeEmpty_30 : decode cX7_removeEmpty 30 = .ok (.getfield 78, 3) := by decide +kernel
theorem dX7_removeEmpty_33 : decode cX7_removeEmpty 33 = .ok (.iload_n 2, 1) := by decide +kernel
theorem dX7_removeEmpty_34 : decode cX7_removeEmpty 34 = .ok (.iaload, 1) := by decide +kernel
theorem dX7_removeEmpty_35 : decode cX7_removeEmpty 35 = .ok (.iastore, 1) := by decide +kernel
theorem dX7_removeEmpty_36 : decode cX7_removeEmpty 36 = .ok (.aload_n 0, 1) := by decide +kernel
theorem dX7_removeEmpty_37 : decode cX7_removeEmpty 37 = .ok (.getfield 81, 3) := by decide +kernel
theorem dX7_removeEmpty_40 : decode cX7_removeEmpty 40 = .ok (.iload_n 1, 1) := by decide +kernel
theorem dX7_removeEmpty_41 : decode cX7_removeEmpty 41 = .ok (.aload_n 0, 1) := by decide +kernel
theorem dX7_removeEmpty_42 : decode cX7_removeEmpty 42 = .ok (.getfield 81, 3) := by decide +kernel
theorem dX7_removeEmpty_45 : decode cX7_removeEmpty 45 = .ok (.iload_n 2, 1) := by decide +kernel
theorem dX7_removeEmpty_46 : decode cX7_removeEmpty 46 = .ok (.iaload, 1) := by decide +kernel
theorem dX7_removeEmpty_47 : decode cX7_removeEmpty 47 = .ok (.iastore, 1) := by decide +kernel
theorem dX7_removeEmpty_48 : decode cX7_removeEmpty 48 = .ok (.aload_n 0, 1) := by decide +kernel
theorem dX7_removeEmpty_49 : decode cX7_removeEmpty 49 = .ok (.getfield 84, 3) := by decide +kernel
theorem dX7_removeEmpty_52 : decode cX7_removeEmpty 52 = .ok (.iload_n 1, 1) := by decide +kernel
theorem dX7_removeEmpty_53 : decode cX7_removeEmpty 53 = .ok (.aload_n 0, 1) := by decide +kernel
theorem dX7_removeEmpty_54 : decode cX7_removeEmpty 54 = .ok (.getfield 84, 3) := by decide +kernel
theorem dX7_removeEmpty_57 : decode cX7_removeEmpty 57 = .ok (.iload_n 2, 1) := by decide +kernel
theorem dX7_removeEmpty_58 : decode cX7_removeEmpty 58 = .ok (.iaload, 1) := by decide +kernel
theorem dX7_removeEmpty_59 : decode cX7_removeEmpty 59 = .ok (.iastore, 1) := by decide +kernel
theorem dX7_removeEmpty_60 : decode cX7_removeEmpty 60 = .ok (.iload_n 1, 1) := by decide +kernel
theorem dX7_removeEmpty_61 : decode cX7_removeEmpty 61 = .ok (.aload_n 0, 1) := by decide +kernel
theorem dX7_removeEmpty_62 : decode cX7_removeEmpty 62 = .ok (.getfield 84, 3) := by decide +kernel
theorem dX7_removeEmpty_65 : decode cX7_removeEmpty 65 = .ok (.iload_n 2, 1) := by decide +kernel
theorem dX7_removeEmpty_66 : decode cX7_removeEmpty 66 = .ok (.iaload, 1) := by decide +kernel
theorem dX7_removeEmpty_67 : decode cX7_removeEmpty 67 = .ok (.ifCond .le 7, 3) := by decide +kernel
theorem dX7_removeEmpty_70 : decode cX7_removeEmpty 70 = .ok (.iconst 1, 1) := by decide +kernel
theorem dX7_removeEmpty_71 : decode cX7_removeEmpty 71 = .ok (.goto 4, 3) := by decide +kernel
theorem dX7_removeEmpty_74 : decode cX7_removeEmpty 74 = .ok (.iconst 0, 1) := by decide +kernel
theorem dX7_removeEmpty_75 : decode cX7_removeEmpty 75 = .ok (.iadd, 1) := by decide +kernel
theorem dX7_removeEmpty_76 : decode cX7_removeEmpty 76 = .ok (.istore_n 1, 1) := by decide +kernel
theorem dX7_removeEmpty_77 : decode cX7_removeEmpty 77 = .ok (.iinc 2 1, 3) := by decide +kernel
theorem dX7_removeEmpty_80 : decode cX7_removeEmpty 80 = .ok (.goto (-76), 3) := by decide +kernel
theorem dX7_removeEmpty_83 : decode cX7_removeEmpty 83 = .ok (.aload_n 0, 1) := by decide +kernel
theorem dX7_removeEmpty_84 : decode cX7_removeEmpty 84 = .ok (.getfield 285, 3) := by decide +kernel
theorem dX7_removeEmpty_87 : decode cX7_removeEmpty 87 = .ok (.iload_n 1, 1) := by decide +kernel
theorem dX7_removeEmpty_88 : decode cX7_removeEmpty 88 = .ok (.isub, 1) := by decide +kernel
theorem dX7_removeEmpty_89 : decode cX7_removeEmpty 89 = .ok (.istore_n 2, 1) := by decide +kernel
theorem dX7_removeEmpty_90 : decode cX7_removeEmpty 90 = .ok (.aload_n 0, 1) := by decide +kernel
theorem dX7_removeEmpty_91 : decode cX7_removeEmpty 91 = .ok (.iload_n 1, 1) := by decide +kernel
theorem dX7_removeEmpty_92 : decode cX7_removeEmpty 92 = .ok (.putfield 285, 3) := by decide +kernel
theorem dX7_removeEmpty_95 : decode cX7_removeEmpty 95 = .ok (.aload_n 0, 1) := by decide +kernel
theorem dX7_removeEmpty_96 : decode cX7_removeEmpty 96 = .ok (.iload_n 2, 1) := by decide +kernel
theorem dX7_removeEmpty_97 : decode cX7_removeEmpty 97 = .ok (.invokevirtual 217, 3) := by decide +kernel
theorem dX7_removeEmpty_100 : decode cX7_removeEmpty 100 = .ok (.ireturn, 1) := by decide +kernel
theorem dX7_multiplicity_0 : decode cX7_multiplicity 0 = .ok (.aload_n 0, 1) := by decide +kernel
theorem dX7_multiplicity_1 : decode cX7_multiplicity 1 = .ok (.iload_n 1, 1) := by decide +kernel
theorem dX7_multiplicity_2 : decode cX7_multiplicity 2 = .ok (.invokevirtual 296, 3) := by decide +kernel
theorem dX7_multiplicity_5 : decode cX7_multiplicity 5 = .ok (.ifCond .ne 9, 3) := by decide +kernel
theorem dX7_multiplicity_8 : decode cX7_multiplicity 8 = .ok (.aload_n 0, 1) := by decide +kernel
theorem dX7_multiplicity_9 : decode cX7_multiplicity 9 = .ok (.iconst 1, 1) := by decide +kernel
theorem dX7_multiplicity_10 : decode cX7_multiplicity 10 = .ok (.invokevirtual 212, 3) := by decide +kernel
theorem dX7_multiplicity_13 : decode cX7_multiplicity 13 = .ok (.ireturn, 1) := by decide +kernel
theorem dX7_multiplicity_14 : decode cX7_multiplicity 14 = .ok (.aload_n 0, 1) := by decide +kernel
theorem dX7_multiplicity_15 : decode cX7_multiplicity 15 = .ok (.getfield 84, 3) := by decide +kernel
theorem dX7_multiplicity_18 : decode cX7_multiplicity 18 = .ok (.iload_n 1, 1) := by decide +kernel
theorem dX7_multiplicity_19 : decode cX7_multiplicity 19 = .ok (.iaload, 1) := by decide +kernel
theorem dX7_multiplicity_20 : decode cX7_multiplicity 20 = .ok (.iconst 1, 1) := by decide +kernel
theorem dX7_multiplicity_21 : decode cX7_multiplicity 21 = .ok (.if_icmp .eq 9, 3) := by decide +kernel
theorem dX7_multiplicity_24 : decode cX7_multiplicity 24 = .ok (.aload_n 0, 1) := by decide +kernel
theorem dX7_multiplicity_25 : decode cX7_multiplicity 25 = .ok (.iconst 2, 1) := by decide +kernel
theorem dX7_multiplicity_26 : decode cX7_multiplicity 26 = .ok (.invokevirtual 212, 3) := by decide +kernel
theorem dX7_multiplicity_29 : decode cX7_multiplicity 29 = .ok (.ireturn, 1) := by decide +kernel
theorem dX7_multiplicity_30 : decode cX7_multiplicity 30 = .ok (.aload_n 0, 1) := by decide +kernel
theorem dX7_multiplicity_31 : decode cX7_multiplicity 31 = .ok (.getfield 78, 3) := by decide +kernel
theorem dX7_multiplicity_34 : decode cX7_multiplicity 34 = .ok (.iload_n 1, 1) := by decide +kernel
theorem dX7_multiplicity_35 : decode cX7_multiplicity 35 = .ok (.iaload, 1) := by decide +kernel
theorem dX7_multiplicity_36 : decode cX7_multiplicity 36 = .ok (.istore_n 2, 1) := by decide +kernel
theorem dX7_multiplicity_37 : decode cX7_multiplicity 37 = .ok (.aload_n 0, 1) := by decide +kernel
theorem dX7_multiplicity_38 : decode cX7_multiplicity 38 = .ok (.getfield 81, 3) := by decide +kernel
theorem dX7_multiplicity_41 : decode cX7_multiplicity 41 = .ok (.iload_n 1, 1) := by decide +kernel
theorem dX7_multiplicity_42 : decode cX7_multiplicity 42 = .ok (.iaload, 1) := by decide +kernel
theorem dX7_multiplicity_43 : decode cX7_multiplicity 43 = .ok (.istore_n 3, 1) := by decide +kernel
theorem dX7_multiplicity_44 : decode cX7_multiplicity 44 = .ok (.aload_n 0, 1) := by decide +kernel
theorem dX7_multiplicity_45 : decode cX7_multiplicity 45 = .ok (.getfield 75, 3) := by decide +kernel
theorem dX7_multiplicity_48 : decode cX7_multiplicity 48 = .ok (.iload_n 1, 1) := by decide +kernel
theorem dX7_multiplicity_49 : decode cX7_multiplicity 49 = .ok (.iaload, 1) := by decide +kernel
theorem dX7_multiplicity_50 : decode cX7_multiplicity 50 = .ok (.istore 4, 2) := by decide +kernel
theorem dX7_multiplicity_52 : decode cX7_multiplicity 52 = .ok (.iconst 0, 1) := by decide +kernel
theorem dX7_multiplicity_53 : decode cX7_multiplicity 53 = .ok (.istore 5, 2) := by decide +kernel
theorem dX7_multiplicity_55 : decode cX7_multiplicity 55 = .ok (.aload_n 0, 1) := by decide +kernel
theorem dX7_multiplicity_56 : decode cX7_multiplicity 56 = .ok (.getfield 69, 3) := by decide +kernel
theorem dX7_multiplicity_59 : decode cX7_multiplicity 59 = .ok (.aload_n 0, 1) := by decide +kernel
theorem dX7_multiplicity_60 : decode cX7_multiplicity 60 = .ok (.getfield 63, 3) := by decide +kernel
theorem dX7_multiplicity_63 : decode cX7_multiplicity 63 = .ok (.invokestatic 236, 3) := by decide +kernel
theorem dX7_multiplicity_66 : decode cX7_multiplicity 66 = .ok (.iconst 1, 1) := by decide +kernel
theorem dX7_multiplicity_67 : decode cX7_multiplicity 67 = .ok (.istore 6, 2) := by decide +kernel
theorem dX7_multiplicity_69 : decode cX7_multiplicity 69 = .ok (.iload 6, 2) := by decide +kernel
theorem dX7_multiplicity_71 : decode cX7_multiplicity 71 = .ok (.ifCond .eq 106, 3) := by decide +kernel
theorem dX7_multiplicity_74 : decode cX7_multiplicity 74 = .ok (.iinc 5 1, 3) := by decide +kernel
theorem dX7_multiplicity_77 : decode cX7_multiplicity 77 = .ok (.aload_n 0, 1) := by decide +kernel
theorem dX7_multiplicity_78 : decode cX7_multiplicity 78 = .ok (.aload_n 0, 1) := by decide +kernel
theorem dX7_multiplicity_79 : decode cX7_multiplicity 79 = .ok (.getfield 63, 3) := by decide +kernel
theorem dX7_multiplicity_82 : decode cX7_multiplicity 82 = .ok (.invokevirtual 247, 3) := by decide +kernel
theorem dX7_multiplicity_85 : decode cX7_multiplicity 85 = .ok (.aload_n 0, 1) := by decide +kernel
theorem dX7_multiplicity_86 : decode cX7_multiplicity 86 = .ok (.getfield 42, 3) := by decide +kernel
theorem dX7_multiplicity_89 : decode cX7_multiplicity 89 = .ok (.aload_n 0, 1) := by decide +kernel
theorem dX7_multiplicity_90 : decode cX7_multiplicity 90 = .ok (.getfield 63, 3) := by decide +kernel
theorem dX7_multiplicity_93 : decode cX7_multiplicity 93 = .ok (.invokestatic 186, 3) := by decide +kernel
theorem dX7_multiplicity_96 : decode cX7_multiplicity 96 = .ok (.aload_n 0, 1) := by decide +kernel
theorem dX7_multiplicity_97 : decode cX7_multiplicity 97 = .ok (.getfield 63, 3) := by decide +kernel
theorem dX7_multiplicity_100 : decode cX7_multiplicity 100 = .ok (.invokestatic 166, 3) := by decide +kernel
theorem dX7_multiplicity_103 : decode cX7_multiplicity 103 = .ok (.iconst 1, 1) := by decide +kernel
theorem dX7_multiplicity_104 : decode cX7_multiplicity 104 = .ok (.if_icmp .ge 6, 3) := by decide +kernel
theorem dX7_multiplicity_107 : decode cX7_multiplicity 107 = .ok (.goto 70, 3) := by decide +kernel
theorem dX7_multiplicity_110 : decode cX7_multiplicity 110 = .ok (.iload_n 2, 1) := by decide +kernel
theorem dX7_multiplicity_111 : decode cX7_multiplicity 111 = .ok (.iload_n 3, 1) := by decide +kernel
theorem dX7_multiplicity_112 : decode cX7_multiplicity 112 = .ok (.if_icmp .ne 25, 3) := by decide +kernel
theorem dX7_multiplicity_115 : decode cX7_multiplicity 115 = .ok (.aload_n 0, 1) := by decide +kernel
theorem dX7_multiplicity_116 : decode cX7_multiplicity 116 = .ok (.aload_n 0, 1) := by decide +kernel
theorem dX7_multiplicity_117 : decode cX7_multiplicity 117 = .ok (.getfield 63, 3) := by decide +kernel
theorem dX7_multiplicity_120 : decode cX7_multiplicity 120 = .ok (.iload_n 2, 1) := by decide +kernel
theorem dX7_multiplicity_121 : decode cX7_multiplicity 121 = .ok (.i2l, 1) := by decide +kernel
theorem dX7_multiplicity_122 : decode cX7_multiplicity 122 = .ok (.iload 4, 2) := by decide +kernel
theorem dX7_multiplicity_124 : decode cX7_multiplicity 124 = .ok (.invokevirtual 263, 3) := by decide +kernel
theorem dX7_multiplicity_127 : decode cX7_multiplicity 127 = .ok (.ifCond .ne 7, 3) := by decide +kernel
theorem dX7_multiplicity_130 : decode cX7_multiplicity 130 = .ok (.iconst 1, 1) := by decide +kernel
theorem dX7_multiplicity_131 : decode cX7_multiplicity 131 = .ok (.goto 4, 3) := by decide +kernel
theorem dX7_multiplicity_134 : decode cX7_multiplicity 134 = .ok (.iconst 0, 1) := by decide +kernel
theorem dX7_multiplicity_135 : decode cX7_multiplicity 135 = .ok (.istore 6, 2) := by decide +kernel
theorem dX7_multiplicity_137 : decode cX7_multiplicity 137 = .ok (.iload_n 2, 1) := by decide +kernel
theorem dX7_multiplicity_138 : decode cX7_multiplicity 138 = .ok (.iload_n 3, 1) := by decide +kernel
theorem dX7_multiplicity_139 : decode cX7_multiplicity 139 = .ok (.if_icmp .ge (-70), 3) := by decide +kernel
theorem dX7_multiplicity_142 : decode cX7_multiplicity 142 = .ok (.aload_n 0, 1) := by decide +kernel
theorem dX7_multiplicity_143 : decode cX7_multiplicity 143 = .ok (.aload_n 0, 1) := by decide +kernel
theorem dX7_multiplicity_144 : decode cX7_multiplicity 144 = .ok (.getfield 63, 3) := by decide +kernel
theorem dX7_multiplicity_147 : decode cX7_multiplicity 147 = .ok (.invokevirtual 247, 3) := by decide +kernel
theorem dX7_multiplicity_150 : decode cX7_multiplicity 150 = .ok (.aload_n 0, 1) := by decide +kernel
theorem dX7_multiplicity_151 : decode cX7_multiplicity 151 = .ok (.aload_n 0, 1) := by decide +kernel
theorem dX7_multiplicity_152 : decode cX7_multiplicity 152 = .ok (.getfield 45, 3) := by decide +kernel
theorem dX7_multiplicity_155 : decode cX7_multiplicity 155 = .ok (.iload_n 2, 1) := by decide +kernel
theorem dX7_multiplicity_156 : decode cX7_multiplicity 156 = .ok (.i2l, 1) := by decide +kernel
theorem dX7_multiplicity_157 : decode cX7_multiplicity 157 = .ok (.iload_n 3, 1) := by decide +kernel
theorem dX7_multiplicity_158 : decode cX7_multiplicity 158 = .ok (.i2l, 1) := by decide +kernel
theorem dX7_multiplicity_159 : decode cX7_multiplicity 159 = .ok (.iload 4, 2) := by decide +kernel
theorem dX7_multiplicity_161 : decode cX7_multiplicity 161 = .ok (.invokevirtual 267, 3) := by decide +kernel
theorem dX7_multiplicity_164 : decode cX7_multiplicity 164 = .ok (.ifCond .le 7, 3) := by decide +kernel
theorem dX7_multiplicity_167 : decode cX7_multiplicity 167 = .ok (.iconst 1, 1) := by decide +kernel
theorem dX7_multiplicity_168 : decode cX7_multiplicity 168 = .ok (.goto 4, 3) := by decide +kernel
theorem dX7_multiplicity_171 : decode cX7_multiplicity 171 = .ok (.iconst 0, 1) := by decide +kernel
theorem dX7_multiplicity_172 : decode cX7_multiplicity 172 = .ok (.istore 6, 2) := by decide +kernel
theorem dX7_multiplicity_174 : decode cX7_multiplicity 174 = .ok (.goto (-105), 3) := by decide +kernel
theorem dX7_multiplicity_177 : decode cX7_multiplicity 177 = .ok (.aload_n 0, 1) := by decide +kernel
theorem dX7_multiplicity_178 : decode cX7_multiplicity 178 = .ok (.iload 5, 2) := by decide +kernel
theorem dX7_multiplicity_180 : decode cX7_multiplicity 180 = .ok (.invokevirtual 217, 3) := by decide +kernel
theorem dX7_multiplicity_183 : decode cX7_multiplicity 183 = .ok (.ireturn, 1) := by decide +kernel
theorem dX7_isTrue_0 : decode cX7_isTrue 0 = .ok (.iload_n 1, 1) := by decide +kernel
theorem dX7_isTrue_1 : decode cX7_isTrue 1 = .ok (.invokestatic 228, 3) := by decide +kernel
theorem dX7_isTrue_4 : decode cX7_isTrue 4 = .ok (.ifCond .eq 20, 3) := by decide +kernel
theorem dX7_isTrue_7 : decode cX7_isTrue 7 = .ok (.aload_n 0, 1) := by decide +kernel
theorem dX7_isTrue_8 : decode cX7_isTrue 8 = .ok (.iconst 1, 1) := by decide +kernel
theorem dX7_isTrue_9 : decode cX7_isTrue 9 = .ok (.invokevirtual 217, 3) := by decide +kernel
theorem dX7_isTrue_12 : decode cX7_isTrue 12 = .ok (.iconst 1, 1) := by decide +kernel
theorem dX7_isTrue_13 : decode cX7_isTrue 13 = .ok (.if_icmp .ne 7, 3) := by decide +kernel
theorem dX7_isTrue_16 : decode cX7_isTrue 16 = .ok (.iconst 1, 1) := by decide +kernel
theorem dX7_isTrue_17 : decode cX7_isTrue 17 = .ok (.goto 21, 3) := by decide +kernel
theorem dX7_isTrue_20 : decode cX7_isTrue 20 = .ok (.iconst 0, 1) := by decide +kernel
theorem dX7_isTrue_21 : decode cX7_isTrue 21 = .ok (.goto 17, 3) := by decide +kernel
theorem dX7_isTrue_24 : decode cX7_isTrue 24 = .ok (.aload_n 0, 1) := by decide +kernel
theorem dX7_isTrue_25 : decode cX7_isTrue 25 = .ok (.iconst 1, 1) := by decide +kernel
theorem dX7_isTrue_26 : decode cX7_isTrue 26 = .ok (.invokevirtual 212, 3) := by decide +kernel
theorem dX7_isTrue_29 : decode cX7_isTrue 29 = .ok (.iconst 1, 1) := by decide +kernel
theorem dX7_isTrue_30 : decode cX7_isTrue 30 = .ok (.if_icmp .ne 7, 3) := by decide +kernel
theorem dX7_isTrue_33 : decode cX7_isTrue 33 = .ok (.iconst 1, 1) := by decide +kernel
theorem dX7_isTrue_34 : decode cX7_isTrue 34 = .ok (.goto 4, 3) := by decide +kernel
theorem dX7_isTrue_37 : decode cX7_isTrue 37 = .ok (.iconst 0, 1) := by decide +kernel
theorem dX7_isTrue_38 : decode cX7_isTrue 38 = .ok (.ireturn, 1) := by decide +kernel
theorem dX7_checksum_0 : decode cX7_checksum 0 = .ok (.aload_n 0, 1) := by decide +kernel
theorem dX7_checksum_1 : decode cX7_checksum 1 = .ok (.iconst 0, 1) := by decide +kernel
theorem dX7_checksum_2 : decode cX7_checksum 2 = .ok (.putfield 87, 3) := by decide +kernel
theorem dX7_checksum_5 : decode cX7_checksum 5 = .ok (.ldc2_w 306, 3) := by decide +kernel
theorem dX7_checksum_8 : decode cX7_checksum 8 = .ok (.lstore_n 1, 1) := by decide +kernel
theorem dX7_checksum_9 : decode cX7_checksum 9 = .ok (.iconst 0, 1) := by decide +kernel
theorem dX7_checksum_10 : decode cX7_checksum 10 = .ok (.istore_n 3, 1) := by decide +kernel
theorem dX7_checksum_11 : decode cX7_checksum 11 = .ok (.iload_n 3, 1) := by decide +kernel
theorem dX7_checksum_12 : decode cX7_checksum 12 = .ok (.iconst 5, 1) := by decide +kernel
theorem dX7_checksum_13 : decode cX7_checksum 13 = .ok (.if_icmp .ge 55, 3) := by decide +kernel
theorem dX7_checksum_16 : decode cX7_checksum 16 = .ok (.aload_n 0, 1) := by decide +kernel
theorem dX7_checksum_17 : decode cX7_checksum 17 = .ok (.getfield 11, 3) := by decide +kernel
theorem dX7_checksum_20 : decode cX7_checksum 20 = .ok (.iload_n 3, 1) := by decide +kernel
theorem dX7_checksum_21 : decode cX7_checksum 21 = .ok (.aaload, 1) := by decide +kernel
theorem dX7_checksum_22 : decode cX7_checksum 22 = .ok (.astore 4, 2) := by decide +kernel
theorem dX7_checksum_24 : decode cX7_checksum 24 = .ok (.aload 4, 2) := by decide +kernel
theorem dX7_checksum_26 : decode cX7_checksum 26 = .ok (.arraylength, 1) := by decide +kernel
theorem dX7_checksum_27 : decode cX7_checksum 27 = .ok (.istore 5, 2) := by decide +kernel
theorem dX7_checksum_29 : decode cX7_checksum 29 = .ok (.iconst 0, 1) := by decide +kernel
theorem dX7_checksum_30 : decode cX7_checksum 30 = .ok (.istore 6, 2) := by decide +kernel
theorem dX7_checksum_32 : decode cX7_checksum 32 = .ok (.iload 6, 2) := by decide +kernel
theorem dX7_checksum_34 : decode cX7_checksum 34 = .ok (.iload 5, 2) := by decide +kernel
theorem dX7_checksum_36 : decode cX7_checksum 36 = .ok (.if_icmp .ge 26, 3) := by decide +kernel
theorem dX7_checksum_39 : decode cX7_checksum 39 = .ok (.aload 4, 2) := by decide +kernel
theorem dX7_checksum_41 : decode cX7_checksum 41 = .ok (.iload 6, 2) := by decide +kernel
theorem dX7_checksum_43 : decode cX7_checksum 43 = .ok (.iaload, 1) := by decide +kernel
theorem dX7_checksum_44 : decode cX7_checksum 44 = .ok (.istore 7, 2) := by decide +kernel
theorem dX7_checksum_46 : decode cX7_checksum 46 = .ok (.ldc2_w 308, 3) := by decide +kernel
theorem dX7_checksum_49 : decode cX7_checksum 49 = .ok (.lload_n 1, 1) := by decide +kernel
theorem dX7_checksum_50 : decode cX7_checksum 50 = .ok (.lmul, 1) := by decide +kernel
theorem dX7_checksum_51 : decode cX7_checksum 51 = .ok (.iload 7, 2) := by decide +kernel
theorem dX7_checksum_53 : decode cX7_checksum 53 = .ok (.i2l, 1) := by decide +kernel
theorem dX7_checksum_54 : decode cX7_checksum 54 = .ok (.ladd, 1) := by decide +kernel
theorem dX7_checksum_55 : decode cX7_checksum 55 = .ok (.lstore_n 1, 1) := by decide +kernel
theorem dX7_checksum_56 : decode cX7_checksum 56 = .ok (.iinc 6 1, 3) := by decide +kernel
theorem dX7_checksum_59 : decode cX7_checksum 59 = .ok (.goto (-27), 3) := by decide +kernel
theorem dX7_checksum_62 : decode cX7_checksum 62 = .ok (.iinc 3 1, 3) := by decide +kernel
theorem dX7_checksum_65 : decode cX7_checksum 65 = .ok (.goto (-54), 3) := by decide +kernel
theorem dX7_checksum_68 : decode cX7_checksum 68 = .ok (.ldc2_w 308, 3) := by decide +kernel
theorem dX7_checksum_71 : decode cX7_checksum 71 = .ok (.lload_n 1, 1) := by decide +kernel
theorem dX7_checksum_72 : decode cX7_checksum 72 = .ok (.lmul, 1) := by decide +kernel
theorem dX7_checksum_73 : decode cX7_checksum 73 = .ok (.aload_n 0, 1) := by decide +kernel
theorem dX7_checksum_74 : decode cX7_checksum 74 = .ok (.getfield 285, 3) := by decide +kernel
theorem dX7_checksum_77 : decode cX7_checksum 77 = .ok (.i2l, 1) := by decide +kernel
theorem dX7_checksum_78 : decode cX7_checksum 78 = .ok (.ladd, 1) := by decide +kernel
theorem dX7_checksum_79 : decode cX7_checksum 79 = .ok (.lstore_n 1, 1) := by decide +kernel
theorem dX7_checksum_80 : decode cX7_checksum 80 = .ok (.iconst 0, 1) := by decide +kernel
theorem dX7_checksum_81 : decode cX7_checksum 81 = .ok (.istore_n 3, 1) := by decide +kernel
theorem dX7_checksum_82 : decode cX7_checksum 82 = .ok (.iload_n 3, 1) := by decide +kernel
theorem dX7_checksum_83 : decode cX7_checksum 83 = .ok (.aload_n 0, 1) := by decide +kernel
theorem dX7_checksum_84 : decode cX7_checksum 84 = .ok (.getfield 285, 3) := by decide +kernel
theorem dX7_checksum_87 : decode cX7_checksum 87 = .ok (.if_icmp .ge 59, 3) := by decide +kernel
theorem dX7_checksum_90 : decode cX7_checksum 90 = .ok (.ldc2_w 308, 3) := by decide +kernel
theorem dX7_checksum_93 : decode cX7_checksum 93 = .ok (.ldc2_w 308, 3) := by decide +kernel
theorem dX7_checksum_96 : decode cX7_checksum 96 = .ok (.ldc2_w 308, 3) := by decide +kernel
theorem dX7_checksum_99 : decode cX7_checksum 99 = .ok (.ldc2_w 308, 3) := by decide +kernel
theorem dX7_checksum_102 : decode cX7_checksum 102 = .ok (.lload_n 1, 1) := by decide +kernel
theorem dX7_checksum_103 : decode cX7_checksum 103 = .ok (.lmul, 1) := by decide +kernel
theorem dX7_checksum_104 : decode cX7_checksum 104 = .ok (.aload_n 0, 1) := by decide +kernel
theorem dX7_checksum_105 : decode cX7_checksum 105 = .ok (.getfield 75, 3) := by decide +kernel
theorem dX7_checksum_108 : decode cX7_checksum 108 = .ok (.iload_n 3, 1) := by decide +kernel
theorem dX7_checksum_109 : decode cX7_checksum 109 = .ok (.iaload, 1) := by decide +kernel
theorem dX7_checksum_110 : decode cX7_checksum 110 = .ok (.i2l, 1) := by decide +kernel
theorem dX7_checksum_111 : decode cX7_checksum 111 = .ok (.ladd, 1) := by decide +kernel
theorem dX7_checksum_112 : decode cX7_checksum 112 = .ok (.lmul, 1) := by decide +kernel
theorem dX7_checksum_113 : decode cX7_checksum 113 = .ok (.aload_n 0, 1) := by decide +kernel
theorem dX7_checksum_114 : decode cX7_checksum 114 = .ok (.getfield 78, 3) := by decide +kernel
theorem dX7_checksum_117 : decode cX7_checksum 117 = .ok (.iload_n 3, 1) := by decide +kernel
theorem dX7_checksum_118 : decode cX7_checksum 118 = .ok (.iaload, 1) := by decide +kernel
theorem dX7_checksum_119 : decode cX7_checksum 119 = .ok (.i2l, 1) := by decide +kernel
theorem dX7_checksum_120 : decode cX7_checksum 120 = .ok (.ladd, 1) := by decide +kernel
theorem dX7_checksum_121 : decode cX7_checksum 121 = .ok (.lmul, 1) := by decide +kernel
theorem dX7_checksum_122 : decode cX7_checksum 122 = .ok (.aload_n 0, 1) := by decide +kernel
theorem dX7_checksum_123 : decode cX7_checksum 123 = .ok (.getfield 81, 3) := by decide +kernel
theorem dX7_checksum_126 : decode cX7_checksum 126 = .ok (.iload_n 3, 1) := by decide +kernel
theorem dX7_checksum_127 : decode cX7_checksum 127 = .ok (.iaload, 1) := by decide +kernel
theorem dX7_checksum_128 : decode cX7_checksum 128 = .ok (.i2l, 1) := by decide +kernel
theorem dX7_checksum_129 : decode cX7_checksum 129 = .ok (.ladd, 1) := by decide +kernel
theorem dX7_checksum_130 : decode cX7_checksum 130 = .ok (.lmul, 1) := by decide +kernel
theorem dX7_checksum_131 : decode cX7_checksum 131 = .ok (.aload_n 0, 1) := by decide +kernel
theorem dX7_checksum_132 : decode cX7_checksum 132 = .ok (.getfield 84, 3) := by decide +kernel
theorem dX7_checksum_135 : decode cX7_checksum 135 = .ok (.iload_n 3, 1) := by decide +kernel
theorem dX7_checksum_136 : decode cX7_checksum 136 = .ok (.iaload, 1) := by decide +kernel
theorem dX7_checksum_137 : decode cX7_checksum 137 = .ok (.i2l, 1) := by decide +kernel
theorem dX7_checksum_138 : decode cX7_checksum 138 = .ok (.ladd, 1) := by decide +kernel
theorem dX7_checksum_139 : decode cX7_checksum 139 = .ok (.lstore_n 1, 1) := by decide +kernel
theorem dX7_checksum_140 : decode cX7_checksum 140 = .ok (.iinc 3 1, 3) := by decide +kernel
theorem dX7_checksum_143 : decode cX7_checksum 143 = .ok (.goto (-61), 3) := by decide +kernel
theorem dX7_checksum_146 : decode cX7_checksum 146 = .ok (.lload_n 1, 1) := by decide +kernel
theorem dX7_checksum_147 : decode cX7_checksum 147 = .ok (.lreturn, 1) := by decide +kernel
