theorem dL_told_416 : decode cL_told 416 = .ok (.if_icmp .eq 5, 3) := by decide +kernel
theorem dL_told_419 : decode cL_told 419 = .ok (.iconst 0, 1) := by decide +kernel
theorem dL_told_420 : decode cL_told 420 = .ok (.ireturn, 1) := by decide +kernel
theorem dL_told_421 : decode cL_told 421 = .ok (.iinc 11 1, 3) := by decide +kernel
theorem dL_told_424 : decode cL_told 424 = .ok (.goto (-27), 3) := by decide +kernel
theorem dL_told_427 : decode cL_told 427 = .ok (.aload_n 3, 1) := by decide +kernel
theorem dL_told_428 : decode cL_told 428 = .ok (.aload 7, 2) := by decide +kernel
theorem dL_told_430 : decode cL_told 430 = .ok (.invokestatic 68, 3) := by decide +kernel
theorem dL_told_433 : decode cL_told 433 = .ok (.aload 7, 2) := by decide +kernel
theorem dL_told_435 : decode cL_told 435 = .ok (.bipush 12, 2) := by decide +kernel
theorem dL_told_437 : decode cL_told 437 = .ok (.iaload, 1) := by decide +kernel
theorem dL_told_438 : decode cL_told 438 = .ok (.iadd, 1) := by decide +kernel
theorem dL_told_439 : decode cL_told 439 = .ok (.istore 11, 2) := by decide +kernel
theorem dL_told_441 : decode cL_told 441 = .ok (.aload_n 0, 1) := by decide +kernel
theorem dL_told_442 : decode cL_told 442 = .ok (.bipush 11, 2) := by decide +kernel
theorem dL_told_444 : decode cL_told 444 = .ok (.invokevirtual 65, 3) := by decide +kernel
theorem dL_told_447 : decode cL_told 447 = .ok (.aload 6, 2) := by decide +kernel
theorem dL_told_449 : decode cL_told 449 = .ok (.invokestatic 74, 3) := by decide +kernel
theorem dL_told_452 : decode cL_told 452 = .ok (.if_icmp .ne 64, 3) := by decide +kernel
theorem dL_told_455 : decode cL_told 455 = .ok (.aload_n 0, 1) := by decide +kernel
theorem dL_told_456 : decode cL_told 456 = .ok (.bipush 12, 2) := by decide +kernel
theorem dL_told_458 : decode cL_told 458 = .ok (.invokevirtual 65, 3) := by decide +kernel
theorem dL_told_461 : decode cL_told 461 = .ok (.aload 4, 2) := by decide +kernel
theorem dL_told_463 : decode cL_told 463 = .ok (.invokestatic 74, 3) := by decide +kernel
theorem dL_told_466 : decode cL_told 466 = .ok (.if_icmp .ne 50, 3) := by decide +kernel
theorem dL_told_469 : decode cL_told 469 = .ok (.aload_n 0, 1) := by decide +kernel
theorem dL_told_470 : decode cL_told 470 = .ok (.bipush 13, 2) := by decide +kernel
theorem dL_told_472 : decode cL_told 472 = .ok (.invokevirtual 65, 3) := by decide +kernel
theorem dL_told_475 : decode cL_told 475 = .ok (.aload 5, 2) := by decide +kernel
theorem dL_told_477 : decode cL_told 477 = .ok (.invokestatic 74, 3) := by decide +kernel
theorem dL_told_480 : decode cL_told 480 = .ok (.if_icmp .ne 36, 3) := by decide +kernel
theorem dL_told_483 : decode cL_told 483 = .ok (.aload_n 0, 1) := by decide +kernel
theorem dL_told_484 : decode cL_told 484 = .ok (.invokevirtual 78, 3) := by decide +kernel
theorem dL_told_487 : decode cL_told 487 = .ok (.iload 11, 2) := by decide +kernel
theorem dL_told_489 : decode cL_told 489 = .ok (.ifCond .ne 7, 3) := by decide +kernel
theorem dL_told_492 : decode cL_told 492 = .ok (.dconst 0, 1) := by decide +kernel
theorem dL_told_493 : decode cL_told 493 = .ok (.goto 15, 3) := by decide +kernel
theorem dL_told_496 : decode cL_told 496 = .ok (.dconst 1, 1) := by decide +kernel
theorem dL_told_497 : decode cL_told 497 = .ok (.aload 7, 2) := by decide +kernel
theorem dL_told_499 : decode cL_told 499 = .ok (.bipush 13, 2) := by decide +kernel
theorem dL_told_501 : decode cL_told 501 = .ok (.iaload, 1) := by decide +kernel
theorem dL_told_502 : decode cL_told 502 = .ok (.i2d, 1) := by decide +kernel
theorem dL_told_503 : decode cL_told 503 = .ok (.dmul, 1) := by decide +kernel
theorem dL_told_504 : decode cL_told 504 = .ok (.iload 11, 2) := by decide +kernel
theorem dL_told_506 : decode cL_told 506 = .ok (.i2d, 1) := by decide +kernel
theorem dL_told_507 : decode cL_told 507 = .ok (.ddiv, 1) := by decide +kernel
theorem dL_told_508 : decode cL_told 508 = .ok (.dcmp .l, 1) := by decide +kernel
theorem dL_told_509 : decode cL_told 509 = .ok (.ifCond .ne 7, 3) := by decide +kernel
theorem dL_told_512 : decode cL_told 512 = .ok (.iconst 1, 1) := by decide +kernel
theorem dL_told_513 : decode cL_told 513 = .ok (.goto 4, 3) := by decide +kernel
theorem dL_told_516 : decode cL_told 516 = .ok (.iconst 0, 1) := by decide +kernel
theorem dL_told_517 : decode cL_told 517 = .ok (.ireturn, 1) := by decide +kernel
theorem dL_same_0 : decode cL_same 0 = .ok (.iconst 0, 1) := by decide +kernel
theorem dL_same_1 : decode cL_same 1 = .ok (.istore_n 2, 1) := by decide +kernel
theorem dL_same_2 : decode cL_same 2 = .ok (.iload_n 2, 1) := by decide +kernel
theorem dL_same_3 : decode cL_same 3 = .ok (.aload_n 1, 1) := by decide +kernel
theorem dL_same_4 : decode cL_same 4 = .ok (.arraylength, 1) := by decide +kernel
theorem dL_same_5 : decode cL_same 5 = .ok (.if_icmp .ge 15, 3) := by decide +kernel
theorem dL_same_8 : decode cL_same 8 = .ok (.aload_n 0, 1) := by decide +kernel
theorem dL_same_9 : decode cL_same 9 = .ok (.iload_n 2, 1) := by decide +kernel
theorem dL_same_10 : decode cL_same 10 = .ok (.aload_n 1, 1) := by decide +kernel
theorem dL_same_11 : decode cL_same 11 = .ok (.iload_n 2, 1) := by decide +kernel
theorem dL_same_12 : decode cL_same 12 = .ok (.iaload, 1) := by decide +kernel
theorem dL_same_13 : decode cL_same 13 = .ok (.iastore, 1) := by decide +kernel
theorem dL_same_14 : decode cL_same 14 = .ok (.iinc 2 1, 3) := by decide +kernel
theorem dL_same_17 : decode cL_same 17 = .ok (.goto (-15), 3) := by decide +kernel
theorem dL_same_20 : decode cL_same 20 = .ok (.return_, 1) := by decide +kernel
theorem dL_toTop_0 : decode cL_toTop 0 = .ok (.iconst 0, 1) := by decide +kernel
theorem dL_toTop_1 : decode cL_toTop 1 = .ok (.istore 4, 2) := by decide +kernel
theorem dL_toTop_3 : decode cL_toTop 3 = .ok (.iconst 0, 1) := by decide +kernel
theorem dL_toTop_4 : decode cL_toTop 4 = .ok (.istore 5, 2) := by decide +kernel
theorem dL_toTop_6 : decode cL_toTop 6 = .ok (.aload_n 3, 1) := by decide +kernel
theorem dL_toTop_7 : decode cL_toTop 7 = .ok (.iconst 2, 1) := by decide +kernel
theorem dL_toTop_8 : decode cL_toTop 8 = .ok (.iaload, 1) := by decide +kernel
theorem dL_toTop_9 : decode cL_toTop 9 = .ok (.aload_n 2, 1) := by decide +kernel
theorem dL_toTop_10 : decode cL_toTop 10 = .ok (.aload_n 3, 1) := by decide +kernel
theorem dL_toTop_11 : decode cL_toTop 11 = .ok (.invokestatic 19, 3) := by decide +kernel
theorem dL_toTop_14 : decode cL_toTop 14 = .ok (.istore 6, 2) := by decide +kernel
theorem dL_toTop_16 : decode cL_toTop 16 = .ok (.iload 6, 2) := by decide +kernel
theorem dL_toTop_18 : decode cL_toTop 18 = .ok (.aload_n 3, 1) := by decide +kernel
theorem dL_toTop_19 : decode cL_toTop 19 = .ok (.iconst 0, 1) := by decide +kernel
theorem dL_toTop_20 : decode cL_toTop 20 = .ok (.iaload, 1) := by decide +kernel
theorem dL_toTop_21 : decode cL_toTop 21 = .ok (.if_icmp .ge 36, 3) := by decide +kernel
theorem dL_toTop_24 : decode cL_toTop 24 = .ok (.iload 5, 2) := by decide +kernel
theorem dL_toTop_26 : decode cL_toTop 26 = .ok (.aload_n 3, 1) := by decide +kernel
theorem dL_toTop_27 : decode cL_toTop 27 = .ok (.iconst 2, 1) := by decide +kernel
theorem dL_toTop_28 : decode cL_toTop 28 = .ok (.iaload, 1) := by decide +kernel
theorem dL_toTop_29 : decode cL_toTop 29 = .ok (.iload 4, 2) := by decide +kernel
theorem dL_toTop_31 : decode cL_toTop 31 = .ok (.iadd, 1) := by decide +kernel
theorem dL_toTop_32 : decode cL_toTop 32 = .ok (.aload_n 3, 1) := by decide +kernel
theorem dL_toTop_33 : decode cL_toTop 33 = .ok (.invokestatic 8, 3) := by decide +kernel
theorem dL_toTop_36 : decode cL_toTop 36 = .ok (.iadd, 1) := by decide +kernel
theorem dL_toTop_37 : decode cL_toTop 37 = .ok (.istore 5, 2) := by decide +kernel
theorem dL_toTop_39 : decode cL_toTop 39 = .ok (.iinc 4 1, 3) := by decide +kernel
theorem dL_toTop_42 : decode cL_toTop 42 = .ok (.iload 6, 2) := by decide +kernel
theorem dL_toTop_44 : decode cL_toTop 44 = .ok (.iload_n 0, 1) := by decide +kernel
theorem dL_toTop_45 : decode cL_toTop 45 = .ok (.aload_n 3, 1) := by decide +kernel
theorem dL_toTop_46 : decode cL_toTop 46 = .ok (.iconst 3, 1) := by decide +kernel
theorem dL_toTop_47 : decode cL_toTop 47 = .ok (.iaload, 1) := by decide +kernel
theorem dL_toTop_48 : decode cL_toTop 48 = .ok (.isub, 1) := by decide +kernel
theorem dL_toTop_49 : decode cL_toTop 49 = .ok (.iconst 2, 1) := by decide +kernel
theorem dL_toTop_50 : decode cL_toTop 50 = .ok (.idiv, 1) := by decide +kernel
theorem dL_toTop_51 : decode cL_toTop 51 = .ok (.iadd, 1) := by decide +kernel
theorem dL_toTop_52 : decode cL_toTop 52 = .ok (.istore 6, 2) := by decide +kernel
theorem dL_toTop_54 : decode cL_toTop 54 = .ok (.goto (-38), 3) := by decide +kernel
theorem dL_toTop_57 : decode cL_toTop 57 = .ok (.iload_n 1, 1) := by decide +kernel
theorem dL_toTop_58 : decode cL_toTop 58 = .ok (.ifCond .ne 8, 3) := by decide +kernel
theorem dL_toTop_61 : decode cL_toTop 61 = .ok (.iload 4, 2) := by decide +kernel
theorem dL_toTop_63 : decode cL_toTop 63 = .ok (.goto 5, 3) := by decide +kernel
theorem dL_toTop_66 : decode cL_toTop 66 = .ok (.iload 5, 2) := by decide +kernel
theorem dL_toTop_68 : decode cL_toTop 68 = .ok (.ireturn, 1) := by decide +kernel
theorem dL_ahead_0 : decode cL_ahead 0 = .ok (.bipush 8, 2) := by decide +kernel
theorem dL_ahead_2 : decode cL_ahead 2 = .ok (.iload_n 1, 1) := by decide +kernel
theorem dL_ahead_3 : decode cL_ahead 3 = .ok (.bipush 17, 2) := by decide +kernel
theorem dL_ahead_5 : decode cL_ahead 5 = .ok (.invokestatic 45, 3) := by decide +kernel
theorem dL_ahead_8 : decode cL_ahead 8 = .ok (.iadd, 1) := by decide +kernel
theorem dL_ahead_9 : decode cL_ahead 9 = .ok (.istore 7, 2) := by decide +kernel
theorem dL_ahead_11 : decode cL_ahead 11 = .ok (.iload 7, 2) := by decide +kernel
theorem dL_ahead_13 : decode cL_ahead 13 = .ok (.aload_n 2, 1) := by decide +kernel
theorem dL_ahead_14 : decode cL_ahead 14 = .ok (.aload 6, 2) := by decide +kernel
theorem dL_ahead_16 : decode cL_ahead 16 = .ok (.invokestatic 34, 3) := by decide +kernel
theorem dL_ahead_19 : decode cL_ahead 19 = .ok (.if_icmp .gt 7, 3) := by decide +kernel
theorem dL_ahead_22 : decode cL_ahead 22 = .ok (.iconst 1, 1) := by decide +kernel
theorem dL_ahead_23 : decode cL_ahead 23 = .ok (.goto 4, 3) := by decide +kernel
theorem dL_ahead_26 : decode cL_ahead 26 = .ok (.iconst 0, 1) := by decide +kernel
theorem dL_ahead_27 : decode cL_ahead 27 = .ok (.istore 8, 2) := by decide +kernel
theorem dL_ahead_29 : decode cL_ahead 29 = .ok (.aload_n 0, 1) := by decide +kernel
theorem dL_ahead_30 : decode cL_ahead 30 = .ok (.iload 7, 2) := by decide +kernel
theorem dL_ahead_32 : decode cL_ahead 32 = .ok (.iconst 0, 1) := by decide +kernel
theorem dL_ahead_33 : decode cL_ahead 33 = .ok (.invokevirtual 82, 3) := by decide +kernel
theorem dL_ahead_36 : decode cL_ahead 36 = .ok (.iload 8, 2) := by decide +kernel
theorem dL_ahead_38 : decode cL_ahead 38 = .ok (.ifCond .eq 15, 3) := by decide +kernel
theorem dL_ahead_41 : decode cL_ahead 41 = .ok (.iload 7, 2) := by decide +kernel
theorem dL_ahead_43 : decode cL_ahead 43 = .ok (.iconst 0, 1) := by decide +kernel
theorem dL_ahead_44 : decode cL_ahead 44 = .ok (.aload_n 2, 1) := by decide +kernel
theorem dL_ahead_45 : decode cL_ahead 45 = .ok (.aload 6, 2) := by decide +kernel
theorem dL_ahead_47 : decode cL_ahead 47 = .ok (.invokestatic 85, 3) := by decide +kernel
theorem dL_ahead_50 : decode cL_ahead 50 = .ok (.goto 4, 3) := by decide +kernel
theorem dL_ahead_53 : decode cL_ahead 53 = .ok (.iconst (-1), 1) := by decide +kernel
theorem dL_ahead_54 : decode cL_ahead 54 = .ok (.if_icmp .ne 31, 3) := by decide +kernel
theorem dL_ahead_57 : decode cL_ahead 57 = .ok (.aload_n 0, 1) := by decide +kernel
theorem dL_ahead_58 : decode cL_ahead 58 = .ok (.iload 7, 2) := by decide +kernel
theorem dL_ahead_60 : decode cL_ahead 60 = .ok (.iconst 1, 1) := by decide +kernel
theorem dL_ahead_61 : decode cL_ahead 61 = .ok (.invokevirtual 82, 3) := by decide +kernel
theorem dL_ahead_64 : decode cL_ahead 64 = .ok (.iload 8, 2) := by decide +kernel
theorem dL_ahead_66 : decode cL_ahead 66 = .ok (.ifCond .eq 15, 3) := by decide +kernel
theorem dL_ahead_69 : decode cL_ahead 69 = .ok (.iload 7, 2) := by decide +kernel
theorem dL_ahead_71 : decode cL_ahead 71 = .ok (.iconst 1, 1) := by decide +kernel
theorem dL_ahead_72 : decode cL_ahead 72 = .ok (.aload_n 2, 1) := by decide +kernel
theorem dL_ahead_73 : decode cL_ahead 73 = .ok (.aload 6, 2) := by decide +kernel
theorem dL_ahead_75 : decode cL_ahead 75 = .ok (.invokestatic 85, 3) := by decide +kernel
theorem dL_ahead_78 : decode cL_ahead 78 = .ok (.goto 4, 3) := by decide +kernel
theorem dL_ahead_81 : decode cL_ahead 81 = .ok (.iconst (-1), 1) := by decide +kernel
theorem dL_ahead_82 : decode cL_ahead 82 = .ok (.if_icmp .eq 5, 3) := by decide +kernel
theorem dL_ahead_85 : decode cL_ahead 85 = .ok (.iconst 0, 1) := by decide +kernel
theorem dL_ahead_86 : decode cL_ahead 86 = .ok (.ireturn, 1) := by decide +kernel
theorem dL_ahead_87 : decode cL_ahead 87 = .ok (.iconst (-1), 1) := by decide +kernel
theorem dL_ahead_88 : decode cL_ahead 88 = .ok (.istore 9, 2) := by decide +kernel
theorem dL_ahead_90 : decode cL_ahead 90 = .ok (.aload_n 2, 1) := by decide +kernel
theorem dL_ahead_91 : decode cL_ahead 91 = .ok (.aload 6, 2) := by decide +kernel
theorem dL_ahead_93 : decode cL_ahead 93 = .ok (.invokestatic 34, 3) := by decide +kernel
theorem dL_ahead_96 : decode cL_ahead 96 = .ok (.istore 10, 2) := by decide +kernel
theorem dL_ahead_98 : decode cL_ahead 98 = .ok (.iload 10, 2) := by decide +kernel
theorem dL_ahead_100 : decode cL_ahead 100 = .ok (.bipush 7, 2) := by decide +kernel
theorem dL_ahead_102 : decode cL_ahead 102 = .ok (.if_icmp .le 74, 3) := by decide +kernel
theorem dL_ahead_105 : decode cL_ahead 105 = .ok (.aload 6, 2) := by decide +kernel
theorem dL_ahead_107 : decode cL_ahead 107 = .ok (.iconst 2, 1) := by decide +kernel
theorem dL_ahead_108 : decode cL_ahead 108 = .ok (.iaload, 1) := by decide +kernel
theorem dL_ahead_109 : decode cL_ahead 109 = .ok (.aload_n 2, 1) := by decide +kernel
theorem dL_ahead_110 : decode cL_ahead 110 = .ok (.aload 6, 2) := by decide +kernel
theorem dL_ahead_112 : decode cL_ahead 112 = .ok (.invokestatic 19, 3) := by decide +kernel
theorem dL_ahead_115 : decode cL_ahead 115 = .ok (.aload 6, 2) := by decide +kernel
theorem dL_ahead_117 : decode cL_ahead 117 = .ok (.iconst 0, 1) := by decide +kernel
theorem dL_ahead_118 : decode cL_ahead 118 = .ok (.iaload, 1) := by decide +kernel
theorem dL_ahead_119 : decode cL_ahead 119 = .ok (.if_icmp .ge 57, 3) := by decide +kernel
theorem dL_ahead_122 : decode cL_ahead 122 = .ok (.iload 9, 2) := by decide +kernel
theorem dL_ahead_124 : decode cL_ahead 124 = .ok (.ifCond .lt 42, 3) := by decide +kernel
theorem dL_ahead_127 : decode cL_ahead 127 = .ok (.iload 10, 2) := by decide +kernel
theorem dL_ahead_129 : decode cL_ahead 129 = .ok (.iconst 1, 1) := by decide +kernel
theorem dL_ahead_130 : decode cL_ahead 130 = .ok (.aload_n 2, 1) := by decide +kernel
theorem dL_ahead_131 : decode cL_ahead 131 = .ok (.aload 6, 2) := by decide +kernel
theorem dL_ahead_133 : decode cL_ahead 133 = .ok (.invokestatic 85, 3) := by decide +kernel
theorem dL_ahead_136 : decode cL_ahead 136 = .ok (.iload 10, 2) := by decide +kernel
theorem dL_ahead_138 : decode cL_ahead 138 = .ok (.iload 10, 2) := by decide +kernel
theorem dL_ahead_140 : decode cL_ahead 140 = .ok (.imul, 1) := by decide +kernel
theorem dL_ahead_141 : decode cL_ahead 141 = .ok (.bipush 16, 2) := by decide +kernel
theorem dL_ahead_143 : decode cL_ahead 143 = .ok (.idiv, 1) := by decide +kernel
theorem dL_ahead_144 : decode cL_ahead 144 = .ok (.imul, 1) := by decide +kernel
theorem dL_ahead_145 : decode cL_ahead 145 = .ok (.iload 9, 2) := by decide +kernel
theorem dL_ahead_147 : decode cL_ahead 147 = .ok (.iconst 1, 1) := by decide +kernel
theorem dL_ahead_148 : decode cL_ahead 148 = .ok (.aload_n 2, 1) := by decide +kernel
theorem dL_ahead_149 : decode cL_ahead 149 = .ok (.aload 6, 2) := by decide +kernel
theorem dL_ahead_151 : decode cL_ahead 151 = .ok (.invokestatic 85, 3) := by decide +kernel
theorem dL_ahead_154 : decode cL_ahead 154 = .ok (.iload 9, 2) := by decide +kernel
theorem dL_ahead_156 : decode cL_ahead 156 = .ok (.iload 9, 2) := by decide +kernel
theorem dL_ahead_158 : decode cL_ahead 158 = .ok (.imul, 1) := by decide +kernel
theorem dL_ahead_159 : decode cL_ahead 159 = .ok (.bipush 16, 2) := by decide +kernel
theorem dL_ahead_161 : decode cL_ahead 161 = .ok (.idiv, 1) := by decide +kernel
theorem dL_ahead_162 : decode cL_ahead 162 = .ok (.imul, 1) := by decide +kernel
theorem dL_ahead_163 : decode cL_ahead 163 = .ok (.if_icmp .ge 7, 3) := by decide +kernel
theorem dL_ahead_166 : decode cL_ahead 166 = .ok (.iload 10, 2) := by decide +kernel
theorem dL_ahead_168 : decode cL_ahead 168 = .ok (.istore 9, 2) := by decide +kernel
theorem dL_ahead_170 : decode cL_ahead 170 = .ok (.iinc 10 (-1), 3) := by decide +kernel
theorem dL_ahead_173 : decode cL_ahead 173 = .ok (.goto (-75), 3) := by decide +kernel
theorem dL_ahead_176 : decode cL_ahead 176 = .ok (.aload_n 0, 1) := by decide +kernel
theorem dL_ahead_177 : decode cL_ahead 177 = .ok (.invokevirtual 88, 3) := by decide +kernel
theorem dL_ahead_180 : decode cL_ahead 180 = .ok (.iload 9, 2) := by decide +kernel
theorem dL_ahead_182 : decode cL_ahead 182 = .ok (.if_icmp .eq 5, 3) := by decide +kernel
theorem dL_ahead_185 : decode cL_ahead 185 = .ok (.iconst 0, 1) := by decide +kernel
theorem dL_ahead_186 : decode cL_ahead 186 = .ok (.ireturn, 1) := by decide +kernel
theorem dL_ahead_187 : decode cL_ahead 187 = .ok (.bipush 61, 2) := by decide +kernel
theorem dL_ahead_189 : decode cL_ahead 189 = .ok (.newarray .int, 2) := by decide +kernel
theorem dL_ahead_191 : decode cL_ahead 191 = .ok (.astore 10, 2) := by decide +kernel
theorem dL_ahead_193 : decode cL_ahead 193 = .ok (.bipush 61, 2) := by decide +kernel
theorem dL_ahead_195 : decode cL_ahead 195 = .ok (.newarray .int, 2) := by decide +kernel
theorem dL_ahead_197 : decode cL_ahead 197 = .ok (.astore 11, 2) := by decide +kernel
theorem dL_ahead_199 : decode cL_ahead 199 = .ok (.bipush 25, 2) := by decide +kernel
theorem dL_ahead_201 : decode cL_ahead 201 = .ok (.newarray .int, 2) := by decide +kernel
theorem dL_ahead_203 : decode cL_ahead 203 = .ok (.astore 12, 2) := by decide +kernel
theorem dL_ahead_205 : decode cL_ahead 205 = .ok (.bipush 25, 2) := by decide +kernel
theorem dL_ahead_207 : decode cL_ahead 207 = .ok (.newarray .int, 2) := by decide +kernel
theorem dL_ahead_209 : decode cL_ahead 209 = .ok (.astore 13, 2) := by decide +kernel
theorem dL_ahead_211 : decode cL_ahead 211 = .ok (.bipush 14, 2) := by decide +kernel
theorem dL_ahead_213 : decode cL_ahead 213 = .ok (.newarray .int, 2) := by decide +kernel
theorem dL_ahead_215 : decode cL_ahead 215 = .ok (.astore 14, 2) := by decide +kernel
theorem dL_ahead_217 : decode cL_ahead 217 = .ok (.aload 10, 2) := by decide +kernel
theorem dL_ahead_219 : decode cL_ahead 219 = .ok (.aload_n 2, 1) := by decide +kernel
theorem dL_ahead_220 : decode cL_ahead 220 = .ok (.invokestatic 92, 3) := by decide +kernel
theorem dL_ahead_223 : decode cL_ahead 223 = .ok (.aload 11, 2) := by decide +kernel
theorem dL_ahead_225 : decode cL_ahead 225 = .ok (.aload_n 3, 1) := by decide +kernel
theorem dL_ahead_226 : decode cL_ahead 226 = .ok (.invokestatic 92, 3) := by decide +kernel
theorem dL_ahead_229 : decode cL_ahead 229 = .ok (.aload 12, 2) := by decide +kernel
theorem dL_ahead_231 : decode cL_ahead 231 = .ok (.aload 4, 2) := by decide +kernel
theorem dL_ahead_233 : decode cL_ahead 233 = .ok (.invokestatic 92, 3) := by decide +kernel
theorem dL_ahead_236 : decode cL_ahead 236 = .ok (.aload 13, 2) := by decide +kernel
theorem dL_ahead_238 : decode cL_ahead 238 = .ok (.aload 5, 2) := by decide +kernel
theorem dL_ahead_240 : decode cL_ahead 240 = .ok (.invokestatic 92, 3) := by decide +kernel
theorem dL_ahead_243 : decode cL_ahead 243 = .ok (.aload 14, 2) := by decide +kernel
theorem dL_ahead_245 : decode cL_ahead 245 = .ok (.aload 6, 2) := by decide +kernel
theorem dL_ahead_247 : decode cL_ahead 247 = .ok (.invokestatic 92, 3) := by decide +kernel
theorem dL_ahead_250 : decode cL_ahead 250 = .ok (.aload 14, 2) := by decide +kernel
theorem dL_ahead_252 : decode cL_ahead 252 = .ok (.bipush 9, 2) := by decide +kernel
theorem dL_ahead_254 : decode cL_ahead 254 = .ok (.iconst 0, 1) := by decide +kernel
theorem dL_ahead_255 : decode cL_ahead 255 = .ok (.iastore, 1) := by decide +kernel
theorem dL_ahead_256 : decode cL_ahead 256 = .ok (.iconst 0, 1) := by decide +kernel
theorem dL_ahead_257 : decode cL_ahead 257 = .ok (.istore 15, 2) := by decide +kernel
theorem dL_ahead_259 : decode cL_ahead 259 = .ok (.iload 15, 2) := by decide +kernel
theorem dL_ahead_261 : decode cL_ahead 261 = .ok (.sipush 201, 3) := by decide +kernel
theorem dL_ahead_264 : decode cL_ahead 264 = .ok (.if_icmp .ge 46, 3) := by decide +kernel
theorem dL_ahead_267 : decode cL_ahead 267 = .ok (.aload 10, 2) := by decide +kernel
theorem dL_ahead_269 : decode cL_ahead 269 = .ok (.aload 11, 2) := by decide +kernel
theorem dL_ahead_271 : decode cL_ahead 271 = .ok (.aload 14, 2) := by decide +kernel
theorem dL_ahead_273 : decode cL_ahead 273 = .ok (.invokestatic 26, 3) := by decide +kernel
theorem dL_ahead_276 : decode cL_ahead 276 = .ok (.ifCond .ne 34, 3) := by decide +kernel
theorem dL_ahead_279 : decode cL_ahead 279 = .ok (.iconst 0, 1) := by decide +kernel
theorem dL_ahead_280 : decode cL_ahead 280 = .ok (.aload 10, 2) := by decide +kernel
theorem dL_ahead_282 : decode cL_ahead 282 = .ok (.aload 11, 2) := by decide +kernel
theorem dL_ahead_284 : decode cL_ahead 284 = .ok (.aload 13, 2) := by decide +kernel
theorem dL_ahead_286 : decode cL_ahead 286 = .ok (.aload 14, 2) := by decide +kernel
theorem dL_ahead_288 : decode cL_ahead 288 = .ok (.invokestatic 96, 3) := by decide +kernel
theorem dL_ahead_291 : decode cL_ahead 291 = .ok (.pop, 1) := by decide +kernel
theorem dL_ahead_292 : decode cL_ahead 292 = .ok (.aload 10, 2) := by decide +kernel
theorem dL_ahead_294 : decode cL_ahead 294 = .ok (.aload 11, 2) := by decide +kernel
theorem dL_ahead_296 : decode cL_ahead 296 = .ok (.aload 12, 2) := by decide +kernel
theorem dL_ahead_298 : decode cL_ahead 298 = .ok (.aload 14, 2) := by decide +kernel
theorem dL_ahead_300 : decode cL_ahead 300 = .ok (.invokestatic 100, 3) := by decide +kernel
theorem dL_ahead_303 : decode cL_ahead 303 = .ok (.pop, 1) := by decide +kernel
theorem dL_ahead_304 : decode cL_ahead 304 = .ok (.iinc 15 1, 3) := by decide +kernel
theorem dL_ahead_307 : decode cL_ahead 307 = .ok (.goto (-48), 3) := by decide +kernel
theorem dL_ahead_310 : decode cL_ahead 310 = .ok (.aload_n 0, 1) := by decide +kernel
theorem dL_ahead_311 : decode cL_ahead 311 = .ok (.invokevirtual 104, 3) := by decide +kernel
theorem dL_ahead_314 : decode cL_ahead 314 = .ok (.iload 15, 2) := by decide +kernel
theorem dL_ahead_316 : decode cL_ahead 316 = .ok (.sipush 200, 3) := by decide +kernel
theorem dL_ahead_319 : decode cL_ahead 319 = .ok (.if_icmp .le 7, 3) := by decide +kernel
theorem dL_ahead_322 : decode cL_ahead 322 = .ok (.iconst (-1), 1) := by decide +kernel
theorem dL_ahead_323 : decode cL_ahead 323 = .ok (.goto 5, 3) := by decide +kernel
theorem dL_ahead_326 : decode cL_ahead 326 = .ok (.iload 15, 2) := by decide +kernel
theorem dL_ahead_328 : decode cL_ahead 328 = .ok (.if_icmp .eq 5, 3) := by decide +kernel
theorem dL_ahead_331 : decode cL_ahead 331 = .ok (.iconst 0, 1) := by decide +kernel
theorem dL_ahead_332 : decode cL_ahead 332 = .ok (.ireturn, 1) := by decide +kernel
theorem dL_ahead_333 : decode cL_ahead 333 = .ok (.aload 10, 2) := by decide +kernel
theorem dL_ahead_335 : decode cL_ahead 335 = .ok (.aload_n 2, 1) := by decide +kernel
theorem dL_ahead_336 : decode cL_ahead 336 = .ok (.invokestatic 92, 3) := by decide +kernel
theorem dL_ahead_339 : decode cL_ahead 339 = .ok (.aload 12, 2) := by decide +kernel
theorem dL_ahead_341 : decode cL_ahead 341 = .ok (.aload 4, 2) := by decide +kernel
theorem dL_ahead_343 : decode cL_ahead 343 = .ok (.invokestatic 92, 3) := by decide +kernel
theorem dL_ahead_346 : decode cL_ahead 346 = .ok (.aload 14, 2) := by decide +kernel
theorem dL_ahead_348 : decode cL_ahead 348 = .ok (.aload 6, 2) := by decide +kernel
theorem dL_ahead_350 : decode cL_ahead 350 = .ok (.invokestatic 92, 3) := by decide +kernel
theorem dL_ahead_353 : decode cL_ahead 353 = .ok (.iconst (-1), 1) := by decide +kernel
theorem dL_ahead_354 : decode cL_ahead 354 = .ok (.istore 16, 2) := by decide +kernel
theorem dL_ahead_356 : decode cL_ahead 356 = .ok (.aload 14, 2) := by decide +kernel
theorem dL_ahead_358 : decode cL_ahead 358 = .ok (.iconst 2, 1) := by decide +kernel
theorem dL_ahead_359 : decode cL_ahead 359 = .ok (.iaload, 1) := by decide +kernel
theorem dL_ahead_360 : decode cL_ahead 360 = .ok (.aload 10, 2) := by decide +kernel
theorem dL_ahead_362 : decode cL_ahead 362 = .ok (.aload 14, 2) := by decide +kernel
theorem dL_ahead_364 : decode cL_ahead 364 = .ok (.invokestatic 19, 3) := by decide +kernel
theorem dL_ahead_367 : decode cL_ahead 367 = .ok (.aload 14, 2) := by decide +kernel
theorem dL_ahead_369 : decode cL_ahead 369 = .ok (.iconst 0, 1) := by decide +kernel
theorem dL_ahead_370 : decode cL_ahead 370 = .ok (.iaload, 1) := by decide +kernel
theorem dL_ahead_371 : decode cL_ahead 371 = .ok (.if_icmp .ge 63, 3) := by decide +kernel
theorem dL_ahead_374 : decode cL_ahead 374 = .ok (.aload 12, 2) := by decide +kernel
theorem dL_ahead_376 : decode cL_ahead 376 = .ok (.aload 10, 2) := by decide +kernel
theorem dL_ahead_378 : decode cL_ahead 378 = .ok (.aload 14, 2) := by decide +kernel
theorem dL_ahead_380 : decode cL_ahead 380 = .ok (.invokestatic 41, 3) := by decide +kernel
theorem dL_ahead_383 : decode cL_ahead 383 = .ok (.ifCond .le 51, 3) := by decide +kernel
theorem dL_ahead_386 : decode cL_ahead 386 = .ok (.aload 12, 2) := by decide +kernel
theorem dL_ahead_388 : decode cL_ahead 388 = .ok (.aload 10, 2) := by decide +kernel
theorem dL_ahead_390 : decode cL_ahead 390 = .ok (.aload 14, 2) := by decide +kernel
theorem dL_ahead_392 : decode cL_ahead 392 = .ok (.invokestatic 41, 3) := by decide +kernel
theorem dL_ahead_395 : decode cL_ahead 395 = .ok (.istore 16, 2) := by decide +kernel
theorem dL_ahead_397 : decode cL_ahead 397 = .ok (.aload 12, 2) := by decide +kernel
theorem dL_ahead_399 : decode cL_ahead 399 = .ok (.iload 16, 2) := by decide +kernel
theorem dL_ahead_401 : decode cL_ahead 401 = .ok (.dup2, 1) := by decide +kernel
theorem dL_ahead_402 : decode cL_ahead 402 = .ok (.iaload, 1) := by decide +kernel
theorem dL_ahead_403 : decode cL_ahead 403 = .ok (.aload 14, 2) := by decide +kernel
theorem dL_ahead_405 : decode cL_ahead 405 = .ok (.iconst 2, 1) := by decide +kernel
theorem dL_ahead_406 : decode cL_ahead 406 = .ok (.iaload, 1) := by decide +kernel
theorem dL_ahead_407 : decode cL_ahead 407 = .ok (.aload 14, 2) := by decide +kernel
theorem dL_ahead_409 : decode cL_ahead 409 = .ok (.invokestatic 8, 3) := by decide +kernel
theorem dL_ahead_412 : decode cL_ahead 412 = .ok (.isub, 1) := by decide +kernel
theorem dL_ahead_413 : decode cL_ahead 413 = .ok (.iastore, 1) := by decide +kernel
theorem dL_ahead_414 : decode cL_ahead 414 = .ok (.aload 10, 2) := by decide +kernel
theorem dL_ahead_416 : decode cL_ahead 416 = .ok (.aload 14, 2) := by decide +kernel
theorem dL_ahead_418 : decode cL_ahead 418 = .ok (.iconst 2, 1) := by decide +kernel
theorem dL_ahead_419 : decode cL_ahead 419 = .ok (.iaload, 1) := by decide +kernel
theorem dL_ahead_420 : decode cL_ahead 420 = .ok (.iload 16, 2) := by decide +kernel
theorem dL_ahead_422 : decode cL_ahead 422 = .ok (.iastore, 1) := by decide +kernel
theorem dL_ahead_423 : decode cL_ahead 423 = .ok (.aload 14, 2) := by decide +kernel
theorem dL_ahead_425 : decode cL_ahead 425 = .ok (.iconst 2, 1) := by decide +kernel
theorem dL_ahead_426 : decode cL_ahead 426 = .ok (.dup2, 1) := by decide +kernel
theorem dL_ahead_427 : decode cL_ahead 427 = .ok (.iaload, 1) := by decide +kernel
theorem dL_ahead_428 : decode cL_ahead 428 = .ok (.iconst 1, 1) := by decide +kernel
theorem dL_ahead_429 : decode cL_ahead 429 = .ok (.iadd, 1) := by decide +kernel
theorem dL_ahead_430 : decode cL_ahead 430 = .ok (.iastore, 1) := by decide +kernel
theorem dL_ahead_431 : decode cL_ahead 431 = .ok (.goto (-75), 3) := by decide +kernel
theorem dL_ahead_434 : decode cL_ahead 434 = .ok (.aload_n 0, 1) := by decide +kernel
theorem dL_ahead_435 : decode cL_ahead 435 = .ok (.iconst 0, 1) := by decide +kernel
theorem dL_ahead_436 : decode cL_ahead 436 = .ok (.invokevirtual 107, 3) := by decide +kernel
theorem dL_ahead_439 : decode cL_ahead 439 = .ok (.aload 14, 2) := by decide +kernel
theorem dL_ahead_441 : decode cL_ahead 441 = .ok (.iconst 2, 1) := by decide +kernel
theorem dL_ahead_442 : decode cL_ahead 442 = .ok (.iaload, 1) := by decide +kernel
theorem dL_ahead_443 : decode cL_ahead 443 = .ok (.aload 6, 2) := by decide +kernel
theorem dL_ahead_445 : decode cL_ahead 445 = .ok (.iconst 2, 1) := by decide +kernel
theorem dL_ahead_446 : decode cL_ahead 446 = .ok (.iaload, 1) := by decide +kernel
theorem dL_ahead_447 : decode cL_ahead 447 = .ok (.isub, 1) := by decide +kernel
theorem dL_ahead_448 : decode cL_ahead 448 = .ok (.if_icmp .ne 49, 3) := by decide +kernel
theorem dL_ahead_451 : decode cL_ahead 451 = .ok (.aload_n 0, 1) := by decide +kernel
theorem dL_ahead_452 : decode cL_ahead 452 = .ok (.iconst 1, 1) := by decide +kernel
theorem dL_ahead_453 : decode cL_ahead 453 = .ok (.invokevirtual 107, 3) := by decide +kernel
theorem dL_ahead_456 : decode cL_ahead 456 = .ok (.aload 14, 2) := by decide +kernel
theorem dL_ahead_458 : decode cL_ahead 458 = .ok (.iconst 2, 1) := by decide +kernel
theorem dL_ahead_459 : decode cL_ahead 459 = .ok (.iaload, 1) := by decide +kernel
theorem dL_ahead_460 : decode cL_ahead 460 = .ok (.aload 10, 2) := by decide +kernel
theorem dL_ahead_462 : decode cL_ahead 462 = .ok (.aload 14, 2) := by decide +kernel
theorem dL_ahead_464 : decode cL_ahead 464 = .ok (.invokestatic 19, 3) := by decide +kernel
theorem dL_ahead_467 : decode cL_ahead 467 = .ok (.if_icmp .ne 30, 3) := by decide +kernel
theorem dL_ahead_470 : decode cL_ahead 470 = .ok (.aload_n 0, 1) := by decide +kernel
theorem dL_ahead_471 : decode cL_ahead 471 = .ok (.iconst 2, 1) := by decide +kernel
theorem dL_ahead_472 : decode cL_ahead 472 = .ok (.invokevirtual 107, 3) := by decide +kernel
theorem dL_ahead_475 : decode cL_ahead 475 = .ok (.aload 12, 2) := by decide +kernel
theorem dL_ahead_477 : decode cL_ahead 477 = .ok (.invokestatic 74, 3) := by decide +kernel
theorem dL_ahead_480 : decode cL_ahead 480 = .ok (.if_icmp .ne 17, 3) := by decide +kernel
theorem dL_ahead_483 : decode cL_ahead 483 = .ok (.aload_n 0, 1) := by decide +kernel
theorem dL_ahead_484 : decode cL_ahead 484 = .ok (.iconst 3, 1) := by decide +kernel
theorem dL_ahead_485 : decode cL_ahead 485 = .ok (.invokevirtual 107, 3) := by decide +kernel
theorem dL_ahead_488 : decode cL_ahead 488 = .ok (.iload 16, 2) := by decide +kernel
theorem dL_ahead_490 : decode cL_ahead 490 = .ok (.if_icmp .ne 7, 3) := by decide +kernel
theorem dL_ahead_493 : decode cL_ahead 493 = .ok (.iconst 1, 1) := by decide +kernel
theorem dL_ahead_494 : decode cL_ahead 494 = .ok (.goto 4, 3) := by decide +kernel
theorem dL_ahead_497 : decode cL_ahead 497 = .ok (.iconst 0, 1) := by decide +kernel
theorem dL_ahead_498 : decode cL_ahead 498 = .ok (.ireturn, 1) := by decide +kernel
theorem dL_bought_0 : decode cL_bought 0 = .ok (.iload_n 2, 1) := by decide +kernel
theorem dL_bought_1 : decode cL_bought 1 = .ok (.istore 7, 2) := by decide +kernel
theorem dL_bought_3 : decode cL_bought 3 = .ok (.iconst 0, 1) := by decide +kernel
theorem dL_bought_4 : decode cL_bought 4 = .ok (.istore 8, 2) := by decide +kernel
theorem dL_bought_6 : decode cL_bought 6 = .ok (.iconst 0, 1) := by decide +kernel
theorem dL_bought_7 : decode cL_bought 7 = .ok (.istore 9, 2) := by decide +kernel
theorem dL_bought_9 : decode cL_bought 9 = .ok (.iload 9, 2) := by decide +kernel
theorem dL_bought_11 : decode cL_bought 11 = .ok (.iload_n 1, 1) := by decide +kernel
theorem dL_bought_12 : decode cL_bought 12 = .ok (.if_icmp .ge 37, 3) := by decide +kernel
theorem dL_bought_15 : decode cL_bought 15 = .ok (.iload 7, 2) := by decide +kernel
theorem dL_bought_17 : decode cL_bought 17 = .ok (.ldc 110, 2) := by decide +kernel
theorem dL_bought_19 : decode cL_bought 19 = .ok (.imul, 1) := by decide +kernel
theorem dL_bought_20 : decode cL_bought 20 = .ok (.sipush 12345, 3) := by decide +kernel
theorem dL_bought_23 : decode cL_bought 23 = .ok (.iadd, 1) := by decide +kernel
theorem dL_bought_24 : decode cL_bought 24 = .ok (.istore 7, 2) := by decide +kernel
theorem dL_bought_26 : decode cL_bought 26 = .ok (.iload 7, 2) := by decide +kernel
theorem dL_bought_28 : decode cL_bought 28 = .ok (.bipush 16, 2) := by decide +kernel
theorem dL_bought_30 : decode cL_bought 30 = .ok (.iushr, 1) := by decide +kernel
theorem dL_bought_31 : decode cL_bought 31 = .ok (.ldc 111, 2) := by decide +kernel
theorem dL_bought_33 : decode cL_bought 33 = .ok (.irem, 1) := by decide +kernel
theorem dL_bought_34 : decode cL_bought 34 = .ok (.bipush 10, 2) := by decide +kernel
theorem dL_bought_36 : decode cL_bought 36 = .ok (.irem, 1) := by decide +kernel
theorem dL_bought_37 : decode cL_bought 37 = .ok (.ifCond .ne 6, 3) := by decide +kernel
theorem dL_bought_40 : decode cL_bought 40 = .ok (.iinc 8 1, 3) := by decide +kernel
theorem dL_bought_43 : decode cL_bought 43 = .ok (.iinc 9 1, 3) := by decide +kernel
theorem dL_bought_46 : decode cL_bought 46 = .ok (.goto (-37), 3) := by decide +kernel
theorem dL_bought_49 : decode cL_bought 49 = .ok (.aload_n 3, 1) := by decide +kernel
theorem dL_bought_50 : decode cL_bought 50 = .ok (.iload_n 0, 1) := by decide +kernel
theorem dL_bought_51 : decode cL_bought 51 = .ok (.dup2, 1) := by decide +kernel
theorem dL_bought_52 : decode cL_bought 52 = .ok (.iaload, 1) := by decide +kernel
theorem dL_bought_53 : decode cL_bought 53 = .ok (.iload_n 1, 1) := by decide +kernel
theorem dL_bought_54 : decode cL_bought 54 = .ok (.iload 8, 2) := by decide +kernel
theorem dL_bought_56 : decode cL_bought 56 = .ok (.isub, 1) := by decide +kernel
theorem dL_bought_57 : decode cL_bought 57 = .ok (.iadd, 1) := by decide +kernel
theorem dL_bought_58 : decode cL_bought 58 = .ok (.iastore, 1) := by decide +kernel
theorem dL_bought_59 : decode cL_bought 59 = .ok (.aload 4, 2) := by decide +kernel
theorem dL_bought_61 : decode cL_bought 61 = .ok (.iload_n 0, 1) := by decide +kernel
theorem dL_bought_62 : decode cL_bought 62 = .ok (.dup2, 1) := by decide +kernel
theorem dL_bought_63 : decode cL_bought 63 = .ok (.iaload, 1) := by decide +kernel
theorem dL_bought_64 : decode cL_bought 64 = .ok (.iload 8, 2) := by decide +kernel
theorem dL_bought_66 : decode cL_bought 66 = .ok (.iadd, 1) := by decide +kernel
theorem dL_bought_67 : decode cL_bought 67 = .ok (.iastore, 1) := by decide +kernel
theorem dL_bought_68 : decode cL_bought 68 = .ok (.aload 5, 2) := by decide +kernel
theorem dL_bought_70 : decode cL_bought 70 = .ok (.iload_n 0, 1) := by decide +kernel
theorem dL_bought_71 : decode cL_bought 71 = .ok (.dup2, 1) := by decide +kernel
theorem dL_bought_72 : decode cL_bought 72 = .ok (.iaload, 1) := by decide +kernel
theorem dL_bought_73 : decode cL_bought 73 = .ok (.iload_n 1, 1) := by decide +kernel
theorem dL_bought_74 : decode cL_bought 74 = .ok (.iadd, 1) := by decide +kernel
theorem dL_bought_75 : decode cL_bought 75 = .ok (.iastore, 1) := by decide +kernel
theorem dL_bought_76 : decode cL_bought 76 = .ok (.aload 6, 2) := by decide +kernel
theorem dL_bought_78 : decode cL_bought 78 = .ok (.bipush 13, 2) := by decide +kernel
theorem dL_bought_80 : decode cL_bought 80 = .ok (.dup2, 1) := by decide +kernel
theorem dL_bought_81 : decode cL_bought 81 = .ok (.iaload, 1) := by decide +kernel
theorem dL_bought_82 : decode cL_bought 82 = .ok (.iload_n 1, 1) := by decide +kernel
theorem dL_bought_83 : decode cL_bought 83 = .ok (.iload_n 0, 1) := by decide +kernel
theorem dL_bought_84 : decode cL_bought 84 = .ok (.iload_n 0, 1) := by decide +kernel
theorem dL_bought_85 : decode cL_bought 85 = .ok (.imul, 1) := by decide +kernel
theorem dL_bought_86 : decode cL_bought 86 = .ok (.bipush 16, 2) := by decide +kernel
theorem dL_bought_88 : decode cL_bought 88 = .ok (.idiv, 1) := by decide +kernel
theorem dL_bought_89 : decode cL_bought 89 = .ok (.imul, 1) := by decide +kernel
theorem dL_bought_90 : decode cL_bought 90 = .ok (.iadd, 1) := by decide +kernel
theorem dL_bought_91 : decode cL_bought 91 = .ok (.iastore, 1) := by decide +kernel
theorem dL_bought_92 : decode cL_bought 92 = .ok (.iload 8, 2) := by decide +kernel
theorem dL_bought_94 : decode cL_bought 94 = .ok (.ireturn, 1) := by decide +kernel
theorem dL_works_0 : decode cL_works 0 = .ok (.iconst 0, 1) := by decide +kernel
theorem dL_works_1 : decode cL_works 1 = .ok (.istore 8, 2) := by decide +kernel
theorem dL_works_3 : decode cL_works 3 = .ok (.iconst 1, 1) := by decide +kernel
theorem dL_works_4 : decode cL_works 4 = .ok (.iload_n 1, 1) := by decide +kernel
theorem dL_works_5 : decode cL_works 5 = .ok (.iconst 3, 1) := by decide +kernel
theorem dL_works_6 : decode cL_works 6 = .ok (.invokestatic 45, 3) := by decide +kernel
theorem dL_works_9 : decode cL_works 9 = .ok (.iadd, 1) := by decide +kernel
theorem dL_works_10 : decode cL_works 10 = .ok (.istore 9, 2) := by decide +kernel
theorem dL_works_12 : decode cL_works 12 = .ok (.iconst 0, 1) := by decide +kernel
theorem dL_works_13 : decode cL_works 13 = .ok (.istore 10, 2) := by decide +kernel
theorem dL_works_15 : decode cL_works 15 = .ok (.iload 10, 2) := by decide +kernel
theorem dL_works_17 : decode cL_works 17 = .ok (.iload 9, 2) := by decide +kernel
theorem dL_works_19 : decode cL_works 19 = .ok (.if_icmp .ge 171, 3) := by decide +kernel
theorem dL_works_22 : decode cL_works 22 = .ok (.iload_n 2, 1) := by decide +kernel
theorem dL_works_23 : decode cL_works 23 = .ok (.iconst 2, 1) := by decide +kernel
theorem dL_works_24 : decode cL_works 24 = .ok (.iload 10, 2) := by decide +kernel
theorem dL_works_26 : decode cL_works 26 = .ok (.imul, 1) := by decide +kernel
theorem dL_works_27 : decode cL_works 27 = .ok (.ishr, 1) := by decide +kernel
theorem dL_works_28 : decode cL_works 28 = .ok (.iload 10, 2) := by decide +kernel
theorem dL_works_30 : decode cL_works 30 = .ok (.iadd, 1) := by decide +kernel
theorem dL_works_31 : decode cL_works 31 = .ok (.iconst 5, 1) := by decide +kernel
theorem dL_works_32 : decode cL_works 32 = .ok (.invokestatic 45, 3) := by decide +kernel
theorem dL_works_35 : decode cL_works 35 = .ok (.istore 11, 2) := by decide +kernel
theorem dL_works_37 : decode cL_works 37 = .ok (.iconst 1, 1) := by decide +kernel
theorem dL_works_38 : decode cL_works 38 = .ok (.iload_n 1, 1) := by decide +kernel
theorem dL_works_39 : decode cL_works 39 = .ok (.iload 10, 2) := by decide +kernel
theorem dL_works_41 : decode cL_works 41 = .ok (.ishr, 1) := by decide +kernel
theorem dL_works_42 : decode cL_works 42 = .ok (.iconst 3, 1) := by decide +kernel
theorem dL_works_43 : decode cL_works 43 = .ok (.iload 10, 2) := by decide +kernel
theorem dL_works_45 : decode cL_works 45 = .ok (.imul, 1) := by decide +kernel
theorem dL_works_46 : decode cL_works 46 = .ok (.iadd, 1) := by decide +kernel
theorem dL_works_47 : decode cL_works 47 = .ok (.bipush 12, 2) := by decide +kernel
theorem dL_works_49 : decode cL_works 49 = .ok (.invokestatic 45, 3) := by decide +kernel
theorem dL_works_52 : decode cL_works 52 = .ok (.iadd, 1) := by decide +kernel
theorem dL_works_53 : decode cL_works 53 = .ok (.istore 12, 2) := by decide +kernel
theorem dL_works_55 : decode cL_works 55 = .ok (.aload_n 0, 1) := by decide +kernel
theorem dL_works_56 : decode cL_works 56 = .ok (.iload 11, 2) := by decide +kernel
theorem dL_works_58 : decode cL_works 58 = .ok (.iconst 3, 1) := by decide +kernel
theorem dL_works_59 : decode cL_works 59 = .ok (.if_icmp .ge 8, 3) := by decide +kernel
theorem dL_works_62 : decode cL_works 62 = .ok (.bipush 100, 2) := by decide +kernel
theorem dL_works_64 : decode cL_works 64 = .ok (.goto 16, 3) := by decide +kernel
theorem dL_works_67 : decode cL_works 67 = .ok (.iload 11, 2) := by decide +kernel
theorem dL_works_69 : decode cL_works 69 = .ok (.iconst 3, 1) := by decide +kernel
theorem dL_works_70 : decode cL_works 70 = .ok (.if_icmp .ne 8, 3) := by decide +kernel
theorem dL_works_73 : decode cL_works 73 = .ok (.bipush 114, 2) := by decide +kernel
theorem dL_works_75 : decode cL_works 75 = .ok (.goto 5, 3) := by decide +kernel
theorem dL_works_78 : decode cL_works 78 = .ok (.bipush 115, 2) := by decide +kernel
theorem dL_works_80 : decode cL_works 80 = .ok (.invokevirtual 112, 3) := by decide +kernel
theorem dL_works_83 : decode cL_works 83 = .ok (.iconst 1, 1) := by decide +kernel
theorem dL_works_84 : decode cL_works 84 = .ok (.if_icmp .lt 42, 3) := by decide +kernel
theorem dL_works_87 : decode cL_works 87 = .ok (.iload 12, 2) := by decide +kernel
theorem dL_works_89 : decode cL_works 89 = .ok (.bipush 9, 2) := by decide +kernel
theorem dL_works_91 : decode cL_works 91 = .ok (.if_icmp .le 13, 3) := by decide +kernel
theorem dL_works_94 : decode cL_works 94 = .ok (.aload_n 0, 1) := by decide +kernel
theorem dL_works_95 : decode cL_works 95 = .ok (.bipush 49, 2) := by decide +kernel
theorem dL_works_97 : decode cL_works 97 = .ok (.invokevirtual 112, 3) := by decide +kernel
theorem dL_works_100 : decode cL_works 100 = .ok (.iconst 1, 1) := by decide +kernel
theorem dL_works_101 : decode cL_works 101 = .ok (.if_icmp .lt 25, 3) := by decide +kernel
theorem dL_works_104 : decode cL_works 104 = .ok (.iload 12, 2) := by decide +kernel
theorem dL_works_106 : decode cL_works 106 = .ok (.iconst 1, 1) := by decide +kernel
theorem dL_works_107 : decode cL_works 107 = .ok (.if_icmp .le 21, 3) := by decide +kernel
theorem dL_works_110 : decode cL_works 110 = .ok (.aload_n 0, 1) := by decide +kernel
theorem dL_works_111 : decode cL_works 111 = .ok (.bipush 48, 2) := by decide +kernel
theorem dL_works_113 : decode cL_works 113 = .ok (.iload 12, 2) := by decide +kernel
theorem dL_works_115 : decode cL_works 115 = .ok (.bipush 10, 2) := by decide +kernel
theorem dL_works_117 : decode cL_works 117 = .ok (.irem, 1) := by decide +kernel
theorem dL_works_118 : decode cL_works 118 = .ok (.iadd, 1) := by decide +kernel
theorem dL_works_119 : decode cL_works 119 = .ok (.invokevirtual 112, 3) := by decide +kernel
theorem dL_works_122 : decode cL_works 122 = .ok (.iconst 1, 1) := by decide +kernel
theorem dL_works_123 : decode cL_works 123 = .ok (.if_icmp .ge 5, 3) := by decide +kernel
theorem dL_works_126 : decode cL_works 126 = .ok (.iconst 0, 1) := by decide +kernel
theorem dL_works_127 : decode cL_works 127 = .ok (.ireturn, 1) := by decide +kernel
theorem dL_works_128 : decode cL_works 128 = .ok (.iconst 0, 1) := by decide +kernel
theorem dL_works_129 : decode cL_works 129 = .ok (.istore 13, 2) := by decide +kernel
theorem dL_works_131 : decode cL_works 131 = .ok (.iload 13, 2) := by decide +kernel
theorem dL_works_133 : decode cL_works 133 = .ok (.iload 12, 2) := by decide +kernel
theorem dL_works_135 : decode cL_works 135 = .ok (.if_icmp .ge 49, 3) := by decide +kernel
theorem dL_works_138 : decode cL_works 138 = .ok (.iload 11, 2) := by decide +kernel
theorem dL_works_140 : decode cL_works 140 = .ok (.iconst 3, 1) := by decide +kernel
theorem dL_works_141 : decode cL_works 141 = .ok (.if_icmp .ge 7, 3) := by decide +kernel
theorem dL_works_144 : decode cL_works 144 = .ok (.iconst 0, 1) := by decide +kernel
theorem dL_works_145 : decode cL_works 145 = .ok (.goto 7, 3) := by decide +kernel
theorem dL_works_148 : decode cL_works 148 = .ok (.iload 11, 2) := by decide +kernel
theorem dL_works_150 : decode cL_works 150 = .ok (.iconst 2, 1) := by decide +kernel
theorem dL_works_151 : decode cL_works 151 = .ok (.isub, 1) := by decide +kernel
theorem dL_works_152 : decode cL_works 152 = .ok (.aload_n 3, 1) := by decide +kernel
theorem dL_works_153 : decode cL_works 153 = .ok (.aload 4, 2) := by decide +kernel
theorem dL_works_155 : decode cL_works 155 = .ok (.aload 6, 2) := by decide +kernel
theorem dL_works_157 : decode cL_works 157 = .ok (.aload 7, 2) := by decide +kernel
theorem dL_works_159 : decode cL_works 159 = .ok (.invokestatic 96, 3) := by decide +kernel
theorem dL_works_162 : decode cL_works 162 = .ok (.pop, 1) := by decide +kernel
theorem dL_works_163 : decode cL_works 163 = .ok (.iload 8, 2) := by decide +kernel
theorem dL_works_165 : decode cL_works 165 = .ok (.aload_n 3, 1) := by decide +kernel
theorem dL_works_166 : decode cL_works 166 = .ok (.aload 4, 2) := by decide +kernel
theorem dL_works_168 : decode cL_works 168 = .ok (.aload 5, 2) := by decide +kernel
theorem dL_works_170 : decode cL_works 170 = .ok (.aload 7, 2) := by decide +kernel
theorem dL_works_172 : decode cL_works 172 = .ok (.invokestatic 100, 3) := by decide +kernel
theorem dL_works_175 : decode cL_works 175 = .ok (.iadd, 1) := by decide +kernel
theorem dL_works_176 : decode cL_works 176 = .ok (.istore 8, 2) := by decide +kernel
theorem dL_works_178 : decode cL_works 178 = .ok (.iinc 13 1, 3) := by decide +kernel
theorem dL_works_181 : decode cL_works 181 = .ok (.goto (-50), 3) := by decide +kernel
theorem dL_works_184 : decode cL_works 184 = .ok (.iinc 10 1, 3) := by decide +kernel
theorem dL_works_187 : decode cL_works 187 = .ok (.goto (-172), 3) := by decide +kernel
theorem dL_works_190 : decode cL_works 190 = .ok (.aload_n 0, 1) := by decide +kernel
theorem dL_works_191 : decode cL_works 191 = .ok (.invokevirtual 115, 3) := by decide +kernel
theorem dL_works_194 : decode cL_works 194 = .ok (.iload 8, 2) := by decide +kernel
theorem dL_works_196 : decode cL_works 196 = .ok (.if_icmp .ne 7, 3) := by decide +kernel
theorem dL_works_199 : decode cL_works 199 = .ok (.iconst 1, 1) := by decide +kernel
theorem dL_works_200 : decode cL_works 200 = .ok (.goto 4, 3) := by decide +kernel
theorem dL_works_203 : decode cL_works 203 = .ok (.iconst 0, 1) := by decide +kernel
theorem dL_works_204 : decode cL_works 204 = .ok (.ireturn, 1) := by decide +kernel
theorem dL_act_0 : decode cL_act 0 = .ok (.bipush 8, 2) := by decide +kernel
theorem dL_act_2 : decode cL_act 2 = .ok (.iload_n 2, 1) := by decide +kernel
theorem dL_act_3 : decode cL_act 3 = .ok (.bipush 17, 2) := by decide +kernel
theorem dL_act_5 : decode cL_act 5 = .ok (.invokestatic 45, 3) := by decide +kernel
theorem dL_act_8 : decode cL_act 8 = .ok (.iadd, 1) := by decide +kernel
theorem dL_act_9 : decode cL_act 9 = .ok (.istore 10, 2) := by decide +kernel
theorem dL_act_11 : decode cL_act 11 = .ok (.aload 9, 2) := by decide +kernel
theorem dL_act_13 : decode cL_act 13 = .ok (.iconst 2, 1) := by decide +kernel
theorem dL_act_14 : decode cL_act 14 = .ok (.iaload, 1) := by decide +kernel
theorem dL_act_15 : decode cL_act 15 = .ok (.iconst 1, 1) := by decide +kernel
theorem dL_act_16 : decode cL_act 16 = .ok (.isub, 1) := by decide +kernel
theorem dL_act_17 : decode cL_act 17 = .ok (.istore 11, 2) := by decide +kernel
theorem dL_act_19 : decode cL_act 19 = .ok (.aload 9, 2) := by decide +kernel
theorem dL_act_21 : decode cL_act 21 = .ok (.bipush 8, 2) := by decide +kernel
theorem dL_act_23 : decode cL_act 23 = .ok (.iaload, 1) := by decide +kernel
theorem dL_act_24 : decode cL_act 24 = .ok (.ifCond .ne 15, 3) := by decide +kernel
theorem dL_act_27 : decode cL_act 27 = .ok (.aload 9, 2) := by decide +kernel
theorem dL_act_29 : decode cL_act 29 = .ok (.bipush 9, 2) := by decide +kernel
theorem dL_act_31 : decode cL_act 31 = .ok (.iaload, 1) := by decide +kernel
theorem dL_act_32 : decode cL_act 32 = .ok (.ifCond .ne 7, 3) := by decide +kernel
theorem dL_act_35 : decode cL_act 35 = .ok (.iconst 1, 1) := by decide +kernel
theorem dL_act_36 : decode cL_act 36 = .ok (.goto 4, 3) := by decide +kernel
theorem dL_act_39 : decode cL_act 39 = .ok (.iconst 0, 1) := by decide +kernel
theorem dL_act_40 : decode cL_act 40 = .ok (.istore 12, 2) := by decide +kernel
theorem dL_act_42 : decode cL_act 42 = .ok (.iload_n 1, 1) := by decide +kernel
theorem dL_act_43 : decode cL_act 43 = .ok (.iconst 3, 1) := by decide +kernel
theorem dL_act_44 : decode cL_act 44 = .ok (.if_icmp .ge 53, 3) := by decide +kernel
theorem dL_act_47 : decode cL_act 47 = .ok (.aload_n 0, 1) := by decide +kernel
theorem dL_act_48 : decode cL_act 48 = .ok (.iload 10, 2) := by decide +kernel
theorem dL_act_50 : decode cL_act 50 = .ok (.iconst 1, 1) := by decide +kernel
theorem dL_act_51 : decode cL_act 51 = .ok (.iload_n 3, 1) := by decide +kernel
theorem dL_act_52 : decode cL_act 52 = .ok (.bipush 60, 2) := by decide +kernel
theorem dL_act_54 : decode cL_act 54 = .ok (.invokestatic 45, 3) := by decide +kernel
theorem dL_act_57 : decode cL_act 57 = .ok (.iadd, 1) := by decide +kernel
theorem dL_act_58 : decode cL_act 58 = .ok (.iload_n 3, 1) := by decide +kernel
theorem dL_act_59 : decode cL_act 59 = .ok (.iload_n 2, 1) := by decide +kernel
theorem dL_act_60 : decode cL_act 60 = .ok (.isub, 1) := by decide +kernel
theorem dL_act_61 : decode cL_act 61 = .ok (.invokevirtual 118, 3) := by decide +kernel
theorem dL_act_64 : decode cL_act 64 = .ok (.iload 10, 2) := by decide +kernel
theorem dL_act_66 : decode cL_act 66 = .ok (.iconst 1, 1) := by decide +kernel
theorem dL_act_67 : decode cL_act 67 = .ok (.iload_n 3, 1) := by decide +kernel
theorem dL_act_68 : decode cL_act 68 = .ok (.bipush 60, 2) := by decide +kernel
theorem dL_act_70 : decode cL_act 70 = .ok (.invokestatic 45, 3) := by decide +kernel
theorem dL_act_73 : decode cL_act 73 = .ok (.iadd, 1) := by decide +kernel
theorem dL_act_74 : decode cL_act 74 = .ok (.iload_n 3, 1) := by decide +kernel
theorem dL_act_75 : decode cL_act 75 = .ok (.iload_n 2, 1) := by decide +kernel
theorem dL_act_76 : decode cL_act 76 = .ok (.isub, 1) := by decide +kernel
theorem dL_act_77 : decode cL_act 77 = .ok (.aload 6, 2) := by decide +kernel
theorem dL_act_79 : decode cL_act 79 = .ok (.aload 7, 2) := by decide +kernel
theorem dL_act_81 : decode cL_act 81 = .ok (.aload 8, 2) := by decide +kernel
theorem dL_act_83 : decode cL_act 83 = .ok (.aload 9, 2) := by decide +kernel
theorem dL_act_85 : decode cL_act 85 = .ok (.invokestatic 122, 3) := by decide +kernel
theorem dL_act_88 : decode cL_act 88 = .ok (.if_icmp .ne 7, 3) := by decide +kernel
theorem dL_act_91 : decode cL_act 91 = .ok (.iconst 1, 1) := by decide +kernel
theorem dL_act_92 : decode cL_act 92 = .ok (.goto 4, 3) := by decide +kernel
theorem dL_act_95 : decode cL_act 95 = .ok (.iconst 0, 1) := by decide +kernel
theorem dL_act_96 : decode cL_act 96 = .ok (.ireturn, 1) := by decide +kernel
theorem dL_act_97 : decode cL_act 97 = .ok (.iload_n 1, 1) := by decide +kernel
theorem dL_act_98 : decode cL_act 98 = .ok (.iconst 3, 1) := by decide +kernel
theorem dL_act_99 : decode cL_act 99 = .ok (.if_icmp .ne 83, 3) := by decide +kernel
theorem dL_act_102 : decode cL_act 102 = .ok (.iload_n 2, 1) := by decide +kernel
theorem dL_act_103 : decode cL_act 103 = .ok (.iconst 3, 1) := by decide +kernel
theorem dL_act_104 : decode cL_act 104 = .ok (.invokestatic 45, 3) := by decide +kernel
theorem dL_act_107 : decode cL_act 107 = .ok (.istore 13, 2) := by decide +kernel
theorem dL_act_109 : decode cL_act 109 = .ok (.aload 9, 2) := by decide +kernel
theorem dL_act_111 : decode cL_act 111 = .ok (.iconst 3, 1) := by decide +kernel
theorem dL_act_112 : decode cL_act 112 = .ok (.iload 13, 2) := by decide +kernel
theorem dL_act_114 : decode cL_act 114 = .ok (.iadd, 1) := by decide +kernel
theorem dL_act_115 : decode cL_act 115 = .ok (.iaload, 1) := by decide +kernel
theorem dL_act_116 : decode cL_act 116 = .ok (.istore 14, 2) := by decide +kernel
theorem dL_act_118 : decode cL_act 118 = .ok (.aload 9, 2) := by decide +kernel
theorem dL_act_120 : decode cL_act 120 = .ok (.iconst 3, 1) := by decide +kernel
theorem dL_act_121 : decode cL_act 121 = .ok (.iload 13, 2) := by decide +kernel
theorem dL_act_123 : decode cL_act 123 = .ok (.iadd, 1) := by decide +kernel
theorem dL_act_124 : decode cL_act 124 = .ok (.iload 13, 2) := by decide +kernel
theorem dL_act_126 : decode cL_act 126 = .ok (.ifCond .ne 13, 3) := by decide +kernel
theorem dL_act_129 : decode cL_act 129 = .ok (.iconst 2, 1) := by decide +kernel
theorem dL_act_130 : decode cL_act 130 = .ok (.iload_n 3, 1) := by decide +kernel
theorem dL_act_131 : decode cL_act 131 = .ok (.iconst 5, 1) := by decide +kernel
theorem dL_act_132 : decode cL_act 132 = .ok (.invokestatic 45, 3) := by decide +kernel
theorem dL_act_135 : decode cL_act 135 = .ok (.iadd, 1) := by decide +kernel
theorem dL_act_136 : decode cL_act 136 = .ok (.goto 21, 3) := by decide +kernel
theorem dL_act_139 : decode cL_act 139 = .ok (.iconst 1, 1) := by decide +kernel
theorem dL_act_140 : decode cL_act 140 = .ok (.iload_n 3, 1) := by decide +kernel
theorem dL_act_141 : decode cL_act 141 = .ok (.iload 13, 2) := by decide +kernel
theorem dL_act_143 : decode cL_act 143 = .ok (.iconst 1, 1) := by decide +kernel
theorem dL_act_144 : decode cL_act 144 = .ok (.if_icmp .ne 8, 3) := by decide +kernel
theorem dL_act_147 : decode cL_act 147 = .ok (.bipush 60, 2) := by decide +kernel
theorem dL_act_149 : decode cL_act 149 = .ok (.goto 4, 3) := by decide +kernel
theorem dL_act_152 : decode cL_act 152 = .ok (.iconst 5, 1) := by decide +kernel
theorem dL_act_153 : decode cL_act 153 = .ok (.invokestatic 45, 3) := by decide +kernel
theorem dL_act_156 : decode cL_act 156 = .ok (.iadd, 1) := by decide +kernel
theorem dL_act_157 : decode cL_act 157 = .ok (.iastore, 1) := by decide +kernel
theorem dL_act_158 : decode cL_act 158 = .ok (.aload_n 0, 1) := by decide +kernel
theorem dL_act_159 : decode cL_act 159 = .ok (.iload 13, 2) := by decide +kernel
theorem dL_act_161 : decode cL_act 161 = .ok (.aload 9, 2) := by decide +kernel
theorem dL_act_163 : decode cL_act 163 = .ok (.iconst 3, 1) := by decide +kernel
theorem dL_act_164 : decode cL_act 164 = .ok (.iload 13, 2) := by decide +kernel
theorem dL_act_166 : decode cL_act 166 = .ok (.iadd, 1) := by decide +kernel
theorem dL_act_167 : decode cL_act 167 = .ok (.iaload, 1) := by decide +kernel
theorem dL_act_168 : decode cL_act 168 = .ok (.invokevirtual 126, 3) := by decide +kernel
theorem dL_act_171 : decode cL_act 171 = .ok (.iload 14, 2) := by decide +kernel
theorem dL_act_173 : decode cL_act 173 = .ok (.if_icmp .ne 7, 3) := by decide +kernel
theorem dL_act_176 : decode cL_act 176 = .ok (.iconst 1, 1) := by decide +kernel
theorem dL_act_177 : decode cL_act 177 = .ok (.goto 4, 3) := by decide +kernel
theorem dL_act_180 : decode cL_act 180 = .ok (.iconst 0, 1) := by decide +kernel
theorem dL_act_181 : decode cL_act 181 = .ok (.ireturn, 1) := by decide +kernel
theorem dL_act_182 : decode cL_act 182 = .ok (.iload_n 1, 1) := by decide +kernel
theorem dL_act_183 : decode cL_act 183 = .ok (.iconst 4, 1) := by decide +kernel
theorem dL_act_184 : decode cL_act 184 = .ok (.if_icmp .ne 119, 3) := by decide +kernel
theorem dL_act_187 : decode cL_act 187 = .ok (.bipush 8, 2) := by decide +kernel
theorem dL_act_189 : decode cL_act 189 = .ok (.iload_n 3, 1) := by decide +kernel
theorem dL_act_190 : decode cL_act 190 = .ok (.bipush 13, 2) := by decide +kernel
theorem dL_act_192 : decode cL_act 192 = .ok (.invokestatic 45, 3) := by decide +kernel
theorem dL_act_195 : decode cL_act 195 = .ok (.iadd, 1) := by decide +kernel
theorem dL_act_196 : decode cL_act 196 = .ok (.istore 13, 2) := by decide +kernel
theorem dL_act_198 : decode cL_act 198 = .ok (.iload 13, 2) := by decide +kernel
theorem dL_act_200 : decode cL_act 200 = .ok (.iload 10, 2) := by decide +kernel
theorem dL_act_202 : decode cL_act 202 = .ok (.iconst 4, 1) := by decide +kernel
theorem dL_act_203 : decode cL_act 203 = .ok (.isub, 1) := by decide +kernel
theorem dL_act_204 : decode cL_act 204 = .ok (.if_icmp .gt 11, 3) := by decide +kernel
theorem dL_act_207 : decode cL_act 207 = .ok (.aload 7, 2) := by decide +kernel
theorem dL_act_209 : decode cL_act 209 = .ok (.iload 10, 2) := by decide +kernel
theorem dL_act_211 : decode cL_act 211 = .ok (.iaload, 1) := by decide +kernel
theorem dL_act_212 : decode cL_act 212 = .ok (.ifCond .ne 5, 3) := by decide +kernel
theorem dL_act_215 : decode cL_act 215 = .ok (.iconst 1, 1) := by decide +kernel
theorem dL_act_216 : decode cL_act 216 = .ok (.ireturn, 1) := by decide +kernel
theorem dL_act_217 : decode cL_act 217 = .ok (.iconst 1, 1) := by decide +kernel
theorem dL_act_218 : decode cL_act 218 = .ok (.iload_n 3, 1) := by decide +kernel
theorem dL_act_219 : decode cL_act 219 = .ok (.iconst 4, 1) := by decide +kernel
theorem dL_act_220 : decode cL_act 220 = .ok (.ishr, 1) := by decide +kernel
theorem dL_act_221 : decode cL_act 221 = .ok (.aload 7, 2) := by decide +kernel
theorem dL_act_223 : decode cL_act 223 = .ok (.iload 10, 2) := by decide +kernel
theorem dL_act_225 : decode cL_act 225 = .ok (.iaload, 1) := by decide +kernel
theorem dL_act_226 : decode cL_act 226 = .ok (.sipush 200, 3) := by decide +kernel
theorem dL_act_229 : decode cL_act 229 = .ok (.if_icmp .le 9, 3) := by decide +kernel
theorem dL_act_232 : decode cL_act 232 = .ok (.sipush 200, 3) := by decide +kernel
theorem dL_act_235 : decode cL_act 235 = .ok (.goto 8, 3) := by decide +kernel
theorem dL_act_238 : decode cL_act 238 = .ok (.aload 7, 2) := by decide +kernel
theorem dL_act_240 : decode cL_act 240 = .ok (.iload 10, 2) := by decide +kernel
theorem dL_act_242 : decode cL_act 242 = .ok (.iaload, 1) := by decide +kernel
theorem dL_act_243 : decode cL_act 243 = .ok (.invokestatic 45, 3) := by decide +kernel
theorem dL_act_246 : decode cL_act 246 = .ok (.iadd, 1) := by decide +kernel
theorem dL_act_247 : decode cL_act 247 = .ok (.istore 14, 2) := by decide +kernel
theorem dL_act_249 : decode cL_act 249 = .ok (.aload 7, 2) := by decide +kernel
theorem dL_act_251 : decode cL_act 251 = .ok (.iload 10, 2) := by decide +kernel
theorem dL_act_253 : decode cL_act 253 = .ok (.dup2, 1) := by decide +kernel
theorem dL_act_254 : decode cL_act 254 = .ok (.iaload, 1) := by decide +kernel
theorem dL_act_255 : decode cL_act 255 = .ok (.iload 14, 2) := by decide +kernel
theorem dL_act_257 : decode cL_act 257 = .ok (.isub, 1) := by decide +kernel
theorem dL_act_258 : decode cL_act 258 = .ok (.iastore, 1) := by decide +kernel
theorem dL_act_259 : decode cL_act 259 = .ok (.aload 6, 2) := by decide +kernel
theorem dL_act_261 : decode cL_act 261 = .ok (.iload 13, 2) := by decide +kernel
theorem dL_act_263 : decode cL_act 263 = .ok (.dup2, 1) := by decide +kernel
theorem dL_act_264 : decode cL_act 264 = .ok (.iaload, 1) := by decide +kernel
theorem dL_act_265 : decode cL_act 265 = .ok (.iload 14, 2) := by decide +kernel
theorem dL_act_267 : decode cL_act 267 = .ok (.iadd, 1) := by decide +kernel
theorem dL_act_268 : decode cL_act 268 = .ok (.iastore, 1) := by decide +kernel
theorem dL_act_269 : decode cL_act 269 = .ok (.aload 9, 2) := by decide +kernel
theorem dL_act_271 : decode cL_act 271 = .ok (.bipush 10, 2) := by decide +kernel
theorem dL_act_273 : decode cL_act 273 = .ok (.dup2, 1) := by decide +kernel
theorem dL_act_274 : decode cL_act 274 = .ok (.iaload, 1) := by decide +kernel
theorem dL_act_275 : decode cL_act 275 = .ok (.iload 14, 2) := by decide +kernel
theorem dL_act_277 : decode cL_act 277 = .ok (.iadd, 1) := by decide +kernel
theorem dL_act_278 : decode cL_act 278 = .ok (.iastore, 1) := by decide +kernel
theorem dL_act_279 : decode cL_act 279 = .ok (.aload_n 0, 1) := by decide +kernel
theorem dL_act_280 : decode cL_act 280 = .ok (.iload 10, 2) := by decide +kernel
theorem dL_act_282 : decode cL_act 282 = .ok (.iload 13, 2) := by decide +kernel
theorem dL_act_284 : decode cL_act 284 = .ok (.iload 14, 2) := by decide +kernel
theorem dL_act_286 : decode cL_act 286 = .ok (.invokevirtual 129, 3) := by decide +kernel
theorem dL_act_289 : decode cL_act 289 = .ok (.aload 7, 2) := by decide +kernel
theorem dL_act_291 : decode cL_act 291 = .ok (.iload 10, 2) := by decide +kernel
theorem dL_act_293 : decode cL_act 293 = .ok (.iaload, 1) := by decide +kernel
theorem dL_act_294 : decode cL_act 294 = .ok (.if_icmp .ne 7, 3) := by decide +kernel
theorem dL_act_297 : decode cL_act 297 = .ok (.iconst 1, 1) := by decide +kernel
theorem dL_act_298 : decode cL_act 298 = .ok (.goto 4, 3) := by decide +kernel
theorem dL_act_301 : decode cL_act 301 = .ok (.iconst 0, 1) := by decide +kernel
theorem dL_act_302 : decode cL_act 302 = .ok (.ireturn, 1) := by decide +kernel
theorem dL_act_303 : decode cL_act 303 = .ok (.iload_n 1, 1) := by decide +kernel
theorem dL_act_304 : decode cL_act 304 = .ok (.iconst 5, 1) := by decide +kernel
theorem dL_act_305 : decode cL_act 305 = .ok (.if_icmp .ne 87, 3) := by decide +kernel
theorem dL_act_308 : decode cL_act 308 = .ok (.iconst 0, 1) := by decide +kernel
theorem dL_act_309 : decode cL_act 309 = .ok (.istore 13, 2) := by decide +kernel
theorem dL_act_311 : decode cL_act 311 = .ok (.bipush 8, 2) := by decide +kernel
theorem dL_act_313 : decode cL_act 313 = .ok (.istore 14, 2) := by decide +kernel
theorem dL_act_315 : decode cL_act 315 = .ok (.iload 14, 2) := by decide +kernel
theorem dL_act_317 : decode cL_act 317 = .ok (.iload 10, 2) := by decide +kernel
theorem dL_act_319 : decode cL_act 319 = .ok (.if_icmp .ge 33, 3) := by decide +kernel
theorem dL_act_322 : decode cL_act 322 = .ok (.iload_n 3, 1) := by decide +kernel
theorem dL_act_323 : decode cL_act 323 = .ok (.iconst 3, 1) := by decide +kernel
theorem dL_act_324 : decode cL_act 324 = .ok (.invokestatic 45, 3) := by decide +kernel
theorem dL_act_327 : decode cL_act 327 = .ok (.ifCond .ne 25, 3) := by decide +kernel
theorem dL_act_330 : decode cL_act 330 = .ok (.iload 13, 2) := by decide +kernel
theorem dL_act_332 : decode cL_act 332 = .ok (.aload 7, 2) := by decide +kernel
theorem dL_act_334 : decode cL_act 334 = .ok (.iload 14, 2) := by decide +kernel
theorem dL_act_336 : decode cL_act 336 = .ok (.iaload, 1) := by decide +kernel
theorem dL_act_337 : decode cL_act 337 = .ok (.iadd, 1) := by decide +kernel
theorem dL_act_338 : decode cL_act 338 = .ok (.istore 13, 2) := by decide +kernel
theorem dL_act_340 : decode cL_act 340 = .ok (.aload 7, 2) := by decide +kernel
theorem dL_act_342 : decode cL_act 342 = .ok (.iload 14, 2) := by decide +kernel
theorem dL_act_344 : decode cL_act 344 = .ok (.iconst 0, 1) := by decide +kernel
theorem dL_act_345 : decode cL_act 345 = .ok (.iastore, 1) := by decide +kernel
theorem dL_act_346 : decode cL_act 346 = .ok (.iinc 14 1, 3) := by decide +kernel
theorem dL_act_349 : decode cL_act 349 = .ok (.goto (-34), 3) := by decide +kernel
theorem dL_act_352 : decode cL_act 352 = .ok (.aload 9, 2) := by decide +kernel
theorem dL_act_354 : decode cL_act 354 = .ok (.bipush 11, 2) := by decide +kernel
theorem dL_act_356 : decode cL_act 356 = .ok (.dup2, 1) := by decide +kernel
theorem dL_act_357 : decode cL_act 357 = .ok (.iaload, 1) := by decide +kernel
theorem dL_act_358 : decode cL_act 358 = .ok (.iload 13, 2) := by decide +kernel
theorem dL_act_360 : decode cL_act 360 = .ok (.iadd, 1) := by decide +kernel
theorem dL_act_361 : decode cL_act 361 = .ok (.iastore, 1) := by decide +kernel
theorem dL_act_362 : decode cL_act 362 = .ok (.aload_n 0, 1) := by decide +kernel
theorem dL_act_363 : decode cL_act 363 = .ok (.iload_n 3, 1) := by decide +kernel
theorem dL_act_364 : decode cL_act 364 = .ok (.iconst 3, 1) := by decide +kernel
theorem dL_act_365 : decode cL_act 365 = .ok (.invokestatic 45, 3) := by decide +kernel
theorem dL_act_368 : decode cL_act 368 = .ok (.ifCond .ne 8, 3) := by decide +kernel
theorem dL_act_371 : decode cL_act 371 = .ok (.iload 10, 2) := by decide +kernel
theorem dL_act_373 : decode cL_act 373 = .ok (.goto 5, 3) := by decide +kernel
theorem dL_act_376 : decode cL_act 376 = .ok (.bipush 8, 2) := by decide +kernel
theorem dL_act_378 : decode cL_act 378 = .ok (.invokevirtual 132, 3) := by decide +kernel
theorem dL_act_381 : decode cL_act 381 = .ok (.iload 13, 2) := by decide +kernel
theorem dL_act_383 : decode cL_act 383 = .ok (.if_icmp .ne 7, 3) := by decide +kernel
theorem dL_act_386 : decode cL_act 386 = .ok (.iconst 1, 1) := by decide +kernel
theorem dL_act_387 : decode cL_act 387 = .ok (.goto 4, 3) := by decide +kernel
theorem dL_act_390 : decode cL_act 390 = .ok (.iconst 0, 1) := by decide +kernel
theorem dL_act_391 : decode cL_act 391 = .ok (.ireturn, 1) := by decide +kernel
theorem dL_act_392 : decode cL_act 392 = .ok (.iload_n 1, 1) := by decide +kernel
theorem dL_act_393 : decode cL_act 393 = .ok (.bipush 6, 2) := by decide +kernel
theorem dL_act_395 : decode cL_act 395 = .ok (.if_icmp .ne 57, 3) := by decide +kernel
theorem dL_act_398 : decode cL_act 398 = .ok (.aload 9, 2) := by decide +kernel
theorem dL_act_400 : decode cL_act 400 = .ok (.bipush 9, 2) := by decide +kernel
theorem dL_act_402 : decode cL_act 402 = .ok (.iaload, 1) := by decide +kernel
theorem dL_act_403 : decode cL_act 403 = .ok (.istore 13, 2) := by decide +kernel
theorem dL_act_405 : decode cL_act 405 = .ok (.aload 9, 2) := by decide +kernel
theorem dL_act_407 : decode cL_act 407 = .ok (.bipush 9, 2) := by decide +kernel
theorem dL_act_409 : decode cL_act 409 = .ok (.iload_n 3, 1) := by decide +kernel
theorem dL_act_410 : decode cL_act 410 = .ok (.iconst 3, 1) := by decide +kernel
theorem dL_act_411 : decode cL_act 411 = .ok (.invokestatic 45, 3) := by decide +kernel
theorem dL_act_414 : decode cL_act 414 = .ok (.ifCond .ne 7, 3) := by decide +kernel
theorem dL_act_417 : decode cL_act 417 = .ok (.iconst 1, 1) := by decide +kernel
theorem dL_act_418 : decode cL_act 418 = .ok (.goto 4, 3) := by decide +kernel
theorem dL_act_421 : decode cL_act 421 = .ok (.iconst 0, 1) := by decide +kernel
theorem dL_act_422 : decode cL_act 422 = .ok (.iastore, 1) := by decide +kernel
theorem dL_act_423 : decode cL_act 423 = .ok (.aload_n 0, 1) := by decide +kernel
theorem dL_act_424 : decode cL_act 424 = .ok (.aload 9, 2) := by decide +kernel
theorem dL_act_426 : decode cL_act 426 = .ok (.bipush 9, 2) := by decide +kernel
theorem dL_act_428 : decode cL_act 428 = .ok (.iaload, 1) := by decide +kernel
theorem dL_act_429 : decode cL_act 429 = .ok (.iconst 1, 1) := by decide +kernel
theorem dL_act_430 : decode cL_act 430 = .ok (.if_icmp .ne 7, 3) := by decide +kernel
theorem dL_act_433 : decode cL_act 433 = .ok (.iconst 1, 1) := by decide +kernel
theorem dL_act_434 : decode cL_act 434 = .ok (.goto 4, 3) := by decide +kernel
theorem dL_act_437 : decode cL_act 437 = .ok (.iconst 0, 1) := by decide +kernel
theorem dL_act_438 : decode cL_act 438 = .ok (.invokevirtual 135, 3) := by decide +kernel
theorem dL_act_441 : decode cL_act 441 = .ok (.iload 13, 2) := by decide +kernel
theorem dL_act_443 : decode cL_act 443 = .ok (.if_icmp .ne 7, 3) := by decide +kernel
theorem dL_act_446 : decode cL_act 446 = .ok (.iconst 1, 1) := by decide +kernel
theorem dL_act_447 : decode cL_act 447 = .ok (.goto 4, 3) := by decide +kernel
theorem dL_act_450 : decode cL_act 450 = .ok (.iconst 0, 1) := by decide +kernel
theorem dL_act_451 : decode cL_act 451 = .ok (.ireturn, 1) := by decide +kernel
theorem dL_act_452 : decode cL_act 452 = .ok (.iload_n 1, 1) := by decide +kernel
theorem dL_act_453 : decode cL_act 453 = .ok (.bipush 7, 2) := by decide +kernel
theorem dL_act_455 : decode cL_act 455 = .ok (.if_icmp .ne 87, 3) := by decide +kernel
theorem dL_act_458 : decode cL_act 458 = .ok (.iload_n 3, 1) := by decide +kernel
theorem dL_act_459 : decode cL_act 459 = .ok (.iconst 3, 1) := by decide +kernel
theorem dL_act_460 : decode cL_act 460 = .ok (.invokestatic 45, 3) := by decide +kernel
theorem dL_act_463 : decode cL_act 463 = .ok (.ifCond .ne 79, 3) := by decide +kernel
theorem dL_act_466 : decode cL_act 466 = .ok (.aload 5, 2) := by decide +kernel
theorem dL_act_468 : decode cL_act 468 = .ok (.aload 9, 2) := by decide +kernel
theorem dL_act_470 : decode cL_act 470 = .ok (.invokestatic 68, 3) := by decide +kernel
theorem dL_act_473 : decode cL_act 473 = .ok (.istore 13, 2) := by decide +kernel
theorem dL_act_475 : decode cL_act 475 = .ok (.aload 9, 2) := by decide +kernel
theorem dL_act_477 : decode cL_act 477 = .ok (.bipush 12, 2) := by decide +kernel
theorem dL_act_479 : decode cL_act 479 = .ok (.dup2, 1) := by decide +kernel
theorem dL_act_480 : decode cL_act 480 = .ok (.iaload, 1) := by decide +kernel
theorem dL_act_481 : decode cL_act 481 = .ok (.iload 13, 2) := by decide +kernel
theorem dL_act_483 : decode cL_act 483 = .ok (.iadd, 1) := by decide +kernel
theorem dL_act_484 : decode cL_act 484 = .ok (.iastore, 1) := by decide +kernel
theorem dL_act_485 : decode cL_act 485 = .ok (.aload 9, 2) := by decide +kernel
theorem dL_act_487 : decode cL_act 487 = .ok (.iconst 0, 1) := by decide +kernel
theorem dL_act_488 : decode cL_act 488 = .ok (.bipush 20, 2) := by decide +kernel
theorem dL_act_490 : decode cL_act 490 = .ok (.iload_n 2, 1) := by decide +kernel
theorem dL_act_491 : decode cL_act 491 = .ok (.iconst 3, 1) := by decide +kernel
theorem dL_act_492 : decode cL_act 492 = .ok (.ishr, 1) := by decide +kernel
theorem dL_act_493 : decode cL_act 493 = .ok (.bipush 31, 2) := by decide +kernel
theorem dL_act_495 : decode cL_act 495 = .ok (.invokestatic 45, 3) := by decide +kernel
theorem dL_act_498 : decode cL_act 498 = .ok (.iadd, 1) := by decide +kernel
theorem dL_act_499 : decode cL_act 499 = .ok (.iastore, 1) := by decide +kernel
theorem dL_act_500 : decode cL_act 500 = .ok (.aload 9, 2) := by decide +kernel
theorem dL_act_502 : decode cL_act 502 = .ok (.iconst 1, 1) := by decide +kernel
theorem dL_act_503 : decode cL_act 503 = .ok (.iconst 2, 1) := by decide +kernel
theorem dL_act_504 : decode cL_act 504 = .ok (.iload_n 3, 1) := by decide +kernel
theorem dL_act_505 : decode cL_act 505 = .ok (.iconst 3, 1) := by decide +kernel
theorem dL_act_506 : decode cL_act 506 = .ok (.ishr, 1) := by decide +kernel
theorem dL_act_507 : decode cL_act 507 = .ok (.bipush 29, 2) := by decide +kernel
theorem dL_act_509 : decode cL_act 509 = .ok (.invokestatic 45, 3) := by decide +kernel
theorem dL_act_512 : decode cL_act 512 = .ok (.iadd, 1) := by decide +kernel
theorem dL_act_513 : decode cL_act 513 = .ok (.iastore, 1) := by decide +kernel
theorem dL_act_514 : decode cL_act 514 = .ok (.aload 9, 2) := by decide +kernel
theorem dL_act_516 : decode cL_act 516 = .ok (.iconst 2, 1) := by decide +kernel
theorem dL_act_517 : decode cL_act 517 = .ok (.iconst 0, 1) := by decide +kernel
theorem dL_act_518 : decode cL_act 518 = .ok (.iastore, 1) := by decide +kernel
theorem dL_act_519 : decode cL_act 519 = .ok (.aload_n 0, 1) := by decide +kernel
theorem dL_act_520 : decode cL_act 520 = .ok (.aload 9, 2) := by decide +kernel
theorem dL_act_522 : decode cL_act 522 = .ok (.iconst 0, 1) := by decide +kernel
theorem dL_act_523 : decode cL_act 523 = .ok (.iaload, 1) := by decide +kernel
theorem dL_act_524 : decode cL_act 524 = .ok (.aload 9, 2) := by decide +kernel
theorem dL_act_526 : decode cL_act 526 = .ok (.iconst 1, 1) := by decide +kernel
theorem dL_act_527 : decode cL_act 527 = .ok (.iaload, 1) := by decide +kernel
theorem dL_act_528 : decode cL_act 528 = .ok (.invokevirtual 139, 3) := by decide +kernel
theorem dL_act_531 : decode cL_act 531 = .ok (.iload 13, 2) := by decide +kernel
theorem dL_act_533 : decode cL_act 533 = .ok (.if_icmp .ne 7, 3) := by decide +kernel
theorem dL_act_536 : decode cL_act 536 = .ok (.iconst 1, 1) := by decide +kernel
theorem dL_act_537 : decode cL_act 537 = .ok (.goto 4, 3) := by decide +kernel
theorem dL_act_540 : decode cL_act 540 = .ok (.iconst 0, 1) := by decide +kernel
theorem dL_act_541 : decode cL_act 541 = .ok (.ireturn, 1) := by decide +kernel
theorem dL_act_542 : decode cL_act 542 = .ok (.iload_n 1, 1) := by decide +kernel
theorem dL_act_543 : decode cL_act 543 = .ok (.bipush 10, 2) := by decide +kernel
theorem dL_act_545 : decode cL_act 545 = .ok (.if_icmp .ge 58, 3) := by decide +kernel
theorem dL_act_548 : decode cL_act 548 = .ok (.iload_n 2, 1) := by decide +kernel
theorem dL_act_549 : decode cL_act 549 = .ok (.iconst 4, 1) := by decide +kernel
theorem dL_act_550 : decode cL_act 550 = .ok (.invokestatic 45, 3) := by decide +kernel
theorem dL_act_553 : decode cL_act 553 = .ok (.istore 13, 2) := by decide +kernel
theorem dL_act_555 : decode cL_act 555 = .ok (.aload_n 0, 1) := by decide +kernel
theorem dL_act_556 : decode cL_act 556 = .ok (.iload 13, 2) := by decide +kernel
theorem dL_act_558 : decode cL_act 558 = .ok (.iconst 2, 1) := by decide +kernel
theorem dL_act_559 : decode cL_act 559 = .ok (.if_icmp .le 7, 3) := by decide +kernel
theorem dL_act_562 : decode cL_act 562 = .ok (.iconst 0, 1) := by decide +kernel
theorem dL_act_563 : decode cL_act 563 = .ok (.goto 5, 3) := by decide +kernel
theorem dL_act_566 : decode cL_act 566 = .ok (.iload 13, 2) := by decide +kernel
theorem dL_act_568 : decode cL_act 568 = .ok (.invokevirtual 142, 3) := by decide +kernel
theorem dL_act_571 : decode cL_act 571 = .ok (.iload 13, 2) := by decide +kernel
theorem dL_act_573 : decode cL_act 573 = .ok (.iconst 2, 1) := by decide +kernel
theorem dL_act_574 : decode cL_act 574 = .ok (.if_icmp .le 7, 3) := by decide +kernel
theorem dL_act_577 : decode cL_act 577 = .ok (.iconst 0, 1) := by decide +kernel
theorem dL_act_578 : decode cL_act 578 = .ok (.goto 5, 3) := by decide +kernel
theorem dL_act_581 : decode cL_act 581 = .ok (.iload 13, 2) := by decide +kernel
theorem dL_act_583 : decode cL_act 583 = .ok (.aload 4, 2) := by decide +kernel
theorem dL_act_585 : decode cL_act 585 = .ok (.aload 5, 2) := by decide +kernel
theorem dL_act_587 : decode cL_act 587 = .ok (.aload 7, 2) := by decide +kernel
theorem dL_act_589 : decode cL_act 589 = .ok (.aload 9, 2) := by decide +kernel
theorem dL_act_591 : decode cL_act 591 = .ok (.invokestatic 96, 3) := by decide +kernel
theorem dL_act_594 : decode cL_act 594 = .ok (.if_icmp .ne 7, 3) := by decide +kernel
theorem dL_act_597 : decode cL_act 597 = .ok (.iconst 1, 1) := by decide +kernel
theorem dL_act_598 : decode cL_act 598 = .ok (.goto 4, 3) := by decide +kernel
theorem dL_act_601 : decode cL_act 601 = .ok (.iconst 0, 1) := by decide +kernel
theorem dL_act_602 : decode cL_act 602 = .ok (.ireturn, 1) := by decide +kernel
theorem dL_act_603 : decode cL_act 603 = .ok (.iload_n 1, 1) := by decide +kernel
theorem dL_act_604 : decode cL_act 604 = .ok (.bipush 13, 2) := by decide +kernel
theorem dL_act_606 : decode cL_act 606 = .ok (.if_icmp .ge 113, 3) := by decide +kernel
theorem dL_act_609 : decode cL_act 609 = .ok (.aload 4, 2) := by decide +kernel
theorem dL_act_611 : decode cL_act 611 = .ok (.aload 9, 2) := by decide +kernel
theorem dL_act_613 : decode cL_act 613 = .ok (.invokestatic 34, 3) := by decide +kernel
theorem dL_act_616 : decode cL_act 616 = .ok (.iload_n 2, 1) := by decide +kernel
theorem dL_act_617 : decode cL_act 617 = .ok (.aload 4, 2) := by decide +kernel
theorem dL_act_619 : decode cL_act 619 = .ok (.aload 9, 2) := by decide +kernel
theorem dL_act_621 : decode cL_act 621 = .ok (.invokestatic 34, 3) := by decide +kernel
theorem dL_act_624 : decode cL_act 624 = .ok (.bipush 7, 2) := by decide +kernel
theorem dL_act_626 : decode cL_act 626 = .ok (.isub, 1) := by decide +kernel
theorem dL_act_627 : decode cL_act 627 = .ok (.invokestatic 45, 3) := by decide +kernel
theorem dL_act_630 : decode cL_act 630 = .ok (.isub, 1) := by decide +kernel
theorem dL_act_631 : decode cL_act 631 = .ok (.istore 13, 2) := by decide +kernel
theorem dL_act_633 : decode cL_act 633 = .ok (.iload 12, 2) := by decide +kernel
theorem dL_act_635 : decode cL_act 635 = .ok (.ifCond .eq 38, 3) := by decide +kernel
theorem dL_act_638 : decode cL_act 638 = .ok (.iload 11, 2) := by decide +kernel
theorem dL_act_640 : decode cL_act 640 = .ok (.ifCond .lt 15, 3) := by decide +kernel
theorem dL_act_643 : decode cL_act 643 = .ok (.iload 11, 2) := by decide +kernel
theorem dL_act_645 : decode cL_act 645 = .ok (.aload 5, 2) := by decide +kernel
theorem dL_act_647 : decode cL_act 647 = .ok (.aload 9, 2) := by decide +kernel
theorem dL_act_649 : decode cL_act 649 = .ok (.invokestatic 38, 3) := by decide +kernel
theorem dL_act_652 : decode cL_act 652 = .ok (.ifCond .ge 21, 3) := by decide +kernel
theorem dL_act_655 : decode cL_act 655 = .ok (.aload 9, 2) := by decide +kernel
theorem dL_act_657 : decode cL_act 657 = .ok (.iconst 2, 1) := by decide +kernel
theorem dL_act_658 : decode cL_act 658 = .ok (.iaload, 1) := by decide +kernel
theorem dL_act_659 : decode cL_act 659 = .ok (.aload 4, 2) := by decide +kernel
theorem dL_act_661 : decode cL_act 661 = .ok (.aload 9, 2) := by decide +kernel
theorem dL_act_663 : decode cL_act 663 = .ok (.invokestatic 19, 3) := by decide +kernel
theorem dL_act_666 : decode cL_act 666 = .ok (.aload 9, 2) := by decide +kernel
theorem dL_act_668 : decode cL_act 668 = .ok (.iconst 0, 1) := by decide +kernel
theorem dL_act_669 : decode cL_act 669 = .ok (.iaload, 1) := by decide +kernel
theorem dL_act_670 : decode cL_act 670 = .ok (.if_icmp .lt 5, 3) := by decide +kernel
theorem dL_act_673 : decode cL_act 673 = .ok (.iconst 1, 1) := by decide +kernel
theorem dL_act_674 : decode cL_act 674 = .ok (.ireturn, 1) := by decide +kernel
theorem dL_act_675 : decode cL_act 675 = .ok (.aload 4, 2) := by decide +kernel
theorem dL_act_677 : decode cL_act 677 = .ok (.aload 9, 2) := by decide +kernel
theorem dL_act_679 : decode cL_act 679 = .ok (.iconst 2, 1) := by decide +kernel
theorem dL_act_680 : decode cL_act 680 = .ok (.iaload, 1) := by decide +kernel
theorem dL_act_681 : decode cL_act 681 = .ok (.iload 13, 2) := by decide +kernel
theorem dL_act_683 : decode cL_act 683 = .ok (.iastore, 1) := by decide +kernel
theorem dL_act_684 : decode cL_act 684 = .ok (.aload 5, 2) := by decide +kernel
theorem dL_act_686 : decode cL_act 686 = .ok (.aload 9, 2) := by decide +kernel
theorem dL_act_688 : decode cL_act 688 = .ok (.iconst 2, 1) := by decide +kernel
theorem dL_act_689 : decode cL_act 689 = .ok (.iaload, 1) := by decide +kernel
theorem dL_act_690 : decode cL_act 690 = .ok (.iconst 0, 1) := by decide +kernel
theorem dL_act_691 : decode cL_act 691 = .ok (.iastore, 1) := by decide +kernel
theorem dL_act_692 : decode cL_act 692 = .ok (.aload 9, 2) := by decide +kernel
theorem dL_act_694 : decode cL_act 694 = .ok (.iconst 2, 1) := by decide +kernel
theorem dL_act_695 : decode cL_act 695 = .ok (.dup2, 1) := by decide +kernel
theorem dL_act_696 : decode cL_act 696 = .ok (.iaload, 1) := by decide +kernel
theorem dL_act_697 : decode cL_act 697 = .ok (.iconst 1, 1) := by decide +kernel
theorem dL_act_698 : decode cL_act 698 = .ok (.iadd, 1) := by decide +kernel
theorem dL_act_699 : decode cL_act 699 = .ok (.iastore, 1) := by decide +kernel
theorem dL_act_700 : decode cL_act 700 = .ok (.aload_n 0, 1) := by decide +kernel
theorem dL_act_701 : decode cL_act 701 = .ok (.iload 13, 2) := by decide +kernel
theorem dL_act_703 : decode cL_act 703 = .ok (.invokevirtual 145, 3) := by decide +kernel
theorem dL_act_706 : decode cL_act 706 = .ok (.iload 11, 2) := by decide +kernel
theorem dL_act_708 : decode cL_act 708 = .ok (.iconst 1, 1) := by decide +kernel
theorem dL_act_709 : decode cL_act 709 = .ok (.iadd, 1) := by decide +kernel
theorem dL_act_710 : decode cL_act 710 = .ok (.if_icmp .ne 7, 3) := by decide +kernel
theorem dL_act_713 : decode cL_act 713 = .ok (.iconst 1, 1) := by decide +kernel
theorem dL_act_714 : decode cL_act 714 = .ok (.goto 4, 3) := by decide +kernel
theorem dL_act_717 : decode cL_act 717 = .ok (.iconst 0, 1) := by decide +kernel
theorem dL_act_718 : decode cL_act 718 = .ok (.ireturn, 1) := by decide +kernel
theorem dL_act_719 : decode cL_act 719 = .ok (.iload_n 1, 1) := by decide +kernel
theorem dL_act_720 : decode cL_act 720 = .ok (.bipush 15, 2) := by decide +kernel
theorem dL_act_722 : decode cL_act 722 = .ok (.if_icmp .ge 20, 3) := by decide +kernel
theorem dL_act_725 : decode cL_act 725 = .ok (.aload_n 0, 1) := by decide +kernel
theorem dL_act_726 : decode cL_act 726 = .ok (.iload_n 2, 1) := by decide +kernel
theorem dL_act_727 : decode cL_act 727 = .ok (.iload_n 3, 1) := by decide +kernel
theorem dL_act_728 : decode cL_act 728 = .ok (.aload 4, 2) := by decide +kernel
theorem dL_act_730 : decode cL_act 730 = .ok (.aload 5, 2) := by decide +kernel
theorem dL_act_732 : decode cL_act 732 = .ok (.aload 6, 2) := by decide +kernel
theorem dL_act_734 : decode cL_act 734 = .ok (.aload 7, 2) := by decide +kernel
theorem dL_act_736 : decode cL_act 736 = .ok (.aload 9, 2) := by decide +kernel
theorem dL_act_738 : decode cL_act 738 = .ok (.invokestatic 148, 3) := by decide +kernel
theorem dL_act_741 : decode cL_act 741 = .ok (.ireturn, 1) := by decide +kernel
theorem dL_act_742 : decode cL_act 742 = .ok (.iload 12, 2) := by decide +kernel
theorem dL_act_744 : decode cL_act 744 = .ok (.ifCond .eq 8, 3) := by decide +kernel
theorem dL_act_747 : decode cL_act 747 = .ok (.iload 11, 2) := by decide +kernel
theorem dL_act_749 : decode cL_act 749 = .ok (.ifCond .ge 5, 3) := by decide +kernel
theorem dL_act_752 : decode cL_act 752 = .ok (.iconst 1, 1) := by decide +kernel
theorem dL_act_753 : decode cL_act 753 = .ok (.ireturn, 1) := by decide +kernel
theorem dL_act_754 : decode cL_act 754 = .ok (.iload_n 1, 1) := by decide +kernel
theorem dL_act_755 : decode cL_act 755 = .ok (.bipush 18, 2) := by decide +kernel
theorem dL_act_757 : decode cL_act 757 = .ok (.if_icmp .ge 169, 3) := by decide +kernel
theorem dL_act_760 : decode cL_act 760 = .ok (.iload 11, 2) := by decide +kernel
theorem dL_act_762 : decode cL_act 762 = .ok (.aload 9, 2) := by decide +kernel
theorem dL_act_764 : decode cL_act 764 = .ok (.invokestatic 8, 3) := by decide +kernel
theorem dL_act_767 : decode cL_act 767 = .ok (.aload 5, 2) := by decide +kernel
theorem dL_act_769 : decode cL_act 769 = .ok (.iload 11, 2) := by decide +kernel
theorem dL_act_771 : decode cL_act 771 = .ok (.iaload, 1) := by decide +kernel
theorem dL_act_772 : decode cL_act 772 = .ok (.invokestatic 15, 3) := by decide +kernel
theorem dL_act_775 : decode cL_act 775 = .ok (.isub, 1) := by decide +kernel
theorem dL_act_776 : decode cL_act 776 = .ok (.istore 13, 2) := by decide +kernel
theorem dL_act_778 : decode cL_act 778 = .ok (.iload 13, 2) := by decide +kernel
theorem dL_act_780 : decode cL_act 780 = .ok (.aload 6, 2) := by decide +kernel
theorem dL_act_782 : decode cL_act 782 = .ok (.aload 4, 2) := by decide +kernel
theorem dL_act_784 : decode cL_act 784 = .ok (.iload 11, 2) := by decide +kernel
theorem dL_act_786 : decode cL_act 786 = .ok (.iaload, 1) := by decide +kernel
theorem dL_act_787 : decode cL_act 787 = .ok (.iaload, 1) := by decide +kernel
theorem dL_act_788 : decode cL_act 788 = .ok (.if_icmp .ge 8, 3) := by decide +kernel
theorem dL_act_791 : decode cL_act 791 = .ok (.iload 13, 2) := by decide +kernel
theorem dL_act_793 : decode cL_act 793 = .ok (.goto 11, 3) := by decide +kernel
theorem dL_act_796 : decode cL_act 796 = .ok (.aload 6, 2) := by decide +kernel
theorem dL_act_798 : decode cL_act 798 = .ok (.aload 4, 2) := by decide +kernel
theorem dL_act_800 : decode cL_act 800 = .ok (.iload 11, 2) := by decide +kernel
theorem dL_act_802 : decode cL_act 802 = .ok (.iaload, 1) := by decide +kernel
theorem dL_act_803 : decode cL_act 803 = .ok (.iaload, 1) := by decide +kernel
theorem dL_act_804 : decode cL_act 804 = .ok (.istore 14, 2) := by decide +kernel
theorem dL_act_806 : decode cL_act 806 = .ok (.iload 14, 2) := by decide +kernel
theorem dL_act_808 : decode cL_act 808 = .ok (.aload 9, 2) := by decide +kernel
theorem dL_act_810 : decode cL_act 810 = .ok (.bipush 7, 2) := by decide +kernel
theorem dL_act_812 : decode cL_act 812 = .ok (.iaload, 1) := by decide +kernel
theorem dL_act_813 : decode cL_act 813 = .ok (.if_icmp .ge 8, 3) := by decide +kernel
theorem dL_act_816 : decode cL_act 816 = .ok (.iload 14, 2) := by decide +kernel
theorem dL_act_818 : decode cL_act 818 = .ok (.goto 8, 3) := by decide +kernel
theorem dL_act_821 : decode cL_act 821 = .ok (.aload 9, 2) := by decide +kernel
theorem dL_act_823 : decode cL_act 823 = .ok (.bipush 7, 2) := by decide +kernel
theorem dL_act_825 : decode cL_act 825 = .ok (.iaload, 1) := by decide +kernel
theorem dL_act_826 : decode cL_act 826 = .ok (.istore 14, 2) := by decide +kernel
theorem dL_act_828 : decode cL_act 828 = .ok (.iload 14, 2) := by decide +kernel
theorem dL_act_830 : decode cL_act 830 = .ok (.ifCond .ne 5, 3) := by decide +kernel
theorem dL_act_833 : decode cL_act 833 = .ok (.iconst 1, 1) := by decide +kernel
theorem dL_act_834 : decode cL_act 834 = .ok (.ireturn, 1) := by decide +kernel
theorem dL_act_835 : decode cL_act 835 = .ok (.iconst 1, 1) := by decide +kernel
theorem dL_act_836 : decode cL_act 836 = .ok (.iload_n 3, 1) := by decide +kernel
theorem dL_act_837 : decode cL_act 837 = .ok (.iload 14, 2) := by decide +kernel
theorem dL_act_839 : decode cL_act 839 = .ok (.invokestatic 45, 3) := by decide +kernel
theorem dL_act_842 : decode cL_act 842 = .ok (.iadd, 1) := by decide +kernel
theorem dL_act_843 : decode cL_act 843 = .ok (.istore 15, 2) := by decide +kernel
theorem dL_act_845 : decode cL_act 845 = .ok (.iconst 0, 1) := by decide +kernel
theorem dL_act_846 : decode cL_act 846 = .ok (.istore 16, 2) := by decide +kernel
theorem dL_act_848 : decode cL_act 848 = .ok (.iload 16, 2) := by decide +kernel
theorem dL_act_850 : decode cL_act 850 = .ok (.iload 15, 2) := by decide +kernel
theorem dL_act_852 : decode cL_act 852 = .ok (.if_icmp .ge 28, 3) := by decide +kernel
theorem dL_act_855 : decode cL_act 855 = .ok (.aload 5, 2) := by decide +kernel
theorem dL_act_857 : decode cL_act 857 = .ok (.iload 11, 2) := by decide +kernel
theorem dL_act_859 : decode cL_act 859 = .ok (.dup2, 1) := by decide +kernel
theorem dL_act_860 : decode cL_act 860 = .ok (.iaload, 1) := by decide +kernel
theorem dL_act_861 : decode cL_act 861 = .ok (.iconst 1, 1) := by decide +kernel
theorem dL_act_862 : decode cL_act 862 = .ok (.iload 11, 2) := by decide +kernel
theorem dL_act_864 : decode cL_act 864 = .ok (.aload 5, 2) := by decide +kernel
theorem dL_act_866 : decode cL_act 866 = .ok (.aload 9, 2) := by decide +kernel
theorem dL_act_868 : decode cL_act 868 = .ok (.invokestatic 38, 3) := by decide +kernel
theorem dL_act_871 : decode cL_act 871 = .ok (.ishl, 1) := by decide +kernel
theorem dL_act_872 : decode cL_act 872 = .ok (.ior, 1) := by decide +kernel
theorem dL_act_873 : decode cL_act 873 = .ok (.iastore, 1) := by decide +kernel
theorem dL_act_874 : decode cL_act 874 = .ok (.iinc 16 1, 3) := by decide +kernel
theorem dL_act_877 : decode cL_act 877 = .ok (.goto (-29), 3) := by decide +kernel
theorem dL_act_880 : decode cL_act 880 = .ok (.aload 6, 2) := by decide +kernel
theorem dL_act_882 : decode cL_act 882 = .ok (.aload 4, 2) := by decide +kernel
theorem dL_act_884 : decode cL_act 884 = .ok (.iload 11, 2) := by decide +kernel
theorem dL_act_886 : decode cL_act 886 = .ok (.iaload, 1) := by decide +kernel
theorem dL_act_887 : decode cL_act 887 = .ok (.dup2, 1) := by decide +kernel
theorem dL_act_888 : decode cL_act 888 = .ok (.iaload, 1) := by decide +kernel
theorem dL_act_889 : decode cL_act 889 = .ok (.iload 15, 2) := by decide +kernel
theorem dL_act_891 : decode cL_act 891 = .ok (.isub, 1) := by decide +kernel
theorem dL_act_892 : decode cL_act 892 = .ok (.iastore, 1) := by decide +kernel
theorem dL_act_893 : decode cL_act 893 = .ok (.aload 9, 2) := by decide +kernel
theorem dL_act_895 : decode cL_act 895 = .ok (.bipush 7, 2) := by decide +kernel
theorem dL_act_897 : decode cL_act 897 = .ok (.dup2, 1) := by decide +kernel
theorem dL_act_898 : decode cL_act 898 = .ok (.iaload, 1) := by decide +kernel
theorem dL_act_899 : decode cL_act 899 = .ok (.iload 15, 2) := by decide +kernel
theorem dL_act_901 : decode cL_act 901 = .ok (.isub, 1) := by decide +kernel
theorem dL_act_902 : decode cL_act 902 = .ok (.iastore, 1) := by decide +kernel
theorem dL_act_903 : decode cL_act 903 = .ok (.aload_n 0, 1) := by decide +kernel
theorem dL_act_904 : decode cL_act 904 = .ok (.iload 15, 2) := by decide +kernel
theorem dL_act_906 : decode cL_act 906 = .ok (.invokevirtual 152, 3) := by decide +kernel
theorem dL_act_909 : decode cL_act 909 = .ok (.aload 5, 2) := by decide +kernel
theorem dL_act_911 : decode cL_act 911 = .ok (.iload 11, 2) := by decide +kernel
theorem dL_act_913 : decode cL_act 913 = .ok (.iaload, 1) := by decide +kernel
theorem dL_act_914 : decode cL_act 914 = .ok (.invokestatic 15, 3) := by decide +kernel
theorem dL_act_917 : decode cL_act 917 = .ok (.if_icmp .ne 7, 3) := by decide +kernel
theorem dL_act_920 : decode cL_act 920 = .ok (.iconst 1, 1) := by decide +kernel
theorem dL_act_921 : decode cL_act 921 = .ok (.goto 4, 3) := by decide +kernel
theorem dL_act_924 : decode cL_act 924 = .ok (.iconst 0, 1) := by decide +kernel
theorem dL_act_925 : decode cL_act 925 = .ok (.ireturn, 1) := by decide +kernel
theorem dL_act_926 : decode cL_act 926 = .ok (.iload_n 2, 1) := by decide +kernel
theorem dL_act_927 : decode cL_act 927 = .ok (.aload 9, 2) := by decide +kernel
theorem dL_act_929 : decode cL_act 929 = .ok (.iconst 2, 1) := by decide +kernel
theorem dL_act_930 : decode cL_act 930 = .ok (.iaload, 1) := by decide +kernel
theorem dL_act_931 : decode cL_act 931 = .ok (.invokestatic 45, 3) := by decide +kernel
theorem dL_act_934 : decode cL_act 934 = .ok (.istore 13, 2) := by decide +kernel
theorem dL_act_936 : decode cL_act 936 = .ok (.iload 13, 2) := by decide +kernel
theorem dL_act_938 : decode cL_act 938 = .ok (.aload 5, 2) := by decide +kernel
theorem dL_act_940 : decode cL_act 940 = .ok (.aload 9, 2) := by decide +kernel
theorem dL_act_942 : decode cL_act 942 = .ok (.invokestatic 38, 3) := by decide +kernel
theorem dL_act_945 : decode cL_act 945 = .ok (.istore 14, 2) := by decide +kernel
theorem dL_act_947 : decode cL_act 947 = .ok (.iload 14, 2) := by decide +kernel
theorem dL_act_949 : decode cL_act 949 = .ok (.ifCond .lt 23, 3) := by decide +kernel
theorem dL_act_952 : decode cL_act 952 = .ok (.aload 6, 2) := by decide +kernel
theorem dL_act_954 : decode cL_act 954 = .ok (.aload 4, 2) := by decide +kernel
theorem dL_act_956 : decode cL_act 956 = .ok (.iload 13, 2) := by decide +kernel
theorem dL_act_958 : decode cL_act 958 = .ok (.iaload, 1) := by decide +kernel
theorem dL_act_959 : decode cL_act 959 = .ok (.iaload, 1) := by decide +kernel
theorem dL_act_960 : decode cL_act 960 = .ok (.ifCond .eq 12, 3) := by decide +kernel
theorem dL_act_963 : decode cL_act 963 = .ok (.aload 9, 2) := by decide +kernel
theorem dL_act_965 : decode cL_act 965 = .ok (.bipush 7, 2) := by decide +kernel
theorem dL_act_967 : decode cL_act 967 = .ok (.iaload, 1) := by decide +kernel
theorem dL_act_968 : decode cL_act 968 = .ok (.iconst 3, 1) := by decide +kernel
theorem dL_act_969 : decode cL_act 969 = .ok (.if_icmp .ge 5, 3) := by decide +kernel
theorem dL_act_972 : decode cL_act 972 = .ok (.iconst 1, 1) := by decide +kernel
theorem dL_act_973 : decode cL_act 973 = .ok (.ireturn, 1) := by decide +kernel
theorem dL_act_974 : decode cL_act 974 = .ok (.aload 5, 2) := by decide +kernel
theorem dL_act_976 : decode cL_act 976 = .ok (.iload 13, 2) := by decide +kernel
theorem dL_act_978 : decode cL_act 978 = .ok (.dup2, 1) := by decide +kernel
theorem dL_act_979 : decode cL_act 979 = .ok (.iaload, 1) := by decide +kernel
theorem dL_act_980 : decode cL_act 980 = .ok (.iconst 1, 1) := by decide +kernel
theorem dL_act_981 : decode cL_act 981 = .ok (.iload 14, 2) := by decide +kernel
theorem dL_act_983 : decode cL_act 983 = .ok (.ishl, 1) := by decide +kernel
theorem dL_act_984 : decode cL_act 984 = .ok (.ior, 1) := by decide +kernel
theorem dL_act_985 : decode cL_act 985 = .ok (.iastore, 1) := by decide +kernel
theorem dL_act_986 : decode cL_act 986 = .ok (.aload 6, 2) := by decide +kernel
theorem dL_act_988 : decode cL_act 988 = .ok (.aload 4, 2) := by decide +kernel
theorem dL_act_990 : decode cL_act 990 = .ok (.iload 13, 2) := by decide +kernel
theorem dL_act_992 : decode cL_act 992 = .ok (.iaload, 1) := by decide +kernel
theorem dL_act_993 : decode cL_act 993 = .ok (.dup2, 1) := by decide +kernel
theorem dL_act_994 : decode cL_act 994 = .ok (.iaload, 1) := by decide +kernel
theorem dL_act_995 : decode cL_act 995 = .ok (.iconst 1, 1) := by decide +kernel
theorem dL_act_996 : decode cL_act 996 = .ok (.isub, 1) := by decide +kernel
theorem dL_act_997 : decode cL_act 997 = .ok (.iastore, 1) := by decide +kernel
theorem dL_act_998 : decode cL_act 998 = .ok (.aload 9, 2) := by decide +kernel
theorem dL_act_1000 : decode cL_act 1000 = .ok (.bipush 7, 2) := by decide +kernel
theorem dL_act_1002 : decode cL_act 1002 = .ok (.dup2, 1) := by decide +kernel
theorem dL_act_1003 : decode cL_act 1003 = .ok (.iaload, 1) := by decide +kernel
theorem dL_act_1004 : decode cL_act 1004 = .ok (.iconst 3, 1) := by decide +kernel
theorem dL_act_1005 : decode cL_act 1005 = .ok (.isub, 1) := by decide +kernel
theorem dL_act_1006 : decode cL_act 1006 = .ok (.iastore, 1) := by decide +kernel
theorem dL_act_1007 : decode cL_act 1007 = .ok (.aload_n 0, 1) := by decide +kernel
theorem dL_act_1008 : decode cL_act 1008 = .ok (.iload 13, 2) := by decide +kernel
theorem dL_act_1010 : decode cL_act 1010 = .ok (.iload 14, 2) := by decide +kernel
theorem dL_act_1012 : decode cL_act 1012 = .ok (.invokevirtual 155, 3) := by decide +kernel
theorem dL_act_1015 : decode cL_act 1015 = .ok (.aload 9, 2) := by decide +kernel
theorem dL_act_1017 : decode cL_act 1017 = .ok (.bipush 7, 2) := by decide +kernel
theorem dL_act_1019 : decode cL_act 1019 = .ok (.iaload, 1) := by decide +kernel
theorem dL_act_1020 : decode cL_act 1020 = .ok (.if_icmp .ne 7, 3) := by decide +kernel
theorem dL_act_1023 : decode cL_act 1023 = .ok (.iconst 1, 1) := by decide +kernel
theorem dL_act_1024 : decode cL_act 1024 = .ok (.goto 4, 3) := by decide +kernel
theorem dL_act_1027 : decode cL_act 1027 = .ok (.iconst 0, 1) := by decide +kernel
theorem dL_act_1028 : decode cL_act 1028 = .ok (.ireturn, 1) := by decide +kernel
theorem dL_law_0 : decode cL_law 0 = .ok (.new 50, 3) := by decide +kernel
theorem dL_law_3 : decode cL_law 3 = .ok (.dup, 1) := by decide +kernel
theorem dL_law_4 : decode cL_law 4 = .ok (.invokespecial 158, 3) := by decide +kernel
theorem dL_law_7 : decode cL_law 7 = .ok (.astore_n 1, 1) := by decide +kernel
theorem dL_law_8 : decode cL_law 8 = .ok (.bipush 61, 2) := by decide +kernel
theorem dL_law_10 : decode cL_law 10 = .ok (.newarray .int, 2) := by decide +kernel
theorem dL_law_12 : decode cL_law 12 = .ok (.astore_n 2, 1) := by decide +kernel
theorem dL_law_13 : decode cL_law 13 = .ok (.bipush 61, 2) := by decide +kernel
theorem dL_law_15 : decode cL_law 15 = .ok (.newarray .int, 2) := by decide +kernel
theorem dL_law_17 : decode cL_law 17 = .ok (.astore_n 3, 1) := by decide +kernel
theorem dL_law_18 : decode cL_law 18 = .ok (.bipush 25, 2) := by decide +kernel
theorem dL_law_20 : decode cL_law 20 = .ok (.newarray .int, 2) := by decide +kernel
theorem dL_law_22 : decode cL_law 22 = .ok (.astore 4, 2) := by decide +kernel
theorem dL_law_24 : decode cL_law 24 = .ok (.bipush 25, 2) := by decide +kernel
theorem dL_law_26 : decode cL_law 26 = .ok (.newarray .int, 2) := by decide +kernel
theorem dL_law_28 : decode cL_law 28 = .ok (.astore 5, 2) := by decide +kernel
theorem dL_law_30 : decode cL_law 30 = .ok (.bipush 25, 2) := by decide +kernel
theorem dL_law_32 : decode cL_law 32 = .ok (.newarray .int, 2) := by decide +kernel
theorem dL_law_34 : decode cL_law 34 = .ok (.astore 6, 2) := by decide +kernel
theorem dL_law_36 : decode cL_law 36 = .ok (.bipush 14, 2) := by decide +kernel
theorem dL_law_38 : decode cL_law 38 = .ok (.newarray .int, 2) := by decide +kernel
theorem dL_law_40 : decode cL_law 40 = .ok (.astore 7, 2) := by decide +kernel
theorem dL_law_42 : decode cL_law 42 = .ok (.aload 7, 2) := by decide +kernel
theorem dL_law_44 : decode cL_law 44 = .ok (.iconst 0, 1) := by decide +kernel
theorem dL_law_45 : decode cL_law 45 = .ok (.bipush 50, 2) := by decide +kernel
theorem dL_law_47 : decode cL_law 47 = .ok (.iastore, 1) := by decide +kernel
theorem dL_law_48 : decode cL_law 48 = .ok (.aload 7, 2) := by decide +kernel
theorem dL_law_50 : decode cL_law 50 = .ok (.iconst 1, 1) := by decide +kernel
theorem dL_law_51 : decode cL_law 51 = .ok (.bipush 6, 2) := by decide +kernel
theorem dL_law_53 : decode cL_law 53 = .ok (.iastore, 1) := by decide +kernel
theorem dL_law_54 : decode cL_law 54 = .ok (.aload 7, 2) := by decide +kernel
theorem dL_law_56 : decode cL_law 56 = .ok (.iconst 3, 1) := by decide +kernel
theorem dL_law_57 : decode cL_law 57 = .ok (.iconst 4, 1) := by decide +kernel
theorem dL_law_58 : decode cL_law 58 = .ok (.iastore, 1) := by decide +kernel
theorem dL_law_59 : decode cL_law 59 = .ok (.aload 7, 2) := by decide +kernel
theorem dL_law_61 : decode cL_law 61 = .ok (.iconst 4, 1) := by decide +kernel
theorem dL_law_62 : decode cL_law 62 = .ok (.bipush 20, 2) := by decide +kernel
theorem dL_law_64 : decode cL_law 64 = .ok (.iastore, 1) := by decide +kernel
theorem dL_law_65 : decode cL_law 65 = .ok (.aload 7, 2) := by decide +kernel
theorem dL_law_67 : decode cL_law 67 = .ok (.iconst 5, 1) := by decide +kernel
theorem dL_law_68 : decode cL_law 68 = .ok (.iconst 2, 1) := by decide +kernel
theorem dL_law_69 : decode cL_law 69 = .ok (.iastore, 1) := by decide +kernel
theorem dL_law_70 : decode cL_law 70 = .ok (.aload 7, 2) := by decide +kernel
theorem dL_law_72 : decode cL_law 72 = .ok (.bipush 7, 2) := by decide +kernel
theorem dL_law_74 : decode cL_law 74 = .ok (.bipush 20, 2) := by decide +kernel
theorem dL_law_76 : decode cL_law 76 = .ok (.iastore, 1) := by decide +kernel
theorem dL_law_77 : decode cL_law 77 = .ok (.aload_n 1, 1) := by decide +kernel
theorem dL_law_78 : decode cL_law 78 = .ok (.bipush 50, 2) := by decide +kernel
theorem dL_law_80 : decode cL_law 80 = .ok (.bipush 6, 2) := by decide +kernel
theorem dL_law_82 : decode cL_law 82 = .ok (.invokevirtual 139, 3) := by decide +kernel
theorem dL_law_85 : decode cL_law 85 = .ok (.ifCond .ne 38, 3) := by decide +kernel
theorem dL_law_88 : decode cL_law 88 = .ok (.aload_n 1, 1) := by decide +kernel
theorem dL_law_89 : decode cL_law 89 = .ok (.iconst 5, 1) := by decide +kernel
theorem dL_law_90 : decode cL_law 90 = .ok (.aload_n 2, 1) := by decide +kernel
theorem dL_law_91 : decode cL_law 91 = .ok (.aload_n 3, 1) := by decide +kernel
theorem dL_law_92 : decode cL_law 92 = .ok (.aload 4, 2) := by decide +kernel
theorem dL_law_94 : decode cL_law 94 = .ok (.aload 5, 2) := by decide +kernel
theorem dL_law_96 : decode cL_law 96 = .ok (.aload 6, 2) := by decide +kernel
theorem dL_law_98 : decode cL_law 98 = .ok (.aload 7, 2) := by decide +kernel
theorem dL_law_100 : decode cL_law 100 = .ok (.invokestatic 159, 3) := by decide +kernel
theorem dL_law_103 : decode cL_law 103 = .ok (.ifCond .eq 20, 3) := by decide +kernel
theorem dL_law_106 : decode cL_law 106 = .ok (.aload_n 1, 1) := by decide +kernel
theorem dL_law_107 : decode cL_law 107 = .ok (.bipush 9, 2) := by decide +kernel
theorem dL_law_109 : decode cL_law 109 = .ok (.aload_n 2, 1) := by decide +kernel
theorem dL_law_110 : decode cL_law 110 = .ok (.aload_n 3, 1) := by decide +kernel
theorem dL_law_111 : decode cL_law 111 = .ok (.aload 4, 2) := by decide +kernel
theorem dL_law_113 : decode cL_law 113 = .ok (.aload 5, 2) := by decide +kernel
theorem dL_law_115 : decode cL_law 115 = .ok (.aload 7, 2) := by decide +kernel
theorem dL_law_117 : decode cL_law 117 = .ok (.invokestatic 163, 3) := by decide +kernel
theorem dL_law_120 : decode cL_law 120 = .ok (.ifCond .ne 5, 3) := by decide +kernel
theorem dL_law_123 : decode cL_law 123 = .ok (.iconst 0, 1) := by decide +kernel
theorem dL_law_124 : decode cL_law 124 = .ok (.ireturn, 1) := by decide +kernel
theorem dL_law_125 : decode cL_law 125 = .ok (.iconst 0, 1) := by decide +kernel
theorem dL_law_126 : decode cL_law 126 = .ok (.istore 8, 2) := by decide +kernel
theorem dL_law_128 : decode cL_law 128 = .ok (.iload 8, 2) := by decide +kernel
theorem dL_law_130 : decode cL_law 130 = .ok (.bipush 26, 2) := by decide +kernel
theorem dL_law_132 : decode cL_law 132 = .ok (.if_icmp .ge 156, 3) := by decide +kernel
theorem dL_law_135 : decode cL_law 135 = .ok (.aload_n 0, 1) := by decide +kernel
theorem dL_law_136 : decode cL_law 136 = .ok (.iconst 2, 1) := by decide +kernel
theorem dL_law_137 : decode cL_law 137 = .ok (.iload 8, 2) := by decide +kernel
theorem dL_law_139 : decode cL_law 139 = .ok (.imul, 1) := by decide +kernel
theorem dL_law_140 : decode cL_law 140 = .ok (.invokestatic 167, 3) := by decide +kernel
theorem dL_law_143 : decode cL_law 143 = .ok (.ldc 14, 2) := by decide +kernel
theorem dL_law_145 : decode cL_law 145 = .ok (.iand, 1) := by decide +kernel
theorem dL_law_146 : decode cL_law 146 = .ok (.istore 9, 2) := by decide +kernel
theorem dL_law_148 : decode cL_law 148 = .ok (.aload_n 0, 1) := by decide +kernel
theorem dL_law_149 : decode cL_law 149 = .ok (.iconst 2, 1) := by decide +kernel
theorem dL_law_150 : decode cL_law 150 = .ok (.iload 8, 2) := by decide +kernel
theorem dL_law_152 : decode cL_law 152 = .ok (.imul, 1) := by decide +kernel
theorem dL_law_153 : decode cL_law 153 = .ok (.iconst 1, 1) := by decide +kernel
theorem dL_law_154 : decode cL_law 154 = .ok (.iadd, 1) := by decide +kernel
theorem dL_law_155 : decode cL_law 155 = .ok (.invokestatic 167, 3) := by decide +kernel
theorem dL_law_158 : decode cL_law 158 = .ok (.ldc 14, 2) := by decide +kernel
theorem dL_law_160 : decode cL_law 160 = .ok (.iand, 1) := by decide +kernel
theorem dL_law_161 : decode cL_law 161 = .ok (.istore 10, 2) := by decide +kernel
theorem dL_law_163 : decode cL_law 163 = .ok (.iload 8, 2) := by decide +kernel
theorem dL_law_165 : decode cL_law 165 = .ok (.iconst 3, 1) := by decide +kernel
theorem dL_law_166 : decode cL_law 166 = .ok (.if_icmp .ge 7, 3) := by decide +kernel
theorem dL_law_169 : decode cL_law 169 = .ok (.iconst 0, 1) := by decide +kernel
theorem dL_law_170 : decode cL_law 170 = .ok (.goto 35, 3) := by decide +kernel
theorem dL_law_173 : decode cL_law 173 = .ok (.iload 8, 2) := by decide +kernel
theorem dL_law_175 : decode cL_law 175 = .ok (.iconst 3, 1) := by decide +kernel
theorem dL_law_176 : decode cL_law 176 = .ok (.if_icmp .ne 8, 3) := by decide +kernel
theorem dL_law_179 : decode cL_law 179 = .ok (.bipush 11, 2) := by decide +kernel
theorem dL_law_181 : decode cL_law 181 = .ok (.goto 24, 3) := by decide +kernel
theorem dL_law_184 : decode cL_law 184 = .ok (.iload 8, 2) := by decide +kernel
theorem dL_law_186 : decode cL_law 186 = .ok (.iconst 4, 1) := by decide +kernel
theorem dL_law_187 : decode cL_law 187 = .ok (.if_icmp .ne 8, 3) := by decide +kernel
theorem dL_law_190 : decode cL_law 190 = .ok (.bipush 15, 2) := by decide +kernel
theorem dL_law_192 : decode cL_law 192 = .ok (.goto 13, 3) := by decide +kernel
theorem dL_law_195 : decode cL_law 195 = .ok (.iload 9, 2) := by decide +kernel
theorem dL_law_197 : decode cL_law 197 = .ok (.bipush 13, 2) := by decide +kernel
theorem dL_law_199 : decode cL_law 199 = .ok (.ishr, 1) := by decide +kernel
theorem dL_law_200 : decode cL_law 200 = .ok (.bipush 20, 2) := by decide +kernel
theorem dL_law_202 : decode cL_law 202 = .ok (.invokestatic 45, 3) := by decide +kernel
theorem dL_law_205 : decode cL_law 205 = .ok (.istore 11, 2) := by decide +kernel
theorem dL_law_207 : decode cL_law 207 = .ok (.aload_n 1, 1) := by decide +kernel
theorem dL_law_208 : decode cL_law 208 = .ok (.iload 11, 2) := by decide +kernel
theorem dL_law_210 : decode cL_law 210 = .ok (.iload 9, 2) := by decide +kernel
theorem dL_law_212 : decode cL_law 212 = .ok (.iload 10, 2) := by decide +kernel
theorem dL_law_214 : decode cL_law 214 = .ok (.aload_n 2, 1) := by decide +kernel
theorem dL_law_215 : decode cL_law 215 = .ok (.aload_n 3, 1) := by decide +kernel
theorem dL_law_216 : decode cL_law 216 = .ok (.aload 4, 2) := by decide +kernel
theorem dL_law_218 : decode cL_law 218 = .ok (.aload 5, 2) := by decide +kernel
theorem dL_law_220 : decode cL_law 220 = .ok (.aload 6, 2) := by decide +kernel
theorem dL_law_222 : decode cL_law 222 = .ok (.aload 7, 2) := by decide +kernel
theorem dL_law_224 : decode cL_law 224 = .ok (.invokestatic 171, 3) := by decide +kernel
theorem dL_law_227 : decode cL_law 227 = .ok (.ifCond .eq 24, 3) := by decide +kernel
theorem dL_law_230 : decode cL_law 230 = .ok (.aload_n 1, 1) := by decide +kernel
theorem dL_law_231 : decode cL_law 231 = .ok (.iload 10, 2) := by decide +kernel
theorem dL_law_233 : decode cL_law 233 = .ok (.iconst 2, 1) := by decide +kernel
theorem dL_law_234 : decode cL_law 234 = .ok (.ishr, 1) := by decide +kernel
theorem dL_law_235 : decode cL_law 235 = .ok (.aload_n 2, 1) := by decide +kernel
theorem dL_law_236 : decode cL_law 236 = .ok (.aload_n 3, 1) := by decide +kernel
theorem dL_law_237 : decode cL_law 237 = .ok (.aload 4, 2) := by decide +kernel
theorem dL_law_239 : decode cL_law 239 = .ok (.aload 5, 2) := by decide +kernel
theorem dL_law_241 : decode cL_law 241 = .ok (.aload 6, 2) := by decide +kernel
theorem dL_law_243 : decode cL_law 243 = .ok (.aload 7, 2) := by decide +kernel
theorem dL_law_245 : decode cL_law 245 = .ok (.invokestatic 159, 3) := by decide +kernel
theorem dL_law_248 : decode cL_law 248 = .ok (.ifCond .ne 5, 3) := by decide +kernel
theorem dL_law_251 : decode cL_law 251 = .ok (.iconst 0, 1) := by decide +kernel
theorem dL_law_252 : decode cL_law 252 = .ok (.ireturn, 1) := by decide +kernel
theorem dL_law_253 : decode cL_law 253 = .ok (.iload 8, 2) := by decide +kernel
theorem dL_law_255 : decode cL_law 255 = .ok (.iconst 5, 1) := by decide +kernel
theorem dL_law_256 : decode cL_law 256 = .ok (.irem, 1) := by decide +kernel
theorem dL_law_257 : decode cL_law 257 = .ok (.iconst 4, 1) := by decide +kernel
theorem dL_law_258 : decode cL_law 258 = .ok (.if_icmp .ne 24, 3) := by decide +kernel
theorem dL_law_261 : decode cL_law 261 = .ok (.aload_n 1, 1) := by decide +kernel
theorem dL_law_262 : decode cL_law 262 = .ok (.iload 9, 2) := by decide +kernel
theorem dL_law_264 : decode cL_law 264 = .ok (.iconst 3, 1) := by decide +kernel
theorem dL_law_265 : decode cL_law 265 = .ok (.ishr, 1) := by decide +kernel
theorem dL_law_266 : decode cL_law 266 = .ok (.aload_n 2, 1) := by decide +kernel
theorem dL_law_267 : decode cL_law 267 = .ok (.aload_n 3, 1) := by decide +kernel
theorem dL_law_268 : decode cL_law 268 = .ok (.aload 4, 2) := by decide +kernel
theorem dL_law_270 : decode cL_law 270 = .ok (.aload 5, 2) := by decide +kernel
theorem dL_law_272 : decode cL_law 272 = .ok (.aload 7, 2) := by decide +kernel
theorem dL_law_274 : decode cL_law 274 = .ok (.invokestatic 163, 3) := by decide +kernel
theorem dL_law_277 : decode cL_law 277 = .ok (.ifCond .ne 5, 3) := by decide +kernel
theorem dL_law_280 : decode cL_law 280 = .ok (.iconst 0, 1) := by decide +kernel
theorem dL_law_281 : decode cL_law 281 = .ok (.ireturn, 1) := by decide +kernel
theorem dL_law_282 : decode cL_law 282 = .ok (.iinc 8 1, 3) := by decide +kernel
theorem dL_law_285 : decode cL_law 285 = .ok (.goto (-157), 3) := by decide +kernel
theorem dL_law_288 : decode cL_law 288 = .ok (.aload_n 1, 1) := by decide +kernel
theorem dL_law_289 : decode cL_law 289 = .ok (.bipush 18, 2) := by decide +kernel
theorem dL_law_291 : decode cL_law 291 = .ok (.invokevirtual 65, 3) := by decide +kernel
theorem dL_law_294 : decode cL_law 294 = .ok (.ifCond .le 7, 3) := by decide +kernel
theorem dL_law_297 : decode cL_law 297 = .ok (.iconst 1, 1) := by decide +kernel
theorem dL_law_298 : decode cL_law 298 = .ok (.goto 4, 3) := by decide +kernel
theorem dL_law_301 : decode cL_law 301 = .ok (.iconst 0, 1) := by decide +kernel
theorem dL_law_302 : decode cL_law 302 = .ok (.ireturn, 1) := by decide +kernel
