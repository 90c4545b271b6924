theorem dX3_pass_57 : decode cX3_pass 57 = .ok (.iload_n 1, 1) := by decide +kernel
theorem dX3_pass_58 : decode cX3_pass 58 = .ok (.invokevirtual 199, 3) := by decide +kernel
theorem dX3_pass_61 : decode cX3_pass 61 = .ok (.ireturn, 1) := by decide +kernel
theorem dX3_append_0 : decode cX3_append 0 = .ok (.iload_n 1, 1) := by decide +kernel
theorem dX3_append_1 : decode cX3_append 1 = .ok (.bipush 33, 2) := by decide +kernel
theorem dX3_append_3 : decode cX3_append 3 = .ok (.bipush 126, 2) := by decide +kernel
theorem dX3_append_5 : decode cX3_append 5 = .ok (.invokestatic 33, 3) := by decide +kernel
theorem dX3_append_8 : decode cX3_append 8 = .ok (.ifCond .ne 13, 3) := by decide +kernel
theorem dX3_append_11 : decode cX3_append 11 = .ok (.new 37, 3) := by decide +kernel
theorem dX3_append_14 : decode cX3_append 14 = .ok (.dup, 1) := by decide +kernel
theorem dX3_append_15 : decode cX3_append 15 = .ok (.ldc 202, 2) := by decide +kernel
theorem dX3_append_17 : decode cX3_append 17 = .ok (.invokespecial 41, 3) := by decide +kernel
theorem dX3_append_20 : decode cX3_append 20 = .ok (.athrow, 1) := by decide +kernel
theorem dX3_append_21 : decode cX3_append 21 = .ok (.aload_n 0, 1) := by decide +kernel
theorem dX3_append_22 : decode cX3_append 22 = .ok (.getfield 29, 3) := by decide +kernel
theorem dX3_append_25 : decode cX3_append 25 = .ok (.getfield 204, 3) := by decide +kernel
theorem dX3_append_28 : decode cX3_append 28 = .ok (.bipush 60, 2) := by decide +kernel
theorem dX3_append_30 : decode cX3_append 30 = .ok (.if_icmp .lt 13, 3) := by decide +kernel
theorem dX3_append_33 : decode cX3_append 33 = .ok (.new 104, 3) := by decide +kernel
theorem dX3_append_36 : decode cX3_append 36 = .ok (.dup, 1) := by decide +kernel
theorem dX3_append_37 : decode cX3_append 37 = .ok (.ldc 207, 2) := by decide +kernel
theorem dX3_append_39 : decode cX3_append 39 = .ok (.invokespecial 108, 3) := by decide +kernel
theorem dX3_append_42 : decode cX3_append 42 = .ok (.athrow, 1) := by decide +kernel
theorem dX3_append_43 : decode cX3_append 43 = .ok (.aload_n 0, 1) := by decide +kernel
theorem dX3_append_44 : decode cX3_append 44 = .ok (.getfield 29, 3) := by decide +kernel
theorem dX3_append_47 : decode cX3_append 47 = .ok (.iload_n 1, 1) := by decide +kernel
theorem dX3_append_48 : decode cX3_append 48 = .ok (.i2c, 1) := by decide +kernel
theorem dX3_append_49 : decode cX3_append 49 = .ok (.invokevirtual 209, 3) := by decide +kernel
theorem dX3_append_52 : decode cX3_append 52 = .ok (.aload_n 0, 1) := by decide +kernel
theorem dX3_append_53 : decode cX3_append 53 = .ok (.getfield 29, 3) := by decide +kernel
theorem dX3_append_56 : decode cX3_append 56 = .ok (.getfield 204, 3) := by decide +kernel
theorem dX3_append_59 : decode cX3_append 59 = .ok (.ireturn, 1) := by decide +kernel
theorem dX3_work_0 : decode cX3_work 0 = .ok (.aload_n 0, 1) := by decide +kernel
theorem dX3_work_1 : decode cX3_work 1 = .ok (.getfield 29, 3) := by decide +kernel
theorem dX3_work_4 : decode cX3_work 4 = .ok (.invokevirtual 216, 3) := by decide +kernel
theorem dX3_work_7 : decode cX3_work 7 = .ok (.ifCond .ne 13, 3) := by decide +kernel
theorem dX3_work_10 : decode cX3_work 10 = .ok (.new 37, 3) := by decide +kernel
theorem dX3_work_13 : decode cX3_work 13 = .ok (.dup, 1) := by decide +kernel
theorem dX3_work_14 : decode cX3_work 14 = .ok (.ldc 219, 2) := by decide +kernel
theorem dX3_work_16 : decode cX3_work 16 = .ok (.invokespecial 41, 3) := by decide +kernel
theorem dX3_work_19 : decode cX3_work 19 = .ok (.athrow, 1) := by decide +kernel
theorem dX3_work_20 : decode cX3_work 20 = .ok (.aload_n 0, 1) := by decide +kernel
theorem dX3_work_21 : decode cX3_work 21 = .ok (.getfield 29, 3) := by decide +kernel
theorem dX3_work_24 : decode cX3_work 24 = .ok (.invokevirtual 221, 3) := by decide +kernel
theorem dX3_work_27 : decode cX3_work 27 = .ok (.istore_n 1, 1) := by decide +kernel
theorem dX3_work_28 : decode cX3_work 28 = .ok (.iload_n 1, 1) := by decide +kernel
theorem dX3_work_29 : decode cX3_work 29 = .ok (.sipush 200, 3) := by decide +kernel
theorem dX3_work_32 : decode cX3_work 32 = .ok (.if_icmp .gt 18, 3) := by decide +kernel
theorem dX3_work_35 : decode cX3_work 35 = .ok (.aload_n 0, 1) := by decide +kernel
theorem dX3_work_36 : decode cX3_work 36 = .ok (.getfield 10, 3) := by decide +kernel
theorem dX3_work_39 : decode cX3_work 39 = .ok (.getfield 194, 3) := by decide +kernel
theorem dX3_work_42 : decode cX3_work 42 = .ok (.iload_n 1, 1) := by decide +kernel
theorem dX3_work_43 : decode cX3_work 43 = .ok (.iadd, 1) := by decide +kernel
theorem dX3_work_44 : decode cX3_work 44 = .ok (.sipush 1000, 3) := by decide +kernel
theorem dX3_work_47 : decode cX3_work 47 = .ok (.if_icmp .le 13, 3) := by decide +kernel
theorem dX3_work_50 : decode cX3_work 50 = .ok (.new 104, 3) := by decide +kernel
theorem dX3_work_53 : decode cX3_work 53 = .ok (.dup, 1) := by decide +kernel
theorem dX3_work_54 : decode cX3_work 54 = .ok (.ldc 224, 2) := by decide +kernel
theorem dX3_work_56 : decode cX3_work 56 = .ok (.invokespecial 108, 3) := by decide +kernel
theorem dX3_work_59 : decode cX3_work 59 = .ok (.athrow, 1) := by decide +kernel
theorem dX3_work_60 : decode cX3_work 60 = .ok (.aload_n 0, 1) := by decide +kernel
theorem dX3_work_61 : decode cX3_work 61 = .ok (.getfield 22, 3) := by decide +kernel
theorem dX3_work_64 : decode cX3_work 64 = .ok (.aload_n 0, 1) := by decide +kernel
theorem dX3_work_65 : decode cX3_work 65 = .ok (.getfield 10, 3) := by decide +kernel
theorem dX3_work_68 : decode cX3_work 68 = .ok (.invokevirtual 44, 3) := by decide +kernel
theorem dX3_work_71 : decode cX3_work 71 = .ok (.iconst 0, 1) := by decide +kernel
theorem dX3_work_72 : decode cX3_work 72 = .ok (.istore_n 2, 1) := by decide +kernel
theorem dX3_work_73 : decode cX3_work 73 = .ok (.iconst 0, 1) := by decide +kernel
theorem dX3_work_74 : decode cX3_work 74 = .ok (.istore_n 3, 1) := by decide +kernel
theorem dX3_work_75 : decode cX3_work 75 = .ok (.iload_n 3, 1) := by decide +kernel
theorem dX3_work_76 : decode cX3_work 76 = .ok (.aload_n 0, 1) := by decide +kernel
theorem dX3_work_77 : decode cX3_work 77 = .ok (.getfield 29, 3) := by decide +kernel
theorem dX3_work_80 : decode cX3_work 80 = .ok (.getfield 226, 3) := by decide +kernel
theorem dX3_work_83 : decode cX3_work 83 = .ok (.if_icmp .ge 71, 3) := by decide +kernel
theorem dX3_work_86 : decode cX3_work 86 = .ok (.aload_n 0, 1) := by decide +kernel
theorem dX3_work_87 : decode cX3_work 87 = .ok (.getfield 29, 3) := by decide +kernel
theorem dX3_work_90 : decode cX3_work 90 = .ok (.getfield 229, 3) := by decide +kernel
theorem dX3_work_93 : decode cX3_work 93 = .ok (.iload_n 3, 1) := by decide +kernel
theorem dX3_work_94 : decode cX3_work 94 = .ok (.invokestatic 74, 3) := by decide +kernel
theorem dX3_work_97 : decode cX3_work 97 = .ok (.istore 4, 2) := by decide +kernel
theorem dX3_work_99 : decode cX3_work 99 = .ok (.aload_n 0, 1) := by decide +kernel
theorem dX3_work_100 : decode cX3_work 100 = .ok (.getfield 29, 3) := by decide +kernel
theorem dX3_work_103 : decode cX3_work 103 = .ok (.getfield 232, 3) := by decide +kernel
theorem dX3_work_106 : decode cX3_work 106 = .ok (.iload_n 3, 1) := by decide +kernel
theorem dX3_work_107 : decode cX3_work 107 = .ok (.invokestatic 74, 3) := by decide +kernel
theorem dX3_work_110 : decode cX3_work 110 = .ok (.istore 5, 2) := by decide +kernel
theorem dX3_work_112 : decode cX3_work 112 = .ok (.iconst 0, 1) := by decide +kernel
theorem dX3_work_113 : decode cX3_work 113 = .ok (.istore 6, 2) := by decide +kernel
theorem dX3_work_115 : decode cX3_work 115 = .ok (.iload 6, 2) := by decide +kernel
theorem dX3_work_117 : decode cX3_work 117 = .ok (.iload 5, 2) := by decide +kernel
theorem dX3_work_119 : decode cX3_work 119 = .ok (.if_icmp .ge 29, 3) := by decide +kernel
theorem dX3_work_122 : decode cX3_work 122 = .ok (.aload_n 0, 1) := by decide +kernel
theorem dX3_work_123 : decode cX3_work 123 = .ok (.getfield 10, 3) := by decide +kernel
theorem dX3_work_126 : decode cX3_work 126 = .ok (.iload 4, 2) := by decide +kernel
theorem dX3_work_128 : decode cX3_work 128 = .ok (.invokevirtual 199, 3) := by decide +kernel
theorem dX3_work_131 : decode cX3_work 131 = .ok (.pop, 1) := by decide +kernel
theorem dX3_work_132 : decode cX3_work 132 = .ok (.iload_n 2, 1) := by decide +kernel
theorem dX3_work_133 : decode cX3_work 133 = .ok (.aload_n 0, 1) := by decide +kernel
theorem dX3_work_134 : decode cX3_work 134 = .ok (.getfield 10, 3) := by decide +kernel
theorem dX3_work_137 : decode cX3_work 137 = .ok (.invokevirtual 235, 3) := by decide +kernel
theorem dX3_work_140 : decode cX3_work 140 = .ok (.iadd, 1) := by decide +kernel
theorem dX3_work_141 : decode cX3_work 141 = .ok (.istore_n 2, 1) := by decide +kernel
theorem dX3_work_142 : decode cX3_work 142 = .ok (.iinc 6 1, 3) := by decide +kernel
theorem dX3_work_145 : decode cX3_work 145 = .ok (.goto (-30), 3) := by decide +kernel
theorem dX3_work_148 : decode cX3_work 148 = .ok (.iinc 3 1, 3) := by decide +kernel
theorem dX3_work_151 : decode cX3_work 151 = .ok (.goto (-76), 3) := by decide +kernel
theorem dX3_work_154 : decode cX3_work 154 = .ok (.aload_n 0, 1) := by decide +kernel
theorem dX3_work_155 : decode cX3_work 155 = .ok (.getfield 29, 3) := by decide +kernel
theorem dX3_work_158 : decode cX3_work 158 = .ok (.iconst 0, 1) := by decide +kernel
theorem dX3_work_159 : decode cX3_work 159 = .ok (.putfield 204, 3) := by decide +kernel
theorem dX3_work_162 : decode cX3_work 162 = .ok (.iload_n 2, 1) := by decide +kernel
theorem dX3_work_163 : decode cX3_work 163 = .ok (.ireturn, 1) := by decide +kernel
theorem dX3_courseOf_0 : decode cX3_courseOf 0 = .ok (.aload_n 0, 1) := by decide +kernel
theorem dX3_courseOf_1 : decode cX3_courseOf 1 = .ok (.getfield 10, 3) := by decide +kernel
theorem dX3_courseOf_4 : decode cX3_courseOf 4 = .ok (.iload_n 1, 1) := by decide +kernel
theorem dX3_courseOf_5 : decode cX3_courseOf 5 = .ok (.invokevirtual 246, 3) := by decide +kernel
theorem dX3_courseOf_8 : decode cX3_courseOf 8 = .ok (.ifCond .ne 13, 3) := by decide +kernel
theorem dX3_courseOf_11 : decode cX3_courseOf 11 = .ok (.new 65, 3) := by decide +kernel
theorem dX3_courseOf_14 : decode cX3_courseOf 14 = .ok (.dup, 1) := by decide +kernel
theorem dX3_courseOf_15 : decode cX3_courseOf 15 = .ok (.ldc 249, 2) := by decide +kernel
theorem dX3_courseOf_17 : decode cX3_courseOf 17 = .ok (.invokespecial 69, 3) := by decide +kernel
theorem dX3_courseOf_20 : decode cX3_courseOf 20 = .ok (.athrow, 1) := by decide +kernel
theorem dX3_courseOf_21 : decode cX3_courseOf 21 = .ok (.iload_n 2, 1) := by decide +kernel
theorem dX3_courseOf_22 : decode cX3_courseOf 22 = .ok (.tableswitch 118 0 6 #[42, 54, 63, 72, 91, 100, 109], 42) := by decide +kernel
theorem dX3_courseOf_64 : decode cX3_courseOf 64 = .ok (.aload_n 0, 1) := by decide +kernel
theorem dX3_courseOf_65 : decode cX3_courseOf 65 = .ok (.getfield 10, 3) := by decide +kernel
theorem dX3_courseOf_68 : decode cX3_courseOf 68 = .ok (.getfield 251, 3) := by decide +kernel
theorem dX3_courseOf_71 : decode cX3_courseOf 71 = .ok (.iload_n 1, 1) := by decide +kernel
theorem dX3_courseOf_72 : decode cX3_courseOf 72 = .ok (.invokestatic 74, 3) := by decide +kernel
theorem dX3_courseOf_75 : decode cX3_courseOf 75 = .ok (.ireturn, 1) := by decide +kernel
theorem dX3_courseOf_76 : decode cX3_courseOf 76 = .ok (.aload_n 0, 1) := by decide +kernel
theorem dX3_courseOf_77 : decode cX3_courseOf 77 = .ok (.getfield 10, 3) := by decide +kernel
theorem dX3_courseOf_80 : decode cX3_courseOf 80 = .ok (.iload_n 1, 1) := by decide +kernel
theorem dX3_courseOf_81 : decode cX3_courseOf 81 = .ok (.invokevirtual 254, 3) := by decide +kernel
theorem dX3_courseOf_84 : decode cX3_courseOf 84 = .ok (.ireturn, 1) := by decide +kernel
theorem dX3_courseOf_85 : decode cX3_courseOf 85 = .ok (.aload_n 0, 1) := by decide +kernel
theorem dX3_courseOf_86 : decode cX3_courseOf 86 = .ok (.getfield 10, 3) := by decide +kernel
theorem dX3_courseOf_89 : decode cX3_courseOf 89 = .ok (.iload_n 1, 1) := by decide +kernel
theorem dX3_courseOf_90 : decode cX3_courseOf 90 = .ok (.invokevirtual 171, 3) := by decide +kernel
theorem dX3_courseOf_93 : decode cX3_courseOf 93 = .ok (.ireturn, 1) := by decide +kernel
theorem dX3_courseOf_94 : decode cX3_courseOf 94 = .ok (.aload_n 0, 1) := by decide +kernel
theorem dX3_courseOf_95 : decode cX3_courseOf 95 = .ok (.getfield 10, 3) := by decide +kernel
theorem dX3_courseOf_98 : decode cX3_courseOf 98 = .ok (.aload_n 0, 1) := by decide +kernel
theorem dX3_courseOf_99 : decode cX3_courseOf 99 = .ok (.getfield 10, 3) := by decide +kernel
theorem dX3_courseOf_102 : decode cX3_courseOf 102 = .ok (.getfield 251, 3) := by decide +kernel
theorem dX3_courseOf_105 : decode cX3_courseOf 105 = .ok (.iload_n 1, 1) := by decide +kernel
theorem dX3_courseOf_106 : decode cX3_courseOf 106 = .ok (.invokestatic 74, 3) := by decide +kernel
theorem dX3_courseOf_109 : decode cX3_courseOf 109 = .ok (.invokevirtual 257, 3) := by decide +kernel
theorem dX3_courseOf_112 : decode cX3_courseOf 112 = .ok (.ireturn, 1) := by decide +kernel
theorem dX3_courseOf_113 : decode cX3_courseOf 113 = .ok (.aload_n 0, 1) := by decide +kernel
theorem dX3_courseOf_114 : decode cX3_courseOf 114 = .ok (.getfield 10, 3) := by decide +kernel
theorem dX3_courseOf_117 : decode cX3_courseOf 117 = .ok (.iload_n 1, 1) := by decide +kernel
theorem dX3_courseOf_118 : decode cX3_courseOf 118 = .ok (.invokevirtual 260, 3) := by decide +kernel
theorem dX3_courseOf_121 : decode cX3_courseOf 121 = .ok (.ireturn, 1) := by decide +kernel
theorem dX3_courseOf_122 : decode cX3_courseOf 122 = .ok (.aload_n 0, 1) := by decide +kernel
theorem dX3_courseOf_123 : decode cX3_courseOf 123 = .ok (.getfield 10, 3) := by decide +kernel
theorem dX3_courseOf_126 : decode cX3_courseOf 126 = .ok (.iload_n 1, 1) := by decide +kernel
theorem dX3_courseOf_127 : decode cX3_courseOf 127 = .ok (.invokevirtual 164, 3) := by decide +kernel
theorem dX3_courseOf_130 : decode cX3_courseOf 130 = .ok (.ireturn, 1) := by decide +kernel
theorem dX3_courseOf_131 : decode cX3_courseOf 131 = .ok (.aload_n 0, 1) := by decide +kernel
theorem dX3_courseOf_132 : decode cX3_courseOf 132 = .ok (.getfield 10, 3) := by decide +kernel
theorem dX3_courseOf_135 : decode cX3_courseOf 135 = .ok (.iload_n 1, 1) := by decide +kernel
theorem dX3_courseOf_136 : decode cX3_courseOf 136 = .ok (.invokevirtual 263, 3) := by decide +kernel
theorem dX3_courseOf_139 : decode cX3_courseOf 139 = .ok (.ireturn, 1) := by decide +kernel
theorem dX3_courseOf_140 : decode cX3_courseOf 140 = .ok (.new 37, 3) := by decide +kernel
theorem dX3_courseOf_143 : decode cX3_courseOf 143 = .ok (.dup, 1) := by decide +kernel
theorem dX3_courseOf_144 : decode cX3_courseOf 144 = .ok (.ldc_w 266, 3) := by decide +kernel
theorem dX3_courseOf_147 : decode cX3_courseOf 147 = .ok (.invokespecial 41, 3) := by decide +kernel
theorem dX3_courseOf_150 : decode cX3_courseOf 150 = .ok (.athrow, 1) := by decide +kernel
theorem dX3_lies_0 : decode cX3_lies 0 = .ok (.aload_n 0, 1) := by decide +kernel
theorem dX3_lies_1 : decode cX3_lies 1 = .ok (.getfield 10, 3) := by decide +kernel
theorem dX3_lies_4 : decode cX3_lies 4 = .ok (.iload_n 1, 1) := by decide +kernel
theorem dX3_lies_5 : decode cX3_lies 5 = .ok (.iload_n 2, 1) := by decide +kernel
theorem dX3_lies_6 : decode cX3_lies 6 = .ok (.invokevirtual 174, 3) := by decide +kernel
theorem dX3_lies_9 : decode cX3_lies 9 = .ok (.ifCond .ne 13, 3) := by decide +kernel
theorem dX3_lies_12 : decode cX3_lies 12 = .ok (.new 65, 3) := by decide +kernel
theorem dX3_lies_15 : decode cX3_lies 15 = .ok (.dup, 1) := by decide +kernel
theorem dX3_lies_16 : decode cX3_lies 16 = .ok (.ldc 178, 2) := by decide +kernel
theorem dX3_lies_18 : decode cX3_lies 18 = .ok (.invokespecial 69, 3) := by decide +kernel
theorem dX3_lies_21 : decode cX3_lies 21 = .ok (.athrow, 1) := by decide +kernel
theorem dX3_lies_22 : decode cX3_lies 22 = .ok (.aload_n 0, 1) := by decide +kernel
theorem dX3_lies_23 : decode cX3_lies 23 = .ok (.getfield 10, 3) := by decide +kernel
theorem dX3_lies_26 : decode cX3_lies 26 = .ok (.iload_n 1, 1) := by decide +kernel
theorem dX3_lies_27 : decode cX3_lies 27 = .ok (.iload_n 2, 1) := by decide +kernel
theorem dX3_lies_28 : decode cX3_lies 28 = .ok (.invokevirtual 268, 3) := by decide +kernel
theorem dX3_lies_31 : decode cX3_lies 31 = .ok (.ireturn, 1) := by decide +kernel
theorem dX3_slates_0 : decode cX3_slates 0 = .ok (.iload_n 1, 1) := by decide +kernel
theorem dX3_slates_1 : decode cX3_slates 1 = .ok (.invokestatic 91, 3) := by decide +kernel
theorem dX3_slates_4 : decode cX3_slates 4 = .ok (.ifCond .ne 13, 3) := by decide +kernel
theorem dX3_slates_7 : decode cX3_slates 7 = .ok (.new 37, 3) := by decide +kernel
theorem dX3_slates_10 : decode cX3_slates 10 = .ok (.dup, 1) := by decide +kernel
theorem dX3_slates_11 : decode cX3_slates 11 = .ok (.ldc 136, 2) := by decide +kernel
theorem dX3_slates_13 : decode cX3_slates 13 = .ok (.invokespecial 41, 3) := by decide +kernel
theorem dX3_slates_16 : decode cX3_slates 16 = .ok (.athrow, 1) := by decide +kernel
theorem dX3_slates_17 : decode cX3_slates 17 = .ok (.iload_n 2, 1) := by decide +kernel
theorem dX3_slates_18 : decode cX3_slates 18 = .ok (.tableswitch 84 0 4 #[34, 46, 58, 67, 79], 34) := by decide +kernel
theorem dX3_slates_52 : decode cX3_slates 52 = .ok (.aload_n 0, 1) := by decide +kernel
theorem dX3_slates_53 : decode cX3_slates 53 = .ok (.getfield 10, 3) := by decide +kernel
theorem dX3_slates_56 : decode cX3_slates 56 = .ok (.getfield 117, 3) := by decide +kernel
theorem dX3_slates_59 : decode cX3_slates 59 = .ok (.iload_n 1, 1) := by decide +kernel
theorem dX3_slates_60 : decode cX3_slates 60 = .ok (.invokestatic 74, 3) := by decide +kernel
theorem dX3_slates_63 : decode cX3_slates 63 = .ok (.ireturn, 1) := by decide +kernel
theorem dX3_slates_64 : decode cX3_slates 64 = .ok (.aload_n 0, 1) := by decide +kernel
theorem dX3_slates_65 : decode cX3_slates 65 = .ok (.getfield 10, 3) := by decide +kernel
theorem dX3_slates_68 : decode cX3_slates 68 = .ok (.getfield 120, 3) := by decide +kernel
theorem dX3_slates_71 : decode cX3_slates 71 = .ok (.iload_n 1, 1) := by decide +kernel
theorem dX3_slates_72 : decode cX3_slates 72 = .ok (.invokestatic 74, 3) := by decide +kernel
theorem dX3_slates_75 : decode cX3_slates 75 = .ok (.ireturn, 1) := by decide +kernel
theorem dX3_slates_76 : decode cX3_slates 76 = .ok (.aload_n 0, 1) := by decide +kernel
theorem dX3_slates_77 : decode cX3_slates 77 = .ok (.getfield 10, 3) := by decide +kernel
theorem dX3_slates_80 : decode cX3_slates 80 = .ok (.iload_n 1, 1) := by decide +kernel
theorem dX3_slates_81 : decode cX3_slates 81 = .ok (.invokevirtual 271, 3) := by decide +kernel
theorem dX3_slates_84 : decode cX3_slates 84 = .ok (.ireturn, 1) := by decide +kernel
theorem dX3_slates_85 : decode cX3_slates 85 = .ok (.aload_n 0, 1) := by decide +kernel
theorem dX3_slates_86 : decode cX3_slates 86 = .ok (.getfield 10, 3) := by decide +kernel
theorem dX3_slates_89 : decode cX3_slates 89 = .ok (.getfield 97, 3) := by decide +kernel
theorem dX3_slates_92 : decode cX3_slates 92 = .ok (.iload_n 1, 1) := by decide +kernel
theorem dX3_slates_93 : decode cX3_slates 93 = .ok (.invokestatic 74, 3) := by decide +kernel
theorem dX3_slates_96 : decode cX3_slates 96 = .ok (.ireturn, 1) := by decide +kernel
theorem dX3_slates_97 : decode cX3_slates 97 = .ok (.iload_n 1, 1) := by decide +kernel
theorem dX3_slates_98 : decode cX3_slates 98 = .ok (.invokestatic 126, 3) := by decide +kernel
theorem dX3_slates_101 : decode cX3_slates 101 = .ok (.ireturn, 1) := by decide +kernel
theorem dX3_slates_102 : decode cX3_slates 102 = .ok (.new 37, 3) := by decide +kernel
theorem dX3_slates_105 : decode cX3_slates 105 = .ok (.dup, 1) := by decide +kernel
theorem dX3_slates_106 : decode cX3_slates 106 = .ok (.ldc_w 274, 3) := by decide +kernel
theorem dX3_slates_109 : decode cX3_slates 109 = .ok (.invokespecial 41, 3) := by decide +kernel
theorem dX3_slates_112 : decode cX3_slates 112 = .ok (.athrow, 1) := by decide +kernel
theorem dX3_count_0 : decode cX3_count 0 = .ok (.iload_n 1, 1) := by decide +kernel
theorem dX3_count_1 : decode cX3_count 1 = .ok (.tableswitch 277 0 18 #[91, 99, 107, 115, 132, 140, 148, 164, 172, 180, 188, 204, 215, 226, 237, 245, 253, 261, 269], 91) := by decide +kernel
theorem dX3_count_92 : decode cX3_count 92 = .ok (.aload_n 0, 1) := by decide +kernel
theorem dX3_count_93 : decode cX3_count 93 = .ok (.getfield 10, 3) := by decide +kernel
theorem dX3_count_96 : decode cX3_count 96 = .ok (.getfield 59, 3) := by decide +kernel
theorem dX3_count_99 : decode cX3_count 99 = .ok (.ireturn, 1) := by decide +kernel
theorem dX3_count_100 : decode cX3_count 100 = .ok (.aload_n 0, 1) := by decide +kernel
theorem dX3_count_101 : decode cX3_count 101 = .ok (.getfield 10, 3) := by decide +kernel
theorem dX3_count_104 : decode cX3_count 104 = .ok (.getfield 62, 3) := by decide +kernel
theorem dX3_count_107 : decode cX3_count 107 = .ok (.ireturn, 1) := by decide +kernel
theorem dX3_count_108 : decode cX3_count 108 = .ok (.aload_n 0, 1) := by decide +kernel
theorem dX3_count_109 : decode cX3_count 109 = .ok (.getfield 10, 3) := by decide +kernel
theorem dX3_count_112 : decode cX3_count 112 = .ok (.getfield 56, 3) := by decide +kernel
theorem dX3_count_115 : decode cX3_count 115 = .ok (.ireturn, 1) := by decide +kernel
theorem dX3_count_116 : decode cX3_count 116 = .ok (.aload_n 0, 1) := by decide +kernel
theorem dX3_count_117 : decode cX3_count 117 = .ok (.getfield 10, 3) := by decide +kernel
theorem dX3_count_120 : decode cX3_count 120 = .ok (.aload_n 0, 1) := by decide +kernel
theorem dX3_count_121 : decode cX3_count 121 = .ok (.getfield 10, 3) := by decide +kernel
theorem dX3_count_124 : decode cX3_count 124 = .ok (.getfield 56, 3) := by decide +kernel
theorem dX3_count_127 : decode cX3_count 127 = .ok (.iconst 1, 1) := by decide +kernel
theorem dX3_count_128 : decode cX3_count 128 = .ok (.isub, 1) := by decide +kernel
theorem dX3_count_129 : decode cX3_count 129 = .ok (.invokevirtual 260, 3) := by decide +kernel
theorem dX3_count_132 : decode cX3_count 132 = .ok (.ireturn, 1) := by decide +kernel
theorem dX3_count_133 : decode cX3_count 133 = .ok (.aload_n 0, 1) := by decide +kernel
theorem dX3_count_134 : decode cX3_count 134 = .ok (.getfield 10, 3) := by decide +kernel
theorem dX3_count_137 : decode cX3_count 137 = .ok (.invokevirtual 48, 3) := by decide +kernel
theorem dX3_count_140 : decode cX3_count 140 = .ok (.ireturn, 1) := by decide +kernel
theorem dX3_count_141 : decode cX3_count 141 = .ok (.aload_n 0, 1) := by decide +kernel
theorem dX3_count_142 : decode cX3_count 142 = .ok (.getfield 10, 3) := by decide +kernel
theorem dX3_count_145 : decode cX3_count 145 = .ok (.invokevirtual 276, 3) := by decide +kernel
theorem dX3_count_148 : decode cX3_count 148 = .ok (.ireturn, 1) := by decide +kernel
theorem dX3_count_149 : decode cX3_count 149 = .ok (.aload_n 0, 1) := by decide +kernel
theorem dX3_count_150 : decode cX3_count 150 = .ok (.getfield 10, 3) := by decide +kernel
theorem dX3_count_153 : decode cX3_count 153 = .ok (.invokevirtual 279, 3) := by decide +kernel
theorem dX3_count_156 : decode cX3_count 156 = .ok (.ifCond .eq 7, 3) := by decide +kernel
theorem dX3_count_159 : decode cX3_count 159 = .ok (.iconst 1, 1) := by decide +kernel
theorem dX3_count_160 : decode cX3_count 160 = .ok (.goto 4, 3) := by decide +kernel
theorem dX3_count_163 : decode cX3_count 163 = .ok (.iconst 0, 1) := by decide +kernel
theorem dX3_count_164 : decode cX3_count 164 = .ok (.ireturn, 1) := by decide +kernel
theorem dX3_count_165 : decode cX3_count 165 = .ok (.aload_n 0, 1) := by decide +kernel
theorem dX3_count_166 : decode cX3_count 166 = .ok (.getfield 10, 3) := by decide +kernel
theorem dX3_count_169 : decode cX3_count 169 = .ok (.getfield 194, 3) := by decide +kernel
theorem dX3_count_172 : decode cX3_count 172 = .ok (.ireturn, 1) := by decide +kernel
theorem dX3_count_173 : decode cX3_count 173 = .ok (.aload_n 0, 1) := by decide +kernel
theorem dX3_count_174 : decode cX3_count 174 = .ok (.getfield 10, 3) := by decide +kernel
theorem dX3_count_177 : decode cX3_count 177 = .ok (.getfield 185, 3) := by decide +kernel
theorem dX3_count_180 : decode cX3_count 180 = .ok (.ireturn, 1) := by decide +kernel
theorem dX3_count_181 : decode cX3_count 181 = .ok (.aload_n 0, 1) := by decide +kernel
theorem dX3_count_182 : decode cX3_count 182 = .ok (.getfield 10, 3) := by decide +kernel
theorem dX3_count_185 : decode cX3_count 185 = .ok (.getfield 282, 3) := by decide +kernel
theorem dX3_count_188 : decode cX3_count 188 = .ok (.ireturn, 1) := by decide +kernel
theorem dX3_count_189 : decode cX3_count 189 = .ok (.aload_n 0, 1) := by decide +kernel
theorem dX3_count_190 : decode cX3_count 190 = .ok (.getfield 10, 3) := by decide +kernel
theorem dX3_count_193 : decode cX3_count 193 = .ok (.getfield 188, 3) := by decide +kernel
theorem dX3_count_196 : decode cX3_count 196 = .ok (.ifCond .eq 7, 3) := by decide +kernel
theorem dX3_count_199 : decode cX3_count 199 = .ok (.iconst 1, 1) := by decide +kernel
theorem dX3_count_200 : decode cX3_count 200 = .ok (.goto 4, 3) := by decide +kernel
theorem dX3_count_203 : decode cX3_count 203 = .ok (.iconst 0, 1) := by decide +kernel
theorem dX3_count_204 : decode cX3_count 204 = .ok (.ireturn, 1) := by decide +kernel
theorem dX3_count_205 : decode cX3_count 205 = .ok (.aload_n 0, 1) := by decide +kernel
theorem dX3_count_206 : decode cX3_count 206 = .ok (.getfield 10, 3) := by decide +kernel
theorem dX3_count_209 : decode cX3_count 209 = .ok (.getfield 97, 3) := by decide +kernel
theorem dX3_count_212 : decode cX3_count 212 = .ok (.invokestatic 100, 3) := by decide +kernel
theorem dX3_count_215 : decode cX3_count 215 = .ok (.ireturn, 1) := by decide +kernel
theorem dX3_count_216 : decode cX3_count 216 = .ok (.aload_n 0, 1) := by decide +kernel
theorem dX3_count_217 : decode cX3_count 217 = .ok (.getfield 10, 3) := by decide +kernel
theorem dX3_count_220 : decode cX3_count 220 = .ok (.getfield 117, 3) := by decide +kernel
theorem dX3_count_223 : decode cX3_count 223 = .ok (.invokestatic 100, 3) := by decide +kernel
theorem dX3_count_226 : decode cX3_count 226 = .ok (.ireturn, 1) := by decide +kernel
theorem dX3_count_227 : decode cX3_count 227 = .ok (.aload_n 0, 1) := by decide +kernel
theorem dX3_count_228 : decode cX3_count 228 = .ok (.getfield 10, 3) := by decide +kernel
theorem dX3_count_231 : decode cX3_count 231 = .ok (.getfield 120, 3) := by decide +kernel
theorem dX3_count_234 : decode cX3_count 234 = .ok (.invokestatic 100, 3) := by decide +kernel
theorem dX3_count_237 : decode cX3_count 237 = .ok (.ireturn, 1) := by decide +kernel
theorem dX3_count_238 : decode cX3_count 238 = .ok (.aload_n 0, 1) := by decide +kernel
theorem dX3_count_239 : decode cX3_count 239 = .ok (.getfield 10, 3) := by decide +kernel
theorem dX3_count_242 : decode cX3_count 242 = .ok (.getfield 133, 3) := by decide +kernel
theorem dX3_count_245 : decode cX3_count 245 = .ok (.ireturn, 1) := by decide +kernel
theorem dX3_count_246 : decode cX3_count 246 = .ok (.aload_n 0, 1) := by decide +kernel
theorem dX3_count_247 : decode cX3_count 247 = .ok (.getfield 10, 3) := by decide +kernel
theorem dX3_count_250 : decode cX3_count 250 = .ok (.getfield 138, 3) := by decide +kernel
theorem dX3_count_253 : decode cX3_count 253 = .ok (.ireturn, 1) := by decide +kernel
theorem dX3_count_254 : decode cX3_count 254 = .ok (.aload_n 0, 1) := by decide +kernel
theorem dX3_count_255 : decode cX3_count 255 = .ok (.getfield 10, 3) := by decide +kernel
theorem dX3_count_258 : decode cX3_count 258 = .ok (.getfield 52, 3) := by decide +kernel
theorem dX3_count_261 : decode cX3_count 261 = .ok (.ireturn, 1) := by decide +kernel
theorem dX3_count_262 : decode cX3_count 262 = .ok (.aload_n 0, 1) := by decide +kernel
theorem dX3_count_263 : decode cX3_count 263 = .ok (.getfield 10, 3) := by decide +kernel
theorem dX3_count_266 : decode cX3_count 266 = .ok (.getfield 123, 3) := by decide +kernel
theorem dX3_count_269 : decode cX3_count 269 = .ok (.ireturn, 1) := by decide +kernel
theorem dX3_count_270 : decode cX3_count 270 = .ok (.aload_n 0, 1) := by decide +kernel
theorem dX3_count_271 : decode cX3_count 271 = .ok (.getfield 22, 3) := by decide +kernel
theorem dX3_count_274 : decode cX3_count 274 = .ok (.getfield 238, 3) := by decide +kernel
theorem dX3_count_277 : decode cX3_count 277 = .ok (.ireturn, 1) := by decide +kernel
theorem dX3_count_278 : decode cX3_count 278 = .ok (.new 37, 3) := by decide +kernel
theorem dX3_count_281 : decode cX3_count 281 = .ok (.dup, 1) := by decide +kernel
theorem dX3_count_282 : decode cX3_count 282 = .ok (.ldc_w 274, 3) := by decide +kernel
theorem dX3_count_285 : decode cX3_count 285 = .ok (.invokespecial 41, 3) := by decide +kernel
theorem dX3_count_288 : decode cX3_count 288 = .ok (.athrow, 1) := by decide +kernel
theorem dX3_setting_0 : decode cX3_setting 0 = .ok (.iload_n 1, 1) := by decide +kernel
theorem dX3_setting_1 : decode cX3_setting 1 = .ok (.iconst 0, 1) := by decide +kernel
theorem dX3_setting_2 : decode cX3_setting 2 = .ok (.iconst 2, 1) := by decide +kernel
theorem dX3_setting_3 : decode cX3_setting 3 = .ok (.invokestatic 33, 3) := by decide +kernel
theorem dX3_setting_6 : decode cX3_setting 6 = .ok (.ifCond .ne 13, 3) := by decide +kernel
theorem dX3_setting_9 : decode cX3_setting 9 = .ok (.new 65, 3) := by decide +kernel
theorem dX3_setting_12 : decode cX3_setting 12 = .ok (.dup, 1) := by decide +kernel
theorem dX3_setting_13 : decode cX3_setting 13 = .ok (.ldc 67, 2) := by decide +kernel
theorem dX3_setting_15 : decode cX3_setting 15 = .ok (.invokespecial 69, 3) := by decide +kernel
theorem dX3_setting_18 : decode cX3_setting 18 = .ok (.athrow, 1) := by decide +kernel
theorem dX3_setting_19 : decode cX3_setting 19 = .ok (.aload_n 0, 1) := by decide +kernel
theorem dX3_setting_20 : decode cX3_setting 20 = .ok (.getfield 10, 3) := by decide +kernel
theorem dX3_setting_23 : decode cX3_setting 23 = .ok (.iload_n 1, 1) := by decide +kernel
theorem dX3_setting_24 : decode cX3_setting 24 = .ok (.invokevirtual 83, 3) := by decide +kernel
theorem dX3_setting_27 : decode cX3_setting 27 = .ok (.ireturn, 1) := by decide +kernel
theorem dX3_toTop_0 : decode cX3_toTop 0 = .ok (.iload_n 1, 1) := by decide +kernel
theorem dX3_toTop_1 : decode cX3_toTop 1 = .ok (.invokestatic 91, 3) := by decide +kernel
theorem dX3_toTop_4 : decode cX3_toTop 4 = .ok (.ifCond .eq 12, 3) := by decide +kernel
theorem dX3_toTop_7 : decode cX3_toTop 7 = .ok (.iload_n 2, 1) := by decide +kernel
theorem dX3_toTop_8 : decode cX3_toTop 8 = .ok (.iconst 0, 1) := by decide +kernel
theorem dX3_toTop_9 : decode cX3_toTop 9 = .ok (.iconst 1, 1) := by decide +kernel
theorem dX3_toTop_10 : decode cX3_toTop 10 = .ok (.invokestatic 33, 3) := by decide +kernel
theorem dX3_toTop_13 : decode cX3_toTop 13 = .ok (.ifCond .ne 14, 3) := by decide +kernel
theorem dX3_toTop_16 : decode cX3_toTop 16 = .ok (.new 37, 3) := by decide +kernel
theorem dX3_toTop_19 : decode cX3_toTop 19 = .ok (.dup, 1) := by decide +kernel
theorem dX3_toTop_20 : decode cX3_toTop 20 = .ok (.ldc_w 285, 3) := by decide +kernel
theorem dX3_toTop_23 : decode cX3_toTop 23 = .ok (.invokespecial 41, 3) := by decide +kernel
theorem dX3_toTop_26 : decode cX3_toTop 26 = .ok (.athrow, 1) := by decide +kernel
theorem dX3_toTop_27 : decode cX3_toTop 27 = .ok (.iload_n 1, 1) := by decide +kernel
theorem dX3_toTop_28 : decode cX3_toTop 28 = .ok (.aload_n 0, 1) := by decide +kernel
theorem dX3_toTop_29 : decode cX3_toTop 29 = .ok (.getfield 10, 3) := by decide +kernel
theorem dX3_toTop_32 : decode cX3_toTop 32 = .ok (.invokevirtual 148, 3) := by decide +kernel
theorem dX3_toTop_35 : decode cX3_toTop 35 = .ok (.if_icmp .le 5, 3) := by decide +kernel
theorem dX3_toTop_38 : decode cX3_toTop 38 = .ok (.iconst (-1), 1) := by decide +kernel
theorem dX3_toTop_39 : decode cX3_toTop 39 = .ok (.ireturn, 1) := by decide +kernel
theorem dX3_toTop_40 : decode cX3_toTop 40 = .ok (.aload_n 0, 1) := by decide +kernel
theorem dX3_toTop_41 : decode cX3_toTop 41 = .ok (.getfield 10, 3) := by decide +kernel
theorem dX3_toTop_44 : decode cX3_toTop 44 = .ok (.iload_n 1, 1) := by decide +kernel
theorem dX3_toTop_45 : decode cX3_toTop 45 = .ok (.invokevirtual 287, 3) := by decide +kernel
theorem dX3_toTop_48 : decode cX3_toTop 48 = .ok (.istore_n 3, 1) := by decide +kernel
theorem dX3_toTop_49 : decode cX3_toTop 49 = .ok (.iload_n 2, 1) := by decide +kernel
theorem dX3_toTop_50 : decode cX3_toTop 50 = .ok (.ifCond .ne 7, 3) := by decide +kernel
theorem dX3_toTop_53 : decode cX3_toTop 53 = .ok (.iload_n 3, 1) := by decide +kernel
theorem dX3_toTop_54 : decode cX3_toTop 54 = .ok (.goto 11, 3) := by decide +kernel
theorem dX3_toTop_57 : decode cX3_toTop 57 = .ok (.aload_n 0, 1) := by decide +kernel
theorem dX3_toTop_58 : decode cX3_toTop 58 = .ok (.getfield 10, 3) := by decide +kernel
theorem dX3_toTop_61 : decode cX3_toTop 61 = .ok (.iload_n 3, 1) := by decide +kernel
theorem dX3_toTop_62 : decode cX3_toTop 62 = .ok (.invokevirtual 290, 3) := by decide +kernel
theorem dX3_toTop_65 : decode cX3_toTop 65 = .ok (.ireturn, 1) := by decide +kernel
theorem dX3_reach_0 : decode cX3_reach 0 = .ok (.iload_n 1, 1) := by decide +kernel
theorem dX3_reach_1 : decode cX3_reach 1 = .ok (.iconst 0, 1) := by decide +kernel
theorem dX3_reach_2 : decode cX3_reach 2 = .ok (.iconst 3, 1) := by decide +kernel
theorem dX3_reach_3 : decode cX3_reach 3 = .ok (.invokestatic 33, 3) := by decide +kernel
theorem dX3_reach_6 : decode cX3_reach 6 = .ok (.ifCond .ne 14, 3) := by decide +kernel
theorem dX3_reach_9 : decode cX3_reach 9 = .ok (.new 37, 3) := by decide +kernel
theorem dX3_reach_12 : decode cX3_reach 12 = .ok (.dup, 1) := by decide +kernel
theorem dX3_reach_13 : decode cX3_reach 13 = .ok (.ldc_w 274, 3) := by decide +kernel
theorem dX3_reach_16 : decode cX3_reach 16 = .ok (.invokespecial 41, 3) := by decide +kernel
theorem dX3_reach_19 : decode cX3_reach 19 = .ok (.athrow, 1) := by decide +kernel
theorem dX3_reach_20 : decode cX3_reach 20 = .ok (.aload_n 0, 1) := by decide +kernel
theorem dX3_reach_21 : decode cX3_reach 21 = .ok (.getfield 16, 3) := by decide +kernel
theorem dX3_reach_24 : decode cX3_reach 24 = .ok (.aload_n 0, 1) := by decide +kernel
theorem dX3_reach_25 : decode cX3_reach 25 = .ok (.getfield 10, 3) := by decide +kernel
theorem dX3_reach_28 : decode cX3_reach 28 = .ok (.invokevirtual 293, 3) := by decide +kernel
theorem dX3_reach_31 : decode cX3_reach 31 = .ok (.aload_n 0, 1) := by decide +kernel
theorem dX3_reach_32 : decode cX3_reach 32 = .ok (.getfield 16, 3) := by decide +kernel
theorem dX3_reach_35 : decode cX3_reach 35 = .ok (.invokevirtual 296, 3) := by decide +kernel
theorem dX3_reach_38 : decode cX3_reach 38 = .ok (.aload_n 0, 1) := by decide +kernel
theorem dX3_reach_39 : decode cX3_reach 39 = .ok (.getfield 16, 3) := by decide +kernel
theorem dX3_reach_42 : decode cX3_reach 42 = .ok (.getfield 56, 3) := by decide +kernel
theorem dX3_reach_45 : decode cX3_reach 45 = .ok (.aload_n 0, 1) := by decide +kernel
theorem dX3_reach_46 : decode cX3_reach 46 = .ok (.getfield 10, 3) := by decide +kernel
theorem dX3_reach_49 : decode cX3_reach 49 = .ok (.getfield 56, 3) := by decide +kernel
theorem dX3_reach_52 : decode cX3_reach 52 = .ok (.isub, 1) := by decide +kernel
theorem dX3_reach_53 : decode cX3_reach 53 = .ok (.istore_n 2, 1) := by decide +kernel
theorem dX3_reach_54 : decode cX3_reach 54 = .ok (.iload_n 1, 1) := by decide +kernel
theorem dX3_reach_55 : decode cX3_reach 55 = .ok (.tableswitch 55 0 2 #[25, 27, 44], 25) := by decide +kernel
theorem dX3_reach_80 : decode cX3_reach 80 = .ok (.iload_n 2, 1) := by decide +kernel
theorem dX3_reach_81 : decode cX3_reach 81 = .ok (.ireturn, 1) := by decide +kernel
theorem dX3_reach_82 : decode cX3_reach 82 = .ok (.aload_n 0, 1) := by decide +kernel
theorem dX3_reach_83 : decode cX3_reach 83 = .ok (.getfield 16, 3) := by decide +kernel
theorem dX3_reach_86 : decode cX3_reach 86 = .ok (.aload_n 0, 1) := by decide +kernel
theorem dX3_reach_87 : decode cX3_reach 87 = .ok (.getfield 16, 3) := by decide +kernel
theorem dX3_reach_90 : decode cX3_reach 90 = .ok (.getfield 56, 3) := by decide +kernel
theorem dX3_reach_93 : decode cX3_reach 93 = .ok (.iconst 1, 1) := by decide +kernel
theorem dX3_reach_94 : decode cX3_reach 94 = .ok (.isub, 1) := by decide +kernel
theorem dX3_reach_95 : decode cX3_reach 95 = .ok (.invokevirtual 260, 3) := by decide +kernel
theorem dX3_reach_98 : decode cX3_reach 98 = .ok (.ireturn, 1) := by decide +kernel
theorem dX3_reach_99 : decode cX3_reach 99 = .ok (.aload_n 0, 1) := by decide +kernel
theorem dX3_reach_100 : decode cX3_reach 100 = .ok (.getfield 16, 3) := by decide +kernel
theorem dX3_reach_103 : decode cX3_reach 103 = .ok (.getfield 117, 3) := by decide +kernel
theorem dX3_reach_106 : decode cX3_reach 106 = .ok (.invokestatic 100, 3) := by decide +kernel
theorem dX3_reach_109 : decode cX3_reach 109 = .ok (.ireturn, 1) := by decide +kernel
theorem dX3_reach_110 : decode cX3_reach 110 = .ok (.iload_n 2, 1) := by decide +kernel
theorem dX3_reach_111 : decode cX3_reach 111 = .ok (.ifCond .ne 7, 3) := by decide +kernel
theorem dX3_reach_114 : decode cX3_reach 114 = .ok (.iconst (-1), 1) := by decide +kernel
theorem dX3_reach_115 : decode cX3_reach 115 = .ok (.goto 10, 3) := by decide +kernel
theorem dX3_reach_118 : decode cX3_reach 118 = .ok (.aload_n 0, 1) := by decide +kernel
theorem dX3_reach_119 : decode cX3_reach 119 = .ok (.getfield 16, 3) := by decide +kernel
theorem dX3_reach_122 : decode cX3_reach 122 = .ok (.invokevirtual 148, 3) := by decide +kernel
theorem dX3_reach_125 : decode cX3_reach 125 = .ok (.ireturn, 1) := by decide +kernel
theorem dX3_dryDays_0 : decode cX3_dryDays 0 = .ok (.aload_n 0, 1) := by decide +kernel
theorem dX3_dryDays_1 : decode cX3_dryDays 1 = .ok (.getfield 10, 3) := by decide +kernel
theorem dX3_dryDays_4 : decode cX3_dryDays 4 = .ok (.invokevirtual 279, 3) := by decide +kernel
theorem dX3_dryDays_7 : decode cX3_dryDays 7 = .ok (.ifCond .eq 5, 3) := by decide +kernel
theorem dX3_dryDays_10 : decode cX3_dryDays 10 = .ok (.iconst 0, 1) := by decide +kernel
theorem dX3_dryDays_11 : decode cX3_dryDays 11 = .ok (.ireturn, 1) := by decide +kernel
theorem dX3_dryDays_12 : decode cX3_dryDays 12 = .ok (.aload_n 0, 1) := by decide +kernel
theorem dX3_dryDays_13 : decode cX3_dryDays 13 = .ok (.getfield 16, 3) := by decide +kernel
theorem dX3_dryDays_16 : decode cX3_dryDays 16 = .ok (.aload_n 0, 1) := by decide +kernel
theorem dX3_dryDays_17 : decode cX3_dryDays 17 = .ok (.getfield 10, 3) := by decide +kernel
theorem dX3_dryDays_20 : decode cX3_dryDays 20 = .ok (.invokevirtual 293, 3) := by decide +kernel
theorem dX3_dryDays_23 : decode cX3_dryDays 23 = .ok (.aload_n 0, 1) := by decide +kernel
theorem dX3_dryDays_24 : decode cX3_dryDays 24 = .ok (.getfield 16, 3) := by decide +kernel
theorem dX3_dryDays_27 : decode cX3_dryDays 27 = .ok (.iconst 0, 1) := by decide +kernel
theorem dX3_dryDays_28 : decode cX3_dryDays 28 = .ok (.putfield 188, 3) := by decide +kernel
theorem dX3_dryDays_31 : decode cX3_dryDays 31 = .ok (.iconst 1, 1) := by decide +kernel
theorem dX3_dryDays_32 : decode cX3_dryDays 32 = .ok (.istore_n 1, 1) := by decide +kernel
theorem dX3_dryDays_33 : decode cX3_dryDays 33 = .ok (.iload_n 1, 1) := by decide +kernel
theorem dX3_dryDays_34 : decode cX3_dryDays 34 = .ok (.sipush 200, 3) := by decide +kernel
theorem dX3_dryDays_37 : decode cX3_dryDays 37 = .ok (.if_icmp .gt 54, 3) := by decide +kernel
theorem dX3_dryDays_40 : decode cX3_dryDays 40 = .ok (.aload_n 0, 1) := by decide +kernel
theorem dX3_dryDays_41 : decode cX3_dryDays 41 = .ok (.getfield 16, 3) := by decide +kernel
theorem dX3_dryDays_44 : decode cX3_dryDays 44 = .ok (.iconst 0, 1) := by decide +kernel
theorem dX3_dryDays_45 : decode cX3_dryDays 45 = .ok (.invokevirtual 199, 3) := by decide +kernel
theorem dX3_dryDays_48 : decode cX3_dryDays 48 = .ok (.pop, 1) := by decide +kernel
theorem dX3_dryDays_49 : decode cX3_dryDays 49 = .ok (.aload_n 0, 1) := by decide +kernel
theorem dX3_dryDays_50 : decode cX3_dryDays 50 = .ok (.getfield 16, 3) := by decide +kernel
theorem dX3_dryDays_53 : decode cX3_dryDays 53 = .ok (.invokevirtual 235, 3) := by decide +kernel
theorem dX3_dryDays_56 : decode cX3_dryDays 56 = .ok (.istore_n 2, 1) := by decide +kernel
theorem dX3_dryDays_57 : decode cX3_dryDays 57 = .ok (.aload_n 0, 1) := by decide +kernel
theorem dX3_dryDays_58 : decode cX3_dryDays 58 = .ok (.getfield 16, 3) := by decide +kernel
theorem dX3_dryDays_61 : decode cX3_dryDays 61 = .ok (.invokevirtual 279, 3) := by decide +kernel
theorem dX3_dryDays_64 : decode cX3_dryDays 64 = .ok (.ifCond .eq 5, 3) := by decide +kernel
theorem dX3_dryDays_67 : decode cX3_dryDays 67 = .ok (.iload_n 1, 1) := by decide +kernel
theorem dX3_dryDays_68 : decode cX3_dryDays 68 = .ok (.ireturn, 1) := by decide +kernel
theorem dX3_dryDays_69 : decode cX3_dryDays 69 = .ok (.iload_n 2, 1) := by decide +kernel
theorem dX3_dryDays_70 : decode cX3_dryDays 70 = .ok (.ifCond .ne 15, 3) := by decide +kernel
theorem dX3_dryDays_73 : decode cX3_dryDays 73 = .ok (.aload_n 0, 1) := by decide +kernel
theorem dX3_dryDays_74 : decode cX3_dryDays 74 = .ok (.getfield 16, 3) := by decide +kernel
theorem dX3_dryDays_77 : decode cX3_dryDays 77 = .ok (.invokevirtual 141, 3) := by decide +kernel
theorem dX3_dryDays_80 : decode cX3_dryDays 80 = .ok (.ifCond .eq 5, 3) := by decide +kernel
theorem dX3_dryDays_83 : decode cX3_dryDays 83 = .ok (.iconst (-1), 1) := by decide +kernel
theorem dX3_dryDays_84 : decode cX3_dryDays 84 = .ok (.ireturn, 1) := by decide +kernel
theorem dX3_dryDays_85 : decode cX3_dryDays 85 = .ok (.iinc 1 1, 3) := by decide +kernel
theorem dX3_dryDays_88 : decode cX3_dryDays 88 = .ok (.goto (-55), 3) := by decide +kernel
theorem dX3_dryDays_91 : decode cX3_dryDays 91 = .ok (.iconst (-1), 1) := by decide +kernel
theorem dX3_dryDays_92 : decode cX3_dryDays 92 = .ok (.ireturn, 1) := by decide +kernel
theorem dX3_bestLength_0 : decode cX3_bestLength 0 = .ok (.aload_n 0, 1) := by decide +kernel
theorem dX3_bestLength_1 : decode cX3_bestLength 1 = .ok (.getfield 10, 3) := by decide +kernel
theorem dX3_bestLength_4 : decode cX3_bestLength 4 = .ok (.invokevirtual 299, 3) := by decide +kernel
theorem dX3_bestLength_7 : decode cX3_bestLength 7 = .ok (.ifCond .eq 5, 3) := by decide +kernel
theorem dX3_bestLength_10 : decode cX3_bestLength 10 = .ok (.iconst (-1), 1) := by decide +kernel
theorem dX3_bestLength_11 : decode cX3_bestLength 11 = .ok (.ireturn, 1) := by decide +kernel
theorem dX3_bestLength_12 : decode cX3_bestLength 12 = .ok (.iconst (-1), 1) := by decide +kernel
theorem dX3_bestLength_13 : decode cX3_bestLength 13 = .ok (.istore_n 1, 1) := by decide +kernel
theorem dX3_bestLength_14 : decode cX3_bestLength 14 = .ok (.iconst 0, 1) := by decide +kernel
theorem dX3_bestLength_15 : decode cX3_bestLength 15 = .ok (.istore_n 2, 1) := by decide +kernel
theorem dX3_bestLength_16 : decode cX3_bestLength 16 = .ok (.aload_n 0, 1) := by decide +kernel
theorem dX3_bestLength_17 : decode cX3_bestLength 17 = .ok (.getfield 10, 3) := by decide +kernel
theorem dX3_bestLength_20 : decode cX3_bestLength 20 = .ok (.invokevirtual 148, 3) := by decide +kernel
theorem dX3_bestLength_23 : decode cX3_bestLength 23 = .ok (.istore_n 3, 1) := by decide +kernel
theorem dX3_bestLength_24 : decode cX3_bestLength 24 = .ok (.iload_n 3, 1) := by decide +kernel
theorem dX3_bestLength_25 : decode cX3_bestLength 25 = .ok (.bipush 8, 2) := by decide +kernel
theorem dX3_bestLength_27 : decode cX3_bestLength 27 = .ok (.if_icmp .lt 47, 3) := by decide +kernel
theorem dX3_bestLength_30 : decode cX3_bestLength 30 = .ok (.aload_n 0, 1) := by decide +kernel
theorem dX3_bestLength_31 : decode cX3_bestLength 31 = .ok (.getfield 10, 3) := by decide +kernel
theorem dX3_bestLength_34 : decode cX3_bestLength 34 = .ok (.aload_n 0, 1) := by decide +kernel
theorem dX3_bestLength_35 : decode cX3_bestLength 35 = .ok (.getfield 10, 3) := by decide +kernel
theorem dX3_bestLength_38 : decode cX3_bestLength 38 = .ok (.iload_n 3, 1) := by decide +kernel
theorem dX3_bestLength_39 : decode cX3_bestLength 39 = .ok (.invokevirtual 287, 3) := by decide +kernel
theorem dX3_bestLength_42 : decode cX3_bestLength 42 = .ok (.invokevirtual 290, 3) := by decide +kernel
theorem dX3_bestLength_45 : decode cX3_bestLength 45 = .ok (.iload_n 3, 1) := by decide +kernel
theorem dX3_bestLength_46 : decode cX3_bestLength 46 = .ok (.invokestatic 126, 3) := by decide +kernel
theorem dX3_bestLength_49 : decode cX3_bestLength 49 = .ok (.imul, 1) := by decide +kernel
theorem dX3_bestLength_50 : decode cX3_bestLength 50 = .ok (.istore 4, 2) := by decide +kernel
theorem dX3_bestLength_52 : decode cX3_bestLength 52 = .ok (.iload_n 1, 1) := by decide +kernel
theorem dX3_bestLength_53 : decode cX3_bestLength 53 = .ok (.iconst (-1), 1) := by decide +kernel
theorem dX3_bestLength_54 : decode cX3_bestLength 54 = .ok (.if_icmp .eq 9, 3) := by decide +kernel
theorem dX3_bestLength_57 : decode cX3_bestLength 57 = .ok (.iload 4, 2) := by decide +kernel
theorem dX3_bestLength_59 : decode cX3_bestLength 59 = .ok (.iload_n 2, 1) := by decide +kernel
theorem dX3_bestLength_60 : decode cX3_bestLength 60 = .ok (.if_icmp .ge 8, 3) := by decide +kernel
theorem dX3_bestLength_63 : decode cX3_bestLength 63 = .ok (.iload_n 3, 1) := by decide +kernel
theorem dX3_bestLength_64 : decode cX3_bestLength 64 = .ok (.istore_n 1, 1) := by decide +kernel
theorem dX3_bestLength_65 : decode cX3_bestLength 65 = .ok (.iload 4, 2) := by decide +kernel
theorem dX3_bestLength_67 : decode cX3_bestLength 67 = .ok (.istore_n 2, 1) := by decide +kernel
theorem dX3_bestLength_68 : decode cX3_bestLength 68 = .ok (.iinc 3 (-1), 3) := by decide +kernel
theorem dX3_bestLength_71 : decode cX3_bestLength 71 = .ok (.goto (-47), 3) := by decide +kernel
theorem dX3_bestLength_74 : decode cX3_bestLength 74 = .ok (.iload_n 1, 1) := by decide +kernel
theorem dX3_bestLength_75 : decode cX3_bestLength 75 = .ok (.ireturn, 1) := by decide +kernel
theorem dX3_meanPrice_0 : decode cX3_meanPrice 0 = .ok (.aload_n 0, 1) := by decide +kernel
theorem dX3_meanPrice_1 : decode cX3_meanPrice 1 = .ok (.getfield 10, 3) := by decide +kernel
theorem dX3_meanPrice_4 : decode cX3_meanPrice 4 = .ok (.invokevirtual 48, 3) := by decide +kernel
theorem dX3_meanPrice_7 : decode cX3_meanPrice 7 = .ok (.aload_n 0, 1) := by decide +kernel
theorem dX3_meanPrice_8 : decode cX3_meanPrice 8 = .ok (.getfield 10, 3) := by decide +kernel
theorem dX3_meanPrice_11 : decode cX3_meanPrice 11 = .ok (.getfield 52, 3) := by decide +kernel
theorem dX3_meanPrice_14 : decode cX3_meanPrice 14 = .ok (.iadd, 1) := by decide +kernel
theorem dX3_meanPrice_15 : decode cX3_meanPrice 15 = .ok (.istore_n 1, 1) := by decide +kernel
theorem dX3_meanPrice_16 : decode cX3_meanPrice 16 = .ok (.iload_n 1, 1) := by decide +kernel
theorem dX3_meanPrice_17 : decode cX3_meanPrice 17 = .ok (.ifCond .gt 5, 3) := by decide +kernel
theorem dX3_meanPrice_20 : decode cX3_meanPrice 20 = .ok (.dconst 0, 1) := by decide +kernel
theorem dX3_meanPrice_21 : decode cX3_meanPrice 21 = .ok (.dreturn, 1) := by decide +kernel
theorem dX3_meanPrice_22 : decode cX3_meanPrice 22 = .ok (.aload_n 0, 1) := by decide +kernel
theorem dX3_meanPrice_23 : decode cX3_meanPrice 23 = .ok (.getfield 10, 3) := by decide +kernel
theorem dX3_meanPrice_26 : decode cX3_meanPrice 26 = .ok (.getfield 123, 3) := by decide +kernel
theorem dX3_meanPrice_29 : decode cX3_meanPrice 29 = .ok (.i2d, 1) := by decide +kernel
theorem dX3_meanPrice_30 : decode cX3_meanPrice 30 = .ok (.iload_n 1, 1) := by decide +kernel
theorem dX3_meanPrice_31 : decode cX3_meanPrice 31 = .ok (.i2d, 1) := by decide +kernel
theorem dX3_meanPrice_32 : decode cX3_meanPrice 32 = .ok (.ddiv, 1) := by decide +kernel
theorem dX3_meanPrice_33 : decode cX3_meanPrice 33 = .ok (.dreturn, 1) := by decide +kernel
theorem dX3_isWithin_0 : decode cX3_isWithin 0 = .ok (.iload_n 0, 1) := by decide +kernel
theorem dX3_isWithin_1 : decode cX3_isWithin 1 = .ok (.iload_n 1, 1) := by decide +kernel
theorem dX3_isWithin_2 : decode cX3_isWithin 2 = .ok (.if_icmp .lt 12, 3) := by decide +kernel
theorem dX3_isWithin_5 : decode cX3_isWithin 5 = .ok (.iload_n 0, 1) := by decide +kernel
theorem dX3_isWithin_6 : decode cX3_isWithin 6 = .ok (.iload_n 2, 1) := by decide +kernel
theorem dX3_isWithin_7 : decode cX3_isWithin 7 = .ok (.if_icmp .gt 7, 3) := by decide +kernel
theorem dX3_isWithin_10 : decode cX3_isWithin 10 = .ok (.iconst 1, 1) := by decide +kernel
theorem dX3_isWithin_11 : decode cX3_isWithin 11 = .ok (.goto 4, 3) := by decide +kernel
theorem dX3_isWithin_14 : decode cX3_isWithin 14 = .ok (.iconst 0, 1) := by decide +kernel
theorem dX3_isWithin_15 : decode cX3_isWithin 15 = .ok (.ireturn, 1) := by decide +kernel
theorem dX3_isLength_0 : decode cX3_isLength 0 = .ok (.iload_n 0, 1) := by decide +kernel
theorem dX3_isLength_1 : decode cX3_isLength 1 = .ok (.bipush 8, 2) := by decide +kernel
theorem dX3_isLength_3 : decode cX3_isLength 3 = .ok (.if_icmp .lt 13, 3) := by decide +kernel
theorem dX3_isLength_6 : decode cX3_isLength 6 = .ok (.iload_n 0, 1) := by decide +kernel
theorem dX3_isLength_7 : decode cX3_isLength 7 = .ok (.bipush 24, 2) := by decide +kernel
theorem dX3_isLength_9 : decode cX3_isLength 9 = .ok (.if_icmp .gt 7, 3) := by decide +kernel
theorem dX3_isLength_12 : decode cX3_isLength 12 = .ok (.iconst 1, 1) := by decide +kernel
theorem dX3_isLength_13 : decode cX3_isLength 13 = .ok (.goto 4, 3) := by decide +kernel
theorem dX3_isLength_16 : decode cX3_isLength 16 = .ok (.iconst 0, 1) := by decide +kernel
theorem dX3_isLength_17 : decode cX3_isLength 17 = .ok (.ireturn, 1) := by decide +kernel
theorem dX3_priceOf_0 : decode cX3_priceOf 0 = .ok (.iload_n 0, 1) := by decide +kernel
theorem dX3_priceOf_1 : decode cX3_priceOf 1 = .ok (.iload_n 0, 1) := by decide +kernel
theorem dX3_priceOf_2 : decode cX3_priceOf 2 = .ok (.imul, 1) := by decide +kernel
theorem dX3_priceOf_3 : decode cX3_priceOf 3 = .ok (.bipush 16, 2) := by decide +kernel
theorem dX3_priceOf_5 : decode cX3_priceOf 5 = .ok (.idiv, 1) := by decide +kernel
theorem dX3_priceOf_6 : decode cX3_priceOf 6 = .ok (.ireturn, 1) := by decide +kernel
theorem dX3_brokenAmong_0 : decode cX3_brokenAmong 0 = .ok (.iload_n 1, 1) := by decide +kernel
theorem dX3_brokenAmong_1 : decode cX3_brokenAmong 1 = .ok (.istore_n 2, 1) := by decide +kernel
theorem dX3_brokenAmong_2 : decode cX3_brokenAmong 2 = .ok (.iconst 0, 1) := by decide +kernel
theorem dX3_brokenAmong_3 : decode cX3_brokenAmong 3 = .ok (.istore_n 3, 1) := by decide +kernel
theorem dX3_brokenAmong_4 : decode cX3_brokenAmong 4 = .ok (.iconst 0, 1) := by decide +kernel
theorem dX3_brokenAmong_5 : decode cX3_brokenAmong 5 = .ok (.istore 4, 2) := by decide +kernel
theorem dX3_brokenAmong_7 : decode cX3_brokenAmong 7 = .ok (.iload 4, 2) := by decide +kernel
theorem dX3_brokenAmong_9 : decode cX3_brokenAmong 9 = .ok (.iload_n 0, 1) := by decide +kernel
theorem dX3_brokenAmong_10 : decode cX3_brokenAmong 10 = .ok (.if_icmp .ge 36, 3) := by decide +kernel
theorem dX3_brokenAmong_13 : decode cX3_brokenAmong 13 = .ok (.iload_n 2, 1) := by decide +kernel
theorem dX3_brokenAmong_14 : decode cX3_brokenAmong 14 = .ok (.ldc_w 359, 3) := by decide +kernel
theorem dX3_brokenAmong_17 : decode cX3_brokenAmong 17 = .ok (.imul, 1) := by decide +kernel
theorem dX3_brokenAmong_18 : decode cX3_brokenAmong 18 = .ok (.sipush 12345, 3) := by decide +kernel
theorem dX3_brokenAmong_21 : decode cX3_brokenAmong 21 = .ok (.iadd, 1) := by decide +kernel
theorem dX3_brokenAmong_22 : decode cX3_brokenAmong 22 = .ok (.istore_n 2, 1) := by decide +kernel
theorem dX3_brokenAmong_23 : decode cX3_brokenAmong 23 = .ok (.iload_n 2, 1) := by decide +kernel
theorem dX3_brokenAmong_24 : decode cX3_brokenAmong 24 = .ok (.bipush 16, 2) := by decide +kernel
theorem dX3_brokenAmong_26 : decode cX3_brokenAmong 26 = .ok (.iushr, 1) := by decide +kernel
theorem dX3_brokenAmong_27 : decode cX3_brokenAmong 27 = .ok (.sipush 32767, 3) := by decide +kernel
theorem dX3_brokenAmong_30 : decode cX3_brokenAmong 30 = .ok (.iand, 1) := by decide +kernel
theorem dX3_brokenAmong_31 : decode cX3_brokenAmong 31 = .ok (.bipush 10, 2) := by decide +kernel
theorem dX3_brokenAmong_33 : decode cX3_brokenAmong 33 = .ok (.irem, 1) := by decide +kernel
theorem dX3_brokenAmong_34 : decode cX3_brokenAmong 34 = .ok (.ifCond .ne 6, 3) := by decide +kernel
theorem dX3_brokenAmong_37 : decode cX3_brokenAmong 37 = .ok (.iinc 3 1, 3) := by decide +kernel
theorem dX3_brokenAmong_40 : decode cX3_brokenAmong 40 = .ok (.iinc 4 1, 3) := by decide +kernel
theorem dX3_brokenAmong_43 : decode cX3_brokenAmong 43 = .ok (.goto (-36), 3) := by decide +kernel
theorem dX3_brokenAmong_46 : decode cX3_brokenAmong 46 = .ok (.iload_n 3, 1) := by decide +kernel
theorem dX3_brokenAmong_47 : decode cX3_brokenAmong 47 = .ok (.ireturn, 1) := by decide +kernel
theorem dX3_valueAt_0 : decode cX3_valueAt 0 = .ok (.iload_n 1, 1) := by decide +kernel
theorem dX3_valueAt_1 : decode cX3_valueAt 1 = .ok (.ifCond .lt 15, 3) := by decide +kernel
theorem dX3_valueAt_4 : decode cX3_valueAt 4 = .ok (.iload_n 1, 1) := by decide +kernel
theorem dX3_valueAt_5 : decode cX3_valueAt 5 = .ok (.aload_n 0, 1) := by decide +kernel
theorem dX3_valueAt_6 : decode cX3_valueAt 6 = .ok (.arraylength, 1) := by decide +kernel
theorem dX3_valueAt_7 : decode cX3_valueAt 7 = .ok (.if_icmp .ge 9, 3) := by decide +kernel
theorem dX3_valueAt_10 : decode cX3_valueAt 10 = .ok (.aload_n 0, 1) := by decide +kernel
theorem dX3_valueAt_11 : decode cX3_valueAt 11 = .ok (.iload_n 1, 1) := by decide +kernel
theorem dX3_valueAt_12 : decode cX3_valueAt 12 = .ok (.iaload, 1) := by decide +kernel
theorem dX3_valueAt_13 : decode cX3_valueAt 13 = .ok (.goto 4, 3) := by decide +kernel
theorem dX3_valueAt_16 : decode cX3_valueAt 16 = .ok (.iconst 0, 1) := by decide +kernel
theorem dX3_valueAt_17 : decode cX3_valueAt 17 = .ok (.ireturn, 1) := by decide +kernel
theorem dX3_addAt_0 : decode cX3_addAt 0 = .ok (.iload_n 1, 1) := by decide +kernel
theorem dX3_addAt_1 : decode cX3_addAt 1 = .ok (.ifCond .lt 16, 3) := by decide +kernel
theorem dX3_addAt_4 : decode cX3_addAt 4 = .ok (.iload_n 1, 1) := by decide +kernel
theorem dX3_addAt_5 : decode cX3_addAt 5 = .ok (.aload_n 0, 1) := by decide +kernel
theorem dX3_addAt_6 : decode cX3_addAt 6 = .ok (.arraylength, 1) := by decide +kernel
theorem dX3_addAt_7 : decode cX3_addAt 7 = .ok (.if_icmp .ge 10, 3) := by decide +kernel
theorem dX3_addAt_10 : decode cX3_addAt 10 = .ok (.aload_n 0, 1) := by decide +kernel
theorem dX3_addAt_11 : decode cX3_addAt 11 = .ok (.iload_n 1, 1) := by decide +kernel
theorem dX3_addAt_12 : decode cX3_addAt 12 = .ok (.dup2, 1) := by decide +kernel
theorem dX3_addAt_13 : decode cX3_addAt 13 = .ok (.iaload, 1) := by decide +kernel
theorem dX3_addAt_14 : decode cX3_addAt 14 = .ok (.iload_n 2, 1) := by decide +kernel
theorem dX3_addAt_15 : decode cX3_addAt 15 = .ok (.iadd, 1) := by decide +kernel
theorem dX3_addAt_16 : decode cX3_addAt 16 = .ok (.iastore, 1) := by decide +kernel
theorem dX3_addAt_17 : decode cX3_addAt 17 = .ok (.return_, 1) := by decide +kernel
theorem dX3_sumOf_0 : decode cX3_sumOf 0 = .ok (.iconst 0, 1) := by decide +kernel
theorem dX3_sumOf_1 : decode cX3_sumOf 1 = .ok (.istore_n 1, 1) := by decide +kernel
theorem dX3_sumOf_2 : decode cX3_sumOf 2 = .ok (.iconst 0, 1) := by decide +kernel
theorem dX3_sumOf_3 : decode cX3_sumOf 3 = .ok (.istore_n 2, 1) := by decide +kernel
theorem dX3_sumOf_4 : decode cX3_sumOf 4 = .ok (.iload_n 2, 1) := by decide +kernel
theorem dX3_sumOf_5 : decode cX3_sumOf 5 = .ok (.aload_n 0, 1) := by decide +kernel
theorem dX3_sumOf_6 : decode cX3_sumOf 6 = .ok (.arraylength, 1) := by decide +kernel
theorem dX3_sumOf_7 : decode cX3_sumOf 7 = .ok (.if_icmp .ge 15, 3) := by decide +kernel
theorem dX3_sumOf_10 : decode cX3_sumOf 10 = .ok (.iload_n 1, 1) := by decide +kernel
theorem dX3_sumOf_11 : decode cX3_sumOf 11 = .ok (.aload_n 0, 1) := by decide +kernel
theorem dX3_sumOf_12 : decode cX3_sumOf 12 = .ok (.iload_n 2, 1) := by decide +kernel
theorem dX3_sumOf_13 : decode cX3_sumOf 13 = .ok (.iaload, 1) := by decide +kernel
theorem dX3_sumOf_14 : decode cX3_sumOf 14 = .ok (.iadd, 1) := by decide +kernel
theorem dX3_sumOf_15 : decode cX3_sumOf 15 = .ok (.istore_n 1, 1) := by decide +kernel
theorem dX3_sumOf_16 : decode cX3_sumOf 16 = .ok (.iinc 2 1, 3) := by decide +kernel
theorem dX3_sumOf_19 : decode cX3_sumOf 19 = .ok (.goto (-15), 3) := by decide +kernel
theorem dX3_sumOf_22 : decode cX3_sumOf 22 = .ok (.iload_n 1, 1) := by decide +kernel
theorem dX3_sumOf_23 : decode cX3_sumOf 23 = .ok (.ireturn, 1) := by decide +kernel
theorem dX3_copyRow_0 : decode cX3_copyRow 0 = .ok (.aload_n 0, 1) := by decide +kernel
theorem dX3_copyRow_1 : decode cX3_copyRow 1 = .ok (.iconst 0, 1) := by decide +kernel
theorem dX3_copyRow_2 : decode cX3_copyRow 2 = .ok (.aload_n 1, 1) := by decide +kernel
theorem dX3_copyRow_3 : decode cX3_copyRow 3 = .ok (.iconst 0, 1) := by decide +kernel
theorem dX3_copyRow_4 : decode cX3_copyRow 4 = .ok (.aload_n 0, 1) := by decide +kernel
theorem dX3_copyRow_5 : decode cX3_copyRow 5 = .ok (.arraylength, 1) := by decide +kernel
theorem dX3_copyRow_6 : decode cX3_copyRow 6 = .ok (.aload_n 1, 1) := by decide +kernel
theorem dX3_copyRow_7 : decode cX3_copyRow 7 = .ok (.arraylength, 1) := by decide +kernel
theorem dX3_copyRow_8 : decode cX3_copyRow 8 = .ok (.invokestatic 360, 3) := by decide +kernel
theorem dX3_copyRow_11 : decode cX3_copyRow 11 = .ok (.invokestatic 365, 3) := by decide +kernel
theorem dX3_copyRow_14 : decode cX3_copyRow 14 = .ok (.return_, 1) := by decide +kernel
theorem dJ6_bitCount_0f7a4_0 : decode cJ6_bitCount_0f7a4 0 = .ok (.iload_n 0, 1) := by decide +kernel
theorem dJ6_bitCount_0f7a4_1 : decode cJ6_bitCount_0f7a4 1 = .ok (.iload_n 0, 1) := by decide +kernel
theorem dJ6_bitCount_0f7a4_2 : decode cJ6_bitCount_0f7a4 2 = .ok (.iconst 1, 1) := by decide +kernel
theorem dJ6_bitCount_0f7a4_3 : decode cJ6_bitCount_0f7a4 3 = .ok (.iushr, 1) := by decide +kernel
theorem dJ6_bitCount_0f7a4_4 : decode cJ6_bitCount_0f7a4 4 = .ok (.ldc_w 265, 3) := by decide +kernel
theorem dJ6_bitCount_0f7a4_7 : decode cJ6_bitCount_0f7a4 7 = .ok (.iand, 1) := by decide +kernel
theorem dJ6_bitCount_0f7a4_8 : decode cJ6_bitCount_0f7a4 8 = .ok (.isub, 1) := by decide +kernel
theorem dJ6_bitCount_0f7a4_9 : decode cJ6_bitCount_0f7a4 9 = .ok (.istore_n 0, 1) := by decide +kernel
theorem dJ6_bitCount_0f7a4_10 : decode cJ6_bitCount_0f7a4 10 = .ok (.iload_n 0, 1) := by decide +kernel
theorem dJ6_bitCount_0f7a4_11 : decode cJ6_bitCount_0f7a4 11 = .ok (.ldc_w 266, 3) := by decide +kernel
theorem dJ6_bitCount_0f7a4_14 : decode cJ6_bitCount_0f7a4 14 = .ok (.iand, 1) := by decide +kernel
theorem dJ6_bitCount_0f7a4_15 : decode cJ6_bitCount_0f7a4 15 = .ok (.iload_n 0, 1) := by decide +kernel
theorem dJ6_bitCount_0f7a4_16 : decode cJ6_bitCount_0f7a4 16 = .ok (.iconst 2, 1) := by decide +kernel
theorem dJ6_bitCount_0f7a4_17 : decode cJ6_bitCount_0f7a4 17 = .ok (.iushr, 1) := by decide +kernel
theorem dJ6_bitCount_0f7a4_18 : decode cJ6_bitCount_0f7a4 18 = .ok (.ldc_w 266, 3) := by decide +kernel
theorem dJ6_bitCount_0f7a4_21 : decode cJ6_bitCount_0f7a4 21 = .ok (.iand, 1) := by decide +kernel
theorem dJ6_bitCount_0f7a4_22 : decode cJ6_bitCount_0f7a4 22 = .ok (.iadd, 1) := by decide +kernel
theorem dJ6_bitCount_0f7a4_23 : decode cJ6_bitCount_0f7a4 23 = .ok (.istore_n 0, 1) := by decide +kernel
theorem dJ6_bitCount_0f7a4_24 : decode cJ6_bitCount_0f7a4 24 = .ok (.iload_n 0, 1) := by decide +kernel
theorem dJ6_bitCount_0f7a4_25 : decode cJ6_bitCount_0f7a4 25 = .ok (.iload_n 0, 1) := by decide +kernel
theorem dJ6_bitCount_0f7a4_26 : decode cJ6_bitCount_0f7a4 26 = .ok (.iconst 4, 1) := by decide +kernel
theorem dJ6_bitCount_0f7a4_27 : decode cJ6_bitCount_0f7a4 27 = .ok (.iushr, 1) := by decide +kernel
theorem dJ6_bitCount_0f7a4_28 : decode cJ6_bitCount_0f7a4 28 = .ok (.iadd, 1) := by decide +kernel
theorem dJ6_bitCount_0f7a4_29 : decode cJ6_bitCount_0f7a4 29 = .ok (.ldc_w 267, 3) := by decide +kernel
theorem dJ6_bitCount_0f7a4_32 : decode cJ6_bitCount_0f7a4 32 = .ok (.iand, 1) := by decide +kernel
theorem dJ6_bitCount_0f7a4_33 : decode cJ6_bitCount_0f7a4 33 = .ok (.istore_n 0, 1) := by decide +kernel
theorem dJ6_bitCount_0f7a4_34 : decode cJ6_bitCount_0f7a4 34 = .ok (.iload_n 0, 1) := by decide +kernel
theorem dJ6_bitCount_0f7a4_35 : decode cJ6_bitCount_0f7a4 35 = .ok (.iload_n 0, 1) := by decide +kernel
theorem dJ6_bitCount_0f7a4_36 : decode cJ6_bitCount_0f7a4 36 = .ok (.bipush 8, 2) := by decide +kernel
theorem dJ6_bitCount_0f7a4_38 : decode cJ6_bitCount_0f7a4 38 = .ok (.iushr, 1) := by decide +kernel
theorem dJ6_bitCount_0f7a4_39 : decode cJ6_bitCount_0f7a4 39 = .ok (.iadd, 1) := by decide +kernel
theorem dJ6_bitCount_0f7a4_40 : decode cJ6_bitCount_0f7a4 40 = .ok (.istore_n 0, 1) := by decide +kernel
theorem dJ6_bitCount_0f7a4_41 : decode cJ6_bitCount_0f7a4 41 = .ok (.iload_n 0, 1) := by decide +kernel
theorem dJ6_bitCount_0f7a4_42 : decode cJ6_bitCount_0f7a4 42 = .ok (.iload_n 0, 1) := by decide +kernel
theorem dJ6_bitCount_0f7a4_43 : decode cJ6_bitCount_0f7a4 43 = .ok (.bipush 16, 2) := by decide +kernel
theorem dJ6_bitCount_0f7a4_45 : decode cJ6_bitCount_0f7a4 45 = .ok (.iushr, 1) := by decide +kernel
theorem dJ6_bitCount_0f7a4_46 : decode cJ6_bitCount_0f7a4 46 = .ok (.iadd, 1) := by decide +kernel
theorem dJ6_bitCount_0f7a4_47 : decode cJ6_bitCount_0f7a4 47 = .ok (.istore_n 0, 1) := by decide +kernel
theorem dJ6_bitCount_0f7a4_48 : decode cJ6_bitCount_0f7a4 48 = .ok (.iload_n 0, 1) := by decide +kernel
theorem dJ6_bitCount_0f7a4_49 : decode cJ6_bitCount_0f7a4 49 = .ok (.bipush 63, 2) := by decide +kernel
theorem dJ6_bitCount_0f7a4_51 : decode cJ6_bitCount_0f7a4 51 = .ok (.iand, 1) := by decide +kernel
theorem dJ6_bitCount_0f7a4_52 : decode cJ6_bitCount_0f7a4 52 = .ok (.ireturn, 1) := by decide +kernel
theorem dJ9_max_7cf53_0 : decode cJ9_max_7cf53 0 = .ok (.iload_n 0, 1) := by decide +kernel
theorem dJ9_max_7cf53_1 : decode cJ9_max_7cf53 1 = .ok (.iload_n 1, 1) := by decide +kernel
theorem dJ9_max_7cf53_2 : decode cJ9_max_7cf53 2 = .ok (.if_icmp .lt 7, 3) := by decide +kernel
theorem dJ9_max_7cf53_5 : decode cJ9_max_7cf53 5 = .ok (.iload_n 0, 1) := by decide +kernel
theorem dJ9_max_7cf53_6 : decode cJ9_max_7cf53 6 = .ok (.goto 4, 3) := by decide +kernel
theorem dJ9_max_7cf53_9 : decode cJ9_max_7cf53 9 = .ok (.iload_n 1, 1) := by decide +kernel
theorem dJ9_max_7cf53_10 : decode cJ9_max_7cf53 10 = .ok (.ireturn, 1) := by decide +kernel
theorem dJ9_min_7cf53_0 : decode cJ9_min_7cf53 0 = .ok (.iload_n 0, 1) := by decide +kernel
theorem dJ9_min_7cf53_1 : decode cJ9_min_7cf53 1 = .ok (.iload_n 1, 1) := by decide +kernel
theorem dJ9_min_7cf53_2 : decode cJ9_min_7cf53 2 = .ok (.if_icmp .gt 7, 3) := by decide +kernel
theorem dJ9_min_7cf53_5 : decode cJ9_min_7cf53 5 = .ok (.iload_n 0, 1) := by decide +kernel
theorem dJ9_min_7cf53_6 : decode cJ9_min_7cf53 6 = .ok (.goto 4, 3) := by decide +kernel
theorem dJ9_min_7cf53_9 : decode cJ9_min_7cf53 9 = .ok (.iload_n 1, 1) := by decide +kernel
theorem dJ9_min_7cf53_10 : decode cJ9_min_7cf53 10 = .ok (.ireturn, 1) := by decide +kernel
theorem dL_cell_0 : decode cL_cell 0 = .ok (.iload_n 1, 1) := by decide +kernel
theorem dL_cell_1 : decode cL_cell 1 = .ok (.aload_n 0, 1) := by decide +kernel
theorem dL_cell_2 : decode cL_cell 2 = .ok (.arraylength, 1) := by decide +kernel
theorem dL_cell_3 : decode cL_cell 3 = .ok (.if_icmp .ge 9, 3) := by decide +kernel
theorem dL_cell_6 : decode cL_cell 6 = .ok (.aload_n 0, 1) := by decide +kernel
theorem dL_cell_7 : decode cL_cell 7 = .ok (.iload_n 1, 1) := by decide +kernel
theorem dL_cell_8 : decode cL_cell 8 = .ok (.iaload, 1) := by decide +kernel
theorem dL_cell_9 : decode cL_cell 9 = .ok (.goto 9, 3) := by decide +kernel
theorem dL_cell_12 : decode cL_cell 12 = .ok (.ldc 7, 2) := by decide +kernel
theorem dL_cell_14 : decode cL_cell 14 = .ok (.iload_n 1, 1) := by decide +kernel
theorem dL_cell_15 : decode cL_cell 15 = .ok (.iconst 1, 1) := by decide +kernel
theorem dL_cell_16 : decode cL_cell 16 = .ok (.iadd, 1) := by decide +kernel
theorem dL_cell_17 : decode cL_cell 17 = .ok (.imul, 1) := by decide +kernel
theorem dL_cell_18 : decode cL_cell 18 = .ok (.ireturn, 1) := by decide +kernel
theorem dL_at_0 : decode cL_at 0 = .ok (.iload_n 0, 1) := by decide +kernel
theorem dL_at_1 : decode cL_at 1 = .ok (.iconst 1, 1) := by decide +kernel
theorem dL_at_2 : decode cL_at 2 = .ok (.iushr, 1) := by decide +kernel
theorem dL_at_3 : decode cL_at 3 = .ok (.iload_n 1, 1) := by decide +kernel
theorem dL_at_4 : decode cL_at 4 = .ok (.irem, 1) := by decide +kernel
theorem dL_at_5 : decode cL_at 5 = .ok (.ireturn, 1) := by decide +kernel
theorem dL_places_0 : decode cL_places 0 = .ok (.aload_n 1, 1) := by decide +kernel
theorem dL_places_1 : decode cL_places 1 = .ok (.iconst 1, 1) := by decide +kernel
theorem dL_places_2 : decode cL_places 2 = .ok (.iaload, 1) := by decide +kernel
theorem dL_places_3 : decode cL_places 3 = .ok (.iload_n 0, 1) := by decide +kernel
theorem dL_places_4 : decode cL_places 4 = .ok (.iconst 2, 1) := by decide +kernel
theorem dL_places_5 : decode cL_places 5 = .ok (.irem, 1) := by decide +kernel
theorem dL_places_6 : decode cL_places 6 = .ok (.iadd, 1) := by decide +kernel
theorem dL_places_7 : decode cL_places 7 = .ok (.ireturn, 1) := by decide +kernel
theorem dL_full_0 : decode cL_full 0 = .ok (.iload_n 0, 1) := by decide +kernel
theorem dL_full_1 : decode cL_full 1 = .ok (.aload_n 1, 1) := by decide +kernel
theorem dL_full_2 : decode cL_full 2 = .ok (.invokestatic 8, 3) := by decide +kernel
theorem dL_full_5 : decode cL_full 5 = .ok (.bipush 31, 2) := by decide +kernel
theorem dL_full_7 : decode cL_full 7 = .ok (.if_icmp .ne 8, 3) := by decide +kernel
theorem dL_full_10 : decode cL_full 10 = .ok (.ldc 14, 2) := by decide +kernel
theorem dL_full_12 : decode cL_full 12 = .ok (.goto 12, 3) := by decide +kernel
theorem dL_full_15 : decode cL_full 15 = .ok (.iconst 1, 1) := by decide +kernel
theorem dL_full_16 : decode cL_full 16 = .ok (.iload_n 0, 1) := by decide +kernel
theorem dL_full_17 : decode cL_full 17 = .ok (.aload_n 1, 1) := by decide +kernel
theorem dL_full_18 : decode cL_full 18 = .ok (.invokestatic 8, 3) := by decide +kernel
theorem dL_full_21 : decode cL_full 21 = .ok (.ishl, 1) := by decide +kernel
theorem dL_full_22 : decode cL_full 22 = .ok (.iconst 1, 1) := by decide +kernel
theorem dL_full_23 : decode cL_full 23 = .ok (.isub, 1) := by decide +kernel
theorem dL_full_24 : decode cL_full 24 = .ok (.ireturn, 1) := by decide +kernel
theorem dL_ones_0 : decode cL_ones 0 = .ok (.iconst 0, 1) := by decide +kernel
theorem dL_ones_1 : decode cL_ones 1 = .ok (.istore_n 1, 1) := by decide +kernel
theorem dL_ones_2 : decode cL_ones 2 = .ok (.iconst 0, 1) := by decide +kernel
theorem dL_ones_3 : decode cL_ones 3 = .ok (.istore_n 2, 1) := by decide +kernel
theorem dL_ones_4 : decode cL_ones 4 = .ok (.iload_n 2, 1) := by decide +kernel
theorem dL_ones_5 : decode cL_ones 5 = .ok (.bipush 31, 2) := by decide +kernel
theorem dL_ones_7 : decode cL_ones 7 = .ok (.if_icmp .ge 17, 3) := by decide +kernel
theorem dL_ones_10 : decode cL_ones 10 = .ok (.iload_n 1, 1) := by decide +kernel
theorem dL_ones_11 : decode cL_ones 11 = .ok (.iload_n 0, 1) := by decide +kernel
theorem dL_ones_12 : decode cL_ones 12 = .ok (.iload_n 2, 1) := by decide +kernel
theorem dL_ones_13 : decode cL_ones 13 = .ok (.ishr, 1) := by decide +kernel
theorem dL_ones_14 : decode cL_ones 14 = .ok (.iconst 1, 1) := by decide +kernel
theorem dL_ones_15 : decode cL_ones 15 = .ok (.iand, 1) := by decide +kernel
theorem dL_ones_16 : decode cL_ones 16 = .ok (.iadd, 1) := by decide +kernel
theorem dL_ones_17 : decode cL_ones 17 = .ok (.istore_n 1, 1) := by decide +kernel
theorem dL_ones_18 : decode cL_ones 18 = .ok (.iinc 2 1, 3) := by decide +kernel
theorem dL_ones_21 : decode cL_ones 21 = .ok (.goto (-17), 3) := by decide +kernel
theorem dL_ones_24 : decode cL_ones 24 = .ok (.iload_n 1, 1) := by decide +kernel
theorem dL_ones_25 : decode cL_ones 25 = .ok (.ireturn, 1) := by decide +kernel
theorem dL_top_0 : decode cL_top 0 = .ok (.iconst 0, 1) := by decide +kernel
theorem dL_top_1 : decode cL_top 1 = .ok (.istore_n 3, 1) := by decide +kernel
theorem dL_top_2 : decode cL_top 2 = .ok (.iconst 0, 1) := by decide +kernel
theorem dL_top_3 : decode cL_top 3 = .ok (.istore 4, 2) := by decide +kernel
theorem dL_top_5 : decode cL_top 5 = .ok (.iload 4, 2) := by decide +kernel
theorem dL_top_7 : decode cL_top 7 = .ok (.iload_n 0, 1) := by decide +kernel
theorem dL_top_8 : decode cL_top 8 = .ok (.if_icmp .ge 22, 3) := by decide +kernel
theorem dL_top_11 : decode cL_top 11 = .ok (.iload_n 3, 1) := by decide +kernel
theorem dL_top_12 : decode cL_top 12 = .ok (.aload_n 1, 1) := by decide +kernel
theorem dL_top_13 : decode cL_top 13 = .ok (.iload 4, 2) := by decide +kernel
theorem dL_top_15 : decode cL_top 15 = .ok (.iaload, 1) := by decide +kernel
theorem dL_top_16 : decode cL_top 16 = .ok (.aload_n 2, 1) := by decide +kernel
theorem dL_top_17 : decode cL_top 17 = .ok (.iconst 3, 1) := by decide +kernel
theorem dL_top_18 : decode cL_top 18 = .ok (.iaload, 1) := by decide +kernel
theorem dL_top_19 : decode cL_top 19 = .ok (.isub, 1) := by decide +kernel
theorem dL_top_20 : decode cL_top 20 = .ok (.iconst 2, 1) := by decide +kernel
theorem dL_top_21 : decode cL_top 21 = .ok (.idiv, 1) := by decide +kernel
theorem dL_top_22 : decode cL_top 22 = .ok (.iadd, 1) := by decide +kernel
theorem dL_top_23 : decode cL_top 23 = .ok (.istore_n 3, 1) := by decide +kernel
theorem dL_top_24 : decode cL_top 24 = .ok (.iinc 4 1, 3) := by decide +kernel
theorem dL_top_27 : decode cL_top 27 = .ok (.goto (-22), 3) := by decide +kernel
theorem dL_top_30 : decode cL_top 30 = .ok (.iload_n 3, 1) := by decide +kernel
theorem dL_top_31 : decode cL_top 31 = .ok (.ireturn, 1) := by decide +kernel
theorem dL_lying_0 : decode cL_lying 0 = .ok (.iconst 0, 1) := by decide +kernel
theorem dL_lying_1 : decode cL_lying 1 = .ok (.istore_n 2, 1) := by decide +kernel
theorem dL_lying_2 : decode cL_lying 2 = .ok (.iconst 0, 1) := by decide +kernel
theorem dL_lying_3 : decode cL_lying 3 = .ok (.istore_n 3, 1) := by decide +kernel
theorem dL_lying_4 : decode cL_lying 4 = .ok (.iload_n 3, 1) := by decide +kernel
theorem dL_lying_5 : decode cL_lying 5 = .ok (.aload_n 1, 1) := by decide +kernel
theorem dL_lying_6 : decode cL_lying 6 = .ok (.iconst 2, 1) := by decide +kernel
theorem dL_lying_7 : decode cL_lying 7 = .ok (.iaload, 1) := by decide +kernel
theorem dL_lying_8 : decode cL_lying 8 = .ok (.if_icmp .ge 18, 3) := by decide +kernel
theorem dL_lying_11 : decode cL_lying 11 = .ok (.iload_n 2, 1) := by decide +kernel
theorem dL_lying_12 : decode cL_lying 12 = .ok (.aload_n 0, 1) := by decide +kernel
theorem dL_lying_13 : decode cL_lying 13 = .ok (.iload_n 3, 1) := by decide +kernel
theorem dL_lying_14 : decode cL_lying 14 = .ok (.iaload, 1) := by decide +kernel
theorem dL_lying_15 : decode cL_lying 15 = .ok (.invokestatic 15, 3) := by decide +kernel
theorem dL_lying_18 : decode cL_lying 18 = .ok (.iadd, 1) := by decide +kernel
theorem dL_lying_19 : decode cL_lying 19 = .ok (.istore_n 2, 1) := by decide +kernel
theorem dL_lying_20 : decode cL_lying 20 = .ok (.iinc 3 1, 3) := by decide +kernel
theorem dL_lying_23 : decode cL_lying 23 = .ok (.goto (-19), 3) := by decide +kernel
theorem dL_lying_26 : decode cL_lying 26 = .ok (.iload_n 2, 1) := by decide +kernel
theorem dL_lying_27 : decode cL_lying 27 = .ok (.ireturn, 1) := by decide +kernel
theorem dL_done_0 : decode cL_done 0 = .ok (.aload_n 2, 1) := by decide +kernel
theorem dL_done_1 : decode cL_done 1 = .ok (.iconst 2, 1) := by decide +kernel
theorem dL_done_2 : decode cL_done 2 = .ok (.iaload, 1) := by decide +kernel
theorem dL_done_3 : decode cL_done 3 = .ok (.ifCond .le 21, 3) := by decide +kernel
theorem dL_done_6 : decode cL_done 6 = .ok (.aload_n 2, 1) := by decide +kernel
theorem dL_done_7 : decode cL_done 7 = .ok (.iconst 2, 1) := by decide +kernel
theorem dL_done_8 : decode cL_done 8 = .ok (.iaload, 1) := by decide +kernel
theorem dL_done_9 : decode cL_done 9 = .ok (.aload_n 0, 1) := by decide +kernel
theorem dL_done_10 : decode cL_done 10 = .ok (.aload_n 2, 1) := by decide +kernel
theorem dL_done_11 : decode cL_done 11 = .ok (.invokestatic 19, 3) := by decide +kernel
theorem dL_done_14 : decode cL_done 14 = .ok (.aload_n 2, 1) := by decide +kernel
theorem dL_done_15 : decode cL_done 15 = .ok (.iconst 0, 1) := by decide +kernel
theorem dL_done_16 : decode cL_done 16 = .ok (.iaload, 1) := by decide +kernel
theorem dL_done_17 : decode cL_done 17 = .ok (.if_icmp .lt 7, 3) := by decide +kernel
theorem dL_done_20 : decode cL_done 20 = .ok (.iconst 1, 1) := by decide +kernel
theorem dL_done_21 : decode cL_done 21 = .ok (.goto 4, 3) := by decide +kernel
theorem dL_done_24 : decode cL_done 24 = .ok (.iconst 0, 1) := by decide +kernel
theorem dL_done_25 : decode cL_done 25 = .ok (.istore_n 3, 1) := by decide +kernel
theorem dL_done_26 : decode cL_done 26 = .ok (.iconst 0, 1) := by decide +kernel
theorem dL_done_27 : decode cL_done 27 = .ok (.istore 4, 2) := by decide +kernel
theorem dL_done_29 : decode cL_done 29 = .ok (.iload 4, 2) := by decide +kernel
theorem dL_done_31 : decode cL_done 31 = .ok (.aload_n 2, 1) := by decide +kernel
theorem dL_done_32 : decode cL_done 32 = .ok (.iconst 2, 1) := by decide +kernel
theorem dL_done_33 : decode cL_done 33 = .ok (.iaload, 1) := by decide +kernel
theorem dL_done_34 : decode cL_done 34 = .ok (.if_icmp .ge 32, 3) := by decide +kernel
theorem dL_done_37 : decode cL_done 37 = .ok (.iload_n 3, 1) := by decide +kernel
theorem dL_done_38 : decode cL_done 38 = .ok (.ifCond .eq 20, 3) := by decide +kernel
theorem dL_done_41 : decode cL_done 41 = .ok (.aload_n 1, 1) := by decide +kernel
theorem dL_done_42 : decode cL_done 42 = .ok (.iload 4, 2) := by decide +kernel
theorem dL_done_44 : decode cL_done 44 = .ok (.iaload, 1) := by decide +kernel
theorem dL_done_45 : decode cL_done 45 = .ok (.iload 4, 2) := by decide +kernel
theorem dL_done_47 : decode cL_done 47 = .ok (.aload_n 2, 1) := by decide +kernel
theorem dL_done_48 : decode cL_done 48 = .ok (.invokestatic 23, 3) := by decide +kernel
theorem dL_done_51 : decode cL_done 51 = .ok (.if_icmp .ne 7, 3) := by decide +kernel
theorem dL_done_54 : decode cL_done 54 = .ok (.iconst 1, 1) := by decide +kernel
theorem dL_done_55 : decode cL_done 55 = .ok (.goto 4, 3) := by decide +kernel
theorem dL_done_58 : decode cL_done 58 = .ok (.iconst 0, 1) := by decide +kernel
theorem dL_done_59 : decode cL_done 59 = .ok (.istore_n 3, 1) := by decide +kernel
theorem dL_done_60 : decode cL_done 60 = .ok (.iinc 4 1, 3) := by decide +kernel
theorem dL_done_63 : decode cL_done 63 = .ok (.goto (-34), 3) := by decide +kernel
theorem dL_done_66 : decode cL_done 66 = .ok (.iload_n 3, 1) := by decide +kernel
theorem dL_done_67 : decode cL_done 67 = .ok (.ireturn, 1) := by decide +kernel
theorem dL_all_0 : decode cL_all 0 = .ok (.iconst 0, 1) := by decide +kernel
theorem dL_all_1 : decode cL_all 1 = .ok (.istore_n 1, 1) := by decide +kernel
theorem dL_all_2 : decode cL_all 2 = .ok (.bipush 8, 2) := by decide +kernel
theorem dL_all_4 : decode cL_all 4 = .ok (.istore_n 2, 1) := by decide +kernel
theorem dL_all_5 : decode cL_all 5 = .ok (.iload_n 2, 1) := by decide +kernel
theorem dL_all_6 : decode cL_all 6 = .ok (.bipush 25, 2) := by decide +kernel
theorem dL_all_8 : decode cL_all 8 = .ok (.if_icmp .ge 15, 3) := by decide +kernel
theorem dL_all_11 : decode cL_all 11 = .ok (.iload_n 1, 1) := by decide +kernel
theorem dL_all_12 : decode cL_all 12 = .ok (.aload_n 0, 1) := by decide +kernel
theorem dL_all_13 : decode cL_all 13 = .ok (.iload_n 2, 1) := by decide +kernel
theorem dL_all_14 : decode cL_all 14 = .ok (.iaload, 1) := by decide +kernel
theorem dL_all_15 : decode cL_all 15 = .ok (.iadd, 1) := by decide +kernel
theorem dL_all_16 : decode cL_all 16 = .ok (.istore_n 1, 1) := by decide +kernel
theorem dL_all_17 : decode cL_all 17 = .ok (.iinc 2 1, 3) := by decide +kernel
theorem dL_all_20 : decode cL_all 20 = .ok (.goto (-15), 3) := by decide +kernel
theorem dL_all_23 : decode cL_all 23 = .ok (.iload_n 1, 1) := by decide +kernel
theorem dL_all_24 : decode cL_all 24 = .ok (.ireturn, 1) := by decide +kernel
theorem dL_longest_0 : decode cL_longest 0 = .ok (.aload_n 1, 1) := by decide +kernel
theorem dL_longest_1 : decode cL_longest 1 = .ok (.iconst 2, 1) := by decide +kernel
theorem dL_longest_2 : decode cL_longest 2 = .ok (.iaload, 1) := by decide +kernel
theorem dL_longest_3 : decode cL_longest 3 = .ok (.ifCond .ne 8, 3) := by decide +kernel
theorem dL_longest_6 : decode cL_longest 6 = .ok (.bipush 24, 2) := by decide +kernel
theorem dL_longest_8 : decode cL_longest 8 = .ok (.goto 10, 3) := by decide +kernel
theorem dL_longest_11 : decode cL_longest 11 = .ok (.aload_n 0, 1) := by decide +kernel
theorem dL_longest_12 : decode cL_longest 12 = .ok (.aload_n 1, 1) := by decide +kernel
theorem dL_longest_13 : decode cL_longest 13 = .ok (.iconst 2, 1) := by decide +kernel
theorem dL_longest_14 : decode cL_longest 14 = .ok (.iaload, 1) := by decide +kernel
theorem dL_longest_15 : decode cL_longest 15 = .ok (.iconst 1, 1) := by decide +kernel
theorem dL_longest_16 : decode cL_longest 16 = .ok (.isub, 1) := by decide +kernel
theorem dL_longest_17 : decode cL_longest 17 = .ok (.iaload, 1) := by decide +kernel
theorem dL_longest_18 : decode cL_longest 18 = .ok (.ireturn, 1) := by decide +kernel
theorem dL_gap_0 : decode cL_gap 0 = .ok (.iconst 0, 1) := by decide +kernel
theorem dL_gap_1 : decode cL_gap 1 = .ok (.istore_n 3, 1) := by decide +kernel
theorem dL_gap_2 : decode cL_gap 2 = .ok (.iload_n 3, 1) := by decide +kernel
theorem dL_gap_3 : decode cL_gap 3 = .ok (.iload_n 0, 1) := by decide +kernel
theorem dL_gap_4 : decode cL_gap 4 = .ok (.aload_n 2, 1) := by decide +kernel
theorem dL_gap_5 : decode cL_gap 5 = .ok (.invokestatic 8, 3) := by decide +kernel
theorem dL_gap_8 : decode cL_gap 8 = .ok (.if_icmp .ge 21, 3) := by decide +kernel
theorem dL_gap_11 : decode cL_gap 11 = .ok (.aload_n 1, 1) := by decide +kernel
theorem dL_gap_12 : decode cL_gap 12 = .ok (.iload_n 0, 1) := by decide +kernel
theorem dL_gap_13 : decode cL_gap 13 = .ok (.iaload, 1) := by decide +kernel
theorem dL_gap_14 : decode cL_gap 14 = .ok (.iload_n 3, 1) := by decide +kernel
theorem dL_gap_15 : decode cL_gap 15 = .ok (.ishr, 1) := by decide +kernel
theorem dL_gap_16 : decode cL_gap 16 = .ok (.iconst 1, 1) := by decide +kernel
theorem dL_gap_17 : decode cL_gap 17 = .ok (.iand, 1) := by decide +kernel
theorem dL_gap_18 : decode cL_gap 18 = .ok (.ifCond .ne 5, 3) := by decide +kernel
theorem dL_gap_21 : decode cL_gap 21 = .ok (.iload_n 3, 1) := by decide +kernel
theorem dL_gap_22 : decode cL_gap 22 = .ok (.ireturn, 1) := by decide +kernel
theorem dL_gap_23 : decode cL_gap 23 = .ok (.iinc 3 1, 3) := by decide +kernel
theorem dL_gap_26 : decode cL_gap 26 = .ok (.goto (-24), 3) := by decide +kernel
theorem dL_gap_29 : decode cL_gap 29 = .ok (.iconst (-1), 1) := by decide +kernel
theorem dL_gap_30 : decode cL_gap 30 = .ok (.ireturn, 1) := by decide +kernel
theorem dL_fallen_0 : decode cL_fallen 0 = .ok (.iconst 0, 1) := by decide +kernel
theorem dL_fallen_1 : decode cL_fallen 1 = .ok (.istore 6, 2) := by decide +kernel
theorem dL_fallen_3 : decode cL_fallen 3 = .ok (.iload_n 1, 1) := by decide +kernel
theorem dL_fallen_4 : decode cL_fallen 4 = .ok (.istore 7, 2) := by decide +kernel
theorem dL_fallen_6 : decode cL_fallen 6 = .ok (.iload 7, 2) := by decide +kernel
theorem dL_fallen_8 : decode cL_fallen 8 = .ok (.iload_n 0, 1) := by decide +kernel
theorem dL_fallen_9 : decode cL_fallen 9 = .ok (.aload 5, 2) := by decide +kernel
theorem dL_fallen_11 : decode cL_fallen 11 = .ok (.invokestatic 8, 3) := by decide +kernel
theorem dL_fallen_14 : decode cL_fallen 14 = .ok (.if_icmp .ge 36, 3) := by decide +kernel
theorem dL_fallen_17 : decode cL_fallen 17 = .ok (.aload_n 3, 1) := by decide +kernel
theorem dL_fallen_18 : decode cL_fallen 18 = .ok (.iload_n 0, 1) := by decide +kernel
theorem dL_fallen_19 : decode cL_fallen 19 = .ok (.iaload, 1) := by decide +kernel
theorem dL_fallen_20 : decode cL_fallen 20 = .ok (.iload 7, 2) := by decide +kernel
theorem dL_fallen_22 : decode cL_fallen 22 = .ok (.ishr, 1) := by decide +kernel
theorem dL_fallen_23 : decode cL_fallen 23 = .ok (.iconst 1, 1) := by decide +kernel
theorem dL_fallen_24 : decode cL_fallen 24 = .ok (.iand, 1) := by decide +kernel
theorem dL_fallen_25 : decode cL_fallen 25 = .ok (.ifCond .ne 6, 3) := by decide +kernel
theorem dL_fallen_28 : decode cL_fallen 28 = .ok (.goto 16, 3) := by decide +kernel
theorem dL_fallen_31 : decode cL_fallen 31 = .ok (.aload_n 3, 1) := by decide +kernel
theorem dL_fallen_32 : decode cL_fallen 32 = .ok (.iload_n 0, 1) := by decide +kernel
theorem dL_fallen_33 : decode cL_fallen 33 = .ok (.dup2, 1) := by decide +kernel
theorem dL_fallen_34 : decode cL_fallen 34 = .ok (.iaload, 1) := by decide +kernel
theorem dL_fallen_35 : decode cL_fallen 35 = .ok (.iconst 1, 1) := by decide +kernel
theorem dL_fallen_36 : decode cL_fallen 36 = .ok (.iload 7, 2) := by decide +kernel
theorem dL_fallen_38 : decode cL_fallen 38 = .ok (.ishl, 1) := by decide +kernel
theorem dL_fallen_39 : decode cL_fallen 39 = .ok (.isub, 1) := by decide +kernel
theorem dL_fallen_40 : decode cL_fallen 40 = .ok (.iastore, 1) := by decide +kernel
theorem dL_fallen_41 : decode cL_fallen 41 = .ok (.iinc 6 1, 3) := by decide +kernel
theorem dL_fallen_44 : decode cL_fallen 44 = .ok (.iinc 7 5, 3) := by decide +kernel
theorem dL_fallen_47 : decode cL_fallen 47 = .ok (.goto (-41), 3) := by decide +kernel
theorem dL_fallen_50 : decode cL_fallen 50 = .ok (.aload 4, 2) := by decide +kernel
theorem dL_fallen_52 : decode cL_fallen 52 = .ok (.aload_n 2, 1) := by decide +kernel
theorem dL_fallen_53 : decode cL_fallen 53 = .ok (.iload_n 0, 1) := by decide +kernel
theorem dL_fallen_54 : decode cL_fallen 54 = .ok (.iaload, 1) := by decide +kernel
theorem dL_fallen_55 : decode cL_fallen 55 = .ok (.dup2, 1) := by decide +kernel
theorem dL_fallen_56 : decode cL_fallen 56 = .ok (.iaload, 1) := by decide +kernel
theorem dL_fallen_57 : decode cL_fallen 57 = .ok (.iload 6, 2) := by decide +kernel
theorem dL_fallen_59 : decode cL_fallen 59 = .ok (.iadd, 1) := by decide +kernel
theorem dL_fallen_60 : decode cL_fallen 60 = .ok (.iastore, 1) := by decide +kernel
theorem dL_fallen_61 : decode cL_fallen 61 = .ok (.iload 6, 2) := by decide +kernel
theorem dL_fallen_63 : decode cL_fallen 63 = .ok (.ireturn, 1) := by decide +kernel
theorem dL_day_0 : decode cL_day 0 = .ok (.aload 4, 2) := by decide +kernel
theorem dL_day_2 : decode cL_day 2 = .ok (.bipush 6, 2) := by decide +kernel
theorem dL_day_4 : decode cL_day 4 = .ok (.dup2, 1) := by decide +kernel
theorem dL_day_5 : decode cL_day 5 = .ok (.iaload, 1) := by decide +kernel
theorem dL_day_6 : decode cL_day 6 = .ok (.iconst 1, 1) := by decide +kernel
theorem dL_day_7 : decode cL_day 7 = .ok (.iadd, 1) := by decide +kernel
theorem dL_day_8 : decode cL_day 8 = .ok (.iastore, 1) := by decide +kernel
theorem dL_day_9 : decode cL_day 9 = .ok (.iload_n 0, 1) := by decide +kernel
theorem dL_day_10 : decode cL_day 10 = .ok (.ifCond .le 25, 3) := by decide +kernel
theorem dL_day_13 : decode cL_day 13 = .ok (.aload 4, 2) := by decide +kernel
theorem dL_day_15 : decode cL_day 15 = .ok (.bipush 9, 2) := by decide +kernel
theorem dL_day_17 : decode cL_day 17 = .ok (.iaload, 1) := by decide +kernel
theorem dL_day_18 : decode cL_day 18 = .ok (.ifCond .ne 17, 3) := by decide +kernel
theorem dL_day_21 : decode cL_day 21 = .ok (.aload_n 1, 1) := by decide +kernel
theorem dL_day_22 : decode cL_day 22 = .ok (.aload_n 2, 1) := by decide +kernel
theorem dL_day_23 : decode cL_day 23 = .ok (.aload 4, 2) := by decide +kernel
theorem dL_day_25 : decode cL_day 25 = .ok (.invokestatic 26, 3) := by decide +kernel
theorem dL_day_28 : decode cL_day 28 = .ok (.ifCond .ne 7, 3) := by decide +kernel
theorem dL_day_31 : decode cL_day 31 = .ok (.iconst 1, 1) := by decide +kernel
theorem dL_day_32 : decode cL_day 32 = .ok (.goto 4, 3) := by decide +kernel
theorem dL_day_35 : decode cL_day 35 = .ok (.iconst 0, 1) := by decide +kernel
theorem dL_day_36 : decode cL_day 36 = .ok (.istore 5, 2) := by decide +kernel
theorem dL_day_38 : decode cL_day 38 = .ok (.aload 4, 2) := by decide +kernel
theorem dL_day_40 : decode cL_day 40 = .ok (.bipush 8, 2) := by decide +kernel
theorem dL_day_42 : decode cL_day 42 = .ok (.iload 5, 2) := by decide +kernel
theorem dL_day_44 : decode cL_day 44 = .ok (.ifCond .eq 10, 3) := by decide +kernel
theorem dL_day_47 : decode cL_day 47 = .ok (.aload 4, 2) := by decide +kernel
theorem dL_day_49 : decode cL_day 49 = .ok (.iconst 5, 1) := by decide +kernel
theorem dL_day_50 : decode cL_day 50 = .ok (.iaload, 1) := by decide +kernel
theorem dL_day_51 : decode cL_day 51 = .ok (.goto 30, 3) := by decide +kernel
theorem dL_day_54 : decode cL_day 54 = .ok (.iload_n 0, 1) := by decide +kernel
theorem dL_day_55 : decode cL_day 55 = .ok (.ifCond .ne 21, 3) := by decide +kernel
theorem dL_day_58 : decode cL_day 58 = .ok (.aload 4, 2) := by decide +kernel
theorem dL_day_60 : decode cL_day 60 = .ok (.bipush 8, 2) := by decide +kernel
theorem dL_day_62 : decode cL_day 62 = .ok (.iaload, 1) := by decide +kernel
theorem dL_day_63 : decode cL_day 63 = .ok (.ifCond .le 13, 3) := by decide +kernel
theorem dL_day_66 : decode cL_day 66 = .ok (.aload 4, 2) := by decide +kernel
theorem dL_day_68 : decode cL_day 68 = .ok (.bipush 8, 2) := by decide +kernel
theorem dL_day_70 : decode cL_day 70 = .ok (.iaload, 1) := by decide +kernel
theorem dL_day_71 : decode cL_day 71 = .ok (.iconst 1, 1) := by decide +kernel
theorem dL_day_72 : decode cL_day 72 = .ok (.isub, 1) := by decide +kernel
theorem dL_day_73 : decode cL_day 73 = .ok (.goto 8, 3) := by decide +kernel
theorem dL_day_76 : decode cL_day 76 = .ok (.aload 4, 2) := by decide +kernel
theorem dL_day_78 : decode cL_day 78 = .ok (.bipush 8, 2) := by decide +kernel
theorem dL_day_80 : decode cL_day 80 = .ok (.iaload, 1) := by decide +kernel
theorem dL_day_81 : decode cL_day 81 = .ok (.iastore, 1) := by decide +kernel
theorem dL_day_82 : decode cL_day 82 = .ok (.aload 4, 2) := by decide +kernel
theorem dL_day_84 : decode cL_day 84 = .ok (.bipush 7, 2) := by decide +kernel
theorem dL_day_86 : decode cL_day 86 = .ok (.aload 4, 2) := by decide +kernel
theorem dL_day_88 : decode cL_day 88 = .ok (.iconst 4, 1) := by decide +kernel
theorem dL_day_89 : decode cL_day 89 = .ok (.iaload, 1) := by decide +kernel
theorem dL_day_90 : decode cL_day 90 = .ok (.iastore, 1) := by decide +kernel
theorem dL_day_91 : decode cL_day 91 = .ok (.iload_n 0, 1) := by decide +kernel
theorem dL_day_92 : decode cL_day 92 = .ok (.iconst 2, 1) := by decide +kernel
theorem dL_day_93 : decode cL_day 93 = .ok (.if_icmp .lt 19, 3) := by decide +kernel
theorem dL_day_96 : decode cL_day 96 = .ok (.aload 4, 2) := by decide +kernel
theorem dL_day_98 : decode cL_day 98 = .ok (.bipush 9, 2) := by decide +kernel
theorem dL_day_100 : decode cL_day 100 = .ok (.iaload, 1) := by decide +kernel
theorem dL_day_101 : decode cL_day 101 = .ok (.iconst 1, 1) := by decide +kernel
theorem dL_day_102 : decode cL_day 102 = .ok (.if_icmp .eq 10, 3) := by decide +kernel
theorem dL_day_105 : decode cL_day 105 = .ok (.aload 4, 2) := by decide +kernel
theorem dL_day_107 : decode cL_day 107 = .ok (.iconst 2, 1) := by decide +kernel
theorem dL_day_108 : decode cL_day 108 = .ok (.iaload, 1) := by decide +kernel
theorem dL_day_109 : decode cL_day 109 = .ok (.ifCond .ne 5, 3) := by decide +kernel
theorem dL_day_112 : decode cL_day 112 = .ok (.iconst 0, 1) := by decide +kernel
theorem dL_day_113 : decode cL_day 113 = .ok (.ireturn, 1) := by decide +kernel
theorem dL_day_114 : decode cL_day 114 = .ok (.aload 4, 2) := by decide +kernel
theorem dL_day_116 : decode cL_day 116 = .ok (.iconst 2, 1) := by decide +kernel
theorem dL_day_117 : decode cL_day 117 = .ok (.iaload, 1) := by decide +kernel
theorem dL_day_118 : decode cL_day 118 = .ok (.iconst 1, 1) := by decide +kernel
theorem dL_day_119 : decode cL_day 119 = .ok (.isub, 1) := by decide +kernel
theorem dL_day_120 : decode cL_day 120 = .ok (.aload 4, 2) := by decide +kernel
theorem dL_day_122 : decode cL_day 122 = .ok (.bipush 6, 2) := by decide +kernel
theorem dL_day_124 : decode cL_day 124 = .ok (.iaload, 1) := by decide +kernel
theorem dL_day_125 : decode cL_day 125 = .ok (.iconst 5, 1) := by decide +kernel
theorem dL_day_126 : decode cL_day 126 = .ok (.irem, 1) := by decide +kernel
theorem dL_day_127 : decode cL_day 127 = .ok (.aload_n 1, 1) := by decide +kernel
theorem dL_day_128 : decode cL_day 128 = .ok (.aload_n 2, 1) := by decide +kernel
theorem dL_day_129 : decode cL_day 129 = .ok (.aload_n 3, 1) := by decide +kernel
theorem dL_day_130 : decode cL_day 130 = .ok (.aload 4, 2) := by decide +kernel
theorem dL_day_132 : decode cL_day 132 = .ok (.invokestatic 30, 3) := by decide +kernel
theorem dL_day_135 : decode cL_day 135 = .ok (.istore 6, 2) := by decide +kernel
theorem dL_day_137 : decode cL_day 137 = .ok (.aload 4, 2) := by decide +kernel
theorem dL_day_139 : decode cL_day 139 = .ok (.iconst 2, 1) := by decide +kernel
theorem dL_day_140 : decode cL_day 140 = .ok (.iaload, 1) := by decide +kernel
theorem dL_day_141 : decode cL_day 141 = .ok (.iconst 2, 1) := by decide +kernel
theorem dL_day_142 : decode cL_day 142 = .ok (.if_icmp .ge 8, 3) := by decide +kernel
theorem dL_day_145 : decode cL_day 145 = .ok (.iload 6, 2) := by decide +kernel
theorem dL_day_147 : decode cL_day 147 = .ok (.goto 29, 3) := by decide +kernel
theorem dL_day_150 : decode cL_day 150 = .ok (.iload 6, 2) := by decide +kernel
theorem dL_day_152 : decode cL_day 152 = .ok (.aload 4, 2) := by decide +kernel
theorem dL_day_154 : decode cL_day 154 = .ok (.iconst 2, 1) := by decide +kernel
theorem dL_day_155 : decode cL_day 155 = .ok (.iaload, 1) := by decide +kernel
theorem dL_day_156 : decode cL_day 156 = .ok (.iconst 2, 1) := by decide +kernel
theorem dL_day_157 : decode cL_day 157 = .ok (.isub, 1) := by decide +kernel
theorem dL_day_158 : decode cL_day 158 = .ok (.aload 4, 2) := by decide +kernel
theorem dL_day_160 : decode cL_day 160 = .ok (.bipush 6, 2) := by decide +kernel
theorem dL_day_162 : decode cL_day 162 = .ok (.iaload, 1) := by decide +kernel
theorem dL_day_163 : decode cL_day 163 = .ok (.iconst 2, 1) := by decide +kernel
theorem dL_day_164 : decode cL_day 164 = .ok (.iadd, 1) := by decide +kernel
theorem dL_day_165 : decode cL_day 165 = .ok (.iconst 5, 1) := by decide +kernel
theorem dL_day_166 : decode cL_day 166 = .ok (.irem, 1) := by decide +kernel
theorem dL_day_167 : decode cL_day 167 = .ok (.aload_n 1, 1) := by decide +kernel
theorem dL_day_168 : decode cL_day 168 = .ok (.aload_n 2, 1) := by decide +kernel
theorem dL_day_169 : decode cL_day 169 = .ok (.aload_n 3, 1) := by decide +kernel
theorem dL_day_170 : decode cL_day 170 = .ok (.aload 4, 2) := by decide +kernel
theorem dL_day_172 : decode cL_day 172 = .ok (.invokestatic 30, 3) := by decide +kernel
theorem dL_day_175 : decode cL_day 175 = .ok (.iadd, 1) := by decide +kernel
theorem dL_day_176 : decode cL_day 176 = .ok (.ireturn, 1) := by decide +kernel
theorem dL_next_0 : decode cL_next 0 = .ok (.aload_n 1, 1) := by decide +kernel
theorem dL_next_1 : decode cL_next 1 = .ok (.aload_n 2, 1) := by decide +kernel
theorem dL_next_2 : decode cL_next 2 = .ok (.invokestatic 34, 3) := by decide +kernel
theorem dL_next_5 : decode cL_next 5 = .ok (.istore_n 3, 1) := by decide +kernel
theorem dL_next_6 : decode cL_next 6 = .ok (.iload_n 3, 1) := by decide +kernel
theorem dL_next_7 : decode cL_next 7 = .ok (.bipush 7, 2) := by decide +kernel
theorem dL_next_9 : decode cL_next 9 = .ok (.if_icmp .le 24, 3) := by decide +kernel
theorem dL_next_12 : decode cL_next 12 = .ok (.aload_n 0, 1) := by decide +kernel
theorem dL_next_13 : decode cL_next 13 = .ok (.iload_n 3, 1) := by decide +kernel
theorem dL_next_14 : decode cL_next 14 = .ok (.iaload, 1) := by decide +kernel
theorem dL_next_15 : decode cL_next 15 = .ok (.aload_n 2, 1) := by decide +kernel
theorem dL_next_16 : decode cL_next 16 = .ok (.iconst 2, 1) := by decide +kernel
theorem dL_next_17 : decode cL_next 17 = .ok (.iaload, 1) := by decide +kernel
theorem dL_next_18 : decode cL_next 18 = .ok (.aload_n 2, 1) := by decide +kernel
theorem dL_next_19 : decode cL_next 19 = .ok (.invokestatic 8, 3) := by decide +kernel
theorem dL_next_22 : decode cL_next 22 = .ok (.if_icmp .lt 5, 3) := by decide +kernel
theorem dL_next_25 : decode cL_next 25 = .ok (.iload_n 3, 1) := by decide +kernel
theorem dL_next_26 : decode cL_next 26 = .ok (.ireturn, 1) := by decide +kernel
theorem dL_next_27 : decode cL_next 27 = .ok (.iinc 3 (-1), 3) := by decide +kernel
theorem dL_next_30 : decode cL_next 30 = .ok (.goto (-24), 3) := by decide +kernel
theorem dL_next_33 : decode cL_next 33 = .ok (.iconst 0, 1) := by decide +kernel
theorem dL_next_34 : decode cL_next 34 = .ok (.ireturn, 1) := by decide +kernel
theorem dL_slaters_0 : decode cL_slaters 0 = .ok (.iconst 0, 1) := by decide +kernel
theorem dL_slaters_1 : decode cL_slaters 1 = .ok (.istore 4, 2) := by decide +kernel
theorem dL_slaters_3 : decode cL_slaters 3 = .ok (.aload_n 3, 1) := by decide +kernel
theorem dL_slaters_4 : decode cL_slaters 4 = .ok (.bipush 8, 2) := by decide +kernel
theorem dL_slaters_6 : decode cL_slaters 6 = .ok (.iaload, 1) := by decide +kernel
theorem dL_slaters_7 : decode cL_slaters 7 = .ok (.ifCond .ne 255, 3) := by decide +kernel
theorem dL_slaters_10 : decode cL_slaters 10 = .ok (.aload_n 3, 1) := by decide +kernel
theorem dL_slaters_11 : decode cL_slaters 11 = .ok (.bipush 9, 2) := by decide +kernel
theorem dL_slaters_13 : decode cL_slaters 13 = .ok (.iaload, 1) := by decide +kernel
theorem dL_slaters_14 : decode cL_slaters 14 = .ok (.ifCond .ne 248, 3) := by decide +kernel
theorem dL_slaters_17 : decode cL_slaters 17 = .ok (.iconst 0, 1) := by decide +kernel
theorem dL_slaters_18 : decode cL_slaters 18 = .ok (.istore 5, 2) := by decide +kernel
theorem dL_slaters_20 : decode cL_slaters 20 = .ok (.iload 5, 2) := by decide +kernel
theorem dL_slaters_22 : decode cL_slaters 22 = .ok (.aload_n 3, 1) := by decide +kernel
theorem dL_slaters_23 : decode cL_slaters 23 = .ok (.iconst 2, 1) := by decide +kernel
theorem dL_slaters_24 : decode cL_slaters 24 = .ok (.iaload, 1) := by decide +kernel
theorem dL_slaters_25 : decode cL_slaters 25 = .ok (.iconst 1, 1) := by decide +kernel
theorem dL_slaters_26 : decode cL_slaters 26 = .ok (.isub, 1) := by decide +kernel
theorem dL_slaters_27 : decode cL_slaters 27 = .ok (.if_icmp .ge 22, 3) := by decide +kernel
theorem dL_slaters_30 : decode cL_slaters 30 = .ok (.aload_n 1, 1) := by decide +kernel
theorem dL_slaters_31 : decode cL_slaters 31 = .ok (.iload 5, 2) := by decide +kernel
theorem dL_slaters_33 : decode cL_slaters 33 = .ok (.iaload, 1) := by decide +kernel
theorem dL_slaters_34 : decode cL_slaters 34 = .ok (.iload 5, 2) := by decide +kernel
theorem dL_slaters_36 : decode cL_slaters 36 = .ok (.aload_n 3, 1) := by decide +kernel
theorem dL_slaters_37 : decode cL_slaters 37 = .ok (.invokestatic 23, 3) := by decide +kernel
theorem dL_slaters_40 : decode cL_slaters 40 = .ok (.if_icmp .ne 9, 3) := by decide +kernel
theorem dL_slaters_43 : decode cL_slaters 43 = .ok (.iinc 5 1, 3) := by decide +kernel
theorem dL_slaters_46 : decode cL_slaters 46 = .ok (.goto (-26), 3) := by decide +kernel
theorem dL_slaters_49 : decode cL_slaters 49 = .ok (.iload 5, 2) := by decide +kernel
theorem dL_slaters_51 : decode cL_slaters 51 = .ok (.aload_n 3, 1) := by decide +kernel
theorem dL_slaters_52 : decode cL_slaters 52 = .ok (.iconst 2, 1) := by decide +kernel
theorem dL_slaters_53 : decode cL_slaters 53 = .ok (.iaload, 1) := by decide +kernel
theorem dL_slaters_54 : decode cL_slaters 54 = .ok (.iconst 1, 1) := by decide +kernel
theorem dL_slaters_55 : decode cL_slaters 55 = .ok (.isub, 1) := by decide +kernel
theorem dL_slaters_56 : decode cL_slaters 56 = .ok (.if_icmp .ge 7, 3) := by decide +kernel
theorem dL_slaters_59 : decode cL_slaters 59 = .ok (.iconst 1, 1) := by decide +kernel
theorem dL_slaters_60 : decode cL_slaters 60 = .ok (.goto 4, 3) := by decide +kernel
theorem dL_slaters_63 : decode cL_slaters 63 = .ok (.iconst 0, 1) := by decide +kernel
theorem dL_slaters_64 : decode cL_slaters 64 = .ok (.istore 6, 2) := by decide +kernel
theorem dL_slaters_66 : decode cL_slaters 66 = .ok (.iload 6, 2) := by decide +kernel
theorem dL_slaters_68 : decode cL_slaters 68 = .ok (.ifCond .eq 60, 3) := by decide +kernel
theorem dL_slaters_71 : decode cL_slaters 71 = .ok (.aload_n 2, 1) := by decide +kernel
theorem dL_slaters_72 : decode cL_slaters 72 = .ok (.aload_n 0, 1) := by decide +kernel
theorem dL_slaters_73 : decode cL_slaters 73 = .ok (.iload 5, 2) := by decide +kernel
theorem dL_slaters_75 : decode cL_slaters 75 = .ok (.iaload, 1) := by decide +kernel
theorem dL_slaters_76 : decode cL_slaters 76 = .ok (.iaload, 1) := by decide +kernel
theorem dL_slaters_77 : decode cL_slaters 77 = .ok (.ifCond .le 51, 3) := by decide +kernel
theorem dL_slaters_80 : decode cL_slaters 80 = .ok (.aload_n 3, 1) := by decide +kernel
theorem dL_slaters_81 : decode cL_slaters 81 = .ok (.bipush 7, 2) := by decide +kernel
theorem dL_slaters_83 : decode cL_slaters 83 = .ok (.iaload, 1) := by decide +kernel
theorem dL_slaters_84 : decode cL_slaters 84 = .ok (.iconst 2, 1) := by decide +kernel
theorem dL_slaters_85 : decode cL_slaters 85 = .ok (.if_icmp .le 43, 3) := by decide +kernel
theorem dL_slaters_88 : decode cL_slaters 88 = .ok (.aload_n 1, 1) := by decide +kernel
theorem dL_slaters_89 : decode cL_slaters 89 = .ok (.iload 5, 2) := by decide +kernel
theorem dL_slaters_91 : decode cL_slaters 91 = .ok (.dup2, 1) := by decide +kernel
theorem dL_slaters_92 : decode cL_slaters 92 = .ok (.iaload, 1) := by decide +kernel
theorem dL_slaters_93 : decode cL_slaters 93 = .ok (.iconst 1, 1) := by decide +kernel
theorem dL_slaters_94 : decode cL_slaters 94 = .ok (.iload 5, 2) := by decide +kernel
theorem dL_slaters_96 : decode cL_slaters 96 = .ok (.aload_n 1, 1) := by decide +kernel
theorem dL_slaters_97 : decode cL_slaters 97 = .ok (.aload_n 3, 1) := by decide +kernel
theorem dL_slaters_98 : decode cL_slaters 98 = .ok (.invokestatic 38, 3) := by decide +kernel
theorem dL_slaters_101 : decode cL_slaters 101 = .ok (.ishl, 1) := by decide +kernel
theorem dL_slaters_102 : decode cL_slaters 102 = .ok (.ior, 1) := by decide +kernel
theorem dL_slaters_103 : decode cL_slaters 103 = .ok (.iastore, 1) := by decide +kernel
theorem dL_slaters_104 : decode cL_slaters 104 = .ok (.aload_n 2, 1) := by decide +kernel
theorem dL_slaters_105 : decode cL_slaters 105 = .ok (.aload_n 0, 1) := by decide +kernel
theorem dL_slaters_106 : decode cL_slaters 106 = .ok (.iload 5, 2) := by decide +kernel
theorem dL_slaters_108 : decode cL_slaters 108 = .ok (.iaload, 1) := by decide +kernel
theorem dL_slaters_109 : decode cL_slaters 109 = .ok (.dup2, 1) := by decide +kernel
theorem dL_slaters_110 : decode cL_slaters 110 = .ok (.iaload, 1) := by decide +kernel
theorem dL_slaters_111 : decode cL_slaters 111 = .ok (.iconst 1, 1) := by decide +kernel
theorem dL_slaters_112 : decode cL_slaters 112 = .ok (.isub, 1) := by decide +kernel
theorem dL_slaters_113 : decode cL_slaters 113 = .ok (.iastore, 1) := by decide +kernel
theorem dL_slaters_114 : decode cL_slaters 114 = .ok (.aload_n 3, 1) := by decide +kernel
theorem dL_slaters_115 : decode cL_slaters 115 = .ok (.bipush 7, 2) := by decide +kernel
theorem dL_slaters_117 : decode cL_slaters 117 = .ok (.dup2, 1) := by decide +kernel
theorem dL_slaters_118 : decode cL_slaters 118 = .ok (.iaload, 1) := by decide +kernel
theorem dL_slaters_119 : decode cL_slaters 119 = .ok (.iconst 3, 1) := by decide +kernel
theorem dL_slaters_120 : decode cL_slaters 120 = .ok (.isub, 1) := by decide +kernel
theorem dL_slaters_121 : decode cL_slaters 121 = .ok (.iastore, 1) := by decide +kernel
theorem dL_slaters_122 : decode cL_slaters 122 = .ok (.iinc 4 1, 3) := by decide +kernel
theorem dL_slaters_125 : decode cL_slaters 125 = .ok (.goto (-122), 3) := by decide +kernel
theorem dL_slaters_128 : decode cL_slaters 128 = .ok (.aload_n 3, 1) := by decide +kernel
theorem dL_slaters_129 : decode cL_slaters 129 = .ok (.iconst 2, 1) := by decide +kernel
theorem dL_slaters_130 : decode cL_slaters 130 = .ok (.iaload, 1) := by decide +kernel
theorem dL_slaters_131 : decode cL_slaters 131 = .ok (.iconst 1, 1) := by decide +kernel
theorem dL_slaters_132 : decode cL_slaters 132 = .ok (.isub, 1) := by decide +kernel
theorem dL_slaters_133 : decode cL_slaters 133 = .ok (.istore 7, 2) := by decide +kernel
theorem dL_slaters_135 : decode cL_slaters 135 = .ok (.iload 7, 2) := by decide +kernel
theorem dL_slaters_137 : decode cL_slaters 137 = .ok (.ifCond .lt 72, 3) := by decide +kernel
theorem dL_slaters_140 : decode cL_slaters 140 = .ok (.iload 7, 2) := by decide +kernel
theorem dL_slaters_142 : decode cL_slaters 142 = .ok (.aload_n 1, 1) := by decide +kernel
theorem dL_slaters_143 : decode cL_slaters 143 = .ok (.aload_n 3, 1) := by decide +kernel
theorem dL_slaters_144 : decode cL_slaters 144 = .ok (.invokestatic 38, 3) := by decide +kernel
theorem dL_slaters_147 : decode cL_slaters 147 = .ok (.ifCond .lt 62, 3) := by decide +kernel
theorem dL_slaters_150 : decode cL_slaters 150 = .ok (.aload_n 2, 1) := by decide +kernel
theorem dL_slaters_151 : decode cL_slaters 151 = .ok (.aload_n 0, 1) := by decide +kernel
theorem dL_slaters_152 : decode cL_slaters 152 = .ok (.iload 7, 2) := by decide +kernel
theorem dL_slaters_154 : decode cL_slaters 154 = .ok (.iaload, 1) := by decide +kernel
theorem dL_slaters_155 : decode cL_slaters 155 = .ok (.iaload, 1) := by decide +kernel
theorem dL_slaters_156 : decode cL_slaters 156 = .ok (.ifCond .eq 10, 3) := by decide +kernel
theorem dL_slaters_159 : decode cL_slaters 159 = .ok (.aload_n 3, 1) := by decide +kernel
theorem dL_slaters_160 : decode cL_slaters 160 = .ok (.bipush 7, 2) := by decide +kernel
theorem dL_slaters_162 : decode cL_slaters 162 = .ok (.iaload, 1) := by decide +kernel
theorem dL_slaters_163 : decode cL_slaters 163 = .ok (.ifCond .ne 6, 3) := by decide +kernel
theorem dL_slaters_166 : decode cL_slaters 166 = .ok (.iload 4, 2) := by decide +kernel
theorem dL_slaters_168 : decode cL_slaters 168 = .ok (.ireturn, 1) := by decide +kernel
theorem dL_slaters_169 : decode cL_slaters 169 = .ok (.aload_n 1, 1) := by decide +kernel
theorem dL_slaters_170 : decode cL_slaters 170 = .ok (.iload 7, 2) := by decide +kernel
theorem dL_slaters_172 : decode cL_slaters 172 = .ok (.dup2, 1) := by decide +kernel
theorem dL_slaters_173 : decode cL_slaters 173 = .ok (.iaload, 1) := by decide +kernel
theorem dL_slaters_174 : decode cL_slaters 174 = .ok (.iconst 1, 1) := by decide +kernel
theorem dL_slaters_175 : decode cL_slaters 175 = .ok (.iload 7, 2) := by decide +kernel
theorem dL_slaters_177 : decode cL_slaters 177 = .ok (.aload_n 1, 1) := by decide +kernel
theorem dL_slaters_178 : decode cL_slaters 178 = .ok (.aload_n 3, 1) := by decide +kernel
theorem dL_slaters_179 : decode cL_slaters 179 = .ok (.invokestatic 38, 3) := by decide +kernel
theorem dL_slaters_182 : decode cL_slaters 182 = .ok (.ishl, 1) := by decide +kernel
theorem dL_slaters_183 : decode cL_slaters 183 = .ok (.ior, 1) := by decide +kernel
theorem dL_slaters_184 : decode cL_slaters 184 = .ok (.iastore, 1) := by decide +kernel
theorem dL_slaters_185 : decode cL_slaters 185 = .ok (.aload_n 2, 1) := by decide +kernel
theorem dL_slaters_186 : decode cL_slaters 186 = .ok (.aload_n 0, 1) := by decide +kernel
theorem dL_slaters_187 : decode cL_slaters 187 = .ok (.iload 7, 2) := by decide +kernel
theorem dL_slaters_189 : decode cL_slaters 189 = .ok (.iaload, 1) := by decide +kernel
theorem dL_slaters_190 : decode cL_slaters 190 = .ok (.dup2, 1) := by decide +kernel
theorem dL_slaters_191 : decode cL_slaters 191 = .ok (.iaload, 1) := by decide +kernel
theorem dL_slaters_192 : decode cL_slaters 192 = .ok (.iconst 1, 1) := by decide +kernel
theorem dL_slaters_193 : decode cL_slaters 193 = .ok (.isub, 1) := by decide +kernel
theorem dL_slaters_194 : decode cL_slaters 194 = .ok (.iastore, 1) := by decide +kernel
theorem dL_slaters_195 : decode cL_slaters 195 = .ok (.aload_n 3, 1) := by decide +kernel
theorem dL_slaters_196 : decode cL_slaters 196 = .ok (.bipush 7, 2) := by decide +kernel
theorem dL_slaters_198 : decode cL_slaters 198 = .ok (.dup2, 1) := by decide +kernel
theorem dL_slaters_199 : decode cL_slaters 199 = .ok (.iaload, 1) := by decide +kernel
theorem dL_slaters_200 : decode cL_slaters 200 = .ok (.iconst 1, 1) := by decide +kernel
theorem dL_slaters_201 : decode cL_slaters 201 = .ok (.isub, 1) := by decide +kernel
theorem dL_slaters_202 : decode cL_slaters 202 = .ok (.iastore, 1) := by decide +kernel
theorem dL_slaters_203 : decode cL_slaters 203 = .ok (.iinc 4 1, 3) := by decide +kernel
theorem dL_slaters_206 : decode cL_slaters 206 = .ok (.goto (-203), 3) := by decide +kernel
theorem dL_slaters_209 : decode cL_slaters 209 = .ok (.aload_n 3, 1) := by decide +kernel
theorem dL_slaters_210 : decode cL_slaters 210 = .ok (.iconst 2, 1) := by decide +kernel
theorem dL_slaters_211 : decode cL_slaters 211 = .ok (.iaload, 1) := by decide +kernel
theorem dL_slaters_212 : decode cL_slaters 212 = .ok (.aload_n 0, 1) := by decide +kernel
theorem dL_slaters_213 : decode cL_slaters 213 = .ok (.aload_n 3, 1) := by decide +kernel
theorem dL_slaters_214 : decode cL_slaters 214 = .ok (.invokestatic 19, 3) := by decide +kernel
theorem dL_slaters_217 : decode cL_slaters 217 = .ok (.aload_n 3, 1) := by decide +kernel
theorem dL_slaters_218 : decode cL_slaters 218 = .ok (.iconst 0, 1) := by decide +kernel
theorem dL_slaters_219 : decode cL_slaters 219 = .ok (.iaload, 1) := by decide +kernel
theorem dL_slaters_220 : decode cL_slaters 220 = .ok (.if_icmp .ge 12, 3) := by decide +kernel
theorem dL_slaters_223 : decode cL_slaters 223 = .ok (.aload_n 2, 1) := by decide +kernel
theorem dL_slaters_224 : decode cL_slaters 224 = .ok (.aload_n 0, 1) := by decide +kernel
theorem dL_slaters_225 : decode cL_slaters 225 = .ok (.aload_n 3, 1) := by decide +kernel
theorem dL_slaters_226 : decode cL_slaters 226 = .ok (.invokestatic 41, 3) := by decide +kernel
theorem dL_slaters_229 : decode cL_slaters 229 = .ok (.ifCond .ne 6, 3) := by decide +kernel
theorem dL_slaters_232 : decode cL_slaters 232 = .ok (.iload 4, 2) := by decide +kernel
theorem dL_slaters_234 : decode cL_slaters 234 = .ok (.ireturn, 1) := by decide +kernel
theorem dL_slaters_235 : decode cL_slaters 235 = .ok (.aload_n 0, 1) := by decide +kernel
theorem dL_slaters_236 : decode cL_slaters 236 = .ok (.aload_n 3, 1) := by decide +kernel
theorem dL_slaters_237 : decode cL_slaters 237 = .ok (.iconst 2, 1) := by decide +kernel
theorem dL_slaters_238 : decode cL_slaters 238 = .ok (.iaload, 1) := by decide +kernel
theorem dL_slaters_239 : decode cL_slaters 239 = .ok (.aload_n 2, 1) := by decide +kernel
theorem dL_slaters_240 : decode cL_slaters 240 = .ok (.aload_n 0, 1) := by decide +kernel
theorem dL_slaters_241 : decode cL_slaters 241 = .ok (.aload_n 3, 1) := by decide +kernel
theorem dL_slaters_242 : decode cL_slaters 242 = .ok (.invokestatic 41, 3) := by decide +kernel
theorem dL_slaters_245 : decode cL_slaters 245 = .ok (.iastore, 1) := by decide +kernel
theorem dL_slaters_246 : decode cL_slaters 246 = .ok (.aload_n 1, 1) := by decide +kernel
theorem dL_slaters_247 : decode cL_slaters 247 = .ok (.aload_n 3, 1) := by decide +kernel
theorem dL_slaters_248 : decode cL_slaters 248 = .ok (.iconst 2, 1) := by decide +kernel
theorem dL_slaters_249 : decode cL_slaters 249 = .ok (.iaload, 1) := by decide +kernel
theorem dL_slaters_250 : decode cL_slaters 250 = .ok (.iconst 0, 1) := by decide +kernel
theorem dL_slaters_251 : decode cL_slaters 251 = .ok (.iastore, 1) := by decide +kernel
theorem dL_slaters_252 : decode cL_slaters 252 = .ok (.aload_n 3, 1) := by decide +kernel
theorem dL_slaters_253 : decode cL_slaters 253 = .ok (.iconst 2, 1) := by decide +kernel
theorem dL_slaters_254 : decode cL_slaters 254 = .ok (.dup2, 1) := by decide +kernel
theorem dL_slaters_255 : decode cL_slaters 255 = .ok (.iaload, 1) := by decide +kernel
theorem dL_slaters_256 : decode cL_slaters 256 = .ok (.iconst 1, 1) := by decide +kernel
theorem dL_slaters_257 : decode cL_slaters 257 = .ok (.iadd, 1) := by decide +kernel
theorem dL_slaters_258 : decode cL_slaters 258 = .ok (.iastore, 1) := by decide +kernel
theorem dL_slaters_259 : decode cL_slaters 259 = .ok (.goto (-256), 3) := by decide +kernel
theorem dL_slaters_262 : decode cL_slaters 262 = .ok (.iload 4, 2) := by decide +kernel
theorem dL_slaters_264 : decode cL_slaters 264 = .ok (.ireturn, 1) := by decide +kernel
theorem dL_courses_0 : decode cL_courses 0 = .ok (.iload_n 2, 1) := by decide +kernel
theorem dL_courses_1 : decode cL_courses 1 = .ok (.iload_n 1, 1) := by decide +kernel
theorem dL_courses_2 : decode cL_courses 2 = .ok (.aload 5, 2) := by decide +kernel
theorem dL_courses_4 : decode cL_courses 4 = .ok (.invokestatic 8, 3) := by decide +kernel
theorem dL_courses_7 : decode cL_courses 7 = .ok (.invokestatic 45, 3) := by decide +kernel
theorem dL_courses_10 : decode cL_courses 10 = .ok (.istore 6, 2) := by decide +kernel
theorem dL_courses_12 : decode cL_courses 12 = .ok (.iconst (-1), 1) := by decide +kernel
theorem dL_courses_13 : decode cL_courses 13 = .ok (.istore 7, 2) := by decide +kernel
theorem dL_courses_15 : decode cL_courses 15 = .ok (.iconst 0, 1) := by decide +kernel
theorem dL_courses_16 : decode cL_courses 16 = .ok (.istore 8, 2) := by decide +kernel
theorem dL_courses_18 : decode cL_courses 18 = .ok (.iload 8, 2) := by decide +kernel
theorem dL_courses_20 : decode cL_courses 20 = .ok (.iload_n 1, 1) := by decide +kernel
theorem dL_courses_21 : decode cL_courses 21 = .ok (.aload 5, 2) := by decide +kernel
theorem dL_courses_23 : decode cL_courses 23 = .ok (.invokestatic 8, 3) := by decide +kernel
theorem dL_courses_26 : decode cL_courses 26 = .ok (.if_icmp .ge 30, 3) := by decide +kernel
theorem dL_courses_29 : decode cL_courses 29 = .ok (.aload 4, 2) := by decide +kernel
theorem dL_courses_31 : decode cL_courses 31 = .ok (.iload_n 1, 1) := by decide +kernel
theorem dL_courses_32 : decode cL_courses 32 = .ok (.iaload, 1) := by decide +kernel
theorem dL_courses_33 : decode cL_courses 33 = .ok (.iload 8, 2) := by decide +kernel
theorem dL_courses_35 : decode cL_courses 35 = .ok (.ishr, 1) := by decide +kernel
theorem dL_courses_36 : decode cL_courses 36 = .ok (.iconst 1, 1) := by decide +kernel
theorem dL_courses_37 : decode cL_courses 37 = .ok (.iand, 1) := by decide +kernel
theorem dL_courses_38 : decode cL_courses 38 = .ok (.ifCond .ne 8, 3) := by decide +kernel
theorem dL_courses_41 : decode cL_courses 41 = .ok (.iload 8, 2) := by decide +kernel
theorem dL_courses_43 : decode cL_courses 43 = .ok (.goto 5, 3) := by decide +kernel
theorem dL_courses_46 : decode cL_courses 46 = .ok (.iload 7, 2) := by decide +kernel
theorem dL_courses_48 : decode cL_courses 48 = .ok (.istore 7, 2) := by decide +kernel
theorem dL_courses_50 : decode cL_courses 50 = .ok (.iinc 8 1, 3) := by decide +kernel
theorem dL_courses_53 : decode cL_courses 53 = .ok (.goto (-35), 3) := by decide +kernel
theorem dL_courses_56 : decode cL_courses 56 = .ok (.aload_n 0, 1) := by decide +kernel
theorem dL_courses_57 : decode cL_courses 57 = .ok (.iload_n 1, 1) := by decide +kernel
theorem dL_courses_58 : decode cL_courses 58 = .ok (.iconst 0, 1) := by decide +kernel
theorem dL_courses_59 : decode cL_courses 59 = .ok (.invokevirtual 49, 3) := by decide +kernel
theorem dL_courses_62 : decode cL_courses 62 = .ok (.aload_n 3, 1) := by decide +kernel
theorem dL_courses_63 : decode cL_courses 63 = .ok (.iload_n 1, 1) := by decide +kernel
theorem dL_courses_64 : decode cL_courses 64 = .ok (.iaload, 1) := by decide +kernel
theorem dL_courses_65 : decode cL_courses 65 = .ok (.if_icmp .ne 71, 3) := by decide +kernel
theorem dL_courses_68 : decode cL_courses 68 = .ok (.aload_n 0, 1) := by decide +kernel
theorem dL_courses_69 : decode cL_courses 69 = .ok (.iload_n 1, 1) := by decide +kernel
theorem dL_courses_70 : decode cL_courses 70 = .ok (.iconst 1, 1) := by decide +kernel
theorem dL_courses_71 : decode cL_courses 71 = .ok (.invokevirtual 49, 3) := by decide +kernel
theorem dL_courses_74 : decode cL_courses 74 = .ok (.iload_n 1, 1) := by decide +kernel
theorem dL_courses_75 : decode cL_courses 75 = .ok (.aload 5, 2) := by decide +kernel
theorem dL_courses_77 : decode cL_courses 77 = .ok (.invokestatic 8, 3) := by decide +kernel
theorem dL_courses_80 : decode cL_courses 80 = .ok (.if_icmp .ne 56, 3) := by decide +kernel
theorem dL_courses_83 : decode cL_courses 83 = .ok (.aload_n 0, 1) := by decide +kernel
theorem dL_courses_84 : decode cL_courses 84 = .ok (.iload_n 1, 1) := by decide +kernel
theorem dL_courses_85 : decode cL_courses 85 = .ok (.iconst 2, 1) := by decide +kernel
theorem dL_courses_86 : decode cL_courses 86 = .ok (.invokevirtual 49, 3) := by decide +kernel
theorem dL_courses_89 : decode cL_courses 89 = .ok (.aload 4, 2) := by decide +kernel
theorem dL_courses_91 : decode cL_courses 91 = .ok (.iload_n 1, 1) := by decide +kernel
theorem dL_courses_92 : decode cL_courses 92 = .ok (.iaload, 1) := by decide +kernel
theorem dL_courses_93 : decode cL_courses 93 = .ok (.invokestatic 15, 3) := by decide +kernel
theorem dL_courses_96 : decode cL_courses 96 = .ok (.if_icmp .ne 40, 3) := by decide +kernel
theorem dL_courses_99 : decode cL_courses 99 = .ok (.aload_n 0, 1) := by decide +kernel
theorem dL_courses_100 : decode cL_courses 100 = .ok (.iload_n 1, 1) := by decide +kernel
theorem dL_courses_101 : decode cL_courses 101 = .ok (.iconst 3, 1) := by decide +kernel
theorem dL_courses_102 : decode cL_courses 102 = .ok (.invokevirtual 49, 3) := by decide +kernel
theorem dL_courses_105 : decode cL_courses 105 = .ok (.aload_n 3, 1) := by decide +kernel
theorem dL_courses_106 : decode cL_courses 106 = .ok (.iload_n 1, 1) := by decide +kernel
theorem dL_courses_107 : decode cL_courses 107 = .ok (.iaload, 1) := by decide +kernel
theorem dL_courses_108 : decode cL_courses 108 = .ok (.aload 5, 2) := by decide +kernel
theorem dL_courses_110 : decode cL_courses 110 = .ok (.iconst 3, 1) := by decide +kernel
theorem dL_courses_111 : decode cL_courses 111 = .ok (.iaload, 1) := by decide +kernel
theorem dL_courses_112 : decode cL_courses 112 = .ok (.isub, 1) := by decide +kernel
theorem dL_courses_113 : decode cL_courses 113 = .ok (.iconst 2, 1) := by decide +kernel
theorem dL_courses_114 : decode cL_courses 114 = .ok (.idiv, 1) := by decide +kernel
theorem dL_courses_115 : decode cL_courses 115 = .ok (.if_icmp .ne 21, 3) := by decide +kernel
theorem dL_courses_118 : decode cL_courses 118 = .ok (.aload_n 0, 1) := by decide +kernel
theorem dL_courses_119 : decode cL_courses 119 = .ok (.iload_n 1, 1) := by decide +kernel
theorem dL_courses_120 : decode cL_courses 120 = .ok (.iconst 4, 1) := by decide +kernel
theorem dL_courses_121 : decode cL_courses 121 = .ok (.invokevirtual 49, 3) := by decide +kernel
theorem dL_courses_124 : decode cL_courses 124 = .ok (.iload_n 1, 1) := by decide +kernel
theorem dL_courses_125 : decode cL_courses 125 = .ok (.iconst 1, 1) := by decide +kernel
theorem dL_courses_126 : decode cL_courses 126 = .ok (.iadd, 1) := by decide +kernel
theorem dL_courses_127 : decode cL_courses 127 = .ok (.aload_n 3, 1) := by decide +kernel
theorem dL_courses_128 : decode cL_courses 128 = .ok (.aload 5, 2) := by decide +kernel
theorem dL_courses_130 : decode cL_courses 130 = .ok (.invokestatic 19, 3) := by decide +kernel
theorem dL_courses_133 : decode cL_courses 133 = .ok (.if_icmp .eq 5, 3) := by decide +kernel
theorem dL_courses_136 : decode cL_courses 136 = .ok (.iconst 0, 1) := by decide +kernel
theorem dL_courses_137 : decode cL_courses 137 = .ok (.ireturn, 1) := by decide +kernel
theorem dL_courses_138 : decode cL_courses 138 = .ok (.aload_n 0, 1) := by decide +kernel
theorem dL_courses_139 : decode cL_courses 139 = .ok (.iload_n 1, 1) := by decide +kernel
theorem dL_courses_140 : decode cL_courses 140 = .ok (.iconst 5, 1) := by decide +kernel
theorem dL_courses_141 : decode cL_courses 141 = .ok (.invokevirtual 49, 3) := by decide +kernel
theorem dL_courses_144 : decode cL_courses 144 = .ok (.iload_n 1, 1) := by decide +kernel
theorem dL_courses_145 : decode cL_courses 145 = .ok (.aload 4, 2) := by decide +kernel
theorem dL_courses_147 : decode cL_courses 147 = .ok (.aload 5, 2) := by decide +kernel
theorem dL_courses_149 : decode cL_courses 149 = .ok (.invokestatic 38, 3) := by decide +kernel
theorem dL_courses_152 : decode cL_courses 152 = .ok (.if_icmp .ne 47, 3) := by decide +kernel
theorem dL_courses_155 : decode cL_courses 155 = .ok (.aload_n 0, 1) := by decide +kernel
theorem dL_courses_156 : decode cL_courses 156 = .ok (.iload_n 1, 1) := by decide +kernel
theorem dL_courses_157 : decode cL_courses 157 = .ok (.bipush 6, 2) := by decide +kernel
theorem dL_courses_159 : decode cL_courses 159 = .ok (.invokevirtual 49, 3) := by decide +kernel
theorem dL_courses_162 : decode cL_courses 162 = .ok (.iload 7, 2) := by decide +kernel
theorem dL_courses_164 : decode cL_courses 164 = .ok (.if_icmp .ne 35, 3) := by decide +kernel
theorem dL_courses_167 : decode cL_courses 167 = .ok (.aload_n 0, 1) := by decide +kernel
theorem dL_courses_168 : decode cL_courses 168 = .ok (.iload_n 1, 1) := by decide +kernel
theorem dL_courses_169 : decode cL_courses 169 = .ok (.iload 6, 2) := by decide +kernel
theorem dL_courses_171 : decode cL_courses 171 = .ok (.invokevirtual 54, 3) := by decide +kernel
theorem dL_courses_174 : decode cL_courses 174 = .ok (.aload 4, 2) := by decide +kernel
theorem dL_courses_176 : decode cL_courses 176 = .ok (.iload_n 1, 1) := by decide +kernel
theorem dL_courses_177 : decode cL_courses 177 = .ok (.iaload, 1) := by decide +kernel
theorem dL_courses_178 : decode cL_courses 178 = .ok (.iload 6, 2) := by decide +kernel
theorem dL_courses_180 : decode cL_courses 180 = .ok (.ishr, 1) := by decide +kernel
theorem dL_courses_181 : decode cL_courses 181 = .ok (.iconst 1, 1) := by decide +kernel
theorem dL_courses_182 : decode cL_courses 182 = .ok (.iand, 1) := by decide +kernel
theorem dL_courses_183 : decode cL_courses 183 = .ok (.iconst 1, 1) := by decide +kernel
theorem dL_courses_184 : decode cL_courses 184 = .ok (.if_icmp .ne 7, 3) := by decide +kernel
theorem dL_courses_187 : decode cL_courses 187 = .ok (.iconst 1, 1) := by decide +kernel
theorem dL_courses_188 : decode cL_courses 188 = .ok (.goto 4, 3) := by decide +kernel
theorem dL_courses_191 : decode cL_courses 191 = .ok (.iconst 0, 1) := by decide +kernel
theorem dL_courses_192 : decode cL_courses 192 = .ok (.if_icmp .ne 7, 3) := by decide +kernel
theorem dL_courses_195 : decode cL_courses 195 = .ok (.iconst 1, 1) := by decide +kernel
theorem dL_courses_196 : decode cL_courses 196 = .ok (.goto 4, 3) := by decide +kernel
theorem dL_courses_199 : decode cL_courses 199 = .ok (.iconst 0, 1) := by decide +kernel
theorem dL_courses_200 : decode cL_courses 200 = .ok (.ireturn, 1) := by decide +kernel
theorem dL_told_0 : decode cL_told 0 = .ok (.iconst 0, 1) := by decide +kernel
theorem dL_told_1 : decode cL_told 1 = .ok (.istore 8, 2) := by decide +kernel
theorem dL_told_3 : decode cL_told 3 = .ok (.iconst 0, 1) := by decide +kernel
theorem dL_told_4 : decode cL_told 4 = .ok (.istore 9, 2) := by decide +kernel
theorem dL_told_6 : decode cL_told 6 = .ok (.iload 9, 2) := by decide +kernel
theorem dL_told_8 : decode cL_told 8 = .ok (.aload 7, 2) := by decide +kernel
theorem dL_told_10 : decode cL_told 10 = .ok (.iconst 2, 1) := by decide +kernel
theorem dL_told_11 : decode cL_told 11 = .ok (.iaload, 1) := by decide +kernel
theorem dL_told_12 : decode cL_told 12 = .ok (.if_icmp .ge 29, 3) := by decide +kernel
theorem dL_told_15 : decode cL_told 15 = .ok (.iload 8, 2) := by decide +kernel
theorem dL_told_17 : decode cL_told 17 = .ok (.iload 9, 2) := by decide +kernel
theorem dL_told_19 : decode cL_told 19 = .ok (.aload 7, 2) := by decide +kernel
theorem dL_told_21 : decode cL_told 21 = .ok (.invokestatic 8, 3) := by decide +kernel
theorem dL_told_24 : decode cL_told 24 = .ok (.aload_n 3, 1) := by decide +kernel
theorem dL_told_25 : decode cL_told 25 = .ok (.iload 9, 2) := by decide +kernel
theorem dL_told_27 : decode cL_told 27 = .ok (.iaload, 1) := by decide +kernel
theorem dL_told_28 : decode cL_told 28 = .ok (.invokestatic 15, 3) := by decide +kernel
theorem dL_told_31 : decode cL_told 31 = .ok (.isub, 1) := by decide +kernel
theorem dL_told_32 : decode cL_told 32 = .ok (.iadd, 1) := by decide +kernel
theorem dL_told_33 : decode cL_told 33 = .ok (.istore 8, 2) := by decide +kernel
theorem dL_told_35 : decode cL_told 35 = .ok (.iinc 9 1, 3) := by decide +kernel
theorem dL_told_38 : decode cL_told 38 = .ok (.goto (-32), 3) := by decide +kernel
theorem dL_told_41 : decode cL_told 41 = .ok (.iconst 0, 1) := by decide +kernel
theorem dL_told_42 : decode cL_told 42 = .ok (.istore 9, 2) := by decide +kernel
theorem dL_told_44 : decode cL_told 44 = .ok (.iload 9, 2) := by decide +kernel
theorem dL_told_46 : decode cL_told 46 = .ok (.iconst 3, 1) := by decide +kernel
theorem dL_told_47 : decode cL_told 47 = .ok (.if_icmp .ge 49, 3) := by decide +kernel
theorem dL_told_50 : decode cL_told 50 = .ok (.aload 7, 2) := by decide +kernel
theorem dL_told_52 : decode cL_told 52 = .ok (.iconst 2, 1) := by decide +kernel
theorem dL_told_53 : decode cL_told 53 = .ok (.iaload, 1) := by decide +kernel
theorem dL_told_54 : decode cL_told 54 = .ok (.ifCond .le 42, 3) := by decide +kernel
theorem dL_told_57 : decode cL_told 57 = .ok (.aload_n 0, 1) := by decide +kernel
theorem dL_told_58 : decode cL_told 58 = .ok (.iload_n 1, 1) := by decide +kernel
theorem dL_told_59 : decode cL_told 59 = .ok (.iconst 3, 1) := by decide +kernel
theorem dL_told_60 : decode cL_told 60 = .ok (.iload 9, 2) := by decide +kernel
theorem dL_told_62 : decode cL_told 62 = .ok (.imul, 1) := by decide +kernel
theorem dL_told_63 : decode cL_told 63 = .ok (.ishr, 1) := by decide +kernel
theorem dL_told_64 : decode cL_told 64 = .ok (.iload 9, 2) := by decide +kernel
theorem dL_told_66 : decode cL_told 66 = .ok (.iadd, 1) := by decide +kernel
theorem dL_told_67 : decode cL_told 67 = .ok (.aload 7, 2) := by decide +kernel
theorem dL_told_69 : decode cL_told 69 = .ok (.iconst 2, 1) := by decide +kernel
theorem dL_told_70 : decode cL_told 70 = .ok (.iaload, 1) := by decide +kernel
theorem dL_told_71 : decode cL_told 71 = .ok (.invokestatic 45, 3) := by decide +kernel
theorem dL_told_74 : decode cL_told 74 = .ok (.iload_n 1, 1) := by decide +kernel
theorem dL_told_75 : decode cL_told 75 = .ok (.iload 9, 2) := by decide +kernel
theorem dL_told_77 : decode cL_told 77 = .ok (.ishr, 1) := by decide +kernel
theorem dL_told_78 : decode cL_told 78 = .ok (.aload_n 2, 1) := by decide +kernel
theorem dL_told_79 : decode cL_told 79 = .ok (.aload_n 3, 1) := by decide +kernel
theorem dL_told_80 : decode cL_told 80 = .ok (.aload 7, 2) := by decide +kernel
theorem dL_told_82 : decode cL_told 82 = .ok (.invokestatic 58, 3) := by decide +kernel
theorem dL_told_85 : decode cL_told 85 = .ok (.ifCond .ne 5, 3) := by decide +kernel
theorem dL_told_88 : decode cL_told 88 = .ok (.iconst 0, 1) := by decide +kernel
theorem dL_told_89 : decode cL_told 89 = .ok (.ireturn, 1) := by decide +kernel
theorem dL_told_90 : decode cL_told 90 = .ok (.iinc 9 1, 3) := by decide +kernel
theorem dL_told_93 : decode cL_told 93 = .ok (.goto (-49), 3) := by decide +kernel
theorem dL_told_96 : decode cL_told 96 = .ok (.bipush 8, 2) := by decide +kernel
theorem dL_told_98 : decode cL_told 98 = .ok (.iload_n 1, 1) := by decide +kernel
theorem dL_told_99 : decode cL_told 99 = .ok (.iconst 2, 1) := by decide +kernel
theorem dL_told_100 : decode cL_told 100 = .ok (.ishr, 1) := by decide +kernel
theorem dL_told_101 : decode cL_told 101 = .ok (.bipush 17, 2) := by decide +kernel
theorem dL_told_103 : decode cL_told 103 = .ok (.invokestatic 45, 3) := by decide +kernel
theorem dL_told_106 : decode cL_told 106 = .ok (.iadd, 1) := by decide +kernel
theorem dL_told_107 : decode cL_told 107 = .ok (.istore 9, 2) := by decide +kernel
theorem dL_told_109 : decode cL_told 109 = .ok (.iconst 0, 1) := by decide +kernel
theorem dL_told_110 : decode cL_told 110 = .ok (.istore 10, 2) := by decide +kernel
theorem dL_told_112 : decode cL_told 112 = .ok (.iconst 0, 1) := by decide +kernel
theorem dL_told_113 : decode cL_told 113 = .ok (.istore 11, 2) := by decide +kernel
theorem dL_told_115 : decode cL_told 115 = .ok (.iload 11, 2) := by decide +kernel
theorem dL_told_117 : decode cL_told 117 = .ok (.aload 7, 2) := by decide +kernel
theorem dL_told_119 : decode cL_told 119 = .ok (.iconst 2, 1) := by decide +kernel
theorem dL_told_120 : decode cL_told 120 = .ok (.iaload, 1) := by decide +kernel
theorem dL_told_121 : decode cL_told 121 = .ok (.if_icmp .ge 34, 3) := by decide +kernel
theorem dL_told_124 : decode cL_told 124 = .ok (.iload 10, 2) := by decide +kernel
theorem dL_told_126 : decode cL_told 126 = .ok (.aload_n 2, 1) := by decide +kernel
theorem dL_told_127 : decode cL_told 127 = .ok (.iload 11, 2) := by decide +kernel
theorem dL_told_129 : decode cL_told 129 = .ok (.iaload, 1) := by decide +kernel
theorem dL_told_130 : decode cL_told 130 = .ok (.iload 9, 2) := by decide +kernel
theorem dL_told_132 : decode cL_told 132 = .ok (.if_icmp .ne 13, 3) := by decide +kernel
theorem dL_told_135 : decode cL_told 135 = .ok (.aload_n 3, 1) := by decide +kernel
theorem dL_told_136 : decode cL_told 136 = .ok (.iload 11, 2) := by decide +kernel
theorem dL_told_138 : decode cL_told 138 = .ok (.iaload, 1) := by decide +kernel
theorem dL_told_139 : decode cL_told 139 = .ok (.invokestatic 15, 3) := by decide +kernel
theorem dL_told_142 : decode cL_told 142 = .ok (.goto 4, 3) := by decide +kernel
theorem dL_told_145 : decode cL_told 145 = .ok (.iconst 0, 1) := by decide +kernel
theorem dL_told_146 : decode cL_told 146 = .ok (.iadd, 1) := by decide +kernel
theorem dL_told_147 : decode cL_told 147 = .ok (.istore 10, 2) := by decide +kernel
theorem dL_told_149 : decode cL_told 149 = .ok (.iinc 11 1, 3) := by decide +kernel
theorem dL_told_152 : decode cL_told 152 = .ok (.goto (-37), 3) := by decide +kernel
theorem dL_told_155 : decode cL_told 155 = .ok (.aload_n 0, 1) := by decide +kernel
theorem dL_told_156 : decode cL_told 156 = .ok (.iload 9, 2) := by decide +kernel
theorem dL_told_158 : decode cL_told 158 = .ok (.iconst 0, 1) := by decide +kernel
theorem dL_told_159 : decode cL_told 159 = .ok (.invokevirtual 62, 3) := by decide +kernel
theorem dL_told_162 : decode cL_told 162 = .ok (.aload 4, 2) := by decide +kernel
theorem dL_told_164 : decode cL_told 164 = .ok (.iload 9, 2) := by decide +kernel
theorem dL_told_166 : decode cL_told 166 = .ok (.iaload, 1) := by decide +kernel
theorem dL_told_167 : decode cL_told 167 = .ok (.if_icmp .ne 63, 3) := by decide +kernel
theorem dL_told_170 : decode cL_told 170 = .ok (.aload_n 0, 1) := by decide +kernel
theorem dL_told_171 : decode cL_told 171 = .ok (.iload 9, 2) := by decide +kernel
theorem dL_told_173 : decode cL_told 173 = .ok (.iconst 1, 1) := by decide +kernel
theorem dL_told_174 : decode cL_told 174 = .ok (.invokevirtual 62, 3) := by decide +kernel
theorem dL_told_177 : decode cL_told 177 = .ok (.aload 5, 2) := by decide +kernel
theorem dL_told_179 : decode cL_told 179 = .ok (.iload 9, 2) := by decide +kernel
theorem dL_told_181 : decode cL_told 181 = .ok (.iaload, 1) := by decide +kernel
theorem dL_told_182 : decode cL_told 182 = .ok (.if_icmp .ne 48, 3) := by decide +kernel
theorem dL_told_185 : decode cL_told 185 = .ok (.aload_n 0, 1) := by decide +kernel
theorem dL_told_186 : decode cL_told 186 = .ok (.iload 9, 2) := by decide +kernel
theorem dL_told_188 : decode cL_told 188 = .ok (.iconst 2, 1) := by decide +kernel
theorem dL_told_189 : decode cL_told 189 = .ok (.invokevirtual 62, 3) := by decide +kernel
theorem dL_told_192 : decode cL_told 192 = .ok (.iload 10, 2) := by decide +kernel
theorem dL_told_194 : decode cL_told 194 = .ok (.if_icmp .ne 36, 3) := by decide +kernel
theorem dL_told_197 : decode cL_told 197 = .ok (.aload_n 0, 1) := by decide +kernel
theorem dL_told_198 : decode cL_told 198 = .ok (.iload 9, 2) := by decide +kernel
theorem dL_told_200 : decode cL_told 200 = .ok (.iconst 3, 1) := by decide +kernel
theorem dL_told_201 : decode cL_told 201 = .ok (.invokevirtual 62, 3) := by decide +kernel
theorem dL_told_204 : decode cL_told 204 = .ok (.aload 6, 2) := by decide +kernel
theorem dL_told_206 : decode cL_told 206 = .ok (.iload 9, 2) := by decide +kernel
theorem dL_told_208 : decode cL_told 208 = .ok (.iaload, 1) := by decide +kernel
theorem dL_told_209 : decode cL_told 209 = .ok (.if_icmp .ne 21, 3) := by decide +kernel
theorem dL_told_212 : decode cL_told 212 = .ok (.aload_n 0, 1) := by decide +kernel
theorem dL_told_213 : decode cL_told 213 = .ok (.iload 9, 2) := by decide +kernel
theorem dL_told_215 : decode cL_told 215 = .ok (.iconst 4, 1) := by decide +kernel
theorem dL_told_216 : decode cL_told 216 = .ok (.invokevirtual 62, 3) := by decide +kernel
theorem dL_told_219 : decode cL_told 219 = .ok (.iload 9, 2) := by decide +kernel
theorem dL_told_221 : decode cL_told 221 = .ok (.iload 9, 2) := by decide +kernel
theorem dL_told_223 : decode cL_told 223 = .ok (.imul, 1) := by decide +kernel
theorem dL_told_224 : decode cL_told 224 = .ok (.bipush 16, 2) := by decide +kernel
theorem dL_told_226 : decode cL_told 226 = .ok (.idiv, 1) := by decide +kernel
theorem dL_told_227 : decode cL_told 227 = .ok (.if_icmp .eq 5, 3) := by decide +kernel
theorem dL_told_230 : decode cL_told 230 = .ok (.iconst 0, 1) := by decide +kernel
theorem dL_told_231 : decode cL_told 231 = .ok (.ireturn, 1) := by decide +kernel
theorem dL_told_232 : decode cL_told 232 = .ok (.aload_n 0, 1) := by decide +kernel
theorem dL_told_233 : decode cL_told 233 = .ok (.iconst 0, 1) := by decide +kernel
theorem dL_told_234 : decode cL_told 234 = .ok (.invokevirtual 65, 3) := by decide +kernel
theorem dL_told_237 : decode cL_told 237 = .ok (.aload 7, 2) := by decide +kernel
theorem dL_told_239 : decode cL_told 239 = .ok (.iconst 0, 1) := by decide +kernel
theorem dL_told_240 : decode cL_told 240 = .ok (.iaload, 1) := by decide +kernel
theorem dL_told_241 : decode cL_told 241 = .ok (.if_icmp .ne 94, 3) := by decide +kernel
theorem dL_told_244 : decode cL_told 244 = .ok (.aload_n 0, 1) := by decide +kernel
theorem dL_told_245 : decode cL_told 245 = .ok (.iconst 1, 1) := by decide +kernel
theorem dL_told_246 : decode cL_told 246 = .ok (.invokevirtual 65, 3) := by decide +kernel
theorem dL_told_249 : decode cL_told 249 = .ok (.aload 7, 2) := by decide +kernel
theorem dL_told_251 : decode cL_told 251 = .ok (.iconst 1, 1) := by decide +kernel
theorem dL_told_252 : decode cL_told 252 = .ok (.iaload, 1) := by decide +kernel
theorem dL_told_253 : decode cL_told 253 = .ok (.if_icmp .ne 82, 3) := by decide +kernel
theorem dL_told_256 : decode cL_told 256 = .ok (.aload_n 0, 1) := by decide +kernel
theorem dL_told_257 : decode cL_told 257 = .ok (.iconst 2, 1) := by decide +kernel
theorem dL_told_258 : decode cL_told 258 = .ok (.invokevirtual 65, 3) := by decide +kernel
theorem dL_told_261 : decode cL_told 261 = .ok (.aload 7, 2) := by decide +kernel
theorem dL_told_263 : decode cL_told 263 = .ok (.iconst 2, 1) := by decide +kernel
theorem dL_told_264 : decode cL_told 264 = .ok (.iaload, 1) := by decide +kernel
theorem dL_told_265 : decode cL_told 265 = .ok (.if_icmp .ne 70, 3) := by decide +kernel
theorem dL_told_268 : decode cL_told 268 = .ok (.aload_n 0, 1) := by decide +kernel
theorem dL_told_269 : decode cL_told 269 = .ok (.iconst 3, 1) := by decide +kernel
theorem dL_told_270 : decode cL_told 270 = .ok (.invokevirtual 65, 3) := by decide +kernel
theorem dL_told_273 : decode cL_told 273 = .ok (.aload 7, 2) := by decide +kernel
theorem dL_told_275 : decode cL_told 275 = .ok (.iconst 2, 1) := by decide +kernel
theorem dL_told_276 : decode cL_told 276 = .ok (.iaload, 1) := by decide +kernel
theorem dL_told_277 : decode cL_told 277 = .ok (.aload_n 2, 1) := by decide +kernel
theorem dL_told_278 : decode cL_told 278 = .ok (.aload 7, 2) := by decide +kernel
theorem dL_told_280 : decode cL_told 280 = .ok (.invokestatic 19, 3) := by decide +kernel
theorem dL_told_283 : decode cL_told 283 = .ok (.if_icmp .ne 52, 3) := by decide +kernel
theorem dL_told_286 : decode cL_told 286 = .ok (.aload_n 0, 1) := by decide +kernel
theorem dL_told_287 : decode cL_told 287 = .ok (.iconst 4, 1) := by decide +kernel
theorem dL_told_288 : decode cL_told 288 = .ok (.invokevirtual 65, 3) := by decide +kernel
theorem dL_told_291 : decode cL_told 291 = .ok (.aload_n 3, 1) := by decide +kernel
theorem dL_told_292 : decode cL_told 292 = .ok (.aload 7, 2) := by decide +kernel
theorem dL_told_294 : decode cL_told 294 = .ok (.invokestatic 68, 3) := by decide +kernel
theorem dL_told_297 : decode cL_told 297 = .ok (.if_icmp .ne 38, 3) := by decide +kernel
theorem dL_told_300 : decode cL_told 300 = .ok (.aload_n 0, 1) := by decide +kernel
theorem dL_told_301 : decode cL_told 301 = .ok (.iconst 5, 1) := by decide +kernel
theorem dL_told_302 : decode cL_told 302 = .ok (.invokevirtual 65, 3) := by decide +kernel
theorem dL_told_305 : decode cL_told 305 = .ok (.iload 8, 2) := by decide +kernel
theorem dL_told_307 : decode cL_told 307 = .ok (.if_icmp .ne 28, 3) := by decide +kernel
theorem dL_told_310 : decode cL_told 310 = .ok (.aload_n 0, 1) := by decide +kernel
theorem dL_told_311 : decode cL_told 311 = .ok (.bipush 6, 2) := by decide +kernel
theorem dL_told_313 : decode cL_told 313 = .ok (.invokevirtual 65, 3) := by decide +kernel
theorem dL_told_316 : decode cL_told 316 = .ok (.iconst 1, 1) := by decide +kernel
theorem dL_told_317 : decode cL_told 317 = .ok (.if_icmp .ne 7, 3) := by decide +kernel
theorem dL_told_320 : decode cL_told 320 = .ok (.iconst 1, 1) := by decide +kernel
theorem dL_told_321 : decode cL_told 321 = .ok (.goto 4, 3) := by decide +kernel
theorem dL_told_324 : decode cL_told 324 = .ok (.iconst 0, 1) := by decide +kernel
theorem dL_told_325 : decode cL_told 325 = .ok (.aload_n 2, 1) := by decide +kernel
theorem dL_told_326 : decode cL_told 326 = .ok (.aload_n 3, 1) := by decide +kernel
theorem dL_told_327 : decode cL_told 327 = .ok (.aload 7, 2) := by decide +kernel
theorem dL_told_329 : decode cL_told 329 = .ok (.invokestatic 26, 3) := by decide +kernel
theorem dL_told_332 : decode cL_told 332 = .ok (.if_icmp .eq 5, 3) := by decide +kernel
theorem dL_told_335 : decode cL_told 335 = .ok (.iconst 0, 1) := by decide +kernel
theorem dL_told_336 : decode cL_told 336 = .ok (.ireturn, 1) := by decide +kernel
theorem dL_told_337 : decode cL_told 337 = .ok (.iconst 0, 1) := by decide +kernel
theorem dL_told_338 : decode cL_told 338 = .ok (.istore 11, 2) := by decide +kernel
theorem dL_told_340 : decode cL_told 340 = .ok (.iload 11, 2) := by decide +kernel
theorem dL_told_342 : decode cL_told 342 = .ok (.iconst 4, 1) := by decide +kernel
theorem dL_told_343 : decode cL_told 343 = .ok (.if_icmp .ge 51, 3) := by decide +kernel
theorem dL_told_346 : decode cL_told 346 = .ok (.aload_n 0, 1) := by decide +kernel
theorem dL_told_347 : decode cL_told 347 = .ok (.bipush 7, 2) := by decide +kernel
theorem dL_told_349 : decode cL_told 349 = .ok (.iload 11, 2) := by decide +kernel
theorem dL_told_351 : decode cL_told 351 = .ok (.iadd, 1) := by decide +kernel
theorem dL_told_352 : decode cL_told 352 = .ok (.invokevirtual 65, 3) := by decide +kernel
theorem dL_told_355 : decode cL_told 355 = .ok (.aload 7, 2) := by decide +kernel
theorem dL_told_357 : decode cL_told 357 = .ok (.bipush 6, 2) := by decide +kernel
theorem dL_told_359 : decode cL_told 359 = .ok (.iload 11, 2) := by decide +kernel
theorem dL_told_361 : decode cL_told 361 = .ok (.iadd, 1) := by decide +kernel
theorem dL_told_362 : decode cL_told 362 = .ok (.iaload, 1) := by decide +kernel
theorem dL_told_363 : decode cL_told 363 = .ok (.if_icmp .ne 23, 3) := by decide +kernel
theorem dL_told_366 : decode cL_told 366 = .ok (.aload_n 0, 1) := by decide +kernel
theorem dL_told_367 : decode cL_told 367 = .ok (.bipush 14, 2) := by decide +kernel
theorem dL_told_369 : decode cL_told 369 = .ok (.iload 11, 2) := by decide +kernel
theorem dL_told_371 : decode cL_told 371 = .ok (.iadd, 1) := by decide +kernel
theorem dL_told_372 : decode cL_told 372 = .ok (.invokevirtual 65, 3) := by decide +kernel
theorem dL_told_375 : decode cL_told 375 = .ok (.aload 7, 2) := by decide +kernel
theorem dL_told_377 : decode cL_told 377 = .ok (.bipush 10, 2) := by decide +kernel
theorem dL_told_379 : decode cL_told 379 = .ok (.iload 11, 2) := by decide +kernel
theorem dL_told_381 : decode cL_told 381 = .ok (.iadd, 1) := by decide +kernel
theorem dL_told_382 : decode cL_told 382 = .ok (.iaload, 1) := by decide +kernel
theorem dL_told_383 : decode cL_told 383 = .ok (.if_icmp .eq 5, 3) := by decide +kernel
theorem dL_told_386 : decode cL_told 386 = .ok (.iconst 0, 1) := by decide +kernel
theorem dL_told_387 : decode cL_told 387 = .ok (.ireturn, 1) := by decide +kernel
theorem dL_told_388 : decode cL_told 388 = .ok (.iinc 11 1, 3) := by decide +kernel
theorem dL_told_391 : decode cL_told 391 = .ok (.goto (-51), 3) := by decide +kernel
theorem dL_told_394 : decode cL_told 394 = .ok (.iconst 0, 1) := by decide +kernel
theorem dL_told_395 : decode cL_told 395 = .ok (.istore 11, 2) := by decide +kernel
theorem dL_told_397 : decode cL_told 397 = .ok (.iload 11, 2) := by decide +kernel
theorem dL_told_399 : decode cL_told 399 = .ok (.iconst 3, 1) := by decide +kernel
theorem dL_told_400 : decode cL_told 400 = .ok (.if_icmp .ge 27, 3) := by decide +kernel
theorem dL_told_403 : decode cL_told 403 = .ok (.aload_n 0, 1) := by decide +kernel
theorem dL_told_404 : decode cL_told 404 = .ok (.iload 11, 2) := by decide +kernel
theorem dL_told_406 : decode cL_told 406 = .ok (.invokevirtual 71, 3) := by decide +kernel
theorem dL_told_409 : decode cL_told 409 = .ok (.aload 7, 2) := by decide +kernel
theorem dL_told_411 : decode cL_told 411 = .ok (.iconst 3, 1) := by decide +kernel
theorem dL_told_412 : decode cL_told 412 = .ok (.iload 11, 2) := by decide +kernel
theorem dL_told_414 : decode cL_told 414 = .ok (.iadd, 1) := by decide +kernel
theorem dL_told_415 : decode cL_told 415 = .ok (.iaload, 1) := by decide +kernel
