theorem dX3_mend_82 : decode cX3_mend 82 = .ok (.ireturn, 1) := by decide +kernel
theorem dX3_cover_0 : decode cX3_cover 0 = .ok (.aload_n 0, 1) := by decide +kernel
theorem dX3_cover_1 : decode cX3_cover 1 = .ok (.getfield 22, 3) := by decide +kernel
theorem dX3_cover_4 : decode cX3_cover 4 = .ok (.aload_n 0, 1) := by decide +kernel
theorem dX3_cover_5 : decode cX3_cover 5 = .ok (.getfield 10, 3) := by decide +kernel
theorem dX3_cover_8 : decode cX3_cover 8 = .ok (.invokevirtual 44, 3) := by decide +kernel
theorem dX3_cover_11 : decode cX3_cover 11 = .ok (.aload_n 0, 1) := by decide +kernel
theorem dX3_cover_12 : decode cX3_cover 12 = .ok (.getfield 10, 3) := by decide +kernel
theorem dX3_cover_15 : decode cX3_cover 15 = .ok (.getfield 188, 3) := by decide +kernel
theorem dX3_cover_18 : decode cX3_cover 18 = .ok (.ifCond .eq 7, 3) := by decide +kernel
theorem dX3_cover_21 : decode cX3_cover 21 = .ok (.iconst 1, 1) := by decide +kernel
theorem dX3_cover_22 : decode cX3_cover 22 = .ok (.goto 4, 3) := by decide +kernel
theorem dX3_cover_25 : decode cX3_cover 25 = .ok (.iconst 0, 1) := by decide +kernel
theorem dX3_cover_26 : decode cX3_cover 26 = .ok (.istore_n 2, 1) := by decide +kernel
theorem dX3_cover_27 : decode cX3_cover 27 = .ok (.aload_n 0, 1) := by decide +kernel
theorem dX3_cover_28 : decode cX3_cover 28 = .ok (.getfield 10, 3) := by decide +kernel
theorem dX3_cover_31 : decode cX3_cover 31 = .ok (.iload_n 1, 1) := by decide +kernel
theorem dX3_cover_32 : decode cX3_cover 32 = .ok (.putfield 188, 3) := by decide +kernel
theorem dX3_cover_35 : decode cX3_cover 35 = .ok (.iload_n 2, 1) := by decide +kernel
theorem dX3_cover_36 : decode cX3_cover 36 = .ok (.ireturn, 1) := by decide +kernel
theorem dX3_pass_0 : decode cX3_pass 0 = .ok (.iload_n 1, 1) := by decide +kernel
theorem dX3_pass_1 : decode cX3_pass 1 = .ok (.iconst 0, 1) := by decide +kernel
theorem dX3_pass_2 : decode cX3_pass 2 = .ok (.iconst 2, 1) := by decide +kernel
theorem dX3_pass_3 : decode cX3_pass 3 = .ok (.invokestatic 33, 3) := by decide +kernel
theorem dX3_pass_6 : decode cX3_pass 6 = .ok (.ifCond .ne 13, 3) := by decide +kernel
theorem dX3_pass_9 : decode cX3_pass 9 = .ok (.new 37, 3) := by decide +kernel
theorem dX3_pass_12 : decode cX3_pass 12 = .ok (.dup, 1) := by decide +kernel
theorem dX3_pass_13 : decode cX3_pass 13 = .ok (.ldc 192, 2) := by decide +kernel
theorem dX3_pass_15 : decode cX3_pass 15 = .ok (.invokespecial 41, 3) := by decide +kernel
theorem dX3_pass_18 : decode cX3_pass 18 = .ok (.athrow, 1) := by decide +kernel
theorem dX3_pass_19 : decode cX3_pass 19 = .ok (.aload_n 0, 1) := by decide +kernel
theorem dX3_pass_20 : decode cX3_pass 20 = .ok (.getfield 10, 3) := by decide +kernel
theorem dX3_pass_23 : decode cX3_pass 23 = .ok (.getfield 194, 3) := by decide +kernel
theorem dX3_pass_26 : decode cX3_pass 26 = .ok (.sipush 1000, 3) := by decide +kernel
theorem dX3_pass_29 : decode cX3_pass 29 = .ok (.if_icmp .lt 13, 3) := by decide +kernel
theorem dX3_pass_32 : decode cX3_pass 32 = .ok (.new 104, 3) := by decide +kernel
theorem dX3_pass_35 : decode cX3_pass 35 = .ok (.dup, 1) := by decide +kernel
theorem dX3_pass_36 : decode cX3_pass 36 = .ok (.ldc 197, 2) := by decide +kernel
theorem dX3_pass_38 : decode cX3_pass 38 = .ok (.invokespecial 108, 3) := by decide +kernel
theorem dX3_pass_41 : decode cX3_pass 41 = .ok (.athrow, 1) := by decide +kernel
theorem dX3_pass_42 : decode cX3_pass 42 = .ok (.aload_n 0, 1) := by decide +kernel
theorem dX3_pass_43 : decode cX3_pass 43 = .ok (.getfield 22, 3) := by decide +kernel
theorem dX3_pass_46 : decode cX3_pass 46 = .ok (.aload_n 0, 1) := by decide +kernel
theorem dX3_pass_47 : decode cX3_pass 47 = .ok (.getfield 10, 3) := by decide +kernel
theorem dX3_pass_50 : decode cX3_pass 50 = .ok (.invokevirtual 44, 3) := by decide +kernel
theorem dX3_pass_53 : decode cX3_pass 53 = .ok (.aload_n 0, 1) := by decide +kernel
theorem dX3_pass_54 : decode cX3_pass 54 = .ok (.getfield 10, 3) := by decide +kernel
theorem dX3_pass_57 : decode cX3_pass 57 = .ok (.iload_n 1, 1) := by decide +kernel
theorem dX3_pass_58 : decode cX3_pass 58 = .ok (.invokevirtual 199, 3) := by decide +kernel
theorem dX3_pass_61 : decode cX3_pass 61 = .ok (.ireturn, 1) := by decide +kernel
theorem dX3_append_0 : decode cX3_append 0 = .ok (.iload_n 1, 1) := by decide +kernel
theorem dX3_append_1 : decode cX3_append 1 = .ok (.bipush 33, 2) := by decide +kernel
theorem dX3_append_3 : decode cX3_append 3 = .ok (.bipush 126, 2) := by decide +kernel
theorem dX3_append_5 : decode cX3_append 5 = .ok (.invokestatic 33, 3) := by decide +kernel
theorem dX3_append_8 : decode cX3_append 8 = .ok (.ifCond .ne 13, 3) := by decide +kernel
theorem dX3_append_11 : decode cX3_append 11 = .ok (.new 37, 3) := by decide +kernel
theorem dX3_append_14 : decode cX3_append 14 = .ok (.dup, 1) := by decide +kernel
theorem dX3_append_15 : decode cX3_append 15 = .ok (.ldc 202, 2) := by decide +kernel
theorem dX3_append_17 : decode cX3_append 17 = .ok (.invokespecial 41, 3) := by decide +kernel
theorem dX3_append_20 : decode cX3_append 20 = .ok (.athrow, 1) := by decide +kernel
theorem dX3_append_21 : decode cX3_append 21 = .ok (.aload_n 0, 1) := by decide +kernel
theorem dX3_append_22 : decode cX3_append 22 = .ok (.getfield 29, 3) := by decide +kernel
theorem dX3_append_25 : decode cX3_append 25 = .ok (.getfield 204, 3) := by decide +kernel
theorem dX3_append_28 : decode cX3_append 28 = .ok (.bipush 60, 2) := by decide +kernel
theorem dX3_append_30 : decode cX3_append 30 = .ok (.if_icmp .lt 13, 3) := by decide +kernel
theorem dX3_append_33 : decode cX3_append 33 = .ok (.new 104, 3) := by decide +kernel
theorem dX3_append_36 : decode cX3_append 36 = .ok (.dup, 1) := by decide +kernel
theorem dX3_append_37 : decode cX3_append 37 = .ok (.ldc 207, 2) := by decide +kernel
theorem dX3_append_39 : decode cX3_append 39 = .ok (.invokespecial 108, 3) := by decide +kernel
theorem dX3_append_42 : decode cX3_append 42 = .ok (.athrow, 1) := by decide +kernel
theorem dX3_append_43 : decode cX3_append 43 = .ok (.aload_n 0, 1) := by decide +kernel
theorem dX3_append_44 : decode cX3_append 44 = .ok (.getfield 29, 3) := by decide +kernel
theorem dX3_append_47 : decode cX3_append 47 = .ok (.iload_n 1, 1) := by decide +kernel
theorem dX3_append_48 : decode cX3_append 48 = .ok (.i2c, 1) := by decide +kernel
theorem dX3_append_49 : decode cX3_append 49 = .ok (.invokevirtual 209, 3) := by decide +kernel
theorem dX3_append_52 : decode cX3_append 52 = .ok (.aload_n 0, 1) := by decide +kernel
theorem dX3_append_53 : decode cX3_append 53 = .ok (.getfield 29, 3) := by decide +kernel
theorem dX3_append_56 : decode cX3_append 56 = .ok (.getfield 204, 3) := by decide +kernel
theorem dX3_append_59 : decode cX3_append 59 = .ok (.ireturn, 1) := by decide +kernel
theorem dX3_clearBuffer_0 : decode cX3_clearBuffer 0 = .ok (.aload_n 0, 1) := by decide +kernel
theorem dX3_clearBuffer_1 : decode cX3_clearBuffer 1 = .ok (.getfield 29, 3) := by decide +kernel
theorem dX3_clearBuffer_4 : decode cX3_clearBuffer 4 = .ok (.getfield 204, 3) := by decide +kernel
theorem dX3_clearBuffer_7 : decode cX3_clearBuffer 7 = .ok (.istore_n 1, 1) := by decide +kernel
theorem dX3_clearBuffer_8 : decode cX3_clearBuffer 8 = .ok (.aload_n 0, 1) := by decide +kernel
theorem dX3_clearBuffer_9 : decode cX3_clearBuffer 9 = .ok (.getfield 29, 3) := by decide +kernel
theorem dX3_clearBuffer_12 : decode cX3_clearBuffer 12 = .ok (.iconst 0, 1) := by decide +kernel
theorem dX3_clearBuffer_13 : decode cX3_clearBuffer 13 = .ok (.putfield 204, 3) := by decide +kernel
theorem dX3_clearBuffer_16 : decode cX3_clearBuffer 16 = .ok (.iload_n 1, 1) := by decide +kernel
theorem dX3_clearBuffer_17 : decode cX3_clearBuffer 17 = .ok (.ireturn, 1) := by decide +kernel
theorem dX3_firstError_0 : decode cX3_firstError 0 = .ok (.aload_n 0, 1) := by decide +kernel
theorem dX3_firstError_1 : decode cX3_firstError 1 = .ok (.getfield 29, 3) := by decide +kernel
theorem dX3_firstError_4 : decode cX3_firstError 4 = .ok (.invokevirtual 213, 3) := by decide +kernel
theorem dX3_firstError_7 : decode cX3_firstError 7 = .ok (.ireturn, 1) := by decide +kernel
theorem dX3_work_0 : decode cX3_work 0 = .ok (.aload_n 0, 1) := by decide +kernel
theorem dX3_work_1 : decode cX3_work 1 = .ok (.getfield 29, 3) := by decide +kernel
theorem dX3_work_4 : decode cX3_work 4 = .ok (.invokevirtual 216, 3) := by decide +kernel
theorem dX3_work_7 : decode cX3_work 7 = .ok (.ifCond .ne 13, 3) := by decide +kernel
theorem dX3_work_10 : decode cX3_work 10 = .ok (.new 37, 3) := by decide +kernel
theorem dX3_work_13 : decode cX3_work 13 = .ok (.dup, 1) := by decide +kernel
theorem dX3_work_14 : decode cX3_work 14 = .ok (.ldc 219, 2) := by decide +kernel
theorem dX3_work_16 : decode cX3_work 16 = .ok (.invokespecial 41, 3) := by decide +kernel
theorem dX3_work_19 : decode cX3_work 19 = .ok (.athrow, 1) := by decide +kernel
theorem dX3_work_20 : decode cX3_work 20 = .ok (.aload_n 0, 1) := by decide +kernel
theorem dX3_work_21 : decode cX3_work 21 = .ok (.getfield 29, 3) := by decide +kernel
theorem dX3_work_24 : decode cX3_work 24 = .ok (.invokevirtual 221, 3) := by decide +kernel
theorem dX3_work_27 : decode cX3_work 27 = .ok (.istore_n 1, 1) := by decide +kernel
theorem dX3_work_28 : decode cX3_work 28 = .ok (.iload_n 1, 1) := by decide +kernel
theorem dX3_work_29 : decode cX3_work 29 = .ok (.sipush 200, 3) := by decide +kernel
theorem dX3_work_32 : decode cX3_work 32 = .ok (.if_icmp .gt 18, 3) := by decide +kernel
theorem dX3_work_35 : decode cX3_work 35 = .ok (.aload_n 0, 1) := by decide +kernel
theorem dX3_work_36 : decode cX3_work 36 = .ok (.getfield 10, 3) := by decide +kernel
theorem dX3_work_39 : decode cX3_work 39 = .ok (.getfield 194, 3) := by decide +kernel
theorem dX3_work_42 : decode cX3_work 42 = .ok (.iload_n 1, 1) := by decide +kernel
theorem dX3_work_43 : decode cX3_work 43 = .ok (.iadd, 1) := by decide +kernel
theorem dX3_work_44 : decode cX3_work 44 = .ok (.sipush 1000, 3) := by decide +kernel
theorem dX3_work_47 : decode cX3_work 47 = .ok (.if_icmp .le 13, 3) := by decide +kernel
theorem dX3_work_50 : decode cX3_work 50 = .ok (.new 104, 3) := by decide +kernel
theorem dX3_work_53 : decode cX3_work 53 = .ok (.dup, 1) := by decide +kernel
theorem dX3_work_54 : decode cX3_work 54 = .ok (.ldc 224, 2) := by decide +kernel
theorem dX3_work_56 : decode cX3_work 56 = .ok (.invokespecial 108, 3) := by decide +kernel
theorem dX3_work_59 : decode cX3_work 59 = .ok (.athrow, 1) := by decide +kernel
theorem dX3_work_60 : decode cX3_work 60 = .ok (.aload_n 0, 1) := by decide +kernel
theorem dX3_work_61 : decode cX3_work 61 = .ok (.getfield 22, 3) := by decide +kernel
theorem dX3_work_64 : decode cX3_work 64 = .ok (.aload_n 0, 1) := by decide +kernel
theorem dX3_work_65 : decode cX3_work 65 = .ok (.getfield 10, 3) := by decide +kernel
theorem dX3_work_68 : decode cX3_work 68 = .ok (.invokevirtual 44, 3) := by decide +kernel
theorem dX3_work_71 : decode cX3_work 71 = .ok (.iconst 0, 1) := by decide +kernel
theorem dX3_work_72 : decode cX3_work 72 = .ok (.istore_n 2, 1) := by decide +kernel
theorem dX3_work_73 : decode cX3_work 73 = .ok (.iconst 0, 1) := by decide +kernel
theorem dX3_work_74 : decode cX3_work 74 = .ok (.istore_n 3, 1) := by decide +kernel
theorem dX3_work_75 : decode cX3_work 75 = .ok (.iload_n 3, 1) := by decide +kernel
theorem dX3_work_76 : decode cX3_work 76 = .ok (.aload_n 0, 1) := by decide +kernel
theorem dX3_work_77 : decode cX3_work 77 = .ok (.getfield 29, 3) := by decide +kernel
theorem dX3_work_80 : decode cX3_work 80 = .ok (.getfield 226, 3) := by decide +kernel
theorem dX3_work_83 : decode cX3_work 83 = .ok (.if_icmp .ge 71, 3) := by decide +kernel
theorem dX3_work_86 : decode cX3_work 86 = .ok (.aload_n 0, 1) := by decide +kernel
theorem dX3_work_87 : decode cX3_work 87 = .ok (.getfield 29, 3) := by decide +kernel
theorem dX3_work_90 : decode cX3_work 90 = .ok (.getfield 229, 3) := by decide +kernel
theorem dX3_work_93 : decode cX3_work 93 = .ok (.iload_n 3, 1) := by decide +kernel
theorem dX3_work_94 : decode cX3_work 94 = .ok (.invokestatic 74, 3) := by decide +kernel
theorem dX3_work_97 : decode cX3_work 97 = .ok (.istore 4, 2) := by decide +kernel
theorem dX3_work_99 : decode cX3_work 99 = .ok (.aload_n 0, 1) := by decide +kernel
theorem dX3_work_100 : decode cX3_work 100 = .ok (.getfield 29, 3) := by decide +kernel
theorem dX3_work_103 : decode cX3_work 103 = .ok (.getfield 232, 3) := by decide +kernel
theorem dX3_work_106 : decode cX3_work 106 = .ok (.iload_n 3, 1) := by decide +kernel
theorem dX3_work_107 : decode cX3_work 107 = .ok (.invokestatic 74, 3) := by decide +kernel
theorem dX3_work_110 : decode cX3_work 110 = .ok (.istore 5, 2) := by decide +kernel
theorem dX3_work_112 : decode cX3_work 112 = .ok (.iconst 0, 1) := by decide +kernel
theorem dX3_work_113 : decode cX3_work 113 = .ok (.istore 6, 2) := by decide +kernel
theorem dX3_work_115 : decode cX3_work 115 = .ok (.iload 6, 2) := by decide +kernel
theorem dX3_work_117 : decode cX3_work 117 = .ok (.iload 5, 2) := by decide +kernel
theorem dX3_work_119 : decode cX3_work 119 = .ok (.if_icmp .ge 29, 3) := by decide +kernel
theorem dX3_work_122 : decode cX3_work 122 = .ok (.aload_n 0, 1) := by decide +kernel
theorem dX3_work_123 : decode cX3_work 123 = .ok (.getfield 10, 3) := by decide +kernel
theorem dX3_work_126 : decode cX3_work 126 = .ok (.iload 4, 2) := by decide +kernel
theorem dX3_work_128 : decode cX3_work 128 = .ok (.invokevirtual 199, 3) := by decide +kernel
theorem dX3_work_131 : decode cX3_work 131 = .ok (.pop, 1) := by decide +kernel
theorem dX3_work_132 : decode cX3_work 132 = .ok (.iload_n 2, 1) := by decide +kernel
theorem dX3_work_133 : decode cX3_work 133 = .ok (.aload_n 0, 1) := by decide +kernel
theorem dX3_work_134 : decode cX3_work 134 = .ok (.getfield 10, 3) := by decide +kernel
theorem dX3_work_137 : decode cX3_work 137 = .ok (.invokevirtual 235, 3) := by decide +kernel
theorem dX3_work_140 : decode cX3_work 140 = .ok (.iadd, 1) := by decide +kernel
theorem dX3_work_141 : decode cX3_work 141 = .ok (.istore_n 2, 1) := by decide +kernel
theorem dX3_work_142 : decode cX3_work 142 = .ok (.iinc 6 1, 3) := by decide +kernel
theorem dX3_work_145 : decode cX3_work 145 = .ok (.goto (-30), 3) := by decide +kernel
theorem dX3_work_148 : decode cX3_work 148 = .ok (.iinc 3 1, 3) := by decide +kernel
theorem dX3_work_151 : decode cX3_work 151 = .ok (.goto (-76), 3) := by decide +kernel
theorem dX3_work_154 : decode cX3_work 154 = .ok (.aload_n 0, 1) := by decide +kernel
theorem dX3_work_155 : decode cX3_work 155 = .ok (.getfield 29, 3) := by decide +kernel
theorem dX3_work_158 : decode cX3_work 158 = .ok (.iconst 0, 1) := by decide +kernel
theorem dX3_work_159 : decode cX3_work 159 = .ok (.putfield 204, 3) := by decide +kernel
theorem dX3_work_162 : decode cX3_work 162 = .ok (.iload_n 2, 1) := by decide +kernel
theorem dX3_work_163 : decode cX3_work 163 = .ok (.ireturn, 1) := by decide +kernel
theorem dX3_undo_0 : decode cX3_undo 0 = .ok (.aload_n 0, 1) := by decide +kernel
theorem dX3_undo_1 : decode cX3_undo 1 = .ok (.getfield 22, 3) := by decide +kernel
theorem dX3_undo_4 : decode cX3_undo 4 = .ok (.getfield 238, 3) := by decide +kernel
theorem dX3_undo_7 : decode cX3_undo 7 = .ok (.ifCond .ne 13, 3) := by decide +kernel
theorem dX3_undo_10 : decode cX3_undo 10 = .ok (.new 104, 3) := by decide +kernel
theorem dX3_undo_13 : decode cX3_undo 13 = .ok (.dup, 1) := by decide +kernel
theorem dX3_undo_14 : decode cX3_undo 14 = .ok (.ldc 241, 2) := by decide +kernel
theorem dX3_undo_16 : decode cX3_undo 16 = .ok (.invokespecial 108, 3) := by decide +kernel
theorem dX3_undo_19 : decode cX3_undo 19 = .ok (.athrow, 1) := by decide +kernel
theorem dX3_undo_20 : decode cX3_undo 20 = .ok (.aload_n 0, 1) := by decide +kernel
theorem dX3_undo_21 : decode cX3_undo 21 = .ok (.getfield 22, 3) := by decide +kernel
theorem dX3_undo_24 : decode cX3_undo 24 = .ok (.aload_n 0, 1) := by decide +kernel
theorem dX3_undo_25 : decode cX3_undo 25 = .ok (.getfield 10, 3) := by decide +kernel
theorem dX3_undo_28 : decode cX3_undo 28 = .ok (.invokevirtual 243, 3) := by decide +kernel
theorem dX3_undo_31 : decode cX3_undo 31 = .ok (.aload_n 0, 1) := by decide +kernel
theorem dX3_undo_32 : decode cX3_undo 32 = .ok (.getfield 22, 3) := by decide +kernel
theorem dX3_undo_35 : decode cX3_undo 35 = .ok (.getfield 238, 3) := by decide +kernel
theorem dX3_undo_38 : decode cX3_undo 38 = .ok (.ireturn, 1) := by decide +kernel
theorem dX3_courseOf_0 : decode cX3_courseOf 0 = .ok (.aload_n 0, 1) := by decide +kernel
theorem dX3_courseOf_1 : decode cX3_courseOf 1 = .ok (.getfield 10, 3) := by decide +kernel
theorem dX3_courseOf_4 : decode cX3_courseOf 4 = .ok (.iload_n 1, 1) := by decide +kernel
theorem dX3_courseOf_5 : decode cX3_courseOf 5 = .ok (.invokevirtual 246, 3) := by decide +kernel
theorem dX3_courseOf_8 : decode cX3_courseOf 8 = .ok (.ifCond .ne 13, 3) := by decide +kernel
theorem dX3_courseOf_11 : decode cX3_courseOf 11 = .ok (.new 65, 3) := by decide +kernel
theorem dX3_courseOf_14 : decode cX3_courseOf 14 = .ok (.dup, 1) := by decide +kernel
theorem dX3_courseOf_15 : decode cX3_courseOf 15 = .ok (.ldc 249, 2) := by decide +kernel
theorem dX3_courseOf_17 : decode cX3_courseOf 17 = .ok (.invokespecial 69, 3) := by decide +kernel
theorem dX3_courseOf_20 : decode cX3_courseOf 20 = .ok (.athrow, 1) := by decide +kernel
theorem dX3_courseOf_21 : decode cX3_courseOf 21 = .ok (.iload_n 2, 1) := by decide +kernel
theorem dX3_courseOf_22 : decode cX3_courseOf 22 = .ok (.tableswitch 118 0 6 #[42, 54, 63, 72, 91, 100, 109], 42) := by decide +kernel
theorem dX3_courseOf_64 : decode cX3_courseOf 64 = .ok (.aload_n 0, 1) := by decide +kernel
theorem dX3_courseOf_65 : decode cX3_courseOf 65 = .ok (.getfield 10, 3) := by decide +kernel
theorem dX3_courseOf_68 : decode cX3_courseOf 68 = .ok (.getfield 251, 3) := by decide +kernel
theorem dX3_courseOf_71 : decode cX3_courseOf 71 = .ok (.iload_n 1, 1) := by decide +kernel
theorem dX3_courseOf_72 : decode cX3_courseOf 72 = .ok (.invokestatic 74, 3) := by decide +kernel
theorem dX3_courseOf_75 : decode cX3_courseOf 75 = .ok (.ireturn, 1) := by decide +kernel
theorem dX3_courseOf_76 : decode cX3_courseOf 76 = .ok (.aload_n 0, 1) := by decide +kernel
theorem dX3_courseOf_77 : decode cX3_courseOf 77 = .ok (.getfield 10, 3) := by decide +kernel
theorem dX3_courseOf_80 : decode cX3_courseOf 80 = .ok (.iload_n 1, 1) := by decide +kernel
theorem dX3_courseOf_81 : decode cX3_courseOf 81 = .ok (.invokevirtual 254, 3) := by decide +kernel
theorem dX3_courseOf_84 : decode cX3_courseOf 84 = .ok (.ireturn, 1) := by decide +kernel
theorem dX3_courseOf_85 : decode cX3_courseOf 85 = .ok (.aload_n 0, 1) := by decide +kernel
theorem dX3_courseOf_86 : decode cX3_courseOf 86 = .ok (.getfield 10, 3) := by decide +kernel
theorem dX3_courseOf_89 : decode cX3_courseOf 89 = .ok (.iload_n 1, 1) := by decide +kernel
theorem dX3_courseOf_90 : decode cX3_courseOf 90 = .ok (.invokevirtual 171, 3) := by decide +kernel
theorem dX3_courseOf_93 : decode cX3_courseOf 93 = .ok (.ireturn, 1) := by decide +kernel
theorem dX3_courseOf_94 : decode cX3_courseOf 94 = .ok (.aload_n 0, 1) := by decide +kernel
theorem dX3_courseOf_95 : decode cX3_courseOf 95 = .ok (.getfield 10, 3) := by decide +kernel
theorem dX3_courseOf_98 : decode cX3_courseOf 98 = .ok (.aload_n 0, 1) := by decide +kernel
theorem dX3_courseOf_99 : decode cX3_courseOf 99 = .ok (.getfield 10, 3) := by decide +kernel
theorem dX3_courseOf_102 : decode cX3_courseOf 102 = .ok (.getfield 251, 3) := by decide +kernel
theorem dX3_courseOf_105 : decode cX3_courseOf 105 = .ok (.iload_n 1, 1) := by decide +kernel
theorem dX3_courseOf_106 : decode cX3_courseOf 106 = .ok (.invokestatic 74, 3) := by decide +kernel
theorem dX3_courseOf_109 : decode cX3_courseOf 109 = .ok (.invokevirtual 257, 3) := by decide +kernel
theorem dX3_courseOf_112 : decode cX3_courseOf 112 = .ok (.ireturn, 1) := by decide +kernel
theorem dX3_courseOf_113 : decode cX3_courseOf 113 = .ok (.aload_n 0, 1) := by decide +kernel
theorem dX3_courseOf_114 : decode cX3_courseOf 114 = .ok (.getfield 10, 3) := by decide +kernel
theorem dX3_courseOf_117 : decode cX3_courseOf 117 = .ok (.iload_n 1, 1) := by decide +kernel
theorem dX3_courseOf_118 : decode cX3_courseOf 118 = .ok (.invokevirtual 260, 3) := by decide +kernel
theorem dX3_courseOf_121 : decode cX3_courseOf 121 = .ok (.ireturn, 1) := by decide +kernel
theorem dX3_courseOf_122 : decode cX3_courseOf 122 = .ok (.aload_n 0, 1) := by decide +kernel
theorem dX3_courseOf_123 : decode cX3_courseOf 123 = .ok (.getfield 10, 3) := by decide +kernel
theorem dX3_courseOf_126 : decode cX3_courseOf 126 = .ok (.iload_n 1, 1) := by decide +kernel
theorem dX3_courseOf_127 : decode cX3_courseOf 127 = .ok (.invokevirtual 164, 3) := by decide +kernel
theorem dX3_courseOf_130 : decode cX3_courseOf 130 = .ok (.ireturn, 1) := by decide +kernel
theorem dX3_courseOf_131 : decode cX3_courseOf 131 = .ok (.aload_n 0, 1) := by decide +kernel
theorem dX3_courseOf_132 : decode cX3_courseOf 132 = .ok (.getfield 10, 3) := by decide +kernel
theorem dX3_courseOf_135 : decode cX3_courseOf 135 = .ok (.iload_n 1, 1) := by decide +kernel
theorem dX3_courseOf_136 : decode cX3_courseOf 136 = .ok (.invokevirtual 263, 3) := by decide +kernel
theorem dX3_courseOf_139 : decode cX3_courseOf 139 = .ok (.ireturn, 1) := by decide +kernel
theorem dX3_courseOf_140 : decode cX3_courseOf 140 = .ok (.new 37, 3) := by decide +kernel
theorem dX3_courseOf_143 : decode cX3_courseOf 143 = .ok (.dup, 1) := by decide +kernel
theorem dX3_courseOf_144 : decode cX3_courseOf 144 = .ok (.ldc_w 266, 3) := by decide +kernel
theorem dX3_courseOf_147 : decode cX3_courseOf 147 = .ok (.invokespecial 41, 3) := by decide +kernel
theorem dX3_courseOf_150 : decode cX3_courseOf 150 = .ok (.athrow, 1) := by decide +kernel
theorem dX3_lies_0 : decode cX3_lies 0 = .ok (.aload_n 0, 1) := by decide +kernel
theorem dX3_lies_1 : decode cX3_lies 1 = .ok (.getfield 10, 3) := by decide +kernel
theorem dX3_lies_4 : decode cX3_lies 4 = .ok (.iload_n 1, 1) := by decide +kernel
theorem dX3_lies_5 : decode cX3_lies 5 = .ok (.iload_n 2, 1) := by decide +kernel
theorem dX3_lies_6 : decode cX3_lies 6 = .ok (.invokevirtual 174, 3) := by decide +kernel
theorem dX3_lies_9 : decode cX3_lies 9 = .ok (.ifCond .ne 13, 3) := by decide +kernel
theorem dX3_lies_12 : decode cX3_lies 12 = .ok (.new 65, 3) := by decide +kernel
theorem dX3_lies_15 : decode cX3_lies 15 = .ok (.dup, 1) := by decide +kernel
theorem dX3_lies_16 : decode cX3_lies 16 = .ok (.ldc 178, 2) := by decide +kernel
theorem dX3_lies_18 : decode cX3_lies 18 = .ok (.invokespecial 69, 3) := by decide +kernel
theorem dX3_lies_21 : decode cX3_lies 21 = .ok (.athrow, 1) := by decide +kernel
theorem dX3_lies_22 : decode cX3_lies 22 = .ok (.aload_n 0, 1) := by decide +kernel
theorem dX3_lies_23 : decode cX3_lies 23 = .ok (.getfield 10, 3) := by decide +kernel
theorem dX3_lies_26 : decode cX3_lies 26 = .ok (.iload_n 1, 1) := by decide +kernel
theorem dX3_lies_27 : decode cX3_lies 27 = .ok (.iload_n 2, 1) := by decide +kernel
theorem dX3_lies_28 : decode cX3_lies 28 = .ok (.invokevirtual 268, 3) := by decide +kernel
theorem dX3_lies_31 : decode cX3_lies 31 = .ok (.ireturn, 1) := by decide +kernel
theorem dX3_slates_0 : decode cX3_slates 0 = .ok (.iload_n 1, 1) := by decide +kernel
theorem dX3_slates_1 : decode cX3_slates 1 = .ok (.invokestatic 91, 3) := by decide +kernel
theorem dX3_slates_4 : decode cX3_slates 4 = .ok (.ifCond .ne 13, 3) := by decide +kernel
theorem dX3_slates_7 : decode cX3_slates 7 = .ok (.new 37, 3) := by decide +kernel
theorem dX3_slates_10 : decode cX3_slates 10 = .ok (.dup, 1) := by decide +kernel
theorem dX3_slates_11 : decode cX3_slates 11 = .ok (.ldc 136, 2) := by decide +kernel
theorem dX3_slates_13 : decode cX3_slates 13 = .ok (.invokespecial 41, 3) := by decide +kernel
theorem dX3_slates_16 : decode cX3_slates 16 = .ok (.athrow, 1) := by decide +kernel
theorem dX3_slates_17 : decode cX3_slates 17 = .ok (.iload_n 2, 1) := by decide +kernel
theorem dX3_slates_18 : decode cX3_slates 18 = .ok (.tableswitch 84 0 4 #[34, 46, 58, 67, 79], 34) := by decide +kernel
theorem dX3_slates_52 : decode cX3_slates 52 = .ok (.aload_n 0, 1) := by decide +kernel
theorem dX3_slates_53 : decode cX3_slates 53 = .ok (.getfield 10, 3) := by decide +kernel
theorem dX3_slates_56 : decode cX3_slates 56 = .ok (.getfield 117, 3) := by decide +kernel
theorem dX3_slates_59 : decode cX3_slates 59 = .ok (.iload_n 1, 1) := by decide +kernel
theorem dX3_slates_60 : decode cX3_slates 60 = .ok (.invokestatic 74, 3) := by decide +kernel
theorem dX3_slates_63 : decode cX3_slates 63 = .ok (.ireturn, 1) := by decide +kernel
theorem dX3_slates_64 : decode cX3_slates 64 = .ok (.aload_n 0, 1) := by decide +kernel
theorem dX3_slates_65 : decode cX3_slates 65 = .ok (.getfield 10, 3) := by decide +kernel
theorem dX3_slates_68 : decode cX3_slates 68 = .ok (.getfield 120, 3) := by decide +kernel
theorem dX3_slates_71 : decode cX3_slates 71 = .ok (.iload_n 1, 1) := by decide +kernel
theorem dX3_slates_72 : decode cX3_slates 72 = .ok (.invokestatic 74, 3) := by decide +kernel
theorem dX3_slates_75 : decode cX3_slates 75 = .ok (.ireturn, 1) := by decide +kernel
theorem dX3_slates_76 : decode cX3_slates 76 = .ok (.aload_n 0, 1) := by decide +kernel
theorem dX3_slates_77 : decode cX3_slates 77 = .ok (.getfield 10, 3) := by decide +kernel
theorem dX3_slates_80 : decode cX3_slates 80 = .ok (.iload_n 1, 1) := by decide +kernel
theorem dX3_slates_81 : decode cX3_slates 81 = .ok (.invokevirtual 271, 3) := by decide +kernel
theorem dX3_slates_84 : decode cX3_slates 84 = .ok (.ireturn, 1) := by decide +kernel
theorem dX3_slates_85 : decode cX3_slates 85 = .ok (.aload_n 0, 1) := by decide +kernel
theorem dX3_slates_86 : decode cX3_slates 86 = .ok (.getfield 10, 3) := by decide +kernel
theorem dX3_slates_89 : decode cX3_slates 89 = .ok (.getfield 97, 3) := by decide +kernel
theorem dX3_slates_92 : decode cX3_slates 92 = .ok (.iload_n 1, 1) := by decide +kernel
theorem dX3_slates_93 : decode cX3_slates 93 = .ok (.invokestatic 74, 3) := by decide +kernel
theorem dX3_slates_96 : decode cX3_slates 96 = .ok (.ireturn, 1) := by decide +kernel
theorem dX3_slates_97 : decode cX3_slates 97 = .ok (.iload_n 1, 1) := by decide +kernel
theorem dX3_slates_98 : decode cX3_slates 98 = .ok (.invokestatic 126, 3) := by decide +kernel
theorem dX3_slates_101 : decode cX3_slates 101 = .ok (.ireturn, 1) := by decide +kernel
theorem dX3_slates_102 : decode cX3_slates 102 = .ok (.new 37, 3) := by decide +kernel
theorem dX3_slates_105 : decode cX3_slates 105 = .ok (.dup, 1) := by decide +kernel
theorem dX3_slates_106 : decode cX3_slates 106 = .ok (.ldc_w 274, 3) := by decide +kernel
theorem dX3_slates_109 : decode cX3_slates 109 = .ok (.invokespecial 41, 3) := by decide +kernel
theorem dX3_slates_112 : decode cX3_slates 112 = .ok (.athrow, 1) := by decide +kernel
theorem dX3_count_0 : decode cX3_count 0 = .ok (.iload_n 1, 1) := by decide +kernel
theorem dX3_count_1 : decode cX3_count 1 = .ok (.tableswitch 277 0 18 #[91, 99, 107, 115, 132, 140, 148, 164, 172, 180, 188, 204, 215, 226, 237, 245, 253, 261, 269], 91) := by decide +kernel
theorem dX3_count_92 : decode cX3_count 92 = .ok (.aload_n 0, 1) := by decide +kernel
theorem dX3_count_93 : decode cX3_count 93 = .ok (.getfield 10, 3) := by decide +kernel
theorem dX3_count_96 : decode cX3_count 96 = .ok (.getfield 59, 3) := by decide +kernel
theorem dX3_count_99 : decode cX3_count 99 = .ok (.ireturn, 1) := by decide +kernel
theorem dX3_count_100 : decode cX3_count 100 = .ok (.aload_n 0, 1) := by decide +kernel
theorem dX3_count_101 : decode cX3_count 101 = .ok (.getfield 10, 3) := by decide +kernel
theorem dX3_count_104 : decode cX3_count 104 = .ok (.getfield 62, 3) := by decide +kernel
theorem dX3_count_107 : decode cX3_count 107 = .ok (.ireturn, 1) := by decide +kernel
theorem dX3_count_108 : decode cX3_count 108 = .ok (.aload_n 0, 1) := by decide +kernel
theorem dX3_count_109 : decode cX3_count 109 = .ok (.getfield 10, 3) := by decide +kernel
theorem dX3_count_112 : decode cX3_count 112 = .ok (.getfield 56, 3) := by decide +kernel
theorem dX3_count_115 : decode cX3_count 115 = .ok (.ireturn, 1) := by decide +kernel
theorem dX3_count_116 : decode cX3_count 116 = .ok (.aload_n 0, 1) := by decide +kernel
theorem dX3_count_117 : decode cX3_count 117 = .ok (.getfield 10, 3) := by decide +kernel
theorem dX3_count_120 : decode cX3_count 120 = .ok (.aload_n 0, 1) := by decide +kernel
theorem dX3_count_121 : decode cX3_count 121 = .ok (.getfield 10, 3) := by decide +kernel
theorem dX3_count_124 : decode cX3_count 124 = .ok (.getfield 56, 3) := by decide +kernel
theorem dX3_count_127 : decode cX3_count 127 = .ok (.iconst 1, 1) := by decide +kernel
theorem dX3_count_128 : decode cX3_count 128 = .ok (.isub, 1) := by decide +kernel
theorem dX3_count_129 : decode cX3_count 129 = .ok (.invokevirtual 260, 3) := by decide +kernel
theorem dX3_count_132 : decode cX3_count 132 = .ok (.ireturn, 1) := by decide +kernel
theorem dX3_count_133 : decode cX3_count 133 = .ok (.aload_n 0, 1) := by decide +kernel
theorem dX3_count_134 : decode cX3_count 134 = .ok (.getfield 10, 3) := by decide +kernel
theorem dX3_count_137 : decode cX3_count 137 = .ok (.invokevirtual 48, 3) := by decide +kernel
theorem dX3_count_140 : decode cX3_count 140 = .ok (.ireturn, 1) := by decide +kernel
theorem dX3_count_141 : decode cX3_count 141 = .ok (.aload_n 0, 1) := by decide +kernel
theorem dX3_count_142 : decode cX3_count 142 = .ok (.getfield 10, 3) := by decide +kernel
theorem dX3_count_145 : decode cX3_count 145 = .ok (.invokevirtual 276, 3) := by decide +kernel
theorem dX3_count_148 : decode cX3_count 148 = .ok (.ireturn, 1) := by decide +kernel
theorem dX3_count_149 : decode cX3_count 149 = .ok (.aload_n 0, 1) := by decide +kernel
theorem dX3_count_150 : decode cX3_count 150 = .ok (.getfield 10, 3) := by decide +kernel
theorem dX3_count_153 : decode cX3_count 153 = .ok (.invokevirtual 279, 3) := by decide +kernel
theorem dX3_count_156 : decode cX3_count 156 = .ok (.ifCond .eq 7, 3) := by decide +kernel
theorem dX3_count_159 : decode cX3_count 159 = .ok (.iconst 1, 1) := by decide +kernel
theorem dX3_count_160 : decode cX3_count 160 = .ok (.goto 4, 3) := by decide +kernel
theorem dX3_count_163 : decode cX3_count 163 = .ok (.iconst 0, 1) := by decide +kernel
theorem dX3_count_164 : decode cX3_count 164 = .ok (.ireturn, 1) := by decide +kernel
theorem dX3_count_165 : decode cX3_count 165 = .ok (.aload_n 0, 1) := by decide +kernel
theorem dX3_count_166 : decode cX3_count 166 = .ok (.getfield 10, 3) := by decide +kernel
theorem dX3_count_169 : decode cX3_count 169 = .ok (.getfield 194, 3) := by decide +kernel
theorem dX3_count_172 : decode cX3_count 172 = .ok (.ireturn, 1) := by decide +kernel
theorem dX3_count_173 : decode cX3_count 173 = .ok (.aload_n 0, 1) := by decide +kernel
theorem dX3_count_174 : decode cX3_count 174 = .ok (.getfield 10, 3) := by decide +kernel
theorem dX3_count_177 : decode cX3_count 177 = .ok (.getfield 185, 3) := by decide +kernel
theorem dX3_count_180 : decode cX3_count 180 = .ok (.ireturn, 1) := by decide +kernel
theorem dX3_count_181 : decode cX3_count 181 = .ok (.aload_n 0, 1) := by decide +kernel
theorem dX3_count_182 : decode cX3_count 182 = .ok (.getfield 10, 3) := by decide +kernel
theorem dX3_count_185 : decode cX3_count 185 = .ok (.getfield 282, 3) := by decide +kernel
theorem dX3_count_188 : decode cX3_count 188 = .ok (.ireturn, 1) := by decide +kernel
theorem dX3_count_189 : decode cX3_count 189 = .ok (.aload_n 0, 1) := by decide +kernel
theorem dX3_count_190 : decode cX3_count 190 = .ok (.getfield 10, 3) := by decide +kernel
theorem dX3_count_193 : decode cX3_count 193 = .ok (.getfield 188, 3) := by decide +kernel
theorem dX3_count_196 : decode cX3_count 196 = .ok (.ifCond .eq 7, 3) := by decide +kernel
theorem dX3_count_199 : decode cX3_count 199 = .ok (.iconst 1, 1) := by decide +kernel
theorem dX3_count_200 : decode cX3_count 200 = .ok (.goto 4, 3) := by decide +kernel
theorem dX3_count_203 : decode cX3_count 203 = .ok (.iconst 0, 1) := by decide +kernel
theorem dX3_count_204 : decode cX3_count 204 = .ok (.ireturn, 1) := by decide +kernel
theorem dX3_count_205 : decode cX3_count 205 = .ok (.aload_n 0, 1) := by decide +kernel
theorem dX3_count_206 : decode cX3_count 206 = .ok (.getfield 10, 3) := by decide +kernel
theorem dX3_count_209 : decode cX3_count 209 = .ok (.getfield 97, 3) := by decide +kernel
theorem dX3_count_212 : decode cX3_count 212 = .ok (.invokestatic 100, 3) := by decide +kernel
theorem dX3_count_215 : decode cX3_count 215 = .ok (.ireturn, 1) := by decide +kernel
theorem dX3_count_216 : decode cX3_count 216 = .ok (.aload_n 0, 1) := by decide +kernel
theorem dX3_count_217 : decode cX3_count 217 = .ok (.getfield 10, 3) := by decide +kernel
theorem dX3_count_220 : decode cX3_count 220 = .ok (.getfield 117, 3) := by decide +kernel
theorem dX3_count_223 : decode cX3_count 223 = .ok (.invokestatic 100, 3) := by decide +kernel
theorem dX3_count_226 : decode cX3_count 226 = .ok (.ireturn, 1) := by decide +kernel
theorem dX3_count_227 : decode cX3_count 227 = .ok (.aload_n 0, 1) := by decide +kernel
theorem dX3_count_228 : decode cX3_count 228 = .ok (.getfield 10, 3) := by decide +kernel
theorem dX3_count_231 : decode cX3_count 231 = .ok (.getfield 120, 3) := by decide +kernel
theorem dX3_count_234 : decode cX3_count 234 = .ok (.invokestatic 100, 3) := by decide +kernel
theorem dX3_count_237 : decode cX3_count 237 = .ok (.ireturn, 1) := by decide +kernel
theorem dX3_count_238 : decode cX3_count 238 = .ok (.aload_n 0, 1) := by decide +kernel
theorem dX3_count_239 : decode cX3_count 239 = .ok (.getfield 10, 3) := by decide +kernel
theorem dX3_count_242 : decode cX3_count 242 = .ok (.getfield 133, 3) := by decide +kernel
theorem dX3_count_245 : decode cX3_count 245 = .ok (.ireturn, 1) := by decide +kernel
theorem dX3_count_246 : decode cX3_count 246 = .ok (.aload_n 0, 1) := by decide +kernel
theorem dX3_count_247 : decode cX3_count 247 = .ok (.getfield 10, 3) := by decide +kernel
theorem dX3_count_250 : decode cX3_count 250 = .ok (.getfield 138, 3) := by decide +kernel
theorem dX3_count_253 : decode cX3_count 253 = .ok (.ireturn, 1) := by decide +kernel
theorem dX3_count_254 : decode cX3_count 254 = .ok (.aload_n 0, 1) := by decide +kernel
theorem dX3_count_255 : decode cX3_count 255 = .ok (.getfield 10, 3) := by decide +kernel
theorem dX3_count_258 : decode cX3_count 258 = .ok (.getfield 52, 3) := by decide +kernel
theorem dX3_count_261 : decode cX3_count 261 = .ok (.ireturn, 1) := by decide +kernel
theorem dX3_count_262 : decode cX3_count 262 = .ok (.aload_n 0, 1) := by decide +kernel
theorem dX3_count_263 : decode cX3_count 263 = .ok (.getfield 10, 3) := by decide +kernel
theorem dX3_count_266 : decode cX3_count 266 = .ok (.getfield 123, 3) := by decide +kernel
theorem dX3_count_269 : decode cX3_count 269 = .ok (.ireturn, 1) := by decide +kernel
theorem dX3_count_270 : decode cX3_count 270 = .ok (.aload_n 0, 1) := by decide +kernel
theorem dX3_count_271 : decode cX3_count 271 = .ok (.getfield 22, 3) := by decide +kernel
theorem dX3_count_274 : decode cX3_count 274 = .ok (.getfield 238, 3) := by decide +kernel
theorem dX3_count_277 : decode cX3_count 277 = .ok (.ireturn, 1) := by decide +kernel
theorem dX3_count_278 : decode cX3_count 278 = .ok (.new 37, 3) := by decide +kernel
theorem dX3_count_281 : decode cX3_count 281 = .ok (.dup, 1) := by decide +kernel
theorem dX3_count_282 : decode cX3_count 282 = .ok (.ldc_w 274, 3) := by decide +kernel
theorem dX3_count_285 : decode cX3_count 285 = .ok (.invokespecial 41, 3) := by decide +kernel
theorem dX3_count_288 : decode cX3_count 288 = .ok (.athrow, 1) := by decide +kernel
theorem dX3_setting_0 : decode cX3_setting 0 = .ok (.iload_n 1, 1) := by decide +kernel
theorem dX3_setting_1 : decode cX3_setting 1 = .ok (.iconst 0, 1) := by decide +kernel
theorem dX3_setting_2 : decode cX3_setting 2 = .ok (.iconst 2, 1) := by decide +kernel
theorem dX3_setting_3 : decode cX3_setting 3 = .ok (.invokestatic 33, 3) := by decide +kernel
theorem dX3_setting_6 : decode cX3_setting 6 = .ok (.ifCond .ne 13, 3) := by decide +kernel
theorem dX3_setting_9 : decode cX3_setting 9 = .ok (.new 65, 3) := by decide +kernel
theorem dX3_setting_12 : decode cX3_setting 12 = .ok (.dup, 1) := by decide +kernel
theorem dX3_setting_13 : decode cX3_setting 13 = .ok (.ldc 67, 2) := by decide +kernel
theorem dX3_setting_15 : decode cX3_setting 15 = .ok (.invokespecial 69, 3) := by decide +kernel
theorem dX3_setting_18 : decode cX3_setting 18 = .ok (.athrow, 1) := by decide +kernel
theorem dX3_setting_19 : decode cX3_setting 19 = .ok (.aload_n 0, 1) := by decide +kernel
theorem dX3_setting_20 : decode cX3_setting 20 = .ok (.getfield 10, 3) := by decide +kernel
theorem dX3_setting_23 : decode cX3_setting 23 = .ok (.iload_n 1, 1) := by decide +kernel
theorem dX3_setting_24 : decode cX3_setting 24 = .ok (.invokevirtual 83, 3) := by decide +kernel
theorem dX3_setting_27 : decode cX3_setting 27 = .ok (.ireturn, 1) := by decide +kernel
theorem dX3_toTop_0 : decode cX3_toTop 0 = .ok (.iload_n 1, 1) := by decide +kernel
theorem dX3_toTop_1 : decode cX3_toTop 1 = .ok (.invokestatic 91, 3) := by decide +kernel
theorem dX3_toTop_4 : decode cX3_toTop 4 = .ok (.ifCond .eq 12, 3) := by decide +kernel
theorem dX3_toTop_7 : decode cX3_toTop 7 = .ok (.iload_n 2, 1) := by decide +kernel
theorem dX3_toTop_8 : decode cX3_toTop 8 = .ok (.iconst 0, 1) := by decide +kernel
theorem dX3_toTop_9 : decode cX3_toTop 9 = .ok (.iconst 1, 1) := by decide +kernel
theorem dX3_toTop_10 : decode cX3_toTop 10 = .ok (.invokestatic 33, 3) := by decide +kernel
theorem dX3_toTop_13 : decode cX3_toTop 13 = .ok (.ifCond .ne 14, 3) := by decide +kernel
theorem dX3_toTop_16 : decode cX3_toTop 16 = .ok (.new 37, 3) := by decide +kernel
theorem dX3_toTop_19 : decode cX3_toTop 19 = .ok (.dup, 1) := by decide +kernel
theorem dX3_toTop_20 : decode cX3_toTop 20 = .ok (.ldc_w 285, 3) := by decide +kernel
theorem dX3_toTop_23 : decode cX3_toTop 23 = .ok (.invokespecial 41, 3) := by decide +kernel
theorem dX3_toTop_26 : decode cX3_toTop 26 = .ok (.athrow, 1) := by decide +kernel
theorem dX3_toTop_27 : decode cX3_toTop 27 = .ok (.iload_n 1, 1) := by decide +kernel
theorem dX3_toTop_28 : decode cX3_toTop 28 = .ok (.aload_n 0, 1) := by decide +kernel
theorem dX3_toTop_29 : decode cX3_toTop 29 = .ok (.getfield 10, 3) := by decide +kernel
theorem dX3_toTop_32 : decode cX3_toTop 32 = .ok (.invokevirtual 148, 3) := by decide +kernel
theorem dX3_toTop_35 : decode cX3_toTop 35 = .ok (.if_icmp .le 5, 3) := by decide +kernel
theorem dX3_toTop_38 : decode cX3_toTop 38 = .ok (.iconst (-1), 1) := by decide +kernel
theorem dX3_toTop_39 : decode cX3_toTop 39 = .ok (.ireturn, 1) := by decide +kernel
theorem dX3_toTop_40 : decode cX3_toTop 40 = .ok (.aload_n 0, 1) := by decide +kernel
theorem dX3_toTop_41 : decode cX3_toTop 41 = .ok (.getfield 10, 3) := by decide +kernel
theorem dX3_toTop_44 : decode cX3_toTop 44 = .ok (.iload_n 1, 1) := by decide +kernel
theorem dX3_toTop_45 : decode cX3_toTop 45 = .ok (.invokevirtual 287, 3) := by decide +kernel
theorem dX3_toTop_48 : decode cX3_toTop 48 = .ok (.istore_n 3, 1) := by decide +kernel
theorem dX3_toTop_49 : decode cX3_toTop 49 = .ok (.iload_n 2, 1) := by decide +kernel
theorem dX3_toTop_50 : decode cX3_toTop 50 = .ok (.ifCond .ne 7, 3) := by decide +kernel
theorem dX3_toTop_53 : decode cX3_toTop 53 = .ok (.iload_n 3, 1) := by decide +kernel
theorem dX3_toTop_54 : decode cX3_toTop 54 = .ok (.goto 11, 3) := by decide +kernel
theorem dX3_toTop_57 : decode cX3_toTop 57 = .ok (.aload_n 0, 1) := by decide +kernel
theorem dX3_toTop_58 : decode cX3_toTop 58 = .ok (.getfield 10, 3) := by decide +kernel
theorem dX3_toTop_61 : decode cX3_toTop 61 = .ok (.iload_n 3, 1) := by decide +kernel
theorem dX3_toTop_62 : decode cX3_toTop 62 = .ok (.invokevirtual 290, 3) := by decide +kernel
theorem dX3_toTop_65 : decode cX3_toTop 65 = .ok (.ireturn, 1) := by decide +kernel
theorem dX3_reach_0 : decode cX3_reach 0 = .ok (.iload_n 1, 1) := by decide +kernel
theorem dX3_reach_1 : decode cX3_reach 1 = .ok (.iconst 0, 1) := by decide +kernel
theorem dX3_reach_2 : decode cX3_reach 2 = .ok (.iconst 3, 1) := by decide +kernel
theorem dX3_reach_3 : decode cX3_reach 3 = .ok (.invokestatic 33, 3) := by decide +kernel
theorem dX3_reach_6 : decode cX3_reach 6 = .ok (.ifCond .ne 14, 3) := by decide +kernel
theorem dX3_reach_9 : decode cX3_reach 9 = .ok (.new 37, 3) := by decide +kernel
theorem dX3_reach_12 : decode cX3_reach 12 = .ok (.dup, 1) := by decide +kernel
theorem dX3_reach_13 : decode cX3_reach 13 = .ok (.ldc_w 274, 3) := by decide +kernel
theorem dX3_reach_16 : decode cX3_reach 16 = .ok (.invokespecial 41, 3) := by decide +kernel
theorem dX3_reach_19 : decode cX3_reach 19 = .ok (.athrow, 1) := by decide +kernel
theorem dX3_reach_20 : decode cX3_reach 20 = .ok (.aload_n 0, 1) := by decide +kernel
theorem dX3_reach_21 : decode cX3_reach 21 = .ok (.getfield 16, 3) := by decide +kernel
theorem dX3_reach_24 : decode cX3_reach 24 = .ok (.aload_n 0, 1) := by decide +kernel
theorem dX3_reach_25 : decode cX3_reach 25 = .ok (.getfield 10, 3) := by decide +kernel
theorem dX3_reach_28 : decode cX3_reach 28 = .ok (.invokevirtual 293, 3) := by decide +kernel
theorem dX3_reach_31 : decode cX3_reach 31 = .ok (.aload_n 0, 1) := by decide +kernel
theorem dX3_reach_32 : decode cX3_reach 32 = .ok (.getfield 16, 3) := by decide +kernel
theorem dX3_reach_35 : decode cX3_reach 35 = .ok (.invokevirtual 296, 3) := by decide +kernel
theorem dX3_reach_38 : decode cX3_reach 38 = .ok (.aload_n 0, 1) := by decide +kernel
theorem dX3_reach_39 : decode cX3_reach 39 = .ok (.getfield 16, 3) := by decide +kernel
theorem dX3_reach_42 : decode cX3_reach 42 = .ok (.getfield 56, 3) := by decide +kernel
theorem dX3_reach_45 : decode cX3_reach 45 = .ok (.aload_n 0, 1) := by decide +kernel
theorem dX3_reach_46 : decode cX3_reach 46 = .ok (.getfield 10, 3) := by decide +kernel
theorem dX3_reach_49 : decode cX3_reach 49 = .ok (.getfield 56, 3) := by decide +kernel
theorem dX3_reach_52 : decode cX3_reach 52 = .ok (.isub, 1) := by decide +kernel
theorem dX3_reach_53 : decode cX3_reach 53 = .ok (.istore_n 2, 1) := by decide +kernel
theorem dX3_reach_54 : decode cX3_reach 54 = .ok (.iload_n 1, 1) := by decide +kernel
theorem dX3_reach_55 : decode cX3_reach 55 = .ok (.tableswitch 55 0 2 #[25, 27, 44], 25) := by decide +kernel
theorem dX3_reach_80 : decode cX3_reach 80 = .ok (.iload_n 2, 1) := by decide +kernel
theorem dX3_reach_81 : decode cX3_reach 81 = .ok (.ireturn, 1) := by decide +kernel
theorem dX3_reach_82 : decode cX3_reach 82 = .ok (.aload_n 0, 1) := by decide +kernel
theorem dX3_reach_83 : decode cX3_reach 83 = .ok (.getfield 16, 3) := by decide +kernel
theorem dX3_reach_86 : decode cX3_reach 86 = .ok (.aload_n 0, 1) := by decide +kernel
theorem dX3_reach_87 : decode cX3_reach 87 = .ok (.getfield 16, 3) := by decide +kernel
theorem dX3_reach_90 : decode cX3_reach 90 = .ok (.getfield 56, 3) := by decide +kernel
theorem dX3_reach_93 : decode cX3_reach 93 = .ok (.iconst 1, 1) := by decide +kernel
theorem dX3_reach_94 : decode cX3_reach 94 = .ok (.isub, 1) := by decide +kernel
theorem dX3_reach_95 : decode cX3_reach 95 = .ok (.invokevirtual 260, 3) := by decide +kernel
theorem dX3_reach_98 : decode cX3_reach 98 = .ok (.ireturn, 1) := by decide +kernel
theorem dX3_reach_99 : decode cX3_reach 99 = .ok (.aload_n 0, 1) := by decide +kernel
theorem dX3_reach_100 : decode cX3_reach 100 = .ok (.getfield 16, 3) := by decide +kernel
theorem dX3_reach_103 : decode cX3_reach 103 = .ok (.getfield 117, 3) := by decide +kernel
theorem dX3_reach_106 : decode cX3_reach 106 = .ok (.invokestatic 100, 3) := by decide +kernel
theorem dX3_reach_109 : decode cX3_reach 109 = .ok (.ireturn, 1) := by decide +kernel
theorem dX3_reach_110 : decode cX3_reach 110 = .ok (.iload_n 2, 1) := by decide +kernel
theorem dX3_reach_111 : decode cX3_reach 111 = .ok (.ifCond .ne 7, 3) := by decide +kernel
theorem dX3_reach_114 : decode cX3_reach 114 = .ok (.iconst (-1), 1) := by decide +kernel
theorem dX3_reach_115 : decode cX3_reach 115 = .ok (.goto 10, 3) := by decide +kernel
theorem dX3_reach_118 : decode cX3_reach 118 = .ok (.aload_n 0, 1) := by decide +kernel
theorem dX3_reach_119 : decode cX3_reach 119 = .ok (.getfield 16, 3) := by decide +kernel
theorem dX3_reach_122 : decode cX3_reach 122 = .ok (.invokevirtual 148, 3) := by decide +kernel
theorem dX3_reach_125 : decode cX3_reach 125 = .ok (.ireturn, 1) := by decide +kernel
theorem dX3_dryDays_0 : decode cX3_dryDays 0 = .ok (.aload_n 0, 1) := by decide +kernel
theorem dX3_dryDays_1 : decode cX3_dryDays 1 = .ok (.getfield 10, 3) := by decide +kernel
theorem dX3_dryDays_4 : decode cX3_dryDays 4 = .ok (.invokevirtual 279, 3) := by decide +kernel
theorem dX3_dryDays_7 : decode cX3_dryDays 7 = .ok (.ifCond .eq 5, 3) := by decide +kernel
theorem dX3_dryDays_10 : decode cX3_dryDays 10 = .ok (.iconst 0, 1) := by decide +kernel
theorem dX3_dryDays_11 : decode cX3_dryDays 11 = .ok (.ireturn, 1) := by decide +kernel
theorem dX3_dryDays_12 : decode cX3_dryDays 12 = .ok (.aload_n 0, 1) := by decide +kernel
theorem dX3_dryDays_13 : decode cX3_dryDays 13 = .ok (.getfield 16, 3) := by decide +kernel
theorem dX3_dryDays_16 : decode cX3_dryDays 16 = .ok (.aload_n 0, 1) := by decide +kernel
theorem dX3_dryDays_17 : decode cX3_dryDays 17 = .ok (.getfield 10, 3) := by decide +kernel
theorem dX3_dryDays_20 : decode cX3_dryDays 20 = .ok (.invokevirtual 293, 3) := by decide +kernel
theorem dX3_dryDays_23 : decode cX3_dryDays 23 = .ok (.aload_n 0, 1) := by decide +kernel
theorem dX3_dryDays_24 : decode cX3_dryDays 24 = .ok (.getfield 16, 3) := by decide +kernel
theorem dX3_dryDays_27 : decode cX3_dryDays 27 = .ok (.iconst 0, 1) := by decide +kernel
theorem dX3_dryDays_28 : decode cX3_dryDays 28 = .ok (.putfield 188, 3) := by decide +kernel
theorem dX3_dryDays_31 : decode cX3_dryDays 31 = .ok (.iconst 1, 1) := by decide +kernel
theorem dX3_dryDays_32 : decode cX3_dryDays 32 = .ok (.istore_n 1, 1) := by decide +kernel
theorem dX3_dryDays_33 : decode cX3_dryDays 33 = .ok (.iload_n 1, 1) := by decide +kernel
theorem dX3_dryDays_34 : decode cX3_dryDays 34 = .ok (.sipush 200, 3) := by decide +kernel
theorem dX3_dryDays_37 : decode cX3_dryDays 37 = .ok (.if_icmp .gt 54, 3) := by decide +kernel
theorem dX3_dryDays_40 : decode cX3_dryDays 40 = .ok (.aload_n 0, 1) := by decide +kernel
theorem dX3_dryDays_41 : decode cX3_dryDays 41 = .ok (.getfield 16, 3) := by decide +kernel
theorem dX3_dryDays_44 : decode cX3_dryDays 44 = .ok (.iconst 0, 1) := by decide +kernel
theorem dX3_dryDays_45 : decode cX3_dryDays 45 = .ok (.invokevirtual 199, 3) := by decide +kernel
theorem dX3_dryDays_48 : decode cX3_dryDays 48 = .ok (.pop, 1) := by decide +kernel
theorem dX3_dryDays_49 : decode cX3_dryDays 49 = .ok (.aload_n 0, 1) := by decide +kernel
theorem dX3_dryDays_50 : decode cX3_dryDays 50 = .ok (.getfield 16, 3) := by decide +kernel
theorem dX3_dryDays_53 : decode cX3_dryDays 53 = .ok (.invokevirtual 235, 3) := by decide +kernel
theorem dX3_dryDays_56 : decode cX3_dryDays 56 = .ok (.istore_n 2, 1) := by decide +kernel
theorem dX3_dryDays_57 : decode cX3_dryDays 57 = .ok (.aload_n 0, 1) := by decide +kernel
theorem dX3_dryDays_58 : decode cX3_dryDays 58 = .ok (.getfield 16, 3) := by decide +kernel
theorem dX3_dryDays_61 : decode cX3_dryDays 61 = .ok (.invokevirtual 279, 3) := by decide +kernel
theorem dX3_dryDays_64 : decode cX3_dryDays 64 = .ok (.ifCond .eq 5, 3) := by decide +kernel
theorem dX3_dryDays_67 : decode cX3_dryDays 67 = .ok (.iload_n 1, 1) := by decide +kernel
theorem dX3_dryDays_68 : decode cX3_dryDays 68 = .ok (.ireturn, 1) := by decide +kernel
theorem dX3_dryDays_69 : decode cX3_dryDays 69 = .ok (.iload_n 2, 1) := by decide +kernel
theorem dX3_dryDays_70 : decode cX3_dryDays 70 = .ok (.ifCond .ne 15, 3) := by decide +kernel
theorem dX3_dryDays_73 : decode cX3_dryDays 73 = .ok (.aload_n 0, 1) := by decide +kernel
theorem dX3_dryDays_74 : decode cX3_dryDays 74 = .ok (.getfield 16, 3) := by decide +kernel
theorem dX3_dryDays_77 : decode cX3_dryDays 77 = .ok (.invokevirtual 141, 3) := by decide +kernel
theorem dX3_dryDays_80 : decode cX3_dryDays 80 = .ok (.ifCond .eq 5, 3) := by decide +kernel
theorem dX3_dryDays_83 : decode cX3_dryDays 83 = .ok (.iconst (-1), 1) := by decide +kernel
theorem dX3_dryDays_84 : decode cX3_dryDays 84 = .ok (.ireturn, 1) := by decide +kernel
theorem dX3_dryDays_85 : decode cX3_dryDays 85 = .ok (.iinc 1 1, 3) := by decide +kernel
theorem dX3_dryDays_88 : decode cX3_dryDays 88 = .ok (.goto (-55), 3) := by decide +kernel
theorem dX3_dryDays_91 : decode cX3_dryDays 91 = .ok (.iconst (-1), 1) := by decide +kernel
theorem dX3_dryDays_92 : decode cX3_dryDays 92 = .ok (.ireturn, 1) := by decide +kernel
theorem dX3_bestLength_0 : decode cX3_bestLength 0 = .ok (.aload_n 0, 1) := by decide +kernel
theorem dX3_bestLength_1 : decode cX3_bestLength 1 = .ok (.getfield 10, 3) := by decide +kernel
theorem dX3_bestLength_4 : decode cX3_bestLength 4 = .ok (.invokevirtual 299, 3) := by decide +kernel
theorem dX3_bestLength_7 : decode cX3_bestLength 7 = .ok (.ifCond .eq 5, 3) := by decide +kernel
theorem dX3_bestLength_10 : decode cX3_bestLength 10 = .ok (.iconst (-1), 1) := by decide +kernel
theorem dX3_bestLength_11 : decode cX3_bestLength 11 = .ok (.ireturn, 1) := by decide +kernel
theorem dX3_bestLength_12 : decode cX3_bestLength 12 = .ok (.iconst (-1), 1) := by decide +kernel
theorem dX3_bestLength_13 : decode cX3_bestLength 13 = .ok (.istore_n 1, 1) := by decide +kernel
theorem dX3_bestLength_14 : decode cX3_bestLength 14 = .ok (.iconst 0, 1) := by decide +kernel
theorem dX3_bestLength_15 : decode cX3_bestLength 15 = .ok (.istore_n 2, 1) := by decide +kernel
theorem dX3_bestLength_16 : decode cX3_bestLength 16 = .ok (.aload_n 0, 1) := by decide +kernel
theorem dX3_bestLength_17 : decode cX3_bestLength 17 = .ok (.getfield 10, 3) := by decide +kernel
theorem dX3_bestLength_20 : decode cX3_bestLength 20 = .ok (.invokevirtual 148, 3) := by decide +kernel
theorem dX3_bestLength_23 : decode cX3_bestLength 23 = .ok (.istore_n 3, 1) := by decide +kernel
theorem dX3_bestLength_24 : decode cX3_bestLength 24 = .ok (.iload_n 3, 1) := by decide +kernel
theorem dX3_bestLength_25 : decode cX3_bestLength 25 = .ok (.bipush 8, 2) := by decide +kernel
theorem dX3_bestLength_27 : decode cX3_bestLength 27 = .ok (.if_icmp .lt 47, 3) := by decide +kernel
theorem dX3_bestLength_30 : decode cX3_bestLength 30 = .ok (.aload_n 0, 1) := by decide +kernel
theorem dX3_bestLength_31 : decode cX3_bestLength 31 = .ok (.getfield 10, 3) := by decide +kernel
theorem dX3_bestLength_34 : decode cX3_bestLength 34 = .ok (.aload_n 0, 1) := by decide +kernel
theorem dX3_bestLength_35 : decode cX3_bestLength 35 = .ok (.getfield 10, 3) := by decide +kernel
theorem dX3_bestLength_38 : decode cX3_bestLength 38 = .ok (.iload_n 3, 1) := by decide +kernel
theorem dX3_bestLength_39 : decode cX3_bestLength 39 = .ok (.invokevirtual 287, 3) := by decide +kernel
theorem dX3_bestLength_42 : decode cX3_bestLength 42 = .ok (.invokevirtual 290, 3) := by decide +kernel
theorem dX3_bestLength_45 : decode cX3_bestLength 45 = .ok (.iload_n 3, 1) := by decide +kernel
theorem dX3_bestLength_46 : decode cX3_bestLength 46 = .ok (.invokestatic 126, 3) := by decide +kernel
theorem dX3_bestLength_49 : decode cX3_bestLength 49 = .ok (.imul, 1) := by decide +kernel
theorem dX3_bestLength_50 : decode cX3_bestLength 50 = .ok (.istore 4, 2) := by decide +kernel
theorem dX3_bestLength_52 : decode cX3_bestLength 52 = .ok (.iload_n 1, 1) := by decide +kernel
theorem dX3_bestLength_53 : decode cX3_bestLength 53 = .ok (.iconst (-1), 1) := by decide +kernel
theorem dX3_bestLength_54 : decode cX3_bestLength 54 = .ok (.if_icmp .eq 9, 3) := by decide +kernel
theorem dX3_bestLength_57 : decode cX3_bestLength 57 = .ok (.iload 4, 2) := by decide +kernel
theorem dX3_bestLength_59 : decode cX3_bestLength 59 = .ok (.iload_n 2, 1) := by decide +kernel
theorem dX3_bestLength_60 : decode cX3_bestLength 60 = .ok (.if_icmp .ge 8, 3) := by decide +kernel
theorem dX3_bestLength_63 : decode cX3_bestLength 63 = .ok (.iload_n 3, 1) := by decide +kernel
theorem dX3_bestLength_64 : decode cX3_bestLength 64 = .ok (.istore_n 1, 1) := by decide +kernel
theorem dX3_bestLength_65 : decode cX3_bestLength 65 = .ok (.iload 4, 2) := by decide +kernel
theorem dX3_bestLength_67 : decode cX3_bestLength 67 = .ok (.istore_n 2, 1) := by decide +kernel
theorem dX3_bestLength_68 : decode cX3_bestLength 68 = .ok (.iinc 3 (-1), 3) := by decide +kernel
theorem dX3_bestLength_71 : decode cX3_bestLength 71 = .ok (.goto (-47), 3) := by decide +kernel
theorem dX3_bestLength_74 : decode cX3_bestLength 74 = .ok (.iload_n 1, 1) := by decide +kernel
theorem dX3_bestLength_75 : decode cX3_bestLength 75 = .ok (.ireturn, 1) := by decide +kernel
theorem dX3_meanPrice_0 : decode cX3_meanPrice 0 = .ok (.aload_n 0, 1) := by decide +kernel
theorem dX3_meanPrice_1 : decode cX3_meanPrice 1 = .ok (.getfield 10, 3) := by decide +kernel
theorem dX3_meanPrice_4 : decode cX3_meanPrice 4 = .ok (.invokevirtual 48, 3) := by decide +kernel
theorem dX3_meanPrice_7 : decode cX3_meanPrice 7 = .ok (.aload_n 0, 1) := by decide +kernel
theorem dX3_meanPrice_8 : decode cX3_meanPrice 8 = .ok (.getfield 10, 3) := by decide +kernel
theorem dX3_meanPrice_11 : decode cX3_meanPrice 11 = .ok (.getfield 52, 3) := by decide +kernel
theorem dX3_meanPrice_14 : decode cX3_meanPrice 14 = .ok (.iadd, 1) := by decide +kernel
theorem dX3_meanPrice_15 : decode cX3_meanPrice 15 = .ok (.istore_n 1, 1) := by decide +kernel
theorem dX3_meanPrice_16 : decode cX3_meanPrice 16 = .ok (.iload_n 1, 1) := by decide +kernel
theorem dX3_meanPrice_17 : decode cX3_meanPrice 17 = .ok (.ifCond .gt 5, 3) := by decide +kernel
theorem dX3_meanPrice_20 : decode cX3_meanPrice 20 = .ok (.dconst 0, 1) := by decide +kernel
theorem dX3_meanPrice_21 : decode cX3_meanPrice 21 = .ok (.dreturn, 1) := by decide +kernel
theorem dX3_meanPrice_22 : decode cX3_meanPrice 22 = .ok (.aload_n 0, 1) := by decide +kernel
theorem dX3_meanPrice_23 : decode cX3_meanPrice 23 = .ok (.getfield 10, 3) := by decide +kernel
theorem dX3_meanPrice_26 : decode cX3_meanPrice 26 = .ok (.getfield 123, 3) := by decide +kernel
theorem dX3_meanPrice_29 : decode cX3_meanPrice 29 = .ok (.i2d, 1) := by decide +kernel
theorem dX3_meanPrice_30 : decode cX3_meanPrice 30 = .ok (.iload_n 1, 1) := by decide +kernel
theorem dX3_meanPrice_31 : decode cX3_meanPrice 31 = .ok (.i2d, 1) := by decide +kernel
theorem dX3_meanPrice_32 : decode cX3_meanPrice 32 = .ok (.ddiv, 1) := by decide +kernel
theorem dX3_meanPrice_33 : decode cX3_meanPrice 33 = .ok (.dreturn, 1) := by decide +kernel
theorem dX3_digest_0 : decode cX3_digest 0 = .ok (.ldc2_w 302, 3) := by decide +kernel
theorem dX3_digest_3 : decode cX3_digest 3 = .ok (.lstore_n 1, 1) := by decide +kernel
theorem dX3_digest_4 : decode cX3_digest 4 = .ok (.iconst 0, 1) := by decide +kernel
theorem dX3_digest_5 : decode cX3_digest 5 = .ok (.istore_n 3, 1) := by decide +kernel
theorem dX3_digest_6 : decode cX3_digest 6 = .ok (.iload_n 3, 1) := by decide +kernel
theorem dX3_digest_7 : decode cX3_digest 7 = .ok (.bipush 18, 2) := by decide +kernel
theorem dX3_digest_9 : decode cX3_digest 9 = .ok (.if_icmp .gt 20, 3) := by decide +kernel
theorem dX3_digest_12 : decode cX3_digest 12 = .ok (.lload_n 1, 1) := by decide +kernel
theorem dX3_digest_13 : decode cX3_digest 13 = .ok (.aload_n 0, 1) := by decide +kernel
theorem dX3_digest_14 : decode cX3_digest 14 = .ok (.iload_n 3, 1) := by decide +kernel
theorem dX3_digest_15 : decode cX3_digest 15 = .ok (.invokevirtual 304, 3) := by decide +kernel
theorem dX3_digest_18 : decode cX3_digest 18 = .ok (.i2l, 1) := by decide +kernel
theorem dX3_digest_19 : decode cX3_digest 19 = .ok (.invokestatic 307, 3) := by decide +kernel
theorem dX3_digest_22 : decode cX3_digest 22 = .ok (.lstore_n 1, 1) := by decide +kernel
theorem dX3_digest_23 : decode cX3_digest 23 = .ok (.iinc 3 1, 3) := by decide +kernel
theorem dX3_digest_26 : decode cX3_digest 26 = .ok (.goto (-20), 3) := by decide +kernel
theorem dX3_digest_29 : decode cX3_digest 29 = .ok (.iconst 0, 1) := by decide +kernel
theorem dX3_digest_30 : decode cX3_digest 30 = .ok (.istore_n 3, 1) := by decide +kernel
theorem dX3_digest_31 : decode cX3_digest 31 = .ok (.iload_n 3, 1) := by decide +kernel
theorem dX3_digest_32 : decode cX3_digest 32 = .ok (.iconst 2, 1) := by decide +kernel
theorem dX3_digest_33 : decode cX3_digest 33 = .ok (.if_icmp .gt 20, 3) := by decide +kernel
theorem dX3_digest_36 : decode cX3_digest 36 = .ok (.lload_n 1, 1) := by decide +kernel
theorem dX3_digest_37 : decode cX3_digest 37 = .ok (.aload_n 0, 1) := by decide +kernel
theorem dX3_digest_38 : decode cX3_digest 38 = .ok (.iload_n 3, 1) := by decide +kernel
theorem dX3_digest_39 : decode cX3_digest 39 = .ok (.invokevirtual 311, 3) := by decide +kernel
theorem dX3_digest_42 : decode cX3_digest 42 = .ok (.i2l, 1) := by decide +kernel
theorem dX3_digest_43 : decode cX3_digest 43 = .ok (.invokestatic 307, 3) := by decide +kernel
theorem dX3_digest_46 : decode cX3_digest 46 = .ok (.lstore_n 1, 1) := by decide +kernel
theorem dX3_digest_47 : decode cX3_digest 47 = .ok (.iinc 3 1, 3) := by decide +kernel
theorem dX3_digest_50 : decode cX3_digest 50 = .ok (.goto (-19), 3) := by decide +kernel
theorem dX3_digest_53 : decode cX3_digest 53 = .ok (.aload_n 0, 1) := by decide +kernel
theorem dX3_digest_54 : decode cX3_digest 54 = .ok (.lload_n 1, 1) := by decide +kernel
theorem dX3_digest_55 : decode cX3_digest 55 = .ok (.invokevirtual 314, 3) := by decide +kernel
theorem dX3_digest_58 : decode cX3_digest 58 = .ok (.lstore_n 1, 1) := by decide +kernel
theorem dX3_digest_59 : decode cX3_digest 59 = .ok (.aload_n 0, 1) := by decide +kernel
theorem dX3_digest_60 : decode cX3_digest 60 = .ok (.lload_n 1, 1) := by decide +kernel
theorem dX3_digest_61 : decode cX3_digest 61 = .ok (.invokevirtual 318, 3) := by decide +kernel
theorem dX3_digest_64 : decode cX3_digest 64 = .ok (.lstore_n 1, 1) := by decide +kernel
theorem dX3_digest_65 : decode cX3_digest 65 = .ok (.iconst 0, 1) := by decide +kernel
theorem dX3_digest_66 : decode cX3_digest 66 = .ok (.istore_n 3, 1) := by decide +kernel
theorem dX3_digest_67 : decode cX3_digest 67 = .ok (.iload_n 3, 1) := by decide +kernel
theorem dX3_digest_68 : decode cX3_digest 68 = .ok (.iconst 3, 1) := by decide +kernel
theorem dX3_digest_69 : decode cX3_digest 69 = .ok (.if_icmp .gt 20, 3) := by decide +kernel
theorem dX3_digest_72 : decode cX3_digest 72 = .ok (.lload_n 1, 1) := by decide +kernel
theorem dX3_digest_73 : decode cX3_digest 73 = .ok (.aload_n 0, 1) := by decide +kernel
theorem dX3_digest_74 : decode cX3_digest 74 = .ok (.iload_n 3, 1) := by decide +kernel
theorem dX3_digest_75 : decode cX3_digest 75 = .ok (.invokevirtual 321, 3) := by decide +kernel
theorem dX3_digest_78 : decode cX3_digest 78 = .ok (.i2l, 1) := by decide +kernel
theorem dX3_digest_79 : decode cX3_digest 79 = .ok (.invokestatic 307, 3) := by decide +kernel
theorem dX3_digest_82 : decode cX3_digest 82 = .ok (.lstore_n 1, 1) := by decide +kernel
theorem dX3_digest_83 : decode cX3_digest 83 = .ok (.iinc 3 1, 3) := by decide +kernel
theorem dX3_digest_86 : decode cX3_digest 86 = .ok (.goto (-19), 3) := by decide +kernel
theorem dX3_digest_89 : decode cX3_digest 89 = .ok (.lload_n 1, 1) := by decide +kernel
theorem dX3_digest_90 : decode cX3_digest 90 = .ok (.aload_n 0, 1) := by decide +kernel
theorem dX3_digest_91 : decode cX3_digest 91 = .ok (.invokevirtual 324, 3) := by decide +kernel
theorem dX3_digest_94 : decode cX3_digest 94 = .ok (.i2l, 1) := by decide +kernel
theorem dX3_digest_95 : decode cX3_digest 95 = .ok (.invokestatic 307, 3) := by decide +kernel
theorem dX3_digest_98 : decode cX3_digest 98 = .ok (.lstore_n 1, 1) := by decide +kernel
theorem dX3_digest_99 : decode cX3_digest 99 = .ok (.lload_n 1, 1) := by decide +kernel
theorem dX3_digest_100 : decode cX3_digest 100 = .ok (.aload_n 0, 1) := by decide +kernel
theorem dX3_digest_101 : decode cX3_digest 101 = .ok (.invokevirtual 327, 3) := by decide +kernel
theorem dX3_digest_104 : decode cX3_digest 104 = .ok (.i2l, 1) := by decide +kernel
theorem dX3_digest_105 : decode cX3_digest 105 = .ok (.invokestatic 307, 3) := by decide +kernel
theorem dX3_digest_108 : decode cX3_digest 108 = .ok (.lstore_n 1, 1) := by decide +kernel
theorem dX3_digest_109 : decode cX3_digest 109 = .ok (.lload_n 1, 1) := by decide +kernel
theorem dX3_digest_110 : decode cX3_digest 110 = .ok (.aload_n 0, 1) := by decide +kernel
theorem dX3_digest_111 : decode cX3_digest 111 = .ok (.invokevirtual 330, 3) := by decide +kernel
theorem dX3_digest_114 : decode cX3_digest 114 = .ok (.invokestatic 334, 3) := by decide +kernel
theorem dX3_digest_117 : decode cX3_digest 117 = .ok (.invokestatic 307, 3) := by decide +kernel
theorem dX3_digest_120 : decode cX3_digest 120 = .ok (.lstore_n 1, 1) := by decide +kernel
theorem dX3_digest_121 : decode cX3_digest 121 = .ok (.lload_n 1, 1) := by decide +kernel
theorem dX3_digest_122 : decode cX3_digest 122 = .ok (.aload_n 0, 1) := by decide +kernel
theorem dX3_digest_123 : decode cX3_digest 123 = .ok (.getfield 29, 3) := by decide +kernel
theorem dX3_digest_126 : decode cX3_digest 126 = .ok (.getfield 204, 3) := by decide +kernel
theorem dX3_digest_129 : decode cX3_digest 129 = .ok (.i2l, 1) := by decide +kernel
theorem dX3_digest_130 : decode cX3_digest 130 = .ok (.invokestatic 307, 3) := by decide +kernel
theorem dX3_digest_133 : decode cX3_digest 133 = .ok (.lstore_n 1, 1) := by decide +kernel
theorem dX3_digest_134 : decode cX3_digest 134 = .ok (.iconst 0, 1) := by decide +kernel
theorem dX3_digest_135 : decode cX3_digest 135 = .ok (.istore_n 3, 1) := by decide +kernel
theorem dX3_digest_136 : decode cX3_digest 136 = .ok (.iload_n 3, 1) := by decide +kernel
theorem dX3_digest_137 : decode cX3_digest 137 = .ok (.aload_n 0, 1) := by decide +kernel
theorem dX3_digest_138 : decode cX3_digest 138 = .ok (.getfield 29, 3) := by decide +kernel
theorem dX3_digest_141 : decode cX3_digest 141 = .ok (.getfield 204, 3) := by decide +kernel
theorem dX3_digest_144 : decode cX3_digest 144 = .ok (.if_icmp .ge 23, 3) := by decide +kernel
theorem dX3_digest_147 : decode cX3_digest 147 = .ok (.lload_n 1, 1) := by decide +kernel
theorem dX3_digest_148 : decode cX3_digest 148 = .ok (.aload_n 0, 1) := by decide +kernel
theorem dX3_digest_149 : decode cX3_digest 149 = .ok (.getfield 29, 3) := by decide +kernel
theorem dX3_digest_152 : decode cX3_digest 152 = .ok (.iload_n 3, 1) := by decide +kernel
theorem dX3_digest_153 : decode cX3_digest 153 = .ok (.invokevirtual 338, 3) := by decide +kernel
theorem dX3_digest_156 : decode cX3_digest 156 = .ok (.i2l, 1) := by decide +kernel
theorem dX3_digest_157 : decode cX3_digest 157 = .ok (.invokestatic 307, 3) := by decide +kernel
theorem dX3_digest_160 : decode cX3_digest 160 = .ok (.lstore_n 1, 1) := by decide +kernel
theorem dX3_digest_161 : decode cX3_digest 161 = .ok (.iinc 3 1, 3) := by decide +kernel
theorem dX3_digest_164 : decode cX3_digest 164 = .ok (.goto (-28), 3) := by decide +kernel
theorem dX3_digest_167 : decode cX3_digest 167 = .ok (.lload_n 1, 1) := by decide +kernel
theorem dX3_digest_168 : decode cX3_digest 168 = .ok (.lreturn, 1) := by decide +kernel
theorem dX3_withLengths_0 : decode cX3_withLengths 0 = .ok (.lload_n 1, 1) := by decide +kernel
theorem dX3_withLengths_1 : decode cX3_withLengths 1 = .ok (.lstore_n 3, 1) := by decide +kernel
theorem dX3_withLengths_2 : decode cX3_withLengths 2 = .ok (.bipush 8, 2) := by decide +kernel
theorem dX3_withLengths_4 : decode cX3_withLengths 4 = .ok (.istore 5, 2) := by decide +kernel
theorem dX3_withLengths_6 : decode cX3_withLengths 6 = .ok (.iload 5, 2) := by decide +kernel
theorem dX3_withLengths_8 : decode cX3_withLengths 8 = .ok (.bipush 24, 2) := by decide +kernel
theorem dX3_withLengths_10 : decode cX3_withLengths 10 = .ok (.if_icmp .gt 64, 3) := by decide +kernel
theorem dX3_withLengths_13 : decode cX3_withLengths 13 = .ok (.iconst 0, 1) := by decide +kernel
theorem dX3_withLengths_14 : decode cX3_withLengths 14 = .ok (.istore 6, 2) := by decide +kernel
theorem dX3_withLengths_16 : decode cX3_withLengths 16 = .ok (.iload 6, 2) := by decide +kernel
theorem dX3_withLengths_18 : decode cX3_withLengths 18 = .ok (.iconst 3, 1) := by decide +kernel
theorem dX3_withLengths_19 : decode cX3_withLengths 19 = .ok (.if_icmp .gt 23, 3) := by decide +kernel
theorem dX3_withLengths_22 : decode cX3_withLengths 22 = .ok (.lload_n 3, 1) := by decide +kernel
theorem dX3_withLengths_23 : decode cX3_withLengths 23 = .ok (.aload_n 0, 1) := by decide +kernel
theorem dX3_withLengths_24 : decode cX3_withLengths 24 = .ok (.iload 5, 2) := by decide +kernel
theorem dX3_withLengths_26 : decode cX3_withLengths 26 = .ok (.iload 6, 2) := by decide +kernel
theorem dX3_withLengths_28 : decode cX3_withLengths 28 = .ok (.invokevirtual 342, 3) := by decide +kernel
theorem dX3_withLengths_31 : decode cX3_withLengths 31 = .ok (.i2l, 1) := by decide +kernel
theorem dX3_withLengths_32 : decode cX3_withLengths 32 = .ok (.invokestatic 307, 3) := by decide +kernel
theorem dX3_withLengths_35 : decode cX3_withLengths 35 = .ok (.lstore_n 3, 1) := by decide +kernel
theorem dX3_withLengths_36 : decode cX3_withLengths 36 = .ok (.iinc 6 1, 3) := by decide +kernel
theorem dX3_withLengths_39 : decode cX3_withLengths 39 = .ok (.goto (-23), 3) := by decide +kernel
theorem dX3_withLengths_42 : decode cX3_withLengths 42 = .ok (.lload_n 3, 1) := by decide +kernel
theorem dX3_withLengths_43 : decode cX3_withLengths 43 = .ok (.aload_n 0, 1) := by decide +kernel
theorem dX3_withLengths_44 : decode cX3_withLengths 44 = .ok (.iload 5, 2) := by decide +kernel
theorem dX3_withLengths_46 : decode cX3_withLengths 46 = .ok (.iconst 0, 1) := by decide +kernel
theorem dX3_withLengths_47 : decode cX3_withLengths 47 = .ok (.invokevirtual 345, 3) := by decide +kernel
theorem dX3_withLengths_50 : decode cX3_withLengths 50 = .ok (.i2l, 1) := by decide +kernel
theorem dX3_withLengths_51 : decode cX3_withLengths 51 = .ok (.invokestatic 307, 3) := by decide +kernel
theorem dX3_withLengths_54 : decode cX3_withLengths 54 = .ok (.lstore_n 3, 1) := by decide +kernel
theorem dX3_withLengths_55 : decode cX3_withLengths 55 = .ok (.lload_n 3, 1) := by decide +kernel
theorem dX3_withLengths_56 : decode cX3_withLengths 56 = .ok (.aload_n 0, 1) := by decide +kernel
theorem dX3_withLengths_57 : decode cX3_withLengths 57 = .ok (.iload 5, 2) := by decide +kernel
theorem dX3_withLengths_59 : decode cX3_withLengths 59 = .ok (.iconst 1, 1) := by decide +kernel
theorem dX3_withLengths_60 : decode cX3_withLengths 60 = .ok (.invokevirtual 345, 3) := by decide +kernel
theorem dX3_withLengths_63 : decode cX3_withLengths 63 = .ok (.i2l, 1) := by decide +kernel
theorem dX3_withLengths_64 : decode cX3_withLengths 64 = .ok (.invokestatic 307, 3) := by decide +kernel
theorem dX3_withLengths_67 : decode cX3_withLengths 67 = .ok (.lstore_n 3, 1) := by decide +kernel
theorem dX3_withLengths_68 : decode cX3_withLengths 68 = .ok (.iinc 5 1, 3) := by decide +kernel
theorem dX3_withLengths_71 : decode cX3_withLengths 71 = .ok (.goto (-65), 3) := by decide +kernel
theorem dX3_withLengths_74 : decode cX3_withLengths 74 = .ok (.lload_n 3, 1) := by decide +kernel
theorem dX3_withLengths_75 : decode cX3_withLengths 75 = .ok (.lreturn, 1) := by decide +kernel
theorem dX3_withCourses_0 : decode cX3_withCourses 0 = .ok (.lload_n 1, 1) := by decide +kernel
theorem dX3_withCourses_1 : decode cX3_withCourses 1 = .ok (.lstore_n 3, 1) := by decide +kernel
theorem dX3_withCourses_2 : decode cX3_withCourses 2 = .ok (.iconst 0, 1) := by decide +kernel
theorem dX3_withCourses_3 : decode cX3_withCourses 3 = .ok (.istore 5, 2) := by decide +kernel
theorem dX3_withCourses_5 : decode cX3_withCourses 5 = .ok (.iload 5, 2) := by decide +kernel
theorem dX3_withCourses_7 : decode cX3_withCourses 7 = .ok (.aload_n 0, 1) := by decide +kernel
theorem dX3_withCourses_8 : decode cX3_withCourses 8 = .ok (.getfield 10, 3) := by decide +kernel
theorem dX3_withCourses_11 : decode cX3_withCourses 11 = .ok (.getfield 56, 3) := by decide +kernel
theorem dX3_withCourses_14 : decode cX3_withCourses 14 = .ok (.if_icmp .ge 90, 3) := by decide +kernel
theorem dX3_withCourses_17 : decode cX3_withCourses 17 = .ok (.iconst 0, 1) := by decide +kernel
theorem dX3_withCourses_18 : decode cX3_withCourses 18 = .ok (.istore 6, 2) := by decide +kernel
theorem dX3_withCourses_20 : decode cX3_withCourses 20 = .ok (.iload 6, 2) := by decide +kernel
theorem dX3_withCourses_22 : decode cX3_withCourses 22 = .ok (.bipush 6, 2) := by decide +kernel
theorem dX3_withCourses_24 : decode cX3_withCourses 24 = .ok (.if_icmp .gt 23, 3) := by decide +kernel
theorem dX3_withCourses_27 : decode cX3_withCourses 27 = .ok (.lload_n 3, 1) := by decide +kernel
theorem dX3_withCourses_28 : decode cX3_withCourses 28 = .ok (.aload_n 0, 1) := by decide +kernel
theorem dX3_withCourses_29 : decode cX3_withCourses 29 = .ok (.iload 5, 2) := by decide +kernel
theorem dX3_withCourses_31 : decode cX3_withCourses 31 = .ok (.iload 6, 2) := by decide +kernel
theorem dX3_withCourses_33 : decode cX3_withCourses 33 = .ok (.invokevirtual 348, 3) := by decide +kernel
theorem dX3_withCourses_36 : decode cX3_withCourses 36 = .ok (.i2l, 1) := by decide +kernel
theorem dX3_withCourses_37 : decode cX3_withCourses 37 = .ok (.invokestatic 307, 3) := by decide +kernel
theorem dX3_withCourses_40 : decode cX3_withCourses 40 = .ok (.lstore_n 3, 1) := by decide +kernel
theorem dX3_withCourses_41 : decode cX3_withCourses 41 = .ok (.iinc 6 1, 3) := by decide +kernel
theorem dX3_withCourses_44 : decode cX3_withCourses 44 = .ok (.goto (-24), 3) := by decide +kernel
theorem dX3_withCourses_47 : decode cX3_withCourses 47 = .ok (.aload_n 0, 1) := by decide +kernel
theorem dX3_withCourses_48 : decode cX3_withCourses 48 = .ok (.getfield 10, 3) := by decide +kernel
theorem dX3_withCourses_51 : decode cX3_withCourses 51 = .ok (.iload 5, 2) := by decide +kernel
theorem dX3_withCourses_53 : decode cX3_withCourses 53 = .ok (.invokevirtual 254, 3) := by decide +kernel
theorem dX3_withCourses_56 : decode cX3_withCourses 56 = .ok (.istore 6, 2) := by decide +kernel
theorem dX3_withCourses_58 : decode cX3_withCourses 58 = .ok (.iconst 0, 1) := by decide +kernel
theorem dX3_withCourses_59 : decode cX3_withCourses 59 = .ok (.istore 7, 2) := by decide +kernel
theorem dX3_withCourses_61 : decode cX3_withCourses 61 = .ok (.iload 7, 2) := by decide +kernel
theorem dX3_withCourses_63 : decode cX3_withCourses 63 = .ok (.iload 6, 2) := by decide +kernel
theorem dX3_withCourses_65 : decode cX3_withCourses 65 = .ok (.if_icmp .ge 33, 3) := by decide +kernel
theorem dX3_withCourses_68 : decode cX3_withCourses 68 = .ok (.lload_n 3, 1) := by decide +kernel
theorem dX3_withCourses_69 : decode cX3_withCourses 69 = .ok (.aload_n 0, 1) := by decide +kernel
theorem dX3_withCourses_70 : decode cX3_withCourses 70 = .ok (.getfield 10, 3) := by decide +kernel
theorem dX3_withCourses_73 : decode cX3_withCourses 73 = .ok (.iload 5, 2) := by decide +kernel
theorem dX3_withCourses_75 : decode cX3_withCourses 75 = .ok (.iload 7, 2) := by decide +kernel
theorem dX3_withCourses_77 : decode cX3_withCourses 77 = .ok (.invokevirtual 268, 3) := by decide +kernel
theorem dX3_withCourses_80 : decode cX3_withCourses 80 = .ok (.ifCond .eq 7, 3) := by decide +kernel
theorem dX3_withCourses_83 : decode cX3_withCourses 83 = .ok (.lconst 1, 1) := by decide +kernel
theorem dX3_withCourses_84 : decode cX3_withCourses 84 = .ok (.goto 4, 3) := by decide +kernel
theorem dX3_withCourses_87 : decode cX3_withCourses 87 = .ok (.lconst 0, 1) := by decide +kernel
theorem dX3_withCourses_88 : decode cX3_withCourses 88 = .ok (.invokestatic 307, 3) := by decide +kernel
theorem dX3_withCourses_91 : decode cX3_withCourses 91 = .ok (.lstore_n 3, 1) := by decide +kernel
theorem dX3_withCourses_92 : decode cX3_withCourses 92 = .ok (.iinc 7 1, 3) := by decide +kernel
theorem dX3_withCourses_95 : decode cX3_withCourses 95 = .ok (.goto (-34), 3) := by decide +kernel
theorem dX3_withCourses_98 : decode cX3_withCourses 98 = .ok (.iinc 5 1, 3) := by decide +kernel
theorem dX3_withCourses_101 : decode cX3_withCourses 101 = .ok (.goto (-96), 3) := by decide +kernel
theorem dX3_withCourses_104 : decode cX3_withCourses 104 = .ok (.lload_n 3, 1) := by decide +kernel
theorem dX3_withCourses_105 : decode cX3_withCourses 105 = .ok (.lreturn, 1) := by decide +kernel
theorem dX3_mixed_0 : decode cX3_mixed 0 = .ok (.ldc2_w 351, 3) := by decide +kernel
theorem dX3_mixed_3 : decode cX3_mixed 3 = .ok (.lload_n 0, 1) := by decide +kernel
theorem dX3_mixed_4 : decode cX3_mixed 4 = .ok (.lmul, 1) := by decide +kernel
theorem dX3_mixed_5 : decode cX3_mixed 5 = .ok (.lload_n 2, 1) := by decide +kernel
theorem dX3_mixed_6 : decode cX3_mixed 6 = .ok (.ladd, 1) := by decide +kernel
theorem dX3_mixed_7 : decode cX3_mixed 7 = .ok (.lreturn, 1) := by decide +kernel
theorem dX3_bitsOf_0 : decode cX3_bitsOf 0 = .ok (.dload_n 0, 1) := by decide +kernel
theorem dX3_bitsOf_1 : decode cX3_bitsOf 1 = .ok (.dconst 0, 1) := by decide +kernel
theorem dX3_bitsOf_2 : decode cX3_bitsOf 2 = .ok (.dcmp .l, 1) := by decide +kernel
theorem dX3_bitsOf_3 : decode cX3_bitsOf 3 = .ok (.ifCond .gt 5, 3) := by decide +kernel
theorem dX3_bitsOf_6 : decode cX3_bitsOf 6 = .ok (.lconst 0, 1) := by decide +kernel
theorem dX3_bitsOf_7 : decode cX3_bitsOf 7 = .ok (.lreturn, 1) := by decide +kernel
theorem dX3_bitsOf_8 : decode cX3_bitsOf 8 = .ok (.dload_n 0, 1) := by decide +kernel
theorem dX3_bitsOf_9 : decode cX3_bitsOf 9 = .ok (.dstore_n 2, 1) := by decide +kernel
theorem dX3_bitsOf_10 : decode cX3_bitsOf 10 = .ok (.ldc2_w 353, 3) := by decide +kernel
theorem dX3_bitsOf_13 : decode cX3_bitsOf 13 = .ok (.lstore 4, 2) := by decide +kernel
theorem dX3_bitsOf_15 : decode cX3_bitsOf 15 = .ok (.iconst 0, 1) := by decide +kernel
theorem dX3_bitsOf_16 : decode cX3_bitsOf 16 = .ok (.istore 6, 2) := by decide +kernel
theorem dX3_bitsOf_18 : decode cX3_bitsOf 18 = .ok (.iload 6, 2) := by decide +kernel
theorem dX3_bitsOf_20 : decode cX3_bitsOf 20 = .ok (.sipush 1023, 3) := by decide +kernel
theorem dX3_bitsOf_23 : decode cX3_bitsOf 23 = .ok (.if_icmp .ge 29, 3) := by decide +kernel
theorem dX3_bitsOf_26 : decode cX3_bitsOf 26 = .ok (.dload_n 2, 1) := by decide +kernel
theorem dX3_bitsOf_27 : decode cX3_bitsOf 27 = .ok (.ldc2_w 355, 3) := by decide +kernel
theorem dX3_bitsOf_30 : decode cX3_bitsOf 30 = .ok (.dcmp .l, 1) := by decide +kernel
theorem dX3_bitsOf_31 : decode cX3_bitsOf 31 = .ok (.ifCond .lt 21, 3) := by decide +kernel
theorem dX3_bitsOf_34 : decode cX3_bitsOf 34 = .ok (.dload_n 2, 1) := by decide +kernel
theorem dX3_bitsOf_35 : decode cX3_bitsOf 35 = .ok (.ldc2_w 355, 3) := by decide +kernel
theorem dX3_bitsOf_38 : decode cX3_bitsOf 38 = .ok (.ddiv, 1) := by decide +kernel
theorem dX3_bitsOf_39 : decode cX3_bitsOf 39 = .ok (.dstore_n 2, 1) := by decide +kernel
theorem dX3_bitsOf_40 : decode cX3_bitsOf 40 = .ok (.lload 4, 2) := by decide +kernel
theorem dX3_bitsOf_42 : decode cX3_bitsOf 42 = .ok (.lconst 1, 1) := by decide +kernel
theorem dX3_bitsOf_43 : decode cX3_bitsOf 43 = .ok (.ladd, 1) := by decide +kernel
theorem dX3_bitsOf_44 : decode cX3_bitsOf 44 = .ok (.lstore 4, 2) := by decide +kernel
theorem dX3_bitsOf_46 : decode cX3_bitsOf 46 = .ok (.iinc 6 1, 3) := by decide +kernel
theorem dX3_bitsOf_49 : decode cX3_bitsOf 49 = .ok (.goto (-31), 3) := by decide +kernel
theorem dX3_bitsOf_52 : decode cX3_bitsOf 52 = .ok (.iconst 0, 1) := by decide +kernel
theorem dX3_bitsOf_53 : decode cX3_bitsOf 53 = .ok (.istore 6, 2) := by decide +kernel
theorem dX3_bitsOf_55 : decode cX3_bitsOf 55 = .ok (.iload 6, 2) := by decide +kernel
theorem dX3_bitsOf_57 : decode cX3_bitsOf 57 = .ok (.sipush 1022, 3) := by decide +kernel
theorem dX3_bitsOf_60 : decode cX3_bitsOf 60 = .ok (.if_icmp .ge 27, 3) := by decide +kernel
theorem dX3_bitsOf_63 : decode cX3_bitsOf 63 = .ok (.dload_n 2, 1) := by decide +kernel
theorem dX3_bitsOf_64 : decode cX3_bitsOf 64 = .ok (.dconst 1, 1) := by decide +kernel
theorem dX3_bitsOf_65 : decode cX3_bitsOf 65 = .ok (.dcmp .g, 1) := by decide +kernel
theorem dX3_bitsOf_66 : decode cX3_bitsOf 66 = .ok (.ifCond .ge 21, 3) := by decide +kernel
theorem dX3_bitsOf_69 : decode cX3_bitsOf 69 = .ok (.dload_n 2, 1) := by decide +kernel
theorem dX3_bitsOf_70 : decode cX3_bitsOf 70 = .ok (.ldc2_w 355, 3) := by decide +kernel
theorem dX3_bitsOf_73 : decode cX3_bitsOf 73 = .ok (.dmul, 1) := by decide +kernel
theorem dX3_bitsOf_74 : decode cX3_bitsOf 74 = .ok (.dstore_n 2, 1) := by decide +kernel
theorem dX3_bitsOf_75 : decode cX3_bitsOf 75 = .ok (.lload 4, 2) := by decide +kernel
theorem dX3_bitsOf_77 : decode cX3_bitsOf 77 = .ok (.lconst 1, 1) := by decide +kernel
theorem dX3_bitsOf_78 : decode cX3_bitsOf 78 = .ok (.lsub, 1) := by decide +kernel
theorem dX3_bitsOf_79 : decode cX3_bitsOf 79 = .ok (.lstore 4, 2) := by decide +kernel
theorem dX3_bitsOf_81 : decode cX3_bitsOf 81 = .ok (.iinc 6 1, 3) := by decide +kernel
theorem dX3_bitsOf_84 : decode cX3_bitsOf 84 = .ok (.goto (-29), 3) := by decide +kernel
theorem dX3_bitsOf_87 : decode cX3_bitsOf 87 = .ok (.dload_n 2, 1) := by decide +kernel
theorem dX3_bitsOf_88 : decode cX3_bitsOf 88 = .ok (.dconst 1, 1) := by decide +kernel
theorem dX3_bitsOf_89 : decode cX3_bitsOf 89 = .ok (.dsub, 1) := by decide +kernel
theorem dX3_bitsOf_90 : decode cX3_bitsOf 90 = .ok (.ldc2_w 357, 3) := by decide +kernel
theorem dX3_bitsOf_93 : decode cX3_bitsOf 93 = .ok (.dmul, 1) := by decide +kernel
theorem dX3_bitsOf_94 : decode cX3_bitsOf 94 = .ok (.d2l, 1) := by decide +kernel
theorem dX3_bitsOf_95 : decode cX3_bitsOf 95 = .ok (.lstore 6, 2) := by decide +kernel
theorem dX3_bitsOf_97 : decode cX3_bitsOf 97 = .ok (.lload 4, 2) := by decide +kernel
theorem dX3_bitsOf_99 : decode cX3_bitsOf 99 = .ok (.bipush 52, 2) := by decide +kernel
theorem dX3_bitsOf_101 : decode cX3_bitsOf 101 = .ok (.lshl, 1) := by decide +kernel
theorem dX3_bitsOf_102 : decode cX3_bitsOf 102 = .ok (.lload 6, 2) := by decide +kernel
theorem dX3_bitsOf_104 : decode cX3_bitsOf 104 = .ok (.lor, 1) := by decide +kernel
theorem dX3_bitsOf_105 : decode cX3_bitsOf 105 = .ok (.lreturn, 1) := by decide +kernel
theorem dX3_isWithin_0 : decode cX3_isWithin 0 = .ok (.iload_n 0, 1) := by decide +kernel
theorem dX3_isWithin_1 : decode cX3_isWithin 1 = .ok (.iload_n 1, 1) := by decide +kernel
theorem dX3_isWithin_2 : decode cX3_isWithin 2 = .ok (.if_icmp .lt 12, 3) := by decide +kernel
theorem dX3_isWithin_5 : decode cX3_isWithin 5 = .ok (.iload_n 0, 1) := by decide +kernel
theorem dX3_isWithin_6 : decode cX3_isWithin 6 = .ok (.iload_n 2, 1) := by decide +kernel
theorem dX3_isWithin_7 : decode cX3_isWithin 7 = .ok (.if_icmp .gt 7, 3) := by decide +kernel
theorem dX3_isWithin_10 : decode cX3_isWithin 10 = .ok (.iconst 1, 1) := by decide +kernel
theorem dX3_isWithin_11 : decode cX3_isWithin 11 = .ok (.goto 4, 3) := by decide +kernel
theorem dX3_isWithin_14 : decode cX3_isWithin 14 = .ok (.iconst 0, 1) := by decide +kernel
theorem dX3_isWithin_15 : decode cX3_isWithin 15 = .ok (.ireturn, 1) := by decide +kernel
theorem dX3_isLength_0 : decode cX3_isLength 0 = .ok (.iload_n 0, 1) := by decide +kernel
theorem dX3_isLength_1 : decode cX3_isLength 1 = .ok (.bipush 8, 2) := by decide +kernel
theorem dX3_isLength_3 : decode cX3_isLength 3 = .ok (.if_icmp .lt 13, 3) := by decide +kernel
theorem dX3_isLength_6 : decode cX3_isLength 6 = .ok (.iload_n 0, 1) := by decide +kernel
theorem dX3_isLength_7 : decode cX3_isLength 7 = .ok (.bipush 24, 2) := by decide +kernel
theorem dX3_isLength_9 : decode cX3_isLength 9 = .ok (.if_icmp .gt 7, 3) := by decide +kernel
theorem dX3_isLength_12 : decode cX3_isLength 12 = .ok (.iconst 1, 1) := by decide +kernel
theorem dX3_isLength_13 : decode cX3_isLength 13 = .ok (.goto 4, 3) := by decide +kernel
theorem dX3_isLength_16 : decode cX3_isLength 16 = .ok (.iconst 0, 1) := by decide +kernel
theorem dX3_isLength_17 : decode cX3_isLength 17 = .ok (.ireturn, 1) := by decide +kernel
theorem dX3_priceOf_0 : decode cX3_priceOf 0 = .ok (.iload_n 0, 1) := by decide +kernel
theorem dX3_priceOf_1 : decode cX3_priceOf 1 = .ok (.iload_n 0, 1) := by decide +kernel
theorem dX3_priceOf_2 : decode cX3_priceOf 2 = .ok (.imul, 1) := by decide +kernel
theorem dX3_priceOf_3 : decode cX3_priceOf 3 = .ok (.bipush 16, 2) := by decide +kernel
theorem dX3_priceOf_5 : decode cX3_priceOf 5 = .ok (.idiv, 1) := by decide +kernel
theorem dX3_priceOf_6 : decode cX3_priceOf 6 = .ok (.ireturn, 1) := by decide +kernel
theorem dX3_brokenAmong_0 : decode cX3_brokenAmong 0 = .ok (.iload_n 1, 1) := by decide +kernel
theorem dX3_brokenAmong_1 : decode cX3_brokenAmong 1 = .ok (.istore_n 2, 1) := by decide +kernel
theorem dX3_brokenAmong_2 : decode cX3_brokenAmong 2 = .ok (.iconst 0, 1) := by decide +kernel
theorem dX3_brokenAmong_3 : decode cX3_brokenAmong 3 = .ok (.istore_n 3, 1) := by decide +kernel
theorem dX3_brokenAmong_4 : decode cX3_brokenAmong 4 = .ok (.iconst 0, 1) := by decide +kernel
theorem dX3_brokenAmong_5 : decode cX3_brokenAmong 5 = .ok (.istore 4, 2) := by decide +kernel
theorem dX3_brokenAmong_7 : decode cX3_brokenAmong 7 = .ok (.iload 4, 2) := by decide +kernel
theorem dX3_brokenAmong_9 : decode cX3_brokenAmong 9 = .ok (.iload_n 0, 1) := by decide +kernel
theorem dX3_brokenAmong_10 : decode cX3_brokenAmong 10 = .ok (.if_icmp .ge 36, 3) := by decide +kernel
theorem dX3_brokenAmong_13 : decode cX3_brokenAmong 13 = .ok (.iload_n 2, 1) := by decide +kernel
theorem dX3_brokenAmong_14 : decode cX3_brokenAmong 14 = .ok (.ldc_w 359, 3) := by decide +kernel
theorem dX3_brokenAmong_17 : decode cX3_brokenAmong 17 = .ok (.imul, 1) := by decide +kernel
theorem dX3_brokenAmong_18 : decode cX3_brokenAmong 18 = .ok (.sipush 12345, 3) := by decide +kernel
theorem dX3_brokenAmong_21 : decode cX3_brokenAmong 21 = .ok (.iadd, 1) := by decide +kernel
theorem dX3_brokenAmong_22 : decode cX3_brokenAmong 22 = .ok (.istore_n 2, 1) := by decide +kernel
theorem dX3_brokenAmong_23 : decode cX3_brokenAmong 23 = .ok (.iload_n 2, 1) := by decide +kernel
theorem dX3_brokenAmong_24 : decode cX3_brokenAmong 24 = .ok (.bipush 16, 2) := by decide +kernel
theorem dX3_brokenAmong_26 : decode cX3_brokenAmong 26 = .ok (.iushr, 1) := by decide +kernel
theorem dX3_brokenAmong_27 : decode cX3_brokenAmong 27 = .ok (.sipush 32767, 3) := by decide +kernel
theorem dX3_brokenAmong_30 : decode cX3_brokenAmong 30 = .ok (.iand, 1) := by decide +kernel
theorem dX3_brokenAmong_31 : decode cX3_brokenAmong 31 = .ok (.bipush 10, 2) := by decide +kernel
theorem dX3_brokenAmong_33 : decode cX3_brokenAmong 33 = .ok (.irem, 1) := by decide +kernel
theorem dX3_brokenAmong_34 : decode cX3_brokenAmong 34 = .ok (.ifCond .ne 6, 3) := by decide +kernel
theorem dX3_brokenAmong_37 : decode cX3_brokenAmong 37 = .ok (.iinc 3 1, 3) := by decide +kernel
theorem dX3_brokenAmong_40 : decode cX3_brokenAmong 40 = .ok (.iinc 4 1, 3) := by decide +kernel
theorem dX3_brokenAmong_43 : decode cX3_brokenAmong 43 = .ok (.goto (-36), 3) := by decide +kernel
theorem dX3_brokenAmong_46 : decode cX3_brokenAmong 46 = .ok (.iload_n 3, 1) := by decide +kernel
theorem dX3_brokenAmong_47 : decode cX3_brokenAmong 47 = .ok (.ireturn, 1) := by decide +kernel
theorem dX3_valueAt_0 : decode cX3_valueAt 0 = .ok (.iload_n 1, 1) := by decide +kernel
theorem dX3_valueAt_1 : decode cX3_valueAt 1 = .ok (.ifCond .lt 15, 3) := by decide +kernel
theorem dX3_valueAt_4 : decode cX3_valueAt 4 = .ok (.iload_n 1, 1) := by decide +kernel
theorem dX3_valueAt_5 : decode cX3_valueAt 5 = .ok (.aload_n 0, 1) := by decide +kernel
theorem dX3_valueAt_6 : decode cX3_valueAt 6 = .ok (.arraylength, 1) := by decide +kernel
theorem dX3_valueAt_7 : decode cX3_valueAt 7 = .ok (.if_icmp .ge 9, 3) := by decide +kernel
theorem dX3_valueAt_10 : decode cX3_valueAt 10 = .ok (.aload_n 0, 1) := by decide +kernel
theorem dX3_valueAt_11 : decode cX3_valueAt 11 = .ok (.iload_n 1, 1) := by decide +kernel
theorem dX3_valueAt_12 : decode cX3_valueAt 12 = .ok (.iaload, 1) := by decide +kernel
theorem dX3_valueAt_13 : decode cX3_valueAt 13 = .ok (.goto 4, 3) := by decide +kernel
theorem dX3_valueAt_16 : decode cX3_valueAt 16 = .ok (.iconst 0, 1) := by decide +kernel
theorem dX3_valueAt_17 : decode cX3_valueAt 17 = .ok (.ireturn, 1) := by decide +kernel
theorem dX3_addAt_0 : decode cX3_addAt 0 = .ok (.iload_n 1, 1) := by decide +kernel
theorem dX3_addAt_1 : decode cX3_addAt 1 = .ok (.ifCond .lt 16, 3) := by decide +kernel
theorem dX3_addAt_4 : decode cX3_addAt 4 = .ok (.iload_n 1, 1) := by decide +kernel
theorem dX3_addAt_5 : decode cX3_addAt 5 = .ok (.aload_n 0, 1) := by decide +kernel
theorem dX3_addAt_6 : decode cX3_addAt 6 = .ok (.arraylength, 1) := by decide +kernel
theorem dX3_addAt_7 : decode cX3_addAt 7 = .ok (.if_icmp .ge 10, 3) := by decide +kernel
theorem dX3_addAt_10 : decode cX3_addAt 10 = .ok (.aload_n 0, 1) := by decide +kernel
theorem dX3_addAt_11 : decode cX3_addAt 11 = .ok (.iload_n 1, 1) := by decide +kernel
theorem dX3_addAt_12 : decode cX3_addAt 12 = .ok (.dup2, 1) := by decide +kernel
theorem dX3_addAt_13 : decode cX3_addAt 13 = .ok (.iaload, 1) := by decide +kernel
theorem dX3_addAt_14 : decode cX3_addAt 14 = .ok (.iload_n 2, 1) := by decide +kernel
theorem dX3_addAt_15 : decode cX3_addAt 15 = .ok (.iadd, 1) := by decide +kernel
theorem dX3_addAt_16 : decode cX3_addAt 16 = .ok (.iastore, 1) := by decide +kernel
theorem dX3_addAt_17 : decode cX3_addAt 17 = .ok (.return_, 1) := by decide +kernel
theorem dX3_sumOf_0 : decode cX3_sumOf 0 = .ok (.iconst 0, 1) := by decide +kernel
theorem dX3_sumOf_1 : decode cX3_sumOf 1 = .ok (.istore_n 1, 1) := by decide +kernel
theorem dX3_sumOf_2 : decode cX3_sumOf 2 = .ok (.iconst 0, 1) := by decide +kernel
theorem dX3_sumOf_3 : decode cX3_sumOf 3 = .ok (.istore_n 2, 1) := by decide +kernel
theorem dX3_sumOf_4 : decode cX3_sumOf 4 = .ok (.iload_n 2, 1) := by decide +kernel
theorem dX3_sumOf_5 : decode cX3_sumOf 5 = .ok (.aload_n 0, 1) := by decide +kernel
theorem dX3_sumOf_6 : decode cX3_sumOf 6 = .ok (.arraylength, 1) := by decide +kernel
theorem dX3_sumOf_7 : decode cX3_sumOf 7 = .ok (.if_icmp .ge 15, 3) := by decide +kernel
theorem dX3_sumOf_10 : decode cX3_sumOf 10 = .ok (.iload_n 1, 1) := by decide +kernel
theorem dX3_sumOf_11 : decode cX3_sumOf 11 = .ok (.aload_n 0, 1) := by decide +kernel
theorem dX3_sumOf_12 : decode cX3_sumOf 12 = .ok (.iload_n 2, 1) := by decide +kernel
theorem dX3_sumOf_13 : decode cX3_sumOf 13 = .ok (.iaload, 1) := by decide +kernel
theorem dX3_sumOf_14 : decode cX3_sumOf 14 = .ok (.iadd, 1) := by decide +kernel
theorem dX3_sumOf_15 : decode cX3_sumOf 15 = .ok (.istore_n 1, 1) := by decide +kernel
theorem dX3_sumOf_16 : decode cX3_sumOf 16 = .ok (.iinc 2 1, 3) := by decide +kernel
theorem dX3_sumOf_19 : decode cX3_sumOf 19 = .ok (.goto (-15), 3) := by decide +kernel
theorem dX3_sumOf_22 : decode cX3_sumOf 22 = .ok (.iload_n 1, 1) := by decide +kernel
theorem dX3_sumOf_23 : decode cX3_sumOf 23 = .ok (.ireturn, 1) := by decide +kernel
theorem dX3_copyRow_0 : decode cX3_copyRow 0 = .ok (.aload_n 0, 1) := by decide +kernel
theorem dX3_copyRow_1 : decode cX3_copyRow 1 = .ok (.iconst 0, 1) := by decide +kernel
theorem dX3_copyRow_2 : decode cX3_copyRow 2 = .ok (.aload_n 1, 1) := by decide +kernel
theorem dX3_copyRow_3 : decode cX3_copyRow 3 = .ok (.iconst 0, 1) := by decide +kernel
theorem dX3_copyRow_4 : decode cX3_copyRow 4 = .ok (.aload_n 0, 1) := by decide +kernel
theorem dX3_copyRow_5 : decode cX3_copyRow 5 = .ok (.arraylength, 1) := by decide +kernel
theorem dX3_copyRow_6 : decode cX3_copyRow 6 = .ok (.aload_n 1, 1) := by decide +kernel
theorem dX3_copyRow_7 : decode cX3_copyRow 7 = .ok (.arraylength, 1) := by decide +kernel
theorem dX3_copyRow_8 : decode cX3_copyRow 8 = .ok (.invokestatic 360, 3) := by decide +kernel
theorem dX3_copyRow_11 : decode cX3_copyRow 11 = .ok (.invokestatic 365, 3) := by decide +kernel
theorem dX3_copyRow_14 : decode cX3_copyRow 14 = .ok (.return_, 1) := by decide +kernel
theorem dX4_init_0 : decode cX4_init 0 = .ok (.aload_n 0, 1) := by decide +kernel
theorem dX4_init_1 : decode cX4_init 1 = .ok (.invokespecial 1, 3) := by decide +kernel
theorem dX4_init_4 : decode cX4_init 4 = .ok (.aload_n 0, 1) := by decide +kernel
theorem dX4_init_5 : decode cX4_init 5 = .ok (.sipush 294, 3) := by decide +kernel
theorem dX4_init_8 : decode cX4_init 8 = .ok (.newarray .int, 2) := by decide +kernel
theorem dX4_init_10 : decode cX4_init 10 = .ok (.putfield 7, 3) := by decide +kernel
theorem dX4_init_13 : decode cX4_init 13 = .ok (.aload_n 0, 1) := by decide +kernel
theorem dX4_init_14 : decode cX4_init 14 = .ok (.sipush 294, 3) := by decide +kernel
theorem dX4_init_17 : decode cX4_init 17 = .ok (.newarray .int, 2) := by decide +kernel
theorem dX4_init_19 : decode cX4_init 19 = .ok (.putfield 13, 3) := by decide +kernel
theorem dX4_init_22 : decode cX4_init 22 = .ok (.aload_n 0, 1) := by decide +kernel
theorem dX4_init_23 : decode cX4_init 23 = .ok (.sipush 1764, 3) := by decide +kernel
theorem dX4_init_26 : decode cX4_init 26 = .ok (.newarray .int, 2) := by decide +kernel
theorem dX4_init_28 : decode cX4_init 28 = .ok (.putfield 16, 3) := by decide +kernel
theorem dX4_init_31 : decode cX4_init 31 = .ok (.aload_n 0, 1) := by decide +kernel
theorem dX4_init_32 : decode cX4_init 32 = .ok (.bipush 60, 2) := by decide +kernel
theorem dX4_init_34 : decode cX4_init 34 = .ok (.newarray .int, 2) := by decide +kernel
theorem dX4_init_36 : decode cX4_init 36 = .ok (.putfield 19, 3) := by decide +kernel
theorem dX4_init_39 : decode cX4_init 39 = .ok (.aload_n 0, 1) := by decide +kernel
theorem dX4_init_40 : decode cX4_init 40 = .ok (.sipush 200, 3) := by decide +kernel
theorem dX4_init_43 : decode cX4_init 43 = .ok (.newarray .int, 2) := by decide +kernel
theorem dX4_init_45 : decode cX4_init 45 = .ok (.putfield 22, 3) := by decide +kernel
theorem dX4_init_48 : decode cX4_init 48 = .ok (.aload_n 0, 1) := by decide +kernel
theorem dX4_init_49 : decode cX4_init 49 = .ok (.getfield 7, 3) := by decide +kernel
theorem dX4_init_52 : decode cX4_init 52 = .ok (.iconst 0, 1) := by decide +kernel
theorem dX4_init_53 : decode cX4_init 53 = .ok (.bipush 100, 2) := by decide +kernel
theorem dX4_init_55 : decode cX4_init 55 = .ok (.iastore, 1) := by decide +kernel
theorem dX4_init_56 : decode cX4_init 56 = .ok (.aload_n 0, 1) := by decide +kernel
theorem dX4_init_57 : decode cX4_init 57 = .ok (.getfield 7, 3) := by decide +kernel
theorem dX4_init_60 : decode cX4_init 60 = .ok (.iconst 1, 1) := by decide +kernel
theorem dX4_init_61 : decode cX4_init 61 = .ok (.bipush 6, 2) := by decide +kernel
theorem dX4_init_63 : decode cX4_init 63 = .ok (.iastore, 1) := by decide +kernel
theorem dX4_init_64 : decode cX4_init 64 = .ok (.aload_n 0, 1) := by decide +kernel
theorem dX4_init_65 : decode cX4_init 65 = .ok (.getfield 7, 3) := by decide +kernel
theorem dX4_init_68 : decode cX4_init 68 = .ok (.iconst 3, 1) := by decide +kernel
theorem dX4_init_69 : decode cX4_init 69 = .ok (.iconst 4, 1) := by decide +kernel
theorem dX4_init_70 : decode cX4_init 70 = .ok (.iastore, 1) := by decide +kernel
theorem dX4_init_71 : decode cX4_init 71 = .ok (.aload_n 0, 1) := by decide +kernel
theorem dX4_init_72 : decode cX4_init 72 = .ok (.getfield 7, 3) := by decide +kernel
theorem dX4_init_75 : decode cX4_init 75 = .ok (.iconst 4, 1) := by decide +kernel
theorem dX4_init_76 : decode cX4_init 76 = .ok (.bipush 20, 2) := by decide +kernel
theorem dX4_init_78 : decode cX4_init 78 = .ok (.iastore, 1) := by decide +kernel
theorem dX4_init_79 : decode cX4_init 79 = .ok (.aload_n 0, 1) := by decide +kernel
theorem dX4_init_80 : decode cX4_init 80 = .ok (.getfield 7, 3) := by decide +kernel
theorem dX4_init_83 : decode cX4_init 83 = .ok (.iconst 5, 1) := by decide +kernel
theorem dX4_init_84 : decode cX4_init 84 = .ok (.iconst 2, 1) := by decide +kernel
theorem dX4_init_85 : decode cX4_init 85 = .ok (.iastore, 1) := by decide +kernel
theorem dX4_init_86 : decode cX4_init 86 = .ok (.aload_n 0, 1) := by decide +kernel
theorem dX4_init_87 : decode cX4_init 87 = .ok (.getfield 7, 3) := by decide +kernel
theorem dX4_init_90 : decode cX4_init 90 = .ok (.bipush 7, 2) := by decide +kernel
theorem dX4_init_92 : decode cX4_init 92 = .ok (.bipush 20, 2) := by decide +kernel
theorem dX4_init_94 : decode cX4_init 94 = .ok (.iastore, 1) := by decide +kernel
theorem dX4_init_95 : decode cX4_init 95 = .ok (.return_, 1) := by decide +kernel
theorem dX4_thrown_0 : decode cX4_thrown 0 = .ok (.aload_n 0, 1) := by decide +kernel
theorem dX4_thrown_1 : decode cX4_thrown 1 = .ok (.getfield 25, 3) := by decide +kernel
theorem dX4_thrown_4 : decode cX4_thrown 4 = .ok (.ireturn, 1) := by decide +kernel
theorem dX4_fails_0 : decode cX4_fails 0 = .ok (.aload_n 0, 1) := by decide +kernel
theorem dX4_fails_1 : decode cX4_fails 1 = .ok (.iload_n 1, 1) := by decide +kernel
theorem dX4_fails_2 : decode cX4_fails 2 = .ok (.putfield 25, 3) := by decide +kernel
theorem dX4_fails_5 : decode cX4_fails 5 = .ok (.iconst 0, 1) := by decide +kernel
theorem dX4_fails_6 : decode cX4_fails 6 = .ok (.ireturn, 1) := by decide +kernel
theorem dX4_within_0 : decode cX4_within 0 = .ok (.iload_n 0, 1) := by decide +kernel
theorem dX4_within_1 : decode cX4_within 1 = .ok (.iload_n 1, 1) := by decide +kernel
theorem dX4_within_2 : decode cX4_within 2 = .ok (.if_icmp .lt 12, 3) := by decide +kernel
theorem dX4_within_5 : decode cX4_within 5 = .ok (.iload_n 0, 1) := by decide +kernel
theorem dX4_within_6 : decode cX4_within 6 = .ok (.iload_n 2, 1) := by decide +kernel
theorem dX4_within_7 : decode cX4_within 7 = .ok (.if_icmp .gt 7, 3) := by decide +kernel
theorem dX4_within_10 : decode cX4_within 10 = .ok (.iconst 1, 1) := by decide +kernel
theorem dX4_within_11 : decode cX4_within 11 = .ok (.goto 4, 3) := by decide +kernel
theorem dX4_within_14 : decode cX4_within 14 = .ok (.iconst 0, 1) := by decide +kernel
theorem dX4_within_15 : decode cX4_within 15 = .ok (.ireturn, 1) := by decide +kernel
theorem dX4_isLength_0 : decode cX4_isLength 0 = .ok (.iload_n 0, 1) := by decide +kernel
theorem dX4_isLength_1 : decode cX4_isLength 1 = .ok (.bipush 8, 2) := by decide +kernel
theorem dX4_isLength_3 : decode cX4_isLength 3 = .ok (.bipush 24, 2) := by decide +kernel
theorem dX4_isLength_5 : decode cX4_isLength 5 = .ok (.invokestatic 29, 3) := by decide +kernel
theorem dX4_isLength_8 : decode cX4_isLength 8 = .ok (.ireturn, 1) := by decide +kernel
theorem dX4_save_0 : decode cX4_save 0 = .ok (.aload_n 0, 1) := by decide +kernel
theorem dX4_save_1 : decode cX4_save 1 = .ok (.getfield 33, 3) := by decide +kernel
theorem dX4_save_4 : decode cX4_save 4 = .ok (.bipush 6, 2) := by decide +kernel
theorem dX4_save_6 : decode cX4_save 6 = .ok (.if_icmp .ne 44, 3) := by decide +kernel
theorem dX4_save_9 : decode cX4_save 9 = .ok (.iconst 0, 1) := by decide +kernel
theorem dX4_save_10 : decode cX4_save 10 = .ok (.istore_n 1, 1) := by decide +kernel
theorem dX4_save_11 : decode cX4_save 11 = .ok (.iload_n 1, 1) := by decide +kernel
theorem dX4_save_12 : decode cX4_save 12 = .ok (.sipush 1470, 3) := by decide +kernel
theorem dX4_save_15 : decode cX4_save 15 = .ok (.if_icmp .ge 25, 3) := by decide +kernel
theorem dX4_save_18 : decode cX4_save 18 = .ok (.aload_n 0, 1) := by decide +kernel
theorem dX4_save_19 : decode cX4_save 19 = .ok (.getfield 16, 3) := by decide +kernel
theorem dX4_save_22 : decode cX4_save 22 = .ok (.iload_n 1, 1) := by decide +kernel
theorem dX4_save_23 : decode cX4_save 23 = .ok (.aload_n 0, 1) := by decide +kernel
theorem dX4_save_24 : decode cX4_save 24 = .ok (.getfield 16, 3) := by decide +kernel
theorem dX4_save_27 : decode cX4_save 27 = .ok (.sipush 294, 3) := by decide +kernel
theorem dX4_save_30 : decode cX4_save 30 = .ok (.iload_n 1, 1) := by decide +kernel
theorem dX4_save_31 : decode cX4_save 31 = .ok (.iadd, 1) := by decide +kernel
theorem dX4_save_32 : decode cX4_save 32 = .ok (.iaload, 1) := by decide +kernel
theorem dX4_save_33 : decode cX4_save 33 = .ok (.iastore, 1) := by decide +kernel
theorem dX4_save_34 : decode cX4_save 34 = .ok (.iinc 1 1, 3) := by decide +kernel
theorem dX4_save_37 : decode cX4_save 37 = .ok (.goto (-26), 3) := by decide +kernel
theorem dX4_save_40 : decode cX4_save 40 = .ok (.aload_n 0, 1) := by decide +kernel
theorem dX4_save_41 : decode cX4_save 41 = .ok (.dup, 1) := by decide +kernel
theorem dX4_save_42 : decode cX4_save 42 = .ok (.getfield 33, 3) := by decide +kernel
theorem dX4_save_45 : decode cX4_save 45 = .ok (.iconst 1, 1) := by decide +kernel
theorem dX4_save_46 : decode cX4_save 46 = .ok (.isub, 1) := by decide +kernel
theorem dX4_save_47 : decode cX4_save 47 = .ok (.putfield 33, 3) := by decide +kernel
theorem dX4_save_50 : decode cX4_save 50 = .ok (.iconst 0, 1) := by decide +kernel
theorem dX4_save_51 : decode cX4_save 51 = .ok (.istore_n 1, 1) := by decide +kernel
theorem dX4_save_52 : decode cX4_save 52 = .ok (.iload_n 1, 1) := by decide +kernel
theorem dX4_save_53 : decode cX4_save 53 = .ok (.sipush 294, 3) := by decide +kernel
theorem dX4_save_56 : decode cX4_save 56 = .ok (.if_icmp .ge 30, 3) := by decide +kernel
theorem dX4_save_59 : decode cX4_save 59 = .ok (.aload_n 0, 1) := by decide +kernel
theorem dX4_save_60 : decode cX4_save 60 = .ok (.getfield 16, 3) := by decide +kernel
theorem dX4_save_63 : decode cX4_save 63 = .ok (.sipush 294, 3) := by decide +kernel
theorem dX4_save_66 : decode cX4_save 66 = .ok (.aload_n 0, 1) := by decide +kernel
theorem dX4_save_67 : decode cX4_save 67 = .ok (.getfield 33, 3) := by decide +kernel
theorem dX4_save_70 : decode cX4_save 70 = .ok (.imul, 1) := by decide +kernel
theorem dX4_save_71 : decode cX4_save 71 = .ok (.iload_n 1, 1) := by decide +kernel
theorem dX4_save_72 : decode cX4_save 72 = .ok (.iadd, 1) := by decide +kernel
theorem dX4_save_73 : decode cX4_save 73 = .ok (.aload_n 0, 1) := by decide +kernel
theorem dX4_save_74 : decode cX4_save 74 = .ok (.getfield 7, 3) := by decide +kernel
theorem dX4_save_77 : decode cX4_save 77 = .ok (.iload_n 1, 1) := by decide +kernel
theorem dX4_save_78 : decode cX4_save 78 = .ok (.iaload, 1) := by decide +kernel
theorem dX4_save_79 : decode cX4_save 79 = .ok (.iastore, 1) := by decide +kernel
theorem dX4_save_80 : decode cX4_save 80 = .ok (.iinc 1 1, 3) := by decide +kernel
theorem dX4_save_83 : decode cX4_save 83 = .ok (.goto (-31), 3) := by decide +kernel
theorem dX4_save_86 : decode cX4_save 86 = .ok (.aload_n 0, 1) := by decide +kernel
theorem dX4_save_87 : decode cX4_save 87 = .ok (.dup, 1) := by decide +kernel
theorem dX4_save_88 : decode cX4_save 88 = .ok (.getfield 33, 3) := by decide +kernel
theorem dX4_save_91 : decode cX4_save 91 = .ok (.iconst 1, 1) := by decide +kernel
theorem dX4_save_92 : decode cX4_save 92 = .ok (.iadd, 1) := by decide +kernel
theorem dX4_save_93 : decode cX4_save 93 = .ok (.putfield 33, 3) := by decide +kernel
theorem dX4_save_96 : decode cX4_save 96 = .ok (.return_, 1) := by decide +kernel
theorem dX4_keep_0 : decode cX4_keep 0 = .ok (.iconst 0, 1) := by decide +kernel
theorem dX4_keep_1 : decode cX4_keep 1 = .ok (.istore_n 1, 1) := by decide +kernel
theorem dX4_keep_2 : decode cX4_keep 2 = .ok (.iload_n 1, 1) := by decide +kernel
theorem dX4_keep_3 : decode cX4_keep 3 = .ok (.sipush 294, 3) := by decide +kernel
theorem dX4_keep_6 : decode cX4_keep 6 = .ok (.if_icmp .ge 21, 3) := by decide +kernel
theorem dX4_keep_9 : decode cX4_keep 9 = .ok (.aload_n 0, 1) := by decide +kernel
theorem dX4_keep_10 : decode cX4_keep 10 = .ok (.getfield 13, 3) := by decide +kernel
theorem dX4_keep_13 : decode cX4_keep 13 = .ok (.iload_n 1, 1) := by decide +kernel
theorem dX4_keep_14 : decode cX4_keep 14 = .ok (.aload_n 0, 1) := by decide +kernel
theorem dX4_keep_15 : decode cX4_keep 15 = .ok (.getfield 7, 3) := by decide +kernel
theorem dX4_keep_18 : decode cX4_keep 18 = .ok (.iload_n 1, 1) := by decide +kernel
theorem dX4_keep_19 : decode cX4_keep 19 = .ok (.iaload, 1) := by decide +kernel
theorem dX4_keep_20 : decode cX4_keep 20 = .ok (.iastore, 1) := by decide +kernel
theorem dX4_keep_21 : decode cX4_keep 21 = .ok (.iinc 1 1, 3) := by decide +kernel
theorem dX4_keep_24 : decode cX4_keep 24 = .ok (.goto (-22), 3) := by decide +kernel
theorem dX4_keep_27 : decode cX4_keep 27 = .ok (.return_, 1) := by decide +kernel
theorem dX4_bring_0 : decode cX4_bring 0 = .ok (.iconst 0, 1) := by decide +kernel
theorem dX4_bring_1 : decode cX4_bring 1 = .ok (.istore_n 1, 1) := by decide +kernel
theorem dX4_bring_2 : decode cX4_bring 2 = .ok (.iload_n 1, 1) := by decide +kernel
theorem dX4_bring_3 : decode cX4_bring 3 = .ok (.sipush 294, 3) := by decide +kernel
theorem dX4_bring_6 : decode cX4_bring 6 = .ok (.if_icmp .ge 21, 3) := by decide +kernel
theorem dX4_bring_9 : decode cX4_bring 9 = .ok (.aload_n 0, 1) := by decide +kernel
theorem dX4_bring_10 : decode cX4_bring 10 = .ok (.getfield 7, 3) := by decide +kernel
theorem dX4_bring_13 : decode cX4_bring 13 = .ok (.iload_n 1, 1) := by decide +kernel
theorem dX4_bring_14 : decode cX4_bring 14 = .ok (.aload_n 0, 1) := by decide +kernel
theorem dX4_bring_15 : decode cX4_bring 15 = .ok (.getfield 13, 3) := by decide +kernel
theorem dX4_bring_18 : decode cX4_bring 18 = .ok (.iload_n 1, 1) := by decide +kernel
theorem dX4_bring_19 : decode cX4_bring 19 = .ok (.iaload, 1) := by decide +kernel
theorem dX4_bring_20 : decode cX4_bring 20 = .ok (.iastore, 1) := by decide +kernel
theorem dX4_bring_21 : decode cX4_bring 21 = .ok (.iinc 1 1, 3) := by decide +kernel
theorem dX4_bring_24 : decode cX4_bring 24 = .ok (.goto (-22), 3) := by decide +kernel
theorem dX4_bring_27 : decode cX4_bring 27 = .ok (.return_, 1) := by decide +kernel
theorem dX4_placesOf_0 : decode cX4_placesOf 0 = .ok (.aload_n 0, 1) := by decide +kernel
theorem dX4_placesOf_1 : decode cX4_placesOf 1 = .ok (.getfield 7, 3) := by decide +kernel
theorem dX4_placesOf_4 : decode cX4_placesOf 4 = .ok (.iconst 1, 1) := by decide +kernel
theorem dX4_placesOf_5 : decode cX4_placesOf 5 = .ok (.iaload, 1) := by decide +kernel
theorem dX4_placesOf_6 : decode cX4_placesOf 6 = .ok (.iload_n 1, 1) := by decide +kernel
theorem dX4_placesOf_7 : decode cX4_placesOf 7 = .ok (.iconst 2, 1) := by decide +kernel
theorem dX4_placesOf_8 : decode cX4_placesOf 8 = .ok (.irem, 1) := by decide +kernel
theorem dX4_placesOf_9 : decode cX4_placesOf 9 = .ok (.ifCond .ne 7, 3) := by decide +kernel
theorem dX4_placesOf_12 : decode cX4_placesOf 12 = .ok (.iconst 0, 1) := by decide +kernel
theorem dX4_placesOf_13 : decode cX4_placesOf 13 = .ok (.goto 4, 3) := by decide +kernel
theorem dX4_placesOf_16 : decode cX4_placesOf 16 = .ok (.iconst 1, 1) := by decide +kernel
theorem dX4_placesOf_17 : decode cX4_placesOf 17 = .ok (.iadd, 1) := by decide +kernel
theorem dX4_placesOf_18 : decode cX4_placesOf 18 = .ok (.ireturn, 1) := by decide +kernel
theorem dX4_isThere_0 : decode cX4_isThere 0 = .ok (.aload_n 0, 1) := by decide +kernel
theorem dX4_isThere_1 : decode cX4_isThere 1 = .ok (.getfield 7, 3) := by decide +kernel
theorem dX4_isThere_4 : decode cX4_isThere 4 = .ok (.bipush 114, 2) := by decide +kernel
theorem dX4_isThere_6 : decode cX4_isThere 6 = .ok (.iload_n 1, 1) := by decide +kernel
theorem dX4_isThere_7 : decode cX4_isThere 7 = .ok (.iadd, 1) := by decide +kernel
theorem dX4_isThere_8 : decode cX4_isThere 8 = .ok (.iaload, 1) := by decide +kernel
theorem dX4_isThere_9 : decode cX4_isThere 9 = .ok (.iload_n 2, 1) := by decide +kernel
theorem dX4_isThere_10 : decode cX4_isThere 10 = .ok (.ishr, 1) := by decide +kernel
theorem dX4_isThere_11 : decode cX4_isThere 11 = .ok (.iconst 1, 1) := by decide +kernel
theorem dX4_isThere_12 : decode cX4_isThere 12 = .ok (.iand, 1) := by decide +kernel
theorem dX4_isThere_13 : decode cX4_isThere 13 = .ok (.iconst 1, 1) := by decide +kernel
theorem dX4_isThere_14 : decode cX4_isThere 14 = .ok (.if_icmp .ne 7, 3) := by decide +kernel
theorem dX4_isThere_17 : decode cX4_isThere 17 = .ok (.iconst 1, 1) := by decide +kernel
theorem dX4_isThere_18 : decode cX4_isThere 18 = .ok (.goto 4, 3) := by decide +kernel
theorem dX4_isThere_21 : decode cX4_isThere 21 = .ok (.iconst 0, 1) := by decide +kernel
theorem dX4_isThere_22 : decode cX4_isThere 22 = .ok (.ireturn, 1) := by decide +kernel
theorem dX4_liesIn_0 : decode cX4_liesIn 0 = .ok (.iconst 0, 1) := by decide +kernel
theorem dX4_liesIn_1 : decode cX4_liesIn 1 = .ok (.istore_n 2, 1) := by decide +kernel
theorem dX4_liesIn_2 : decode cX4_liesIn 2 = .ok (.iconst 0, 1) := by decide +kernel
theorem dX4_liesIn_3 : decode cX4_liesIn 3 = .ok (.istore_n 3, 1) := by decide +kernel
theorem dX4_liesIn_4 : decode cX4_liesIn 4 = .ok (.iload_n 3, 1) := by decide +kernel
theorem dX4_liesIn_5 : decode cX4_liesIn 5 = .ok (.aload_n 0, 1) := by decide +kernel
theorem dX4_liesIn_6 : decode cX4_liesIn 6 = .ok (.iload_n 1, 1) := by decide +kernel
theorem dX4_liesIn_7 : decode cX4_liesIn 7 = .ok (.invokevirtual 36, 3) := by decide +kernel
theorem dX4_liesIn_10 : decode cX4_liesIn 10 = .ok (.if_icmp .ge 26, 3) := by decide +kernel
theorem dX4_liesIn_13 : decode cX4_liesIn 13 = .ok (.iload_n 2, 1) := by decide +kernel
theorem dX4_liesIn_14 : decode cX4_liesIn 14 = .ok (.aload_n 0, 1) := by decide +kernel
theorem dX4_liesIn_15 : decode cX4_liesIn 15 = .ok (.iload_n 1, 1) := by decide +kernel
theorem dX4_liesIn_16 : decode cX4_liesIn 16 = .ok (.iload_n 3, 1) := by decide +kernel
theorem dX4_liesIn_17 : decode cX4_liesIn 17 = .ok (.invokevirtual 40, 3) := by decide +kernel
theorem dX4_liesIn_20 : decode cX4_liesIn 20 = .ok (.ifCond .eq 7, 3) := by decide +kernel
theorem dX4_liesIn_23 : decode cX4_liesIn 23 = .ok (.iconst 1, 1) := by decide +kernel
theorem dX4_liesIn_24 : decode cX4_liesIn 24 = .ok (.goto 4, 3) := by decide +kernel
theorem dX4_liesIn_27 : decode cX4_liesIn 27 = .ok (.iconst 0, 1) := by decide +kernel
theorem dX4_liesIn_28 : decode cX4_liesIn 28 = .ok (.iadd, 1) := by decide +kernel
theorem dX4_liesIn_29 : decode cX4_liesIn 29 = .ok (.istore_n 2, 1) := by decide +kernel
theorem dX4_liesIn_30 : decode cX4_liesIn 30 = .ok (.iinc 3 1, 3) := by decide +kernel
theorem dX4_liesIn_33 : decode cX4_liesIn 33 = .ok (.goto (-29), 3) := by decide +kernel
theorem dX4_liesIn_36 : decode cX4_liesIn 36 = .ok (.iload_n 2, 1) := by decide +kernel
theorem dX4_liesIn_37 : decode cX4_liesIn 37 = .ok (.ireturn, 1) := by decide +kernel
theorem dX4_firstGap_0 : decode cX4_firstGap 0 = .ok (.iconst 0, 1) := by decide +kernel
theorem dX4_firstGap_1 : decode cX4_firstGap 1 = .ok (.istore_n 2, 1) := by decide +kernel
theorem dX4_firstGap_2 : decode cX4_firstGap 2 = .ok (.iload_n 2, 1) := by decide +kernel
theorem dX4_firstGap_3 : decode cX4_firstGap 3 = .ok (.aload_n 0, 1) := by decide +kernel
theorem dX4_firstGap_4 : decode cX4_firstGap 4 = .ok (.iload_n 1, 1) := by decide +kernel
theorem dX4_firstGap_5 : decode cX4_firstGap 5 = .ok (.invokevirtual 36, 3) := by decide +kernel
theorem dX4_firstGap_8 : decode cX4_firstGap 8 = .ok (.if_icmp .ge 20, 3) := by decide +kernel
theorem dX4_firstGap_11 : decode cX4_firstGap 11 = .ok (.aload_n 0, 1) := by decide +kernel
theorem dX4_firstGap_12 : decode cX4_firstGap 12 = .ok (.iload_n 1, 1) := by decide +kernel
theorem dX4_firstGap_13 : decode cX4_firstGap 13 = .ok (.iload_n 2, 1) := by decide +kernel
theorem dX4_firstGap_14 : decode cX4_firstGap 14 = .ok (.invokevirtual 40, 3) := by decide +kernel
theorem dX4_firstGap_17 : decode cX4_firstGap 17 = .ok (.ifCond .ne 5, 3) := by decide +kernel
theorem dX4_firstGap_20 : decode cX4_firstGap 20 = .ok (.iload_n 2, 1) := by decide +kernel
theorem dX4_firstGap_21 : decode cX4_firstGap 21 = .ok (.ireturn, 1) := by decide +kernel
theorem dX4_firstGap_22 : decode cX4_firstGap 22 = .ok (.iinc 2 1, 3) := by decide +kernel
theorem dX4_firstGap_25 : decode cX4_firstGap 25 = .ok (.goto (-23), 3) := by decide +kernel
theorem dX4_firstGap_28 : decode cX4_firstGap 28 = .ok (.iconst (-1), 1) := by decide +kernel
theorem dX4_firstGap_29 : decode cX4_firstGap 29 = .ok (.ireturn, 1) := by decide +kernel
theorem dX4_lastGap_0 : decode cX4_lastGap 0 = .ok (.aload_n 0, 1) := by decide +kernel
theorem dX4_lastGap_1 : decode cX4_lastGap 1 = .ok (.iload_n 1, 1) := by decide +kernel
theorem dX4_lastGap_2 : decode cX4_lastGap 2 = .ok (.invokevirtual 36, 3) := by decide +kernel
theorem dX4_lastGap_5 : decode cX4_lastGap 5 = .ok (.iconst 1, 1) := by decide +kernel
theorem dX4_lastGap_6 : decode cX4_lastGap 6 = .ok (.isub, 1) := by decide +kernel
theorem dX4_lastGap_7 : decode cX4_lastGap 7 = .ok (.istore_n 2, 1) := by decide +kernel
theorem dX4_lastGap_8 : decode cX4_lastGap 8 = .ok (.iload_n 2, 1) := by decide +kernel
theorem dX4_lastGap_9 : decode cX4_lastGap 9 = .ok (.ifCond .lt 20, 3) := by decide +kernel
theorem dX4_lastGap_12 : decode cX4_lastGap 12 = .ok (.aload_n 0, 1) := by decide +kernel
theorem dX4_lastGap_13 : decode cX4_lastGap 13 = .ok (.iload_n 1, 1) := by decide +kernel
theorem dX4_lastGap_14 : decode cX4_lastGap 14 = .ok (.iload_n 2, 1) := by decide +kernel
theorem dX4_lastGap_15 : decode cX4_lastGap 15 = .ok (.invokevirtual 40, 3) := by decide +kernel
theorem dX4_lastGap_18 : decode cX4_lastGap 18 = .ok (.ifCond .ne 5, 3) := by decide +kernel
theorem dX4_lastGap_21 : decode cX4_lastGap 21 = .ok (.iload_n 2, 1) := by decide +kernel
theorem dX4_lastGap_22 : decode cX4_lastGap 22 = .ok (.ireturn, 1) := by decide +kernel
theorem dX4_lastGap_23 : decode cX4_lastGap 23 = .ok (.iinc 2 (-1), 3) := by decide +kernel
theorem dX4_lastGap_26 : decode cX4_lastGap 26 = .ok (.goto (-18), 3) := by decide +kernel
theorem dX4_lastGap_29 : decode cX4_lastGap 29 = .ok (.iconst (-1), 1) := by decide +kernel
theorem dX4_lastGap_30 : decode cX4_lastGap 30 = .ok (.ireturn, 1) := by decide +kernel
theorem dX4_gauge_0 : decode cX4_gauge 0 = .ok (.iload_n 1, 1) := by decide +kernel
theorem dX4_gauge_1 : decode cX4_gauge 1 = .ok (.aload_n 0, 1) := by decide +kernel
theorem dX4_gauge_2 : decode cX4_gauge 2 = .ok (.getfield 7, 3) := by decide +kernel
theorem dX4_gauge_5 : decode cX4_gauge 5 = .ok (.iconst 3, 1) := by decide +kernel
theorem dX4_gauge_6 : decode cX4_gauge 6 = .ok (.iaload, 1) := by decide +kernel
theorem dX4_gauge_7 : decode cX4_gauge 7 = .ok (.isub, 1) := by decide +kernel
theorem dX4_gauge_8 : decode cX4_gauge 8 = .ok (.iconst 2, 1) := by decide +kernel
theorem dX4_gauge_9 : decode cX4_gauge 9 = .ok (.idiv, 1) := by decide +kernel
theorem dX4_gauge_10 : decode cX4_gauge 10 = .ok (.ireturn, 1) := by decide +kernel
theorem dX4_topOf_0 : decode cX4_topOf 0 = .ok (.iconst 0, 1) := by decide +kernel
theorem dX4_topOf_1 : decode cX4_topOf 1 = .ok (.istore_n 2, 1) := by decide +kernel
theorem dX4_topOf_2 : decode cX4_topOf 2 = .ok (.iconst 0, 1) := by decide +kernel
theorem dX4_topOf_3 : decode cX4_topOf 3 = .ok (.istore_n 3, 1) := by decide +kernel
theorem dX4_topOf_4 : decode cX4_topOf 4 = .ok (.iload_n 3, 1) := by decide +kernel
theorem dX4_topOf_5 : decode cX4_topOf 5 = .ok (.iload_n 1, 1) := by decide +kernel
theorem dX4_topOf_6 : decode cX4_topOf 6 = .ok (.if_icmp .gt 25, 3) := by decide +kernel
theorem dX4_topOf_9 : decode cX4_topOf 9 = .ok (.iload_n 2, 1) := by decide +kernel
theorem dX4_topOf_10 : decode cX4_topOf 10 = .ok (.aload_n 0, 1) := by decide +kernel
theorem dX4_topOf_11 : decode cX4_topOf 11 = .ok (.aload_n 0, 1) := by decide +kernel
theorem dX4_topOf_12 : decode cX4_topOf 12 = .ok (.getfield 7, 3) := by decide +kernel
theorem dX4_topOf_15 : decode cX4_topOf 15 = .ok (.bipush 14, 2) := by decide +kernel
theorem dX4_topOf_17 : decode cX4_topOf 17 = .ok (.iload_n 3, 1) := by decide +kernel
theorem dX4_topOf_18 : decode cX4_topOf 18 = .ok (.iadd, 1) := by decide +kernel
theorem dX4_topOf_19 : decode cX4_topOf 19 = .ok (.iaload, 1) := by decide +kernel
theorem dX4_topOf_20 : decode cX4_topOf 20 = .ok (.invokevirtual 44, 3) := by decide +kernel
theorem dX4_topOf_23 : decode cX4_topOf 23 = .ok (.iadd, 1) := by decide +kernel
theorem dX4_topOf_24 : decode cX4_topOf 24 = .ok (.istore_n 2, 1) := by decide +kernel
theorem dX4_topOf_25 : decode cX4_topOf 25 = .ok (.iinc 3 1, 3) := by decide +kernel
theorem dX4_topOf_28 : decode cX4_topOf 28 = .ok (.goto (-24), 3) := by decide +kernel
theorem dX4_topOf_31 : decode cX4_topOf 31 = .ok (.iload_n 2, 1) := by decide +kernel
theorem dX4_topOf_32 : decode cX4_topOf 32 = .ok (.ireturn, 1) := by decide +kernel
theorem dX4_top_0 : decode cX4_top 0 = .ok (.aload_n 0, 1) := by decide +kernel
theorem dX4_top_1 : decode cX4_top 1 = .ok (.aload_n 0, 1) := by decide +kernel
theorem dX4_top_2 : decode cX4_top 2 = .ok (.getfield 7, 3) := by decide +kernel
theorem dX4_top_5 : decode cX4_top 5 = .ok (.iconst 2, 1) := by decide +kernel
theorem dX4_top_6 : decode cX4_top 6 = .ok (.iaload, 1) := by decide +kernel
theorem dX4_top_7 : decode cX4_top 7 = .ok (.iconst 1, 1) := by decide +kernel
theorem dX4_top_8 : decode cX4_top 8 = .ok (.isub, 1) := by decide +kernel
theorem dX4_top_9 : decode cX4_top 9 = .ok (.invokevirtual 47, 3) := by decide +kernel
theorem dX4_top_12 : decode cX4_top 12 = .ok (.ireturn, 1) := by decide +kernel
theorem dX4_onRoof_0 : decode cX4_onRoof 0 = .ok (.iconst 0, 1) := by decide +kernel
theorem dX4_onRoof_1 : decode cX4_onRoof 1 = .ok (.istore_n 1, 1) := by decide +kernel
theorem dX4_onRoof_2 : decode cX4_onRoof 2 = .ok (.iconst 0, 1) := by decide +kernel
theorem dX4_onRoof_3 : decode cX4_onRoof 3 = .ok (.istore_n 2, 1) := by decide +kernel
theorem dX4_onRoof_4 : decode cX4_onRoof 4 = .ok (.iload_n 2, 1) := by decide +kernel
theorem dX4_onRoof_5 : decode cX4_onRoof 5 = .ok (.aload_n 0, 1) := by decide +kernel
theorem dX4_onRoof_6 : decode cX4_onRoof 6 = .ok (.getfield 7, 3) := by decide +kernel
theorem dX4_onRoof_9 : decode cX4_onRoof 9 = .ok (.iconst 2, 1) := by decide +kernel
theorem dX4_onRoof_10 : decode cX4_onRoof 10 = .ok (.iaload, 1) := by decide +kernel
theorem dX4_onRoof_11 : decode cX4_onRoof 11 = .ok (.if_icmp .ge 17, 3) := by decide +kernel
theorem dX4_onRoof_14 : decode cX4_onRoof 14 = .ok (.iload_n 1, 1) := by decide +kernel
theorem dX4_onRoof_15 : decode cX4_onRoof 15 = .ok (.aload_n 0, 1) := by decide +kernel
theorem dX4_onRoof_16 : decode cX4_onRoof 16 = .ok (.iload_n 2, 1) := by decide +kernel
theorem dX4_onRoof_17 : decode cX4_onRoof 17 = .ok (.invokevirtual 50, 3) := by decide +kernel
theorem dX4_onRoof_20 : decode cX4_onRoof 20 = .ok (.iadd, 1) := by decide +kernel
theorem dX4_onRoof_21 : decode cX4_onRoof 21 = .ok (.istore_n 1, 1) := by decide +kernel
theorem dX4_onRoof_22 : decode cX4_onRoof 22 = .ok (.iinc 2 1, 3) := by decide +kernel
theorem dX4_onRoof_25 : decode cX4_onRoof 25 = .ok (.goto (-21), 3) := by decide +kernel
theorem dX4_onRoof_28 : decode cX4_onRoof 28 = .ok (.iload_n 1, 1) := by decide +kernel
theorem dX4_onRoof_29 : decode cX4_onRoof 29 = .ok (.ireturn, 1) := by decide +kernel
theorem dX4_gaps_0 : decode cX4_gaps 0 = .ok (.iconst 0, 1) := by decide +kernel
theorem dX4_gaps_1 : decode cX4_gaps 1 = .ok (.istore_n 1, 1) := by decide +kernel
theorem dX4_gaps_2 : decode cX4_gaps 2 = .ok (.iconst 0, 1) := by decide +kernel
theorem dX4_gaps_3 : decode cX4_gaps 3 = .ok (.istore_n 2, 1) := by decide +kernel
theorem dX4_gaps_4 : decode cX4_gaps 4 = .ok (.iload_n 2, 1) := by decide +kernel
theorem dX4_gaps_5 : decode cX4_gaps 5 = .ok (.aload_n 0, 1) := by decide +kernel
theorem dX4_gaps_6 : decode cX4_gaps 6 = .ok (.getfield 7, 3) := by decide +kernel
theorem dX4_gaps_9 : decode cX4_gaps 9 = .ok (.iconst 2, 1) := by decide +kernel
theorem dX4_gaps_10 : decode cX4_gaps 10 = .ok (.iaload, 1) := by decide +kernel
theorem dX4_gaps_11 : decode cX4_gaps 11 = .ok (.if_icmp .ge 23, 3) := by decide +kernel
theorem dX4_gaps_14 : decode cX4_gaps 14 = .ok (.iload_n 1, 1) := by decide +kernel
theorem dX4_gaps_15 : decode cX4_gaps 15 = .ok (.aload_n 0, 1) := by decide +kernel
theorem dX4_gaps_16 : decode cX4_gaps 16 = .ok (.iload_n 2, 1) := by decide +kernel
theorem dX4_gaps_17 : decode cX4_gaps 17 = .ok (.invokevirtual 36, 3) := by decide +kernel
theorem dX4_gaps_20 : decode cX4_gaps 20 = .ok (.aload_n 0, 1) := by decide +kernel
theorem dX4_gaps_21 : decode cX4_gaps 21 = .ok (.iload_n 2, 1) := by decide +kernel
theorem dX4_gaps_22 : decode cX4_gaps 22 = .ok (.invokevirtual 50, 3) := by decide +kernel
theorem dX4_gaps_25 : decode cX4_gaps 25 = .ok (.isub, 1) := by decide +kernel
theorem dX4_gaps_26 : decode cX4_gaps 26 = .ok (.iadd, 1) := by decide +kernel
theorem dX4_gaps_27 : decode cX4_gaps 27 = .ok (.istore_n 1, 1) := by decide +kernel
theorem dX4_gaps_28 : decode cX4_gaps 28 = .ok (.iinc 2 1, 3) := by decide +kernel
theorem dX4_gaps_31 : decode cX4_gaps 31 = .ok (.goto (-27), 3) := by decide +kernel
theorem dX4_gaps_34 : decode cX4_gaps 34 = .ok (.iload_n 1, 1) := by decide +kernel
theorem dX4_gaps_35 : decode cX4_gaps 35 = .ok (.ireturn, 1) := by decide +kernel
theorem dX4_isDone_0 : decode cX4_isDone 0 = .ok (.aload_n 0, 1) := by decide +kernel
theorem dX4_isDone_1 : decode cX4_isDone 1 = .ok (.getfield 7, 3) := by decide +kernel
theorem dX4_isDone_4 : decode cX4_isDone 4 = .ok (.iconst 2, 1) := by decide +kernel
theorem dX4_isDone_5 : decode cX4_isDone 5 = .ok (.iaload, 1) := by decide +kernel
theorem dX4_isDone_6 : decode cX4_isDone 6 = .ok (.ifCond .le 27, 3) := by decide +kernel
theorem dX4_isDone_9 : decode cX4_isDone 9 = .ok (.aload_n 0, 1) := by decide +kernel
theorem dX4_isDone_10 : decode cX4_isDone 10 = .ok (.invokevirtual 53, 3) := by decide +kernel
theorem dX4_isDone_13 : decode cX4_isDone 13 = .ok (.aload_n 0, 1) := by decide +kernel
theorem dX4_isDone_14 : decode cX4_isDone 14 = .ok (.getfield 7, 3) := by decide +kernel
theorem dX4_isDone_17 : decode cX4_isDone 17 = .ok (.iconst 0, 1) := by decide +kernel
theorem dX4_isDone_18 : decode cX4_isDone 18 = .ok (.iaload, 1) := by decide +kernel
theorem dX4_isDone_19 : decode cX4_isDone 19 = .ok (.if_icmp .lt 14, 3) := by decide +kernel
theorem dX4_isDone_22 : decode cX4_isDone 22 = .ok (.aload_n 0, 1) := by decide +kernel
theorem dX4_isDone_23 : decode cX4_isDone 23 = .ok (.invokevirtual 57, 3) := by decide +kernel
theorem dX4_isDone_26 : decode cX4_isDone 26 = .ok (.ifCond .ne 7, 3) := by decide +kernel
theorem dX4_isDone_29 : decode cX4_isDone 29 = .ok (.iconst 1, 1) := by decide +kernel
theorem dX4_isDone_30 : decode cX4_isDone 30 = .ok (.goto 4, 3) := by decide +kernel
theorem dX4_isDone_33 : decode cX4_isDone 33 = .ok (.iconst 0, 1) := by decide +kernel
theorem dX4_isDone_34 : decode cX4_isDone 34 = .ok (.ireturn, 1) := by decide +kernel
theorem dX4_price_0 : decode cX4_price 0 = .ok (.iload_n 0, 1) := by decide +kernel
theorem dX4_price_1 : decode cX4_price 1 = .ok (.iload_n 0, 1) := by decide +kernel
theorem dX4_price_2 : decode cX4_price 2 = .ok (.imul, 1) := by decide +kernel
theorem dX4_price_3 : decode cX4_price 3 = .ok (.bipush 16, 2) := by decide +kernel
theorem dX4_price_5 : decode cX4_price 5 = .ok (.idiv, 1) := by decide +kernel
theorem dX4_price_6 : decode cX4_price 6 = .ok (.ireturn, 1) := by decide +kernel
theorem dX4_longest_0 : decode cX4_longest 0 = .ok (.aload_n 0, 1) := by decide +kernel
theorem dX4_longest_1 : decode cX4_longest 1 = .ok (.getfield 7, 3) := by decide +kernel
theorem dX4_longest_4 : decode cX4_longest 4 = .ok (.iconst 2, 1) := by decide +kernel
theorem dX4_longest_5 : decode cX4_longest 5 = .ok (.iaload, 1) := by decide +kernel
theorem dX4_longest_6 : decode cX4_longest 6 = .ok (.ifCond .ne 8, 3) := by decide +kernel
theorem dX4_longest_9 : decode cX4_longest 9 = .ok (.bipush 24, 2) := by decide +kernel
theorem dX4_longest_11 : decode cX4_longest 11 = .ok (.goto 19, 3) := by decide +kernel
theorem dX4_longest_14 : decode cX4_longest 14 = .ok (.aload_n 0, 1) := by decide +kernel
theorem dX4_longest_15 : decode cX4_longest 15 = .ok (.getfield 7, 3) := by decide +kernel
theorem dX4_longest_18 : decode cX4_longest 18 = .ok (.bipush 14, 2) := by decide +kernel
theorem dX4_longest_20 : decode cX4_longest 20 = .ok (.aload_n 0, 1) := by decide +kernel
theorem dX4_longest_21 : decode cX4_longest 21 = .ok (.getfield 7, 3) := by decide +kernel
theorem dX4_longest_24 : decode cX4_longest 24 = .ok (.iconst 2, 1) := by decide +kernel
theorem dX4_longest_25 : decode cX4_longest 25 = .ok (.iaload, 1) := by decide +kernel
theorem dX4_longest_26 : decode cX4_longest 26 = .ok (.iadd, 1) := by decide +kernel
theorem dX4_longest_27 : decode cX4_longest 27 = .ok (.iconst 1, 1) := by decide +kernel
theorem dX4_longest_28 : decode cX4_longest 28 = .ok (.isub, 1) := by decide +kernel
theorem dX4_longest_29 : decode cX4_longest 29 = .ok (.iaload, 1) := by decide +kernel
theorem dX4_longest_30 : decode cX4_longest 30 = .ok (.ireturn, 1) := by decide +kernel
theorem dX4_isDry_0 : decode cX4_isDry 0 = .ok (.aload_n 0, 1) := by decide +kernel
theorem dX4_isDry_1 : decode cX4_isDry 1 = .ok (.getfield 7, 3) := by decide +kernel
theorem dX4_isDry_4 : decode cX4_isDry 4 = .ok (.bipush 9, 2) := by decide +kernel
theorem dX4_isDry_6 : decode cX4_isDry 6 = .ok (.iaload, 1) := by decide +kernel
theorem dX4_isDry_7 : decode cX4_isDry 7 = .ok (.ifCond .ne 17, 3) := by decide +kernel
theorem dX4_isDry_10 : decode cX4_isDry 10 = .ok (.aload_n 0, 1) := by decide +kernel
theorem dX4_isDry_11 : decode cX4_isDry 11 = .ok (.getfield 7, 3) := by decide +kernel
theorem dX4_isDry_14 : decode cX4_isDry 14 = .ok (.bipush 8, 2) := by decide +kernel
theorem dX4_isDry_16 : decode cX4_isDry 16 = .ok (.iaload, 1) := by decide +kernel
theorem dX4_isDry_17 : decode cX4_isDry 17 = .ok (.ifCond .ne 7, 3) := by decide +kernel
theorem dX4_isDry_20 : decode cX4_isDry 20 = .ok (.iconst 1, 1) := by decide +kernel
theorem dX4_isDry_21 : decode cX4_isDry 21 = .ok (.goto 4, 3) := by decide +kernel
theorem dX4_isDry_24 : decode cX4_isDry 24 = .ok (.iconst 0, 1) := by decide +kernel
theorem dX4_isDry_25 : decode cX4_isDry 25 = .ok (.ireturn, 1) := by decide +kernel
theorem dX4_begin_0 : decode cX4_begin 0 = .ok (.aload_n 0, 1) := by decide +kernel
theorem dX4_begin_1 : decode cX4_begin 1 = .ok (.iconst 0, 1) := by decide +kernel
theorem dX4_begin_2 : decode cX4_begin 2 = .ok (.putfield 25, 3) := by decide +kernel
theorem dX4_begin_5 : decode cX4_begin 5 = .ok (.iload_n 1, 1) := by decide +kernel
theorem dX4_begin_6 : decode cX4_begin 6 = .ok (.bipush 20, 2) := by decide +kernel
theorem dX4_begin_8 : decode cX4_begin 8 = .ok (.sipush 400, 3) := by decide +kernel
theorem dX4_begin_11 : decode cX4_begin 11 = .ok (.invokestatic 29, 3) := by decide +kernel
theorem dX4_begin_14 : decode cX4_begin 14 = .ok (.ifCond .eq 13, 3) := by decide +kernel
theorem dX4_begin_17 : decode cX4_begin 17 = .ok (.iload_n 2, 1) := by decide +kernel
theorem dX4_begin_18 : decode cX4_begin 18 = .ok (.iconst 2, 1) := by decide +kernel
theorem dX4_begin_19 : decode cX4_begin 19 = .ok (.bipush 30, 2) := by decide +kernel
theorem dX4_begin_21 : decode cX4_begin 21 = .ok (.invokestatic 29, 3) := by decide +kernel
theorem dX4_begin_24 : decode cX4_begin 24 = .ok (.ifCond .ne 9, 3) := by decide +kernel
theorem dX4_begin_27 : decode cX4_begin 27 = .ok (.aload_n 0, 1) := by decide +kernel
theorem dX4_begin_28 : decode cX4_begin 28 = .ok (.iconst 1, 1) := by decide +kernel
theorem dX4_begin_29 : decode cX4_begin 29 = .ok (.invokevirtual 60, 3) := by decide +kernel
theorem dX4_begin_32 : decode cX4_begin 32 = .ok (.ireturn, 1) := by decide +kernel
theorem dX4_begin_33 : decode cX4_begin 33 = .ok (.aload_n 0, 1) := by decide +kernel
theorem dX4_begin_34 : decode cX4_begin 34 = .ok (.invokevirtual 63, 3) := by decide +kernel
theorem dX4_begin_37 : decode cX4_begin 37 = .ok (.aload_n 0, 1) := by decide +kernel
theorem dX4_begin_38 : decode cX4_begin 38 = .ok (.invokevirtual 66, 3) := by decide +kernel
theorem dX4_begin_41 : decode cX4_begin 41 = .ok (.istore_n 3, 1) := by decide +kernel
theorem dX4_begin_42 : decode cX4_begin 42 = .ok (.aload_n 0, 1) := by decide +kernel
theorem dX4_begin_43 : decode cX4_begin 43 = .ok (.getfield 7, 3) := by decide +kernel
theorem dX4_begin_46 : decode cX4_begin 46 = .ok (.bipush 12, 2) := by decide +kernel
theorem dX4_begin_48 : decode cX4_begin 48 = .ok (.dup2, 1) := by decide +kernel
theorem dX4_begin_49 : decode cX4_begin 49 = .ok (.iaload, 1) := by decide +kernel
theorem dX4_begin_50 : decode cX4_begin 50 = .ok (.iload_n 3, 1) := by decide +kernel
theorem dX4_begin_51 : decode cX4_begin 51 = .ok (.iadd, 1) := by decide +kernel
theorem dX4_begin_52 : decode cX4_begin 52 = .ok (.iastore, 1) := by decide +kernel
theorem dX4_begin_53 : decode cX4_begin 53 = .ok (.aload_n 0, 1) := by decide +kernel
theorem dX4_begin_54 : decode cX4_begin 54 = .ok (.getfield 7, 3) := by decide +kernel
theorem dX4_begin_57 : decode cX4_begin 57 = .ok (.iconst 2, 1) := by decide +kernel
theorem dX4_begin_58 : decode cX4_begin 58 = .ok (.iconst 0, 1) := by decide +kernel
theorem dX4_begin_59 : decode cX4_begin 59 = .ok (.iastore, 1) := by decide +kernel
theorem dX4_begin_60 : decode cX4_begin 60 = .ok (.aload_n 0, 1) := by decide +kernel
theorem dX4_begin_61 : decode cX4_begin 61 = .ok (.getfield 7, 3) := by decide +kernel
theorem dX4_begin_64 : decode cX4_begin 64 = .ok (.iconst 0, 1) := by decide +kernel
theorem dX4_begin_65 : decode cX4_begin 65 = .ok (.iload_n 1, 1) := by decide +kernel
theorem dX4_begin_66 : decode cX4_begin 66 = .ok (.iastore, 1) := by decide +kernel
theorem dX4_begin_67 : decode cX4_begin 67 = .ok (.aload_n 0, 1) := by decide +kernel
theorem dX4_begin_68 : decode cX4_begin 68 = .ok (.getfield 7, 3) := by decide +kernel
theorem dX4_begin_71 : decode cX4_begin 71 = .ok (.iconst 1, 1) := by decide +kernel
theorem dX4_begin_72 : decode cX4_begin 72 = .ok (.iload_n 2, 1) := by decide +kernel
theorem dX4_begin_73 : decode cX4_begin 73 = .ok (.iastore, 1) := by decide +kernel
theorem dX4_begin_74 : decode cX4_begin 74 = .ok (.iload_n 3, 1) := by decide +kernel
theorem dX4_begin_75 : decode cX4_begin 75 = .ok (.ireturn, 1) := by decide +kernel
theorem dX4_set_0 : decode cX4_set 0 = .ok (.aload_n 0, 1) := by decide +kernel
theorem dX4_set_1 : decode cX4_set 1 = .ok (.iconst 0, 1) := by decide +kernel
theorem dX4_set_2 : decode cX4_set 2 = .ok (.putfield 25, 3) := by decide +kernel
theorem dX4_set_5 : decode cX4_set 5 = .ok (.iload_n 1, 1) := by decide +kernel
theorem dX4_set_6 : decode cX4_set 6 = .ok (.iconst 0, 1) := by decide +kernel
theorem dX4_set_7 : decode cX4_set 7 = .ok (.iconst 2, 1) := by decide +kernel
theorem dX4_set_8 : decode cX4_set 8 = .ok (.invokestatic 29, 3) := by decide +kernel
theorem dX4_set_11 : decode cX4_set 11 = .ok (.ifCond .ne 9, 3) := by decide +kernel
theorem dX4_set_14 : decode cX4_set 14 = .ok (.aload_n 0, 1) := by decide +kernel
theorem dX4_set_15 : decode cX4_set 15 = .ok (.iconst 1, 1) := by decide +kernel
theorem dX4_set_16 : decode cX4_set 16 = .ok (.invokevirtual 60, 3) := by decide +kernel
theorem dX4_set_19 : decode cX4_set 19 = .ok (.ireturn, 1) := by decide +kernel
theorem dX4_set_20 : decode cX4_set 20 = .ok (.iload_n 1, 1) := by decide +kernel
theorem dX4_set_21 : decode cX4_set 21 = .ok (.ifCond .ne 13, 3) := by decide +kernel
theorem dX4_set_24 : decode cX4_set 24 = .ok (.iload_n 2, 1) := by decide +kernel
theorem dX4_set_25 : decode cX4_set 25 = .ok (.iconst 2, 1) := by decide +kernel
theorem dX4_set_26 : decode cX4_set 26 = .ok (.bipush 6, 2) := by decide +kernel
theorem dX4_set_28 : decode cX4_set 28 = .ok (.invokestatic 29, 3) := by decide +kernel
theorem dX4_set_31 : decode cX4_set 31 = .ok (.goto 24, 3) := by decide +kernel
theorem dX4_set_34 : decode cX4_set 34 = .ok (.iload_n 1, 1) := by decide +kernel
theorem dX4_set_35 : decode cX4_set 35 = .ok (.iconst 1, 1) := by decide +kernel
theorem dX4_set_36 : decode cX4_set 36 = .ok (.if_icmp .ne 13, 3) := by decide +kernel
theorem dX4_set_39 : decode cX4_set 39 = .ok (.iload_n 2, 1) := by decide +kernel
theorem dX4_set_40 : decode cX4_set 40 = .ok (.iconst 1, 1) := by decide +kernel
theorem dX4_set_41 : decode cX4_set 41 = .ok (.bipush 60, 2) := by decide +kernel
theorem dX4_set_43 : decode cX4_set 43 = .ok (.invokestatic 29, 3) := by decide +kernel
theorem dX4_set_46 : decode cX4_set 46 = .ok (.goto 9, 3) := by decide +kernel
theorem dX4_set_49 : decode cX4_set 49 = .ok (.iload_n 2, 1) := by decide +kernel
theorem dX4_set_50 : decode cX4_set 50 = .ok (.iconst 1, 1) := by decide +kernel
theorem dX4_set_51 : decode cX4_set 51 = .ok (.iconst 5, 1) := by decide +kernel
theorem dX4_set_52 : decode cX4_set 52 = .ok (.invokestatic 29, 3) := by decide +kernel
theorem dX4_set_55 : decode cX4_set 55 = .ok (.istore_n 3, 1) := by decide +kernel
theorem dX4_set_56 : decode cX4_set 56 = .ok (.iload_n 3, 1) := by decide +kernel
theorem dX4_set_57 : decode cX4_set 57 = .ok (.ifCond .ne 9, 3) := by decide +kernel
theorem dX4_set_60 : decode cX4_set 60 = .ok (.aload_n 0, 1) := by decide +kernel
theorem dX4_set_61 : decode cX4_set 61 = .ok (.iconst 2, 1) := by decide +kernel
theorem dX4_set_62 : decode cX4_set 62 = .ok (.invokevirtual 60, 3) := by decide +kernel
theorem dX4_set_65 : decode cX4_set 65 = .ok (.ireturn, 1) := by decide +kernel
theorem dX4_set_66 : decode cX4_set 66 = .ok (.aload_n 0, 1) := by decide +kernel
theorem dX4_set_67 : decode cX4_set 67 = .ok (.invokevirtual 63, 3) := by decide +kernel
theorem dX4_set_70 : decode cX4_set 70 = .ok (.aload_n 0, 1) := by decide +kernel
theorem dX4_set_71 : decode cX4_set 71 = .ok (.getfield 7, 3) := by decide +kernel
theorem dX4_set_74 : decode cX4_set 74 = .ok (.iconst 3, 1) := by decide +kernel
theorem dX4_set_75 : decode cX4_set 75 = .ok (.iload_n 1, 1) := by decide +kernel
theorem dX4_set_76 : decode cX4_set 76 = .ok (.iadd, 1) := by decide +kernel
theorem dX4_set_77 : decode cX4_set 77 = .ok (.iaload, 1) := by decide +kernel
theorem dX4_set_78 : decode cX4_set 78 = .ok (.istore 4, 2) := by decide +kernel
theorem dX4_set_80 : decode cX4_set 80 = .ok (.aload_n 0, 1) := by decide +kernel
theorem dX4_set_81 : decode cX4_set 81 = .ok (.getfield 7, 3) := by decide +kernel
theorem dX4_set_84 : decode cX4_set 84 = .ok (.iconst 3, 1) := by decide +kernel
theorem dX4_set_85 : decode cX4_set 85 = .ok (.iload_n 1, 1) := by decide +kernel
theorem dX4_set_86 : decode cX4_set 86 = .ok (.iadd, 1) := by decide +kernel
theorem dX4_set_87 : decode cX4_set 87 = .ok (.iload_n 2, 1) := by decide +kernel
theorem dX4_set_88 : decode cX4_set 88 = .ok (.iastore, 1) := by decide +kernel
theorem dX4_set_89 : decode cX4_set 89 = .ok (.iload 4, 2) := by decide +kernel
theorem dX4_set_91 : decode cX4_set 91 = .ok (.ireturn, 1) := by decide +kernel
theorem dX4_sum_0 : decode cX4_sum 0 = .ok (.iconst 0, 1) := by decide +kernel
theorem dX4_sum_1 : decode cX4_sum 1 = .ok (.istore_n 2, 1) := by decide +kernel
theorem dX4_sum_2 : decode cX4_sum 2 = .ok (.bipush 8, 2) := by decide +kernel
theorem dX4_sum_4 : decode cX4_sum 4 = .ok (.istore_n 3, 1) := by decide +kernel
theorem dX4_sum_5 : decode cX4_sum 5 = .ok (.iload_n 3, 1) := by decide +kernel
theorem dX4_sum_6 : decode cX4_sum 6 = .ok (.bipush 24, 2) := by decide +kernel
theorem dX4_sum_8 : decode cX4_sum 8 = .ok (.if_icmp .gt 20, 3) := by decide +kernel
theorem dX4_sum_11 : decode cX4_sum 11 = .ok (.iload_n 2, 1) := by decide +kernel
theorem dX4_sum_12 : decode cX4_sum 12 = .ok (.aload_n 0, 1) := by decide +kernel
theorem dX4_sum_13 : decode cX4_sum 13 = .ok (.getfield 7, 3) := by decide +kernel
theorem dX4_sum_16 : decode cX4_sum 16 = .ok (.iload_n 1, 1) := by decide +kernel
theorem dX4_sum_17 : decode cX4_sum 17 = .ok (.iload_n 3, 1) := by decide +kernel
theorem dX4_sum_18 : decode cX4_sum 18 = .ok (.iadd, 1) := by decide +kernel
theorem dX4_sum_19 : decode cX4_sum 19 = .ok (.iaload, 1) := by decide +kernel
theorem dX4_sum_20 : decode cX4_sum 20 = .ok (.iadd, 1) := by decide +kernel
theorem dX4_sum_21 : decode cX4_sum 21 = .ok (.istore_n 2, 1) := by decide +kernel
theorem dX4_sum_22 : decode cX4_sum 22 = .ok (.iinc 3 1, 3) := by decide +kernel
theorem dX4_sum_25 : decode cX4_sum 25 = .ok (.goto (-20), 3) := by decide +kernel
theorem dX4_sum_28 : decode cX4_sum 28 = .ok (.iload_n 2, 1) := by decide +kernel
theorem dX4_sum_29 : decode cX4_sum 29 = .ok (.ireturn, 1) := by decide +kernel
theorem dX4_buy_0 : decode cX4_buy 0 = .ok (.aload_n 0, 1) := by decide +kernel
theorem dX4_buy_1 : decode cX4_buy 1 = .ok (.iconst 0, 1) := by decide +kernel
theorem dX4_buy_2 : decode cX4_buy 2 = .ok (.putfield 25, 3) := by decide +kernel
theorem dX4_buy_5 : decode cX4_buy 5 = .ok (.iload_n 1, 1) := by decide +kernel
theorem dX4_buy_6 : decode cX4_buy 6 = .ok (.invokestatic 69, 3) := by decide +kernel
theorem dX4_buy_9 : decode cX4_buy 9 = .ok (.ifCond .eq 14, 3) := by decide +kernel
theorem dX4_buy_12 : decode cX4_buy 12 = .ok (.iload_n 2, 1) := by decide +kernel
theorem dX4_buy_13 : decode cX4_buy 13 = .ok (.iconst 1, 1) := by decide +kernel
theorem dX4_buy_14 : decode cX4_buy 14 = .ok (.sipush 200, 3) := by decide +kernel
theorem dX4_buy_17 : decode cX4_buy 17 = .ok (.invokestatic 29, 3) := by decide +kernel
theorem dX4_buy_20 : decode cX4_buy 20 = .ok (.ifCond .ne 9, 3) := by decide +kernel
theorem dX4_buy_23 : decode cX4_buy 23 = .ok (.aload_n 0, 1) := by decide +kernel
theorem dX4_buy_24 : decode cX4_buy 24 = .ok (.iconst 1, 1) := by decide +kernel
theorem dX4_buy_25 : decode cX4_buy 25 = .ok (.invokevirtual 60, 3) := by decide +kernel
theorem dX4_buy_28 : decode cX4_buy 28 = .ok (.ireturn, 1) := by decide +kernel
theorem dX4_buy_29 : decode cX4_buy 29 = .ok (.aload_n 0, 1) := by decide +kernel
theorem dX4_buy_30 : decode cX4_buy 30 = .ok (.sipush 264, 3) := by decide +kernel
theorem dX4_buy_33 : decode cX4_buy 33 = .ok (.invokevirtual 73, 3) := by decide +kernel
theorem dX4_buy_36 : decode cX4_buy 36 = .ok (.iload_n 2, 1) := by decide +kernel
theorem dX4_buy_37 : decode cX4_buy 37 = .ok (.iadd, 1) := by decide +kernel
theorem dX4_buy_38 : decode cX4_buy 38 = .ok (.sipush 5000, 3) := by decide +kernel
theorem dX4_buy_41 : decode cX4_buy 41 = .ok (.if_icmp .le 9, 3) := by decide +kernel
theorem dX4_buy_44 : decode cX4_buy 44 = .ok (.aload_n 0, 1) := by decide +kernel
theorem dX4_buy_45 : decode cX4_buy 45 = .ok (.iconst 2, 1) := by decide +kernel
theorem dX4_buy_46 : decode cX4_buy 46 = .ok (.invokevirtual 60, 3) := by decide +kernel
theorem dX4_buy_49 : decode cX4_buy 49 = .ok (.ireturn, 1) := by decide +kernel
theorem dX4_buy_50 : decode cX4_buy 50 = .ok (.aload_n 0, 1) := by decide +kernel
theorem dX4_buy_51 : decode cX4_buy 51 = .ok (.invokevirtual 63, 3) := by decide +kernel
theorem dX4_buy_54 : decode cX4_buy 54 = .ok (.iload_n 3, 1) := by decide +kernel
theorem dX4_buy_55 : decode cX4_buy 55 = .ok (.istore 4, 2) := by decide +kernel
theorem dX4_buy_57 : decode cX4_buy 57 = .ok (.iconst 0, 1) := by decide +kernel
theorem dX4_buy_58 : decode cX4_buy 58 = .ok (.istore 5, 2) := by decide +kernel
theorem dX4_buy_60 : decode cX4_buy 60 = .ok (.iconst 0, 1) := by decide +kernel
theorem dX4_buy_61 : decode cX4_buy 61 = .ok (.istore 6, 2) := by decide +kernel
theorem dX4_buy_63 : decode cX4_buy 63 = .ok (.iload 6, 2) := by decide +kernel
theorem dX4_buy_65 : decode cX4_buy 65 = .ok (.iload_n 2, 1) := by decide +kernel
theorem dX4_buy_66 : decode cX4_buy 66 = .ok (.if_icmp .ge 45, 3) := by decide +kernel
theorem dX4_buy_69 : decode cX4_buy 69 = .ok (.iload 4, 2) := by decide +kernel
theorem dX4_buy_71 : decode cX4_buy 71 = .ok (.ldc 76, 2) := by decide +kernel
theorem dX4_buy_73 : decode cX4_buy 73 = .ok (.imul, 1) := by decide +kernel
theorem dX4_buy_74 : decode cX4_buy 74 = .ok (.sipush 12345, 3) := by decide +kernel
theorem dX4_buy_77 : decode cX4_buy 77 = .ok (.iadd, 1) := by decide +kernel
theorem dX4_buy_78 : decode cX4_buy 78 = .ok (.istore 4, 2) := by decide +kernel
theorem dX4_buy_80 : decode cX4_buy 80 = .ok (.iload 5, 2) := by decide +kernel
theorem dX4_buy_82 : decode cX4_buy 82 = .ok (.iload 4, 2) := by decide +kernel
theorem dX4_buy_84 : decode cX4_buy 84 = .ok (.bipush 16, 2) := by decide +kernel
theorem dX4_buy_86 : decode cX4_buy 86 = .ok (.ishr, 1) := by decide +kernel
theorem dX4_buy_87 : decode cX4_buy 87 = .ok (.sipush 32767, 3) := by decide +kernel
theorem dX4_buy_90 : decode cX4_buy 90 = .ok (.iand, 1) := by decide +kernel
theorem dX4_buy_91 : decode cX4_buy 91 = .ok (.bipush 10, 2) := by decide +kernel
theorem dX4_buy_93 : decode cX4_buy 93 = .ok (.irem, 1) := by decide +kernel
theorem dX4_buy_94 : decode cX4_buy 94 = .ok (.ifCond .ne 7, 3) := by decide +kernel
theorem dX4_buy_97 : decode cX4_buy 97 = .ok (.iconst 1, 1) := by decide +kernel
theorem dX4_buy_98 : decode cX4_buy 98 = .ok (.goto 4, 3) := by decide +kernel
theorem dX4_buy_101 : decode cX4_buy 101 = .ok (.iconst 0, 1) := by decide +kernel
theorem dX4_buy_102 : decode cX4_buy 102 = .ok (.iadd, 1) := by decide +kernel
theorem dX4_buy_103 : decode cX4_buy 103 = .ok (.istore 5, 2) := by decide +kernel
theorem dX4_buy_105 : decode cX4_buy 105 = .ok (.iinc 6 1, 3) := by decide +kernel
theorem dX4_buy_108 : decode cX4_buy 108 = .ok (.goto (-45), 3) := by decide +kernel
theorem dX4_buy_111 : decode cX4_buy 111 = .ok (.aload_n 0, 1) := by decide +kernel
theorem dX4_buy_112 : decode cX4_buy 112 = .ok (.getfield 7, 3) := by decide +kernel
theorem dX4_buy_115 : decode cX4_buy 115 = .ok (.sipush 239, 3) := by decide +kernel
theorem dX4_buy_118 : decode cX4_buy 118 = .ok (.iload_n 1, 1) := by decide +kernel
theorem dX4_buy_119 : decode cX4_buy 119 = .ok (.iadd, 1) := by decide +kernel
theorem dX4_buy_120 : decode cX4_buy 120 = .ok (.dup2, 1) := by decide +kernel
theorem dX4_buy_121 : decode cX4_buy 121 = .ok (.iaload, 1) := by decide +kernel
theorem dX4_buy_122 : decode cX4_buy 122 = .ok (.iload 5, 2) := by decide +kernel
theorem dX4_buy_124 : decode cX4_buy 124 = .ok (.iadd, 1) := by decide +kernel
theorem dX4_buy_125 : decode cX4_buy 125 = .ok (.iastore, 1) := by decide +kernel
theorem dX4_buy_126 : decode cX4_buy 126 = .ok (.aload_n 0, 1) := by decide +kernel
theorem dX4_buy_127 : decode cX4_buy 127 = .ok (.getfield 7, 3) := by decide +kernel
theorem dX4_buy_130 : decode cX4_buy 130 = .ok (.sipush 214, 3) := by decide +kernel
theorem dX4_buy_133 : decode cX4_buy 133 = .ok (.iload_n 1, 1) := by decide +kernel
theorem dX4_buy_134 : decode cX4_buy 134 = .ok (.iadd, 1) := by decide +kernel
theorem dX4_buy_135 : decode cX4_buy 135 = .ok (.dup2, 1) := by decide +kernel
theorem dX4_buy_136 : decode cX4_buy 136 = .ok (.iaload, 1) := by decide +kernel
theorem dX4_buy_137 : decode cX4_buy 137 = .ok (.iload_n 2, 1) := by decide +kernel
theorem dX4_buy_138 : decode cX4_buy 138 = .ok (.iload 5, 2) := by decide +kernel
theorem dX4_buy_140 : decode cX4_buy 140 = .ok (.isub, 1) := by decide +kernel
theorem dX4_buy_141 : decode cX4_buy 141 = .ok (.iadd, 1) := by decide +kernel
theorem dX4_buy_142 : decode cX4_buy 142 = .ok (.iastore, 1) := by decide +kernel
theorem dX4_buy_143 : decode cX4_buy 143 = .ok (.aload_n 0, 1) := by decide +kernel
theorem dX4_buy_144 : decode cX4_buy 144 = .ok (.getfield 7, 3) := by decide +kernel
theorem dX4_buy_147 : decode cX4_buy 147 = .ok (.sipush 264, 3) := by decide +kernel
theorem dX4_buy_150 : decode cX4_buy 150 = .ok (.iload_n 1, 1) := by decide +kernel
theorem dX4_buy_151 : decode cX4_buy 151 = .ok (.iadd, 1) := by decide +kernel
theorem dX4_buy_152 : decode cX4_buy 152 = .ok (.dup2, 1) := by decide +kernel
theorem dX4_buy_153 : decode cX4_buy 153 = .ok (.iaload, 1) := by decide +kernel
theorem dX4_buy_154 : decode cX4_buy 154 = .ok (.iload_n 2, 1) := by decide +kernel
theorem dX4_buy_155 : decode cX4_buy 155 = .ok (.iadd, 1) := by decide +kernel
theorem dX4_buy_156 : decode cX4_buy 156 = .ok (.iastore, 1) := by decide +kernel
theorem dX4_buy_157 : decode cX4_buy 157 = .ok (.aload_n 0, 1) := by decide +kernel
theorem dX4_buy_158 : decode cX4_buy 158 = .ok (.getfield 7, 3) := by decide +kernel
theorem dX4_buy_161 : decode cX4_buy 161 = .ok (.bipush 13, 2) := by decide +kernel
theorem dX4_buy_163 : decode cX4_buy 163 = .ok (.dup2, 1) := by decide +kernel
theorem dX4_buy_164 : decode cX4_buy 164 = .ok (.iaload, 1) := by decide +kernel
theorem dX4_buy_165 : decode cX4_buy 165 = .ok (.iload_n 2, 1) := by decide +kernel
theorem dX4_buy_166 : decode cX4_buy 166 = .ok (.iload_n 1, 1) := by decide +kernel
theorem dX4_buy_167 : decode cX4_buy 167 = .ok (.invokestatic 77, 3) := by decide +kernel
theorem dX4_buy_170 : decode cX4_buy 170 = .ok (.imul, 1) := by decide +kernel
theorem dX4_buy_171 : decode cX4_buy 171 = .ok (.iadd, 1) := by decide +kernel
theorem dX4_buy_172 : decode cX4_buy 172 = .ok (.iastore, 1) := by decide +kernel
