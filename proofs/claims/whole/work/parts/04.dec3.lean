theorem dX4_buy_173 : decode cX4_buy 173 = .ok (.iload 5, 2) := by decide +kernel
theorem dX4_buy_175 : decode cX4_buy 175 = .ok (.ireturn, 1) := by decide +kernel
theorem dX4_recut_0 : decode cX4_recut 0 = .ok (.aload_n 0, 1) := by decide +kernel
theorem dX4_recut_1 : decode cX4_recut 1 = .ok (.iconst 0, 1) := by decide +kernel
theorem dX4_recut_2 : decode cX4_recut 2 = .ok (.putfield 25, 3) := by decide +kernel
theorem dX4_recut_5 : decode cX4_recut 5 = .ok (.iload_n 1, 1) := by decide +kernel
theorem dX4_recut_6 : decode cX4_recut 6 = .ok (.invokestatic 69, 3) := by decide +kernel
theorem dX4_recut_9 : decode cX4_recut 9 = .ok (.ifCond .eq 32, 3) := by decide +kernel
theorem dX4_recut_12 : decode cX4_recut 12 = .ok (.iload_n 2, 1) := by decide +kernel
theorem dX4_recut_13 : decode cX4_recut 13 = .ok (.bipush 8, 2) := by decide +kernel
theorem dX4_recut_15 : decode cX4_recut 15 = .ok (.bipush 20, 2) := by decide +kernel
theorem dX4_recut_17 : decode cX4_recut 17 = .ok (.invokestatic 29, 3) := by decide +kernel
theorem dX4_recut_20 : decode cX4_recut 20 = .ok (.ifCond .eq 21, 3) := by decide +kernel
theorem dX4_recut_23 : decode cX4_recut 23 = .ok (.iload_n 3, 1) := by decide +kernel
theorem dX4_recut_24 : decode cX4_recut 24 = .ok (.iconst 1, 1) := by decide +kernel
theorem dX4_recut_25 : decode cX4_recut 25 = .ok (.sipush 200, 3) := by decide +kernel
theorem dX4_recut_28 : decode cX4_recut 28 = .ok (.invokestatic 29, 3) := by decide +kernel
theorem dX4_recut_31 : decode cX4_recut 31 = .ok (.ifCond .eq 10, 3) := by decide +kernel
theorem dX4_recut_34 : decode cX4_recut 34 = .ok (.iload_n 2, 1) := by decide +kernel
theorem dX4_recut_35 : decode cX4_recut 35 = .ok (.iload_n 1, 1) := by decide +kernel
theorem dX4_recut_36 : decode cX4_recut 36 = .ok (.iconst 4, 1) := by decide +kernel
theorem dX4_recut_37 : decode cX4_recut 37 = .ok (.isub, 1) := by decide +kernel
theorem dX4_recut_38 : decode cX4_recut 38 = .ok (.if_icmp .le 9, 3) := by decide +kernel
theorem dX4_recut_41 : decode cX4_recut 41 = .ok (.aload_n 0, 1) := by decide +kernel
theorem dX4_recut_42 : decode cX4_recut 42 = .ok (.iconst 1, 1) := by decide +kernel
theorem dX4_recut_43 : decode cX4_recut 43 = .ok (.invokevirtual 60, 3) := by decide +kernel
theorem dX4_recut_46 : decode cX4_recut 46 = .ok (.ireturn, 1) := by decide +kernel
theorem dX4_recut_47 : decode cX4_recut 47 = .ok (.aload_n 0, 1) := by decide +kernel
theorem dX4_recut_48 : decode cX4_recut 48 = .ok (.getfield 7, 3) := by decide +kernel
theorem dX4_recut_51 : decode cX4_recut 51 = .ok (.sipush 239, 3) := by decide +kernel
theorem dX4_recut_54 : decode cX4_recut 54 = .ok (.iload_n 1, 1) := by decide +kernel
theorem dX4_recut_55 : decode cX4_recut 55 = .ok (.iadd, 1) := by decide +kernel
theorem dX4_recut_56 : decode cX4_recut 56 = .ok (.iaload, 1) := by decide +kernel
theorem dX4_recut_57 : decode cX4_recut 57 = .ok (.iload_n 3, 1) := by decide +kernel
theorem dX4_recut_58 : decode cX4_recut 58 = .ok (.if_icmp .ge 9, 3) := by decide +kernel
theorem dX4_recut_61 : decode cX4_recut 61 = .ok (.aload_n 0, 1) := by decide +kernel
theorem dX4_recut_62 : decode cX4_recut 62 = .ok (.iconst 2, 1) := by decide +kernel
theorem dX4_recut_63 : decode cX4_recut 63 = .ok (.invokevirtual 60, 3) := by decide +kernel
theorem dX4_recut_66 : decode cX4_recut 66 = .ok (.ireturn, 1) := by decide +kernel
theorem dX4_recut_67 : decode cX4_recut 67 = .ok (.aload_n 0, 1) := by decide +kernel
theorem dX4_recut_68 : decode cX4_recut 68 = .ok (.invokevirtual 63, 3) := by decide +kernel
theorem dX4_recut_71 : decode cX4_recut 71 = .ok (.aload_n 0, 1) := by decide +kernel
theorem dX4_recut_72 : decode cX4_recut 72 = .ok (.getfield 7, 3) := by decide +kernel
theorem dX4_recut_75 : decode cX4_recut 75 = .ok (.sipush 239, 3) := by decide +kernel
theorem dX4_recut_78 : decode cX4_recut 78 = .ok (.iload_n 1, 1) := by decide +kernel
theorem dX4_recut_79 : decode cX4_recut 79 = .ok (.iadd, 1) := by decide +kernel
theorem dX4_recut_80 : decode cX4_recut 80 = .ok (.dup2, 1) := by decide +kernel
theorem dX4_recut_81 : decode cX4_recut 81 = .ok (.iaload, 1) := by decide +kernel
theorem dX4_recut_82 : decode cX4_recut 82 = .ok (.iload_n 3, 1) := by decide +kernel
theorem dX4_recut_83 : decode cX4_recut 83 = .ok (.isub, 1) := by decide +kernel
theorem dX4_recut_84 : decode cX4_recut 84 = .ok (.iastore, 1) := by decide +kernel
theorem dX4_recut_85 : decode cX4_recut 85 = .ok (.aload_n 0, 1) := by decide +kernel
theorem dX4_recut_86 : decode cX4_recut 86 = .ok (.getfield 7, 3) := by decide +kernel
theorem dX4_recut_89 : decode cX4_recut 89 = .ok (.sipush 214, 3) := by decide +kernel
theorem dX4_recut_92 : decode cX4_recut 92 = .ok (.iload_n 2, 1) := by decide +kernel
theorem dX4_recut_93 : decode cX4_recut 93 = .ok (.iadd, 1) := by decide +kernel
theorem dX4_recut_94 : decode cX4_recut 94 = .ok (.dup2, 1) := by decide +kernel
theorem dX4_recut_95 : decode cX4_recut 95 = .ok (.iaload, 1) := by decide +kernel
theorem dX4_recut_96 : decode cX4_recut 96 = .ok (.iload_n 3, 1) := by decide +kernel
theorem dX4_recut_97 : decode cX4_recut 97 = .ok (.iadd, 1) := by decide +kernel
theorem dX4_recut_98 : decode cX4_recut 98 = .ok (.iastore, 1) := by decide +kernel
theorem dX4_recut_99 : decode cX4_recut 99 = .ok (.aload_n 0, 1) := by decide +kernel
theorem dX4_recut_100 : decode cX4_recut 100 = .ok (.getfield 7, 3) := by decide +kernel
theorem dX4_recut_103 : decode cX4_recut 103 = .ok (.bipush 10, 2) := by decide +kernel
theorem dX4_recut_105 : decode cX4_recut 105 = .ok (.dup2, 1) := by decide +kernel
theorem dX4_recut_106 : decode cX4_recut 106 = .ok (.iaload, 1) := by decide +kernel
theorem dX4_recut_107 : decode cX4_recut 107 = .ok (.iload_n 3, 1) := by decide +kernel
theorem dX4_recut_108 : decode cX4_recut 108 = .ok (.iadd, 1) := by decide +kernel
theorem dX4_recut_109 : decode cX4_recut 109 = .ok (.iastore, 1) := by decide +kernel
theorem dX4_recut_110 : decode cX4_recut 110 = .ok (.aload_n 0, 1) := by decide +kernel
theorem dX4_recut_111 : decode cX4_recut 111 = .ok (.getfield 7, 3) := by decide +kernel
theorem dX4_recut_114 : decode cX4_recut 114 = .ok (.sipush 239, 3) := by decide +kernel
theorem dX4_recut_117 : decode cX4_recut 117 = .ok (.iload_n 1, 1) := by decide +kernel
theorem dX4_recut_118 : decode cX4_recut 118 = .ok (.iadd, 1) := by decide +kernel
theorem dX4_recut_119 : decode cX4_recut 119 = .ok (.iaload, 1) := by decide +kernel
theorem dX4_recut_120 : decode cX4_recut 120 = .ok (.ireturn, 1) := by decide +kernel
theorem dX4_clearHeap_0 : decode cX4_clearHeap 0 = .ok (.aload_n 0, 1) := by decide +kernel
theorem dX4_clearHeap_1 : decode cX4_clearHeap 1 = .ok (.iconst 0, 1) := by decide +kernel
theorem dX4_clearHeap_2 : decode cX4_clearHeap 2 = .ok (.putfield 25, 3) := by decide +kernel
theorem dX4_clearHeap_5 : decode cX4_clearHeap 5 = .ok (.iload_n 1, 1) := by decide +kernel
theorem dX4_clearHeap_6 : decode cX4_clearHeap 6 = .ok (.bipush 8, 2) := by decide +kernel
theorem dX4_clearHeap_8 : decode cX4_clearHeap 8 = .ok (.bipush 25, 2) := by decide +kernel
theorem dX4_clearHeap_10 : decode cX4_clearHeap 10 = .ok (.invokestatic 29, 3) := by decide +kernel
theorem dX4_clearHeap_13 : decode cX4_clearHeap 13 = .ok (.ifCond .ne 9, 3) := by decide +kernel
theorem dX4_clearHeap_16 : decode cX4_clearHeap 16 = .ok (.aload_n 0, 1) := by decide +kernel
theorem dX4_clearHeap_17 : decode cX4_clearHeap 17 = .ok (.iconst 1, 1) := by decide +kernel
theorem dX4_clearHeap_18 : decode cX4_clearHeap 18 = .ok (.invokevirtual 60, 3) := by decide +kernel
theorem dX4_clearHeap_21 : decode cX4_clearHeap 21 = .ok (.ireturn, 1) := by decide +kernel
theorem dX4_clearHeap_22 : decode cX4_clearHeap 22 = .ok (.aload_n 0, 1) := by decide +kernel
theorem dX4_clearHeap_23 : decode cX4_clearHeap 23 = .ok (.invokevirtual 63, 3) := by decide +kernel
theorem dX4_clearHeap_26 : decode cX4_clearHeap 26 = .ok (.iconst 0, 1) := by decide +kernel
theorem dX4_clearHeap_27 : decode cX4_clearHeap 27 = .ok (.istore_n 2, 1) := by decide +kernel
theorem dX4_clearHeap_28 : decode cX4_clearHeap 28 = .ok (.bipush 8, 2) := by decide +kernel
theorem dX4_clearHeap_30 : decode cX4_clearHeap 30 = .ok (.istore_n 3, 1) := by decide +kernel
theorem dX4_clearHeap_31 : decode cX4_clearHeap 31 = .ok (.iload_n 3, 1) := by decide +kernel
theorem dX4_clearHeap_32 : decode cX4_clearHeap 32 = .ok (.iload_n 1, 1) := by decide +kernel
theorem dX4_clearHeap_33 : decode cX4_clearHeap 33 = .ok (.if_icmp .ge 33, 3) := by decide +kernel
theorem dX4_clearHeap_36 : decode cX4_clearHeap 36 = .ok (.iload_n 2, 1) := by decide +kernel
theorem dX4_clearHeap_37 : decode cX4_clearHeap 37 = .ok (.aload_n 0, 1) := by decide +kernel
theorem dX4_clearHeap_38 : decode cX4_clearHeap 38 = .ok (.getfield 7, 3) := by decide +kernel
theorem dX4_clearHeap_41 : decode cX4_clearHeap 41 = .ok (.sipush 239, 3) := by decide +kernel
theorem dX4_clearHeap_44 : decode cX4_clearHeap 44 = .ok (.iload_n 3, 1) := by decide +kernel
theorem dX4_clearHeap_45 : decode cX4_clearHeap 45 = .ok (.iadd, 1) := by decide +kernel
theorem dX4_clearHeap_46 : decode cX4_clearHeap 46 = .ok (.iaload, 1) := by decide +kernel
theorem dX4_clearHeap_47 : decode cX4_clearHeap 47 = .ok (.iadd, 1) := by decide +kernel
theorem dX4_clearHeap_48 : decode cX4_clearHeap 48 = .ok (.istore_n 2, 1) := by decide +kernel
theorem dX4_clearHeap_49 : decode cX4_clearHeap 49 = .ok (.aload_n 0, 1) := by decide +kernel
theorem dX4_clearHeap_50 : decode cX4_clearHeap 50 = .ok (.getfield 7, 3) := by decide +kernel
theorem dX4_clearHeap_53 : decode cX4_clearHeap 53 = .ok (.sipush 239, 3) := by decide +kernel
theorem dX4_clearHeap_56 : decode cX4_clearHeap 56 = .ok (.iload_n 3, 1) := by decide +kernel
theorem dX4_clearHeap_57 : decode cX4_clearHeap 57 = .ok (.iadd, 1) := by decide +kernel
theorem dX4_clearHeap_58 : decode cX4_clearHeap 58 = .ok (.iconst 0, 1) := by decide +kernel
theorem dX4_clearHeap_59 : decode cX4_clearHeap 59 = .ok (.iastore, 1) := by decide +kernel
theorem dX4_clearHeap_60 : decode cX4_clearHeap 60 = .ok (.iinc 3 1, 3) := by decide +kernel
theorem dX4_clearHeap_63 : decode cX4_clearHeap 63 = .ok (.goto (-32), 3) := by decide +kernel
theorem dX4_clearHeap_66 : decode cX4_clearHeap 66 = .ok (.aload_n 0, 1) := by decide +kernel
theorem dX4_clearHeap_67 : decode cX4_clearHeap 67 = .ok (.getfield 7, 3) := by decide +kernel
theorem dX4_clearHeap_70 : decode cX4_clearHeap 70 = .ok (.bipush 11, 2) := by decide +kernel
theorem dX4_clearHeap_72 : decode cX4_clearHeap 72 = .ok (.dup2, 1) := by decide +kernel
theorem dX4_clearHeap_73 : decode cX4_clearHeap 73 = .ok (.iaload, 1) := by decide +kernel
theorem dX4_clearHeap_74 : decode cX4_clearHeap 74 = .ok (.iload_n 2, 1) := by decide +kernel
theorem dX4_clearHeap_75 : decode cX4_clearHeap 75 = .ok (.iadd, 1) := by decide +kernel
theorem dX4_clearHeap_76 : decode cX4_clearHeap 76 = .ok (.iastore, 1) := by decide +kernel
theorem dX4_clearHeap_77 : decode cX4_clearHeap 77 = .ok (.iload_n 2, 1) := by decide +kernel
theorem dX4_clearHeap_78 : decode cX4_clearHeap 78 = .ok (.ireturn, 1) := by decide +kernel
theorem dX4_lastCourse_0 : decode cX4_lastCourse 0 = .ok (.aload_n 0, 1) := by decide +kernel
theorem dX4_lastCourse_1 : decode cX4_lastCourse 1 = .ok (.getfield 7, 3) := by decide +kernel
theorem dX4_lastCourse_4 : decode cX4_lastCourse 4 = .ok (.iconst 2, 1) := by decide +kernel
theorem dX4_lastCourse_5 : decode cX4_lastCourse 5 = .ok (.iaload, 1) := by decide +kernel
theorem dX4_lastCourse_6 : decode cX4_lastCourse 6 = .ok (.iconst 1, 1) := by decide +kernel
theorem dX4_lastCourse_7 : decode cX4_lastCourse 7 = .ok (.isub, 1) := by decide +kernel
theorem dX4_lastCourse_8 : decode cX4_lastCourse 8 = .ok (.ireturn, 1) := by decide +kernel
theorem dX4_begins_0 : decode cX4_begins 0 = .ok (.aload_n 0, 1) := by decide +kernel
theorem dX4_begins_1 : decode cX4_begins 1 = .ok (.getfield 7, 3) := by decide +kernel
theorem dX4_begins_4 : decode cX4_begins 4 = .ok (.bipush 14, 2) := by decide +kernel
theorem dX4_begins_6 : decode cX4_begins 6 = .ok (.aload_n 0, 1) := by decide +kernel
theorem dX4_begins_7 : decode cX4_begins 7 = .ok (.getfield 7, 3) := by decide +kernel
theorem dX4_begins_10 : decode cX4_begins 10 = .ok (.iconst 2, 1) := by decide +kernel
theorem dX4_begins_11 : decode cX4_begins 11 = .ok (.iaload, 1) := by decide +kernel
theorem dX4_begins_12 : decode cX4_begins 12 = .ok (.iadd, 1) := by decide +kernel
theorem dX4_begins_13 : decode cX4_begins 13 = .ok (.iload_n 1, 1) := by decide +kernel
theorem dX4_begins_14 : decode cX4_begins 14 = .ok (.iastore, 1) := by decide +kernel
theorem dX4_begins_15 : decode cX4_begins 15 = .ok (.aload_n 0, 1) := by decide +kernel
theorem dX4_begins_16 : decode cX4_begins 16 = .ok (.getfield 7, 3) := by decide +kernel
theorem dX4_begins_19 : decode cX4_begins 19 = .ok (.bipush 114, 2) := by decide +kernel
theorem dX4_begins_21 : decode cX4_begins 21 = .ok (.aload_n 0, 1) := by decide +kernel
theorem dX4_begins_22 : decode cX4_begins 22 = .ok (.getfield 7, 3) := by decide +kernel
theorem dX4_begins_25 : decode cX4_begins 25 = .ok (.iconst 2, 1) := by decide +kernel
theorem dX4_begins_26 : decode cX4_begins 26 = .ok (.iaload, 1) := by decide +kernel
theorem dX4_begins_27 : decode cX4_begins 27 = .ok (.iadd, 1) := by decide +kernel
theorem dX4_begins_28 : decode cX4_begins 28 = .ok (.iconst 0, 1) := by decide +kernel
theorem dX4_begins_29 : decode cX4_begins 29 = .ok (.iastore, 1) := by decide +kernel
theorem dX4_begins_30 : decode cX4_begins 30 = .ok (.aload_n 0, 1) := by decide +kernel
theorem dX4_begins_31 : decode cX4_begins 31 = .ok (.getfield 7, 3) := by decide +kernel
theorem dX4_begins_34 : decode cX4_begins 34 = .ok (.iconst 2, 1) := by decide +kernel
theorem dX4_begins_35 : decode cX4_begins 35 = .ok (.dup2, 1) := by decide +kernel
theorem dX4_begins_36 : decode cX4_begins 36 = .ok (.iaload, 1) := by decide +kernel
theorem dX4_begins_37 : decode cX4_begins 37 = .ok (.iconst 1, 1) := by decide +kernel
theorem dX4_begins_38 : decode cX4_begins 38 = .ok (.iadd, 1) := by decide +kernel
theorem dX4_begins_39 : decode cX4_begins 39 = .ok (.iastore, 1) := by decide +kernel
theorem dX4_begins_40 : decode cX4_begins 40 = .ok (.return_, 1) := by decide +kernel
theorem dX4_course_0 : decode cX4_course 0 = .ok (.aload_n 0, 1) := by decide +kernel
theorem dX4_course_1 : decode cX4_course 1 = .ok (.iconst 0, 1) := by decide +kernel
theorem dX4_course_2 : decode cX4_course 2 = .ok (.putfield 25, 3) := by decide +kernel
theorem dX4_course_5 : decode cX4_course 5 = .ok (.iload_n 1, 1) := by decide +kernel
theorem dX4_course_6 : decode cX4_course 6 = .ok (.invokestatic 69, 3) := by decide +kernel
theorem dX4_course_9 : decode cX4_course 9 = .ok (.ifCond .ne 9, 3) := by decide +kernel
theorem dX4_course_12 : decode cX4_course 12 = .ok (.aload_n 0, 1) := by decide +kernel
theorem dX4_course_13 : decode cX4_course 13 = .ok (.iconst 1, 1) := by decide +kernel
theorem dX4_course_14 : decode cX4_course 14 = .ok (.invokevirtual 60, 3) := by decide +kernel
theorem dX4_course_17 : decode cX4_course 17 = .ok (.ireturn, 1) := by decide +kernel
theorem dX4_course_18 : decode cX4_course 18 = .ok (.aload_n 0, 1) := by decide +kernel
theorem dX4_course_19 : decode cX4_course 19 = .ok (.invokevirtual 80, 3) := by decide +kernel
theorem dX4_course_22 : decode cX4_course 22 = .ok (.ifCond .eq 39, 3) := by decide +kernel
theorem dX4_course_25 : decode cX4_course 25 = .ok (.aload_n 0, 1) := by decide +kernel
theorem dX4_course_26 : decode cX4_course 26 = .ok (.getfield 7, 3) := by decide +kernel
theorem dX4_course_29 : decode cX4_course 29 = .ok (.iconst 2, 1) := by decide +kernel
theorem dX4_course_30 : decode cX4_course 30 = .ok (.iaload, 1) := by decide +kernel
theorem dX4_course_31 : decode cX4_course 31 = .ok (.bipush 100, 2) := by decide +kernel
theorem dX4_course_33 : decode cX4_course 33 = .ok (.if_icmp .ge 28, 3) := by decide +kernel
theorem dX4_course_36 : decode cX4_course 36 = .ok (.iload_n 1, 1) := by decide +kernel
theorem dX4_course_37 : decode cX4_course 37 = .ok (.aload_n 0, 1) := by decide +kernel
theorem dX4_course_38 : decode cX4_course 38 = .ok (.invokevirtual 84, 3) := by decide +kernel
theorem dX4_course_41 : decode cX4_course 41 = .ok (.if_icmp .gt 20, 3) := by decide +kernel
theorem dX4_course_44 : decode cX4_course 44 = .ok (.aload_n 0, 1) := by decide +kernel
theorem dX4_course_45 : decode cX4_course 45 = .ok (.invokevirtual 53, 3) := by decide +kernel
theorem dX4_course_48 : decode cX4_course 48 = .ok (.aload_n 0, 1) := by decide +kernel
theorem dX4_course_49 : decode cX4_course 49 = .ok (.getfield 7, 3) := by decide +kernel
theorem dX4_course_52 : decode cX4_course 52 = .ok (.iconst 0, 1) := by decide +kernel
theorem dX4_course_53 : decode cX4_course 53 = .ok (.iaload, 1) := by decide +kernel
theorem dX4_course_54 : decode cX4_course 54 = .ok (.if_icmp .ge 7, 3) := by decide +kernel
theorem dX4_course_57 : decode cX4_course 57 = .ok (.iconst 1, 1) := by decide +kernel
theorem dX4_course_58 : decode cX4_course 58 = .ok (.goto 4, 3) := by decide +kernel
theorem dX4_course_61 : decode cX4_course 61 = .ok (.iconst 0, 1) := by decide +kernel
theorem dX4_course_62 : decode cX4_course 62 = .ok (.istore_n 2, 1) := by decide +kernel
theorem dX4_course_63 : decode cX4_course 63 = .ok (.iload_n 2, 1) := by decide +kernel
theorem dX4_course_64 : decode cX4_course 64 = .ok (.ifCond .eq 24, 3) := by decide +kernel
theorem dX4_course_67 : decode cX4_course 67 = .ok (.aload_n 0, 1) := by decide +kernel
theorem dX4_course_68 : decode cX4_course 68 = .ok (.getfield 7, 3) := by decide +kernel
theorem dX4_course_71 : decode cX4_course 71 = .ok (.iconst 2, 1) := by decide +kernel
theorem dX4_course_72 : decode cX4_course 72 = .ok (.iaload, 1) := by decide +kernel
theorem dX4_course_73 : decode cX4_course 73 = .ok (.ifCond .le 21, 3) := by decide +kernel
theorem dX4_course_76 : decode cX4_course 76 = .ok (.aload_n 0, 1) := by decide +kernel
theorem dX4_course_77 : decode cX4_course 77 = .ok (.aload_n 0, 1) := by decide +kernel
theorem dX4_course_78 : decode cX4_course 78 = .ok (.invokevirtual 87, 3) := by decide +kernel
theorem dX4_course_81 : decode cX4_course 81 = .ok (.invokevirtual 90, 3) := by decide +kernel
theorem dX4_course_84 : decode cX4_course 84 = .ok (.iconst (-1), 1) := by decide +kernel
theorem dX4_course_85 : decode cX4_course 85 = .ok (.if_icmp .eq 9, 3) := by decide +kernel
theorem dX4_course_88 : decode cX4_course 88 = .ok (.aload_n 0, 1) := by decide +kernel
theorem dX4_course_89 : decode cX4_course 89 = .ok (.iconst 2, 1) := by decide +kernel
theorem dX4_course_90 : decode cX4_course 90 = .ok (.invokevirtual 60, 3) := by decide +kernel
theorem dX4_course_93 : decode cX4_course 93 = .ok (.ireturn, 1) := by decide +kernel
theorem dX4_course_94 : decode cX4_course 94 = .ok (.aload_n 0, 1) := by decide +kernel
theorem dX4_course_95 : decode cX4_course 95 = .ok (.invokevirtual 63, 3) := by decide +kernel
theorem dX4_course_98 : decode cX4_course 98 = .ok (.aload_n 0, 1) := by decide +kernel
theorem dX4_course_99 : decode cX4_course 99 = .ok (.iload_n 1, 1) := by decide +kernel
theorem dX4_course_100 : decode cX4_course 100 = .ok (.invokevirtual 93, 3) := by decide +kernel
theorem dX4_course_103 : decode cX4_course 103 = .ok (.aload_n 0, 1) := by decide +kernel
theorem dX4_course_104 : decode cX4_course 104 = .ok (.invokevirtual 87, 3) := by decide +kernel
theorem dX4_course_107 : decode cX4_course 107 = .ok (.ireturn, 1) := by decide +kernel
theorem dX4_lays_0 : decode cX4_lays 0 = .ok (.aload_n 0, 1) := by decide +kernel
theorem dX4_lays_1 : decode cX4_lays 1 = .ok (.getfield 7, 3) := by decide +kernel
theorem dX4_lays_4 : decode cX4_lays 4 = .ok (.bipush 114, 2) := by decide +kernel
theorem dX4_lays_6 : decode cX4_lays 6 = .ok (.iload_n 1, 1) := by decide +kernel
theorem dX4_lays_7 : decode cX4_lays 7 = .ok (.iadd, 1) := by decide +kernel
theorem dX4_lays_8 : decode cX4_lays 8 = .ok (.dup2, 1) := by decide +kernel
theorem dX4_lays_9 : decode cX4_lays 9 = .ok (.iaload, 1) := by decide +kernel
theorem dX4_lays_10 : decode cX4_lays 10 = .ok (.iconst 1, 1) := by decide +kernel
theorem dX4_lays_11 : decode cX4_lays 11 = .ok (.iload_n 2, 1) := by decide +kernel
theorem dX4_lays_12 : decode cX4_lays 12 = .ok (.ishl, 1) := by decide +kernel
theorem dX4_lays_13 : decode cX4_lays 13 = .ok (.ior, 1) := by decide +kernel
theorem dX4_lays_14 : decode cX4_lays 14 = .ok (.iastore, 1) := by decide +kernel
theorem dX4_lays_15 : decode cX4_lays 15 = .ok (.aload_n 0, 1) := by decide +kernel
theorem dX4_lays_16 : decode cX4_lays 16 = .ok (.getfield 7, 3) := by decide +kernel
theorem dX4_lays_19 : decode cX4_lays 19 = .ok (.sipush 214, 3) := by decide +kernel
theorem dX4_lays_22 : decode cX4_lays 22 = .ok (.aload_n 0, 1) := by decide +kernel
theorem dX4_lays_23 : decode cX4_lays 23 = .ok (.getfield 7, 3) := by decide +kernel
theorem dX4_lays_26 : decode cX4_lays 26 = .ok (.bipush 14, 2) := by decide +kernel
theorem dX4_lays_28 : decode cX4_lays 28 = .ok (.iload_n 1, 1) := by decide +kernel
theorem dX4_lays_29 : decode cX4_lays 29 = .ok (.iadd, 1) := by decide +kernel
theorem dX4_lays_30 : decode cX4_lays 30 = .ok (.iaload, 1) := by decide +kernel
theorem dX4_lays_31 : decode cX4_lays 31 = .ok (.iadd, 1) := by decide +kernel
theorem dX4_lays_32 : decode cX4_lays 32 = .ok (.dup2, 1) := by decide +kernel
theorem dX4_lays_33 : decode cX4_lays 33 = .ok (.iaload, 1) := by decide +kernel
theorem dX4_lays_34 : decode cX4_lays 34 = .ok (.iconst 1, 1) := by decide +kernel
theorem dX4_lays_35 : decode cX4_lays 35 = .ok (.isub, 1) := by decide +kernel
theorem dX4_lays_36 : decode cX4_lays 36 = .ok (.iastore, 1) := by decide +kernel
theorem dX4_lays_37 : decode cX4_lays 37 = .ok (.aload_n 0, 1) := by decide +kernel
theorem dX4_lays_38 : decode cX4_lays 38 = .ok (.getfield 7, 3) := by decide +kernel
theorem dX4_lays_41 : decode cX4_lays 41 = .ok (.bipush 7, 2) := by decide +kernel
theorem dX4_lays_43 : decode cX4_lays 43 = .ok (.dup2, 1) := by decide +kernel
theorem dX4_lays_44 : decode cX4_lays 44 = .ok (.iaload, 1) := by decide +kernel
theorem dX4_lays_45 : decode cX4_lays 45 = .ok (.iload_n 3, 1) := by decide +kernel
theorem dX4_lays_46 : decode cX4_lays 46 = .ok (.isub, 1) := by decide +kernel
theorem dX4_lays_47 : decode cX4_lays 47 = .ok (.iastore, 1) := by decide +kernel
theorem dX4_lays_48 : decode cX4_lays 48 = .ok (.return_, 1) := by decide +kernel
theorem dX4_lay_0 : decode cX4_lay 0 = .ok (.aload_n 0, 1) := by decide +kernel
theorem dX4_lay_1 : decode cX4_lay 1 = .ok (.iconst 0, 1) := by decide +kernel
theorem dX4_lay_2 : decode cX4_lay 2 = .ok (.putfield 25, 3) := by decide +kernel
theorem dX4_lay_5 : decode cX4_lay 5 = .ok (.iload_n 1, 1) := by decide +kernel
theorem dX4_lay_6 : decode cX4_lay 6 = .ok (.iconst 1, 1) := by decide +kernel
theorem dX4_lay_7 : decode cX4_lay 7 = .ok (.bipush 60, 2) := by decide +kernel
theorem dX4_lay_9 : decode cX4_lay 9 = .ok (.invokestatic 29, 3) := by decide +kernel
theorem dX4_lay_12 : decode cX4_lay 12 = .ok (.ifCond .ne 9, 3) := by decide +kernel
theorem dX4_lay_15 : decode cX4_lay 15 = .ok (.aload_n 0, 1) := by decide +kernel
theorem dX4_lay_16 : decode cX4_lay 16 = .ok (.iconst 1, 1) := by decide +kernel
theorem dX4_lay_17 : decode cX4_lay 17 = .ok (.invokevirtual 60, 3) := by decide +kernel
theorem dX4_lay_20 : decode cX4_lay 20 = .ok (.ireturn, 1) := by decide +kernel
theorem dX4_lay_21 : decode cX4_lay 21 = .ok (.aload_n 0, 1) := by decide +kernel
theorem dX4_lay_22 : decode cX4_lay 22 = .ok (.invokevirtual 87, 3) := by decide +kernel
theorem dX4_lay_25 : decode cX4_lay 25 = .ok (.istore_n 2, 1) := by decide +kernel
theorem dX4_lay_26 : decode cX4_lay 26 = .ok (.aload_n 0, 1) := by decide +kernel
theorem dX4_lay_27 : decode cX4_lay 27 = .ok (.invokevirtual 80, 3) := by decide +kernel
theorem dX4_lay_30 : decode cX4_lay 30 = .ok (.ifCond .eq 55, 3) := by decide +kernel
theorem dX4_lay_33 : decode cX4_lay 33 = .ok (.iload_n 2, 1) := by decide +kernel
theorem dX4_lay_34 : decode cX4_lay 34 = .ok (.ifCond .lt 51, 3) := by decide +kernel
theorem dX4_lay_37 : decode cX4_lay 37 = .ok (.aload_n 0, 1) := by decide +kernel
theorem dX4_lay_38 : decode cX4_lay 38 = .ok (.iload_n 2, 1) := by decide +kernel
theorem dX4_lay_39 : decode cX4_lay 39 = .ok (.invokevirtual 36, 3) := by decide +kernel
theorem dX4_lay_42 : decode cX4_lay 42 = .ok (.aload_n 0, 1) := by decide +kernel
theorem dX4_lay_43 : decode cX4_lay 43 = .ok (.iload_n 2, 1) := by decide +kernel
theorem dX4_lay_44 : decode cX4_lay 44 = .ok (.invokevirtual 50, 3) := by decide +kernel
theorem dX4_lay_47 : decode cX4_lay 47 = .ok (.isub, 1) := by decide +kernel
theorem dX4_lay_48 : decode cX4_lay 48 = .ok (.iload_n 1, 1) := by decide +kernel
theorem dX4_lay_49 : decode cX4_lay 49 = .ok (.if_icmp .lt 36, 3) := by decide +kernel
theorem dX4_lay_52 : decode cX4_lay 52 = .ok (.aload_n 0, 1) := by decide +kernel
theorem dX4_lay_53 : decode cX4_lay 53 = .ok (.getfield 7, 3) := by decide +kernel
theorem dX4_lay_56 : decode cX4_lay 56 = .ok (.sipush 214, 3) := by decide +kernel
theorem dX4_lay_59 : decode cX4_lay 59 = .ok (.aload_n 0, 1) := by decide +kernel
theorem dX4_lay_60 : decode cX4_lay 60 = .ok (.getfield 7, 3) := by decide +kernel
theorem dX4_lay_63 : decode cX4_lay 63 = .ok (.bipush 14, 2) := by decide +kernel
theorem dX4_lay_65 : decode cX4_lay 65 = .ok (.iload_n 2, 1) := by decide +kernel
theorem dX4_lay_66 : decode cX4_lay 66 = .ok (.iadd, 1) := by decide +kernel
theorem dX4_lay_67 : decode cX4_lay 67 = .ok (.iaload, 1) := by decide +kernel
theorem dX4_lay_68 : decode cX4_lay 68 = .ok (.iadd, 1) := by decide +kernel
theorem dX4_lay_69 : decode cX4_lay 69 = .ok (.iaload, 1) := by decide +kernel
theorem dX4_lay_70 : decode cX4_lay 70 = .ok (.iload_n 1, 1) := by decide +kernel
theorem dX4_lay_71 : decode cX4_lay 71 = .ok (.if_icmp .lt 14, 3) := by decide +kernel
theorem dX4_lay_74 : decode cX4_lay 74 = .ok (.aload_n 0, 1) := by decide +kernel
theorem dX4_lay_75 : decode cX4_lay 75 = .ok (.getfield 7, 3) := by decide +kernel
theorem dX4_lay_78 : decode cX4_lay 78 = .ok (.bipush 7, 2) := by decide +kernel
theorem dX4_lay_80 : decode cX4_lay 80 = .ok (.iaload, 1) := by decide +kernel
theorem dX4_lay_81 : decode cX4_lay 81 = .ok (.iload_n 1, 1) := by decide +kernel
theorem dX4_lay_82 : decode cX4_lay 82 = .ok (.if_icmp .ge 9, 3) := by decide +kernel
theorem dX4_lay_85 : decode cX4_lay 85 = .ok (.aload_n 0, 1) := by decide +kernel
theorem dX4_lay_86 : decode cX4_lay 86 = .ok (.iconst 2, 1) := by decide +kernel
theorem dX4_lay_87 : decode cX4_lay 87 = .ok (.invokevirtual 60, 3) := by decide +kernel
theorem dX4_lay_90 : decode cX4_lay 90 = .ok (.ireturn, 1) := by decide +kernel
theorem dX4_lay_91 : decode cX4_lay 91 = .ok (.aload_n 0, 1) := by decide +kernel
theorem dX4_lay_92 : decode cX4_lay 92 = .ok (.invokevirtual 63, 3) := by decide +kernel
theorem dX4_lay_95 : decode cX4_lay 95 = .ok (.iconst 0, 1) := by decide +kernel
theorem dX4_lay_96 : decode cX4_lay 96 = .ok (.istore_n 3, 1) := by decide +kernel
theorem dX4_lay_97 : decode cX4_lay 97 = .ok (.iload_n 3, 1) := by decide +kernel
theorem dX4_lay_98 : decode cX4_lay 98 = .ok (.iload_n 1, 1) := by decide +kernel
theorem dX4_lay_99 : decode cX4_lay 99 = .ok (.if_icmp .ge 20, 3) := by decide +kernel
theorem dX4_lay_102 : decode cX4_lay 102 = .ok (.aload_n 0, 1) := by decide +kernel
theorem dX4_lay_103 : decode cX4_lay 103 = .ok (.iload_n 2, 1) := by decide +kernel
theorem dX4_lay_104 : decode cX4_lay 104 = .ok (.aload_n 0, 1) := by decide +kernel
theorem dX4_lay_105 : decode cX4_lay 105 = .ok (.iload_n 2, 1) := by decide +kernel
theorem dX4_lay_106 : decode cX4_lay 106 = .ok (.invokevirtual 90, 3) := by decide +kernel
theorem dX4_lay_109 : decode cX4_lay 109 = .ok (.iconst 1, 1) := by decide +kernel
theorem dX4_lay_110 : decode cX4_lay 110 = .ok (.invokevirtual 97, 3) := by decide +kernel
theorem dX4_lay_113 : decode cX4_lay 113 = .ok (.iinc 3 1, 3) := by decide +kernel
theorem dX4_lay_116 : decode cX4_lay 116 = .ok (.goto (-19), 3) := by decide +kernel
theorem dX4_lay_119 : decode cX4_lay 119 = .ok (.aload_n 0, 1) := by decide +kernel
theorem dX4_lay_120 : decode cX4_lay 120 = .ok (.iload_n 2, 1) := by decide +kernel
theorem dX4_lay_121 : decode cX4_lay 121 = .ok (.invokevirtual 50, 3) := by decide +kernel
theorem dX4_lay_124 : decode cX4_lay 124 = .ok (.ireturn, 1) := by decide +kernel
theorem dX4_isPlace_0 : decode cX4_isPlace 0 = .ok (.iload_n 1, 1) := by decide +kernel
theorem dX4_isPlace_1 : decode cX4_isPlace 1 = .ok (.iconst 0, 1) := by decide +kernel
theorem dX4_isPlace_2 : decode cX4_isPlace 2 = .ok (.aload_n 0, 1) := by decide +kernel
theorem dX4_isPlace_3 : decode cX4_isPlace 3 = .ok (.invokevirtual 87, 3) := by decide +kernel
theorem dX4_isPlace_6 : decode cX4_isPlace 6 = .ok (.invokestatic 29, 3) := by decide +kernel
theorem dX4_isPlace_9 : decode cX4_isPlace 9 = .ok (.ifCond .eq 22, 3) := by decide +kernel
theorem dX4_isPlace_12 : decode cX4_isPlace 12 = .ok (.iload_n 2, 1) := by decide +kernel
theorem dX4_isPlace_13 : decode cX4_isPlace 13 = .ok (.iconst 0, 1) := by decide +kernel
theorem dX4_isPlace_14 : decode cX4_isPlace 14 = .ok (.aload_n 0, 1) := by decide +kernel
theorem dX4_isPlace_15 : decode cX4_isPlace 15 = .ok (.iload_n 1, 1) := by decide +kernel
theorem dX4_isPlace_16 : decode cX4_isPlace 16 = .ok (.invokevirtual 36, 3) := by decide +kernel
theorem dX4_isPlace_19 : decode cX4_isPlace 19 = .ok (.iconst 1, 1) := by decide +kernel
theorem dX4_isPlace_20 : decode cX4_isPlace 20 = .ok (.isub, 1) := by decide +kernel
theorem dX4_isPlace_21 : decode cX4_isPlace 21 = .ok (.invokestatic 29, 3) := by decide +kernel
theorem dX4_isPlace_24 : decode cX4_isPlace 24 = .ok (.ifCond .eq 7, 3) := by decide +kernel
theorem dX4_isPlace_27 : decode cX4_isPlace 27 = .ok (.iconst 1, 1) := by decide +kernel
theorem dX4_isPlace_28 : decode cX4_isPlace 28 = .ok (.goto 4, 3) := by decide +kernel
theorem dX4_isPlace_31 : decode cX4_isPlace 31 = .ok (.iconst 0, 1) := by decide +kernel
theorem dX4_isPlace_32 : decode cX4_isPlace 32 = .ok (.ireturn, 1) := by decide +kernel
theorem dX4_mayMend_0 : decode cX4_mayMend 0 = .ok (.aload_n 0, 1) := by decide +kernel
theorem dX4_mayMend_1 : decode cX4_mayMend 1 = .ok (.invokevirtual 80, 3) := by decide +kernel
theorem dX4_mayMend_4 : decode cX4_mayMend 4 = .ok (.ifCond .eq 48, 3) := by decide +kernel
theorem dX4_mayMend_7 : decode cX4_mayMend 7 = .ok (.aload_n 0, 1) := by decide +kernel
theorem dX4_mayMend_8 : decode cX4_mayMend 8 = .ok (.iload_n 1, 1) := by decide +kernel
theorem dX4_mayMend_9 : decode cX4_mayMend 9 = .ok (.iload_n 2, 1) := by decide +kernel
theorem dX4_mayMend_10 : decode cX4_mayMend 10 = .ok (.invokevirtual 40, 3) := by decide +kernel
theorem dX4_mayMend_13 : decode cX4_mayMend 13 = .ok (.ifCond .ne 39, 3) := by decide +kernel
theorem dX4_mayMend_16 : decode cX4_mayMend 16 = .ok (.aload_n 0, 1) := by decide +kernel
theorem dX4_mayMend_17 : decode cX4_mayMend 17 = .ok (.getfield 7, 3) := by decide +kernel
theorem dX4_mayMend_20 : decode cX4_mayMend 20 = .ok (.sipush 214, 3) := by decide +kernel
theorem dX4_mayMend_23 : decode cX4_mayMend 23 = .ok (.aload_n 0, 1) := by decide +kernel
theorem dX4_mayMend_24 : decode cX4_mayMend 24 = .ok (.getfield 7, 3) := by decide +kernel
theorem dX4_mayMend_27 : decode cX4_mayMend 27 = .ok (.bipush 14, 2) := by decide +kernel
theorem dX4_mayMend_29 : decode cX4_mayMend 29 = .ok (.iload_n 1, 1) := by decide +kernel
theorem dX4_mayMend_30 : decode cX4_mayMend 30 = .ok (.iadd, 1) := by decide +kernel
theorem dX4_mayMend_31 : decode cX4_mayMend 31 = .ok (.iaload, 1) := by decide +kernel
theorem dX4_mayMend_32 : decode cX4_mayMend 32 = .ok (.iadd, 1) := by decide +kernel
theorem dX4_mayMend_33 : decode cX4_mayMend 33 = .ok (.iaload, 1) := by decide +kernel
theorem dX4_mayMend_34 : decode cX4_mayMend 34 = .ok (.ifCond .le 18, 3) := by decide +kernel
theorem dX4_mayMend_37 : decode cX4_mayMend 37 = .ok (.aload_n 0, 1) := by decide +kernel
theorem dX4_mayMend_38 : decode cX4_mayMend 38 = .ok (.getfield 7, 3) := by decide +kernel
theorem dX4_mayMend_41 : decode cX4_mayMend 41 = .ok (.bipush 7, 2) := by decide +kernel
theorem dX4_mayMend_43 : decode cX4_mayMend 43 = .ok (.iaload, 1) := by decide +kernel
theorem dX4_mayMend_44 : decode cX4_mayMend 44 = .ok (.iconst 3, 1) := by decide +kernel
theorem dX4_mayMend_45 : decode cX4_mayMend 45 = .ok (.if_icmp .lt 7, 3) := by decide +kernel
theorem dX4_mayMend_48 : decode cX4_mayMend 48 = .ok (.iconst 1, 1) := by decide +kernel
theorem dX4_mayMend_49 : decode cX4_mayMend 49 = .ok (.goto 4, 3) := by decide +kernel
theorem dX4_mayMend_52 : decode cX4_mayMend 52 = .ok (.iconst 0, 1) := by decide +kernel
theorem dX4_mayMend_53 : decode cX4_mayMend 53 = .ok (.ireturn, 1) := by decide +kernel
theorem dX4_mend_0 : decode cX4_mend 0 = .ok (.aload_n 0, 1) := by decide +kernel
theorem dX4_mend_1 : decode cX4_mend 1 = .ok (.iconst 0, 1) := by decide +kernel
theorem dX4_mend_2 : decode cX4_mend 2 = .ok (.putfield 25, 3) := by decide +kernel
theorem dX4_mend_5 : decode cX4_mend 5 = .ok (.aload_n 0, 1) := by decide +kernel
theorem dX4_mend_6 : decode cX4_mend 6 = .ok (.iload_n 1, 1) := by decide +kernel
theorem dX4_mend_7 : decode cX4_mend 7 = .ok (.iload_n 2, 1) := by decide +kernel
theorem dX4_mend_8 : decode cX4_mend 8 = .ok (.invokevirtual 101, 3) := by decide +kernel
theorem dX4_mend_11 : decode cX4_mend 11 = .ok (.ifCond .ne 9, 3) := by decide +kernel
theorem dX4_mend_14 : decode cX4_mend 14 = .ok (.aload_n 0, 1) := by decide +kernel
theorem dX4_mend_15 : decode cX4_mend 15 = .ok (.iconst 1, 1) := by decide +kernel
theorem dX4_mend_16 : decode cX4_mend 16 = .ok (.invokevirtual 60, 3) := by decide +kernel
theorem dX4_mend_19 : decode cX4_mend 19 = .ok (.ireturn, 1) := by decide +kernel
theorem dX4_mend_20 : decode cX4_mend 20 = .ok (.aload_n 0, 1) := by decide +kernel
theorem dX4_mend_21 : decode cX4_mend 21 = .ok (.iload_n 1, 1) := by decide +kernel
theorem dX4_mend_22 : decode cX4_mend 22 = .ok (.iload_n 2, 1) := by decide +kernel
theorem dX4_mend_23 : decode cX4_mend 23 = .ok (.invokevirtual 104, 3) := by decide +kernel
theorem dX4_mend_26 : decode cX4_mend 26 = .ok (.ifCond .ne 9, 3) := by decide +kernel
theorem dX4_mend_29 : decode cX4_mend 29 = .ok (.aload_n 0, 1) := by decide +kernel
theorem dX4_mend_30 : decode cX4_mend 30 = .ok (.iconst 2, 1) := by decide +kernel
theorem dX4_mend_31 : decode cX4_mend 31 = .ok (.invokevirtual 60, 3) := by decide +kernel
theorem dX4_mend_34 : decode cX4_mend 34 = .ok (.ireturn, 1) := by decide +kernel
theorem dX4_mend_35 : decode cX4_mend 35 = .ok (.aload_n 0, 1) := by decide +kernel
theorem dX4_mend_36 : decode cX4_mend 36 = .ok (.invokevirtual 63, 3) := by decide +kernel
theorem dX4_mend_39 : decode cX4_mend 39 = .ok (.aload_n 0, 1) := by decide +kernel
theorem dX4_mend_40 : decode cX4_mend 40 = .ok (.iload_n 1, 1) := by decide +kernel
theorem dX4_mend_41 : decode cX4_mend 41 = .ok (.iload_n 2, 1) := by decide +kernel
theorem dX4_mend_42 : decode cX4_mend 42 = .ok (.iconst 3, 1) := by decide +kernel
theorem dX4_mend_43 : decode cX4_mend 43 = .ok (.invokevirtual 97, 3) := by decide +kernel
theorem dX4_mend_46 : decode cX4_mend 46 = .ok (.aload_n 0, 1) := by decide +kernel
theorem dX4_mend_47 : decode cX4_mend 47 = .ok (.getfield 7, 3) := by decide +kernel
theorem dX4_mend_50 : decode cX4_mend 50 = .ok (.bipush 7, 2) := by decide +kernel
theorem dX4_mend_52 : decode cX4_mend 52 = .ok (.iaload, 1) := by decide +kernel
theorem dX4_mend_53 : decode cX4_mend 53 = .ok (.ireturn, 1) := by decide +kernel
theorem dX4_cover_0 : decode cX4_cover 0 = .ok (.aload_n 0, 1) := by decide +kernel
theorem dX4_cover_1 : decode cX4_cover 1 = .ok (.iconst 0, 1) := by decide +kernel
theorem dX4_cover_2 : decode cX4_cover 2 = .ok (.putfield 25, 3) := by decide +kernel
theorem dX4_cover_5 : decode cX4_cover 5 = .ok (.aload_n 0, 1) := by decide +kernel
theorem dX4_cover_6 : decode cX4_cover 6 = .ok (.invokevirtual 63, 3) := by decide +kernel
theorem dX4_cover_9 : decode cX4_cover 9 = .ok (.aload_n 0, 1) := by decide +kernel
theorem dX4_cover_10 : decode cX4_cover 10 = .ok (.getfield 7, 3) := by decide +kernel
theorem dX4_cover_13 : decode cX4_cover 13 = .ok (.bipush 9, 2) := by decide +kernel
theorem dX4_cover_15 : decode cX4_cover 15 = .ok (.iaload, 1) := by decide +kernel
theorem dX4_cover_16 : decode cX4_cover 16 = .ok (.istore_n 2, 1) := by decide +kernel
theorem dX4_cover_17 : decode cX4_cover 17 = .ok (.aload_n 0, 1) := by decide +kernel
theorem dX4_cover_18 : decode cX4_cover 18 = .ok (.getfield 7, 3) := by decide +kernel
theorem dX4_cover_21 : decode cX4_cover 21 = .ok (.bipush 9, 2) := by decide +kernel
theorem dX4_cover_23 : decode cX4_cover 23 = .ok (.iload_n 1, 1) := by decide +kernel
theorem dX4_cover_24 : decode cX4_cover 24 = .ok (.ifCond .eq 7, 3) := by decide +kernel
theorem dX4_cover_27 : decode cX4_cover 27 = .ok (.iconst 1, 1) := by decide +kernel
theorem dX4_cover_28 : decode cX4_cover 28 = .ok (.goto 4, 3) := by decide +kernel
theorem dX4_cover_31 : decode cX4_cover 31 = .ok (.iconst 0, 1) := by decide +kernel
theorem dX4_cover_32 : decode cX4_cover 32 = .ok (.iastore, 1) := by decide +kernel
theorem dX4_cover_33 : decode cX4_cover 33 = .ok (.iload_n 2, 1) := by decide +kernel
theorem dX4_cover_34 : decode cX4_cover 34 = .ok (.ireturn, 1) := by decide +kernel
theorem dX4_fall_0 : decode cX4_fall 0 = .ok (.iconst 0, 1) := by decide +kernel
theorem dX4_fall_1 : decode cX4_fall 1 = .ok (.istore_n 3, 1) := by decide +kernel
theorem dX4_fall_2 : decode cX4_fall 2 = .ok (.iconst 0, 1) := by decide +kernel
theorem dX4_fall_3 : decode cX4_fall 3 = .ok (.istore 4, 2) := by decide +kernel
theorem dX4_fall_5 : decode cX4_fall 5 = .ok (.iload 4, 2) := by decide +kernel
theorem dX4_fall_7 : decode cX4_fall 7 = .ok (.aload_n 0, 1) := by decide +kernel
theorem dX4_fall_8 : decode cX4_fall 8 = .ok (.iload_n 1, 1) := by decide +kernel
theorem dX4_fall_9 : decode cX4_fall 9 = .ok (.invokevirtual 36, 3) := by decide +kernel
theorem dX4_fall_12 : decode cX4_fall 12 = .ok (.if_icmp .ge 70, 3) := by decide +kernel
theorem dX4_fall_15 : decode cX4_fall 15 = .ok (.iload 4, 2) := by decide +kernel
theorem dX4_fall_17 : decode cX4_fall 17 = .ok (.iconst 5, 1) := by decide +kernel
theorem dX4_fall_18 : decode cX4_fall 18 = .ok (.irem, 1) := by decide +kernel
theorem dX4_fall_19 : decode cX4_fall 19 = .ok (.iload_n 2, 1) := by decide +kernel
theorem dX4_fall_20 : decode cX4_fall 20 = .ok (.if_icmp .ne 56, 3) := by decide +kernel
theorem dX4_fall_23 : decode cX4_fall 23 = .ok (.aload_n 0, 1) := by decide +kernel
theorem dX4_fall_24 : decode cX4_fall 24 = .ok (.iload_n 1, 1) := by decide +kernel
theorem dX4_fall_25 : decode cX4_fall 25 = .ok (.iload 4, 2) := by decide +kernel
theorem dX4_fall_27 : decode cX4_fall 27 = .ok (.invokevirtual 40, 3) := by decide +kernel
theorem dX4_fall_30 : decode cX4_fall 30 = .ok (.ifCond .eq 46, 3) := by decide +kernel
theorem dX4_fall_33 : decode cX4_fall 33 = .ok (.aload_n 0, 1) := by decide +kernel
theorem dX4_fall_34 : decode cX4_fall 34 = .ok (.getfield 7, 3) := by decide +kernel
theorem dX4_fall_37 : decode cX4_fall 37 = .ok (.bipush 114, 2) := by decide +kernel
theorem dX4_fall_39 : decode cX4_fall 39 = .ok (.iload_n 1, 1) := by decide +kernel
theorem dX4_fall_40 : decode cX4_fall 40 = .ok (.iadd, 1) := by decide +kernel
theorem dX4_fall_41 : decode cX4_fall 41 = .ok (.dup2, 1) := by decide +kernel
theorem dX4_fall_42 : decode cX4_fall 42 = .ok (.iaload, 1) := by decide +kernel
theorem dX4_fall_43 : decode cX4_fall 43 = .ok (.iconst 1, 1) := by decide +kernel
theorem dX4_fall_44 : decode cX4_fall 44 = .ok (.iload 4, 2) := by decide +kernel
theorem dX4_fall_46 : decode cX4_fall 46 = .ok (.ishl, 1) := by decide +kernel
theorem dX4_fall_47 : decode cX4_fall 47 = .ok (.iconst (-1), 1) := by decide +kernel
theorem dX4_fall_48 : decode cX4_fall 48 = .ok (.ixor, 1) := by decide +kernel
theorem dX4_fall_49 : decode cX4_fall 49 = .ok (.iand, 1) := by decide +kernel
theorem dX4_fall_50 : decode cX4_fall 50 = .ok (.iastore, 1) := by decide +kernel
theorem dX4_fall_51 : decode cX4_fall 51 = .ok (.aload_n 0, 1) := by decide +kernel
theorem dX4_fall_52 : decode cX4_fall 52 = .ok (.getfield 7, 3) := by decide +kernel
theorem dX4_fall_55 : decode cX4_fall 55 = .ok (.sipush 239, 3) := by decide +kernel
theorem dX4_fall_58 : decode cX4_fall 58 = .ok (.aload_n 0, 1) := by decide +kernel
theorem dX4_fall_59 : decode cX4_fall 59 = .ok (.getfield 7, 3) := by decide +kernel
theorem dX4_fall_62 : decode cX4_fall 62 = .ok (.bipush 14, 2) := by decide +kernel
theorem dX4_fall_64 : decode cX4_fall 64 = .ok (.iload_n 1, 1) := by decide +kernel
theorem dX4_fall_65 : decode cX4_fall 65 = .ok (.iadd, 1) := by decide +kernel
theorem dX4_fall_66 : decode cX4_fall 66 = .ok (.iaload, 1) := by decide +kernel
theorem dX4_fall_67 : decode cX4_fall 67 = .ok (.iadd, 1) := by decide +kernel
theorem dX4_fall_68 : decode cX4_fall 68 = .ok (.dup2, 1) := by decide +kernel
theorem dX4_fall_69 : decode cX4_fall 69 = .ok (.iaload, 1) := by decide +kernel
theorem dX4_fall_70 : decode cX4_fall 70 = .ok (.iconst 1, 1) := by decide +kernel
theorem dX4_fall_71 : decode cX4_fall 71 = .ok (.iadd, 1) := by decide +kernel
theorem dX4_fall_72 : decode cX4_fall 72 = .ok (.iastore, 1) := by decide +kernel
theorem dX4_fall_73 : decode cX4_fall 73 = .ok (.iinc 3 1, 3) := by decide +kernel
theorem dX4_fall_76 : decode cX4_fall 76 = .ok (.iinc 4 1, 3) := by decide +kernel
theorem dX4_fall_79 : decode cX4_fall 79 = .ok (.goto (-74), 3) := by decide +kernel
theorem dX4_fall_82 : decode cX4_fall 82 = .ok (.iload_n 3, 1) := by decide +kernel
theorem dX4_fall_83 : decode cX4_fall 83 = .ok (.ireturn, 1) := by decide +kernel
theorem dX4_goDay_0 : decode cX4_goDay 0 = .ok (.aload_n 0, 1) := by decide +kernel
theorem dX4_goDay_1 : decode cX4_goDay 1 = .ok (.getfield 7, 3) := by decide +kernel
theorem dX4_goDay_4 : decode cX4_goDay 4 = .ok (.bipush 6, 2) := by decide +kernel
theorem dX4_goDay_6 : decode cX4_goDay 6 = .ok (.dup2, 1) := by decide +kernel
theorem dX4_goDay_7 : decode cX4_goDay 7 = .ok (.iaload, 1) := by decide +kernel
theorem dX4_goDay_8 : decode cX4_goDay 8 = .ok (.iconst 1, 1) := by decide +kernel
theorem dX4_goDay_9 : decode cX4_goDay 9 = .ok (.iadd, 1) := by decide +kernel
theorem dX4_goDay_10 : decode cX4_goDay 10 = .ok (.iastore, 1) := by decide +kernel
theorem dX4_goDay_11 : decode cX4_goDay 11 = .ok (.aload_n 0, 1) := by decide +kernel
theorem dX4_goDay_12 : decode cX4_goDay 12 = .ok (.getfield 7, 3) := by decide +kernel
theorem dX4_goDay_15 : decode cX4_goDay 15 = .ok (.bipush 9, 2) := by decide +kernel
theorem dX4_goDay_17 : decode cX4_goDay 17 = .ok (.iaload, 1) := by decide +kernel
theorem dX4_goDay_18 : decode cX4_goDay 18 = .ok (.ifCond .ne 7, 3) := by decide +kernel
theorem dX4_goDay_21 : decode cX4_goDay 21 = .ok (.iconst 1, 1) := by decide +kernel
theorem dX4_goDay_22 : decode cX4_goDay 22 = .ok (.goto 4, 3) := by decide +kernel
theorem dX4_goDay_25 : decode cX4_goDay 25 = .ok (.iconst 0, 1) := by decide +kernel
theorem dX4_goDay_26 : decode cX4_goDay 26 = .ok (.istore_n 2, 1) := by decide +kernel
theorem dX4_goDay_27 : decode cX4_goDay 27 = .ok (.iload_n 1, 1) := by decide +kernel
theorem dX4_goDay_28 : decode cX4_goDay 28 = .ok (.ifCond .eq 30, 3) := by decide +kernel
theorem dX4_goDay_31 : decode cX4_goDay 31 = .ok (.iload_n 2, 1) := by decide +kernel
theorem dX4_goDay_32 : decode cX4_goDay 32 = .ok (.ifCond .eq 26, 3) := by decide +kernel
theorem dX4_goDay_35 : decode cX4_goDay 35 = .ok (.aload_n 0, 1) := by decide +kernel
theorem dX4_goDay_36 : decode cX4_goDay 36 = .ok (.invokevirtual 107, 3) := by decide +kernel
theorem dX4_goDay_39 : decode cX4_goDay 39 = .ok (.ifCond .ne 19, 3) := by decide +kernel
theorem dX4_goDay_42 : decode cX4_goDay 42 = .ok (.aload_n 0, 1) := by decide +kernel
theorem dX4_goDay_43 : decode cX4_goDay 43 = .ok (.getfield 7, 3) := by decide +kernel
theorem dX4_goDay_46 : decode cX4_goDay 46 = .ok (.bipush 8, 2) := by decide +kernel
theorem dX4_goDay_48 : decode cX4_goDay 48 = .ok (.aload_n 0, 1) := by decide +kernel
theorem dX4_goDay_49 : decode cX4_goDay 49 = .ok (.getfield 7, 3) := by decide +kernel
theorem dX4_goDay_52 : decode cX4_goDay 52 = .ok (.iconst 5, 1) := by decide +kernel
theorem dX4_goDay_53 : decode cX4_goDay 53 = .ok (.iaload, 1) := by decide +kernel
theorem dX4_goDay_54 : decode cX4_goDay 54 = .ok (.iastore, 1) := by decide +kernel
theorem dX4_goDay_55 : decode cX4_goDay 55 = .ok (.goto 28, 3) := by decide +kernel
theorem dX4_goDay_58 : decode cX4_goDay 58 = .ok (.iload_n 1, 1) := by decide +kernel
theorem dX4_goDay_59 : decode cX4_goDay 59 = .ok (.ifCond .ne 24, 3) := by decide +kernel
theorem dX4_goDay_62 : decode cX4_goDay 62 = .ok (.aload_n 0, 1) := by decide +kernel
theorem dX4_goDay_63 : decode cX4_goDay 63 = .ok (.getfield 7, 3) := by decide +kernel
theorem dX4_goDay_66 : decode cX4_goDay 66 = .ok (.bipush 8, 2) := by decide +kernel
theorem dX4_goDay_68 : decode cX4_goDay 68 = .ok (.iaload, 1) := by decide +kernel
theorem dX4_goDay_69 : decode cX4_goDay 69 = .ok (.ifCond .le 14, 3) := by decide +kernel
theorem dX4_goDay_72 : decode cX4_goDay 72 = .ok (.aload_n 0, 1) := by decide +kernel
theorem dX4_goDay_73 : decode cX4_goDay 73 = .ok (.getfield 7, 3) := by decide +kernel
theorem dX4_goDay_76 : decode cX4_goDay 76 = .ok (.bipush 8, 2) := by decide +kernel
theorem dX4_goDay_78 : decode cX4_goDay 78 = .ok (.dup2, 1) := by decide +kernel
theorem dX4_goDay_79 : decode cX4_goDay 79 = .ok (.iaload, 1) := by decide +kernel
theorem dX4_goDay_80 : decode cX4_goDay 80 = .ok (.iconst 1, 1) := by decide +kernel
theorem dX4_goDay_81 : decode cX4_goDay 81 = .ok (.isub, 1) := by decide +kernel
theorem dX4_goDay_82 : decode cX4_goDay 82 = .ok (.iastore, 1) := by decide +kernel
theorem dX4_goDay_83 : decode cX4_goDay 83 = .ok (.iconst 0, 1) := by decide +kernel
theorem dX4_goDay_84 : decode cX4_goDay 84 = .ok (.istore_n 3, 1) := by decide +kernel
theorem dX4_goDay_85 : decode cX4_goDay 85 = .ok (.iload_n 1, 1) := by decide +kernel
theorem dX4_goDay_86 : decode cX4_goDay 86 = .ok (.iconst 2, 1) := by decide +kernel
theorem dX4_goDay_87 : decode cX4_goDay 87 = .ok (.if_icmp .ne 78, 3) := by decide +kernel
theorem dX4_goDay_90 : decode cX4_goDay 90 = .ok (.iload_n 2, 1) := by decide +kernel
theorem dX4_goDay_91 : decode cX4_goDay 91 = .ok (.ifCond .eq 74, 3) := by decide +kernel
theorem dX4_goDay_94 : decode cX4_goDay 94 = .ok (.iload_n 3, 1) := by decide +kernel
theorem dX4_goDay_95 : decode cX4_goDay 95 = .ok (.aload_n 0, 1) := by decide +kernel
theorem dX4_goDay_96 : decode cX4_goDay 96 = .ok (.getfield 7, 3) := by decide +kernel
theorem dX4_goDay_99 : decode cX4_goDay 99 = .ok (.iconst 2, 1) := by decide +kernel
theorem dX4_goDay_100 : decode cX4_goDay 100 = .ok (.iaload, 1) := by decide +kernel
theorem dX4_goDay_101 : decode cX4_goDay 101 = .ok (.ifCond .le 23, 3) := by decide +kernel
theorem dX4_goDay_104 : decode cX4_goDay 104 = .ok (.aload_n 0, 1) := by decide +kernel
theorem dX4_goDay_105 : decode cX4_goDay 105 = .ok (.aload_n 0, 1) := by decide +kernel
theorem dX4_goDay_106 : decode cX4_goDay 106 = .ok (.invokevirtual 87, 3) := by decide +kernel
theorem dX4_goDay_109 : decode cX4_goDay 109 = .ok (.aload_n 0, 1) := by decide +kernel
theorem dX4_goDay_110 : decode cX4_goDay 110 = .ok (.getfield 7, 3) := by decide +kernel
theorem dX4_goDay_113 : decode cX4_goDay 113 = .ok (.bipush 6, 2) := by decide +kernel
theorem dX4_goDay_115 : decode cX4_goDay 115 = .ok (.iaload, 1) := by decide +kernel
theorem dX4_goDay_116 : decode cX4_goDay 116 = .ok (.iconst 5, 1) := by decide +kernel
theorem dX4_goDay_117 : decode cX4_goDay 117 = .ok (.irem, 1) := by decide +kernel
theorem dX4_goDay_118 : decode cX4_goDay 118 = .ok (.invokevirtual 110, 3) := by decide +kernel
theorem dX4_goDay_121 : decode cX4_goDay 121 = .ok (.goto 4, 3) := by decide +kernel
theorem dX4_goDay_124 : decode cX4_goDay 124 = .ok (.iconst 0, 1) := by decide +kernel
theorem dX4_goDay_125 : decode cX4_goDay 125 = .ok (.iadd, 1) := by decide +kernel
theorem dX4_goDay_126 : decode cX4_goDay 126 = .ok (.istore_n 3, 1) := by decide +kernel
theorem dX4_goDay_127 : decode cX4_goDay 127 = .ok (.iload_n 3, 1) := by decide +kernel
theorem dX4_goDay_128 : decode cX4_goDay 128 = .ok (.aload_n 0, 1) := by decide +kernel
theorem dX4_goDay_129 : decode cX4_goDay 129 = .ok (.getfield 7, 3) := by decide +kernel
theorem dX4_goDay_132 : decode cX4_goDay 132 = .ok (.iconst 2, 1) := by decide +kernel
theorem dX4_goDay_133 : decode cX4_goDay 133 = .ok (.iaload, 1) := by decide +kernel
theorem dX4_goDay_134 : decode cX4_goDay 134 = .ok (.iconst 1, 1) := by decide +kernel
theorem dX4_goDay_135 : decode cX4_goDay 135 = .ok (.if_icmp .le 27, 3) := by decide +kernel
theorem dX4_goDay_138 : decode cX4_goDay 138 = .ok (.aload_n 0, 1) := by decide +kernel
theorem dX4_goDay_139 : decode cX4_goDay 139 = .ok (.aload_n 0, 1) := by decide +kernel
theorem dX4_goDay_140 : decode cX4_goDay 140 = .ok (.invokevirtual 87, 3) := by decide +kernel
theorem dX4_goDay_143 : decode cX4_goDay 143 = .ok (.iconst 1, 1) := by decide +kernel
theorem dX4_goDay_144 : decode cX4_goDay 144 = .ok (.isub, 1) := by decide +kernel
theorem dX4_goDay_145 : decode cX4_goDay 145 = .ok (.aload_n 0, 1) := by decide +kernel
theorem dX4_goDay_146 : decode cX4_goDay 146 = .ok (.getfield 7, 3) := by decide +kernel
theorem dX4_goDay_149 : decode cX4_goDay 149 = .ok (.bipush 6, 2) := by decide +kernel
theorem dX4_goDay_151 : decode cX4_goDay 151 = .ok (.iaload, 1) := by decide +kernel
theorem dX4_goDay_152 : decode cX4_goDay 152 = .ok (.iconst 2, 1) := by decide +kernel
theorem dX4_goDay_153 : decode cX4_goDay 153 = .ok (.iadd, 1) := by decide +kernel
theorem dX4_goDay_154 : decode cX4_goDay 154 = .ok (.iconst 5, 1) := by decide +kernel
theorem dX4_goDay_155 : decode cX4_goDay 155 = .ok (.irem, 1) := by decide +kernel
theorem dX4_goDay_156 : decode cX4_goDay 156 = .ok (.invokevirtual 110, 3) := by decide +kernel
theorem dX4_goDay_159 : decode cX4_goDay 159 = .ok (.goto 4, 3) := by decide +kernel
theorem dX4_goDay_162 : decode cX4_goDay 162 = .ok (.iconst 0, 1) := by decide +kernel
theorem dX4_goDay_163 : decode cX4_goDay 163 = .ok (.iadd, 1) := by decide +kernel
theorem dX4_goDay_164 : decode cX4_goDay 164 = .ok (.istore_n 3, 1) := by decide +kernel
theorem dX4_goDay_165 : decode cX4_goDay 165 = .ok (.aload_n 0, 1) := by decide +kernel
theorem dX4_goDay_166 : decode cX4_goDay 166 = .ok (.getfield 7, 3) := by decide +kernel
theorem dX4_goDay_169 : decode cX4_goDay 169 = .ok (.bipush 7, 2) := by decide +kernel
theorem dX4_goDay_171 : decode cX4_goDay 171 = .ok (.aload_n 0, 1) := by decide +kernel
theorem dX4_goDay_172 : decode cX4_goDay 172 = .ok (.getfield 7, 3) := by decide +kernel
theorem dX4_goDay_175 : decode cX4_goDay 175 = .ok (.iconst 4, 1) := by decide +kernel
theorem dX4_goDay_176 : decode cX4_goDay 176 = .ok (.iaload, 1) := by decide +kernel
theorem dX4_goDay_177 : decode cX4_goDay 177 = .ok (.iastore, 1) := by decide +kernel
theorem dX4_goDay_178 : decode cX4_goDay 178 = .ok (.iload_n 3, 1) := by decide +kernel
theorem dX4_goDay_179 : decode cX4_goDay 179 = .ok (.ireturn, 1) := by decide +kernel
theorem dX4_pass_0 : decode cX4_pass 0 = .ok (.aload_n 0, 1) := by decide +kernel
theorem dX4_pass_1 : decode cX4_pass 1 = .ok (.iconst 0, 1) := by decide +kernel
theorem dX4_pass_2 : decode cX4_pass 2 = .ok (.putfield 25, 3) := by decide +kernel
theorem dX4_pass_5 : decode cX4_pass 5 = .ok (.iload_n 1, 1) := by decide +kernel
theorem dX4_pass_6 : decode cX4_pass 6 = .ok (.iconst 0, 1) := by decide +kernel
theorem dX4_pass_7 : decode cX4_pass 7 = .ok (.iconst 2, 1) := by decide +kernel
theorem dX4_pass_8 : decode cX4_pass 8 = .ok (.invokestatic 29, 3) := by decide +kernel
theorem dX4_pass_11 : decode cX4_pass 11 = .ok (.ifCond .ne 9, 3) := by decide +kernel
theorem dX4_pass_14 : decode cX4_pass 14 = .ok (.aload_n 0, 1) := by decide +kernel
theorem dX4_pass_15 : decode cX4_pass 15 = .ok (.iconst 1, 1) := by decide +kernel
theorem dX4_pass_16 : decode cX4_pass 16 = .ok (.invokevirtual 60, 3) := by decide +kernel
theorem dX4_pass_19 : decode cX4_pass 19 = .ok (.ireturn, 1) := by decide +kernel
theorem dX4_pass_20 : decode cX4_pass 20 = .ok (.aload_n 0, 1) := by decide +kernel
theorem dX4_pass_21 : decode cX4_pass 21 = .ok (.getfield 7, 3) := by decide +kernel
theorem dX4_pass_24 : decode cX4_pass 24 = .ok (.bipush 6, 2) := by decide +kernel
theorem dX4_pass_26 : decode cX4_pass 26 = .ok (.iaload, 1) := by decide +kernel
theorem dX4_pass_27 : decode cX4_pass 27 = .ok (.sipush 1000, 3) := by decide +kernel
theorem dX4_pass_30 : decode cX4_pass 30 = .ok (.if_icmp .lt 9, 3) := by decide +kernel
theorem dX4_pass_33 : decode cX4_pass 33 = .ok (.aload_n 0, 1) := by decide +kernel
theorem dX4_pass_34 : decode cX4_pass 34 = .ok (.iconst 2, 1) := by decide +kernel
theorem dX4_pass_35 : decode cX4_pass 35 = .ok (.invokevirtual 60, 3) := by decide +kernel
theorem dX4_pass_38 : decode cX4_pass 38 = .ok (.ireturn, 1) := by decide +kernel
theorem dX4_pass_39 : decode cX4_pass 39 = .ok (.aload_n 0, 1) := by decide +kernel
theorem dX4_pass_40 : decode cX4_pass 40 = .ok (.invokevirtual 63, 3) := by decide +kernel
theorem dX4_pass_43 : decode cX4_pass 43 = .ok (.aload_n 0, 1) := by decide +kernel
theorem dX4_pass_44 : decode cX4_pass 44 = .ok (.iload_n 1, 1) := by decide +kernel
theorem dX4_pass_45 : decode cX4_pass 45 = .ok (.invokevirtual 114, 3) := by decide +kernel
theorem dX4_pass_48 : decode cX4_pass 48 = .ok (.ireturn, 1) := by decide +kernel
theorem dX4_openCourse_0 : decode cX4_openCourse 0 = .ok (.iconst 0, 1) := by decide +kernel
theorem dX4_openCourse_1 : decode cX4_openCourse 1 = .ok (.istore_n 1, 1) := by decide +kernel
theorem dX4_openCourse_2 : decode cX4_openCourse 2 = .ok (.iload_n 1, 1) := by decide +kernel
theorem dX4_openCourse_3 : decode cX4_openCourse 3 = .ok (.aload_n 0, 1) := by decide +kernel
theorem dX4_openCourse_4 : decode cX4_openCourse 4 = .ok (.invokevirtual 87, 3) := by decide +kernel
theorem dX4_openCourse_7 : decode cX4_openCourse 7 = .ok (.if_icmp .ge 20, 3) := by decide +kernel
theorem dX4_openCourse_10 : decode cX4_openCourse 10 = .ok (.aload_n 0, 1) := by decide +kernel
theorem dX4_openCourse_11 : decode cX4_openCourse 11 = .ok (.iload_n 1, 1) := by decide +kernel
theorem dX4_openCourse_12 : decode cX4_openCourse 12 = .ok (.invokevirtual 90, 3) := by decide +kernel
theorem dX4_openCourse_15 : decode cX4_openCourse 15 = .ok (.iconst (-1), 1) := by decide +kernel
theorem dX4_openCourse_16 : decode cX4_openCourse 16 = .ok (.if_icmp .eq 5, 3) := by decide +kernel
theorem dX4_openCourse_19 : decode cX4_openCourse 19 = .ok (.iload_n 1, 1) := by decide +kernel
theorem dX4_openCourse_20 : decode cX4_openCourse 20 = .ok (.ireturn, 1) := by decide +kernel
theorem dX4_openCourse_21 : decode cX4_openCourse 21 = .ok (.iinc 1 1, 3) := by decide +kernel
theorem dX4_openCourse_24 : decode cX4_openCourse 24 = .ok (.goto (-22), 3) := by decide +kernel
theorem dX4_openCourse_27 : decode cX4_openCourse 27 = .ok (.iconst (-1), 1) := by decide +kernel
theorem dX4_openCourse_28 : decode cX4_openCourse 28 = .ok (.ireturn, 1) := by decide +kernel
theorem dX4_nextLength_0 : decode cX4_nextLength 0 = .ok (.iconst (-1), 1) := by decide +kernel
theorem dX4_nextLength_1 : decode cX4_nextLength 1 = .ok (.istore_n 1, 1) := by decide +kernel
theorem dX4_nextLength_2 : decode cX4_nextLength 2 = .ok (.bipush 8, 2) := by decide +kernel
theorem dX4_nextLength_4 : decode cX4_nextLength 4 = .ok (.istore_n 2, 1) := by decide +kernel
theorem dX4_nextLength_5 : decode cX4_nextLength 5 = .ok (.iload_n 2, 1) := by decide +kernel
theorem dX4_nextLength_6 : decode cX4_nextLength 6 = .ok (.aload_n 0, 1) := by decide +kernel
theorem dX4_nextLength_7 : decode cX4_nextLength 7 = .ok (.invokevirtual 84, 3) := by decide +kernel
theorem dX4_nextLength_10 : decode cX4_nextLength 10 = .ok (.if_icmp .gt 38, 3) := by decide +kernel
theorem dX4_nextLength_13 : decode cX4_nextLength 13 = .ok (.aload_n 0, 1) := by decide +kernel
theorem dX4_nextLength_14 : decode cX4_nextLength 14 = .ok (.getfield 7, 3) := by decide +kernel
theorem dX4_nextLength_17 : decode cX4_nextLength 17 = .ok (.sipush 214, 3) := by decide +kernel
theorem dX4_nextLength_20 : decode cX4_nextLength 20 = .ok (.iload_n 2, 1) := by decide +kernel
theorem dX4_nextLength_21 : decode cX4_nextLength 21 = .ok (.iadd, 1) := by decide +kernel
theorem dX4_nextLength_22 : decode cX4_nextLength 22 = .ok (.iaload, 1) := by decide +kernel
theorem dX4_nextLength_23 : decode cX4_nextLength 23 = .ok (.aload_n 0, 1) := by decide +kernel
theorem dX4_nextLength_24 : decode cX4_nextLength 24 = .ok (.aload_n 0, 1) := by decide +kernel
theorem dX4_nextLength_25 : decode cX4_nextLength 25 = .ok (.getfield 7, 3) := by decide +kernel
theorem dX4_nextLength_28 : decode cX4_nextLength 28 = .ok (.iconst 2, 1) := by decide +kernel
theorem dX4_nextLength_29 : decode cX4_nextLength 29 = .ok (.iaload, 1) := by decide +kernel
theorem dX4_nextLength_30 : decode cX4_nextLength 30 = .ok (.invokevirtual 36, 3) := by decide +kernel
theorem dX4_nextLength_33 : decode cX4_nextLength 33 = .ok (.if_icmp .lt 7, 3) := by decide +kernel
theorem dX4_nextLength_36 : decode cX4_nextLength 36 = .ok (.iload_n 2, 1) := by decide +kernel
theorem dX4_nextLength_37 : decode cX4_nextLength 37 = .ok (.goto 4, 3) := by decide +kernel
theorem dX4_nextLength_40 : decode cX4_nextLength 40 = .ok (.iload_n 1, 1) := by decide +kernel
theorem dX4_nextLength_41 : decode cX4_nextLength 41 = .ok (.istore_n 1, 1) := by decide +kernel
theorem dX4_nextLength_42 : decode cX4_nextLength 42 = .ok (.iinc 2 1, 3) := by decide +kernel
theorem dX4_nextLength_45 : decode cX4_nextLength 45 = .ok (.goto (-40), 3) := by decide +kernel
theorem dX4_nextLength_48 : decode cX4_nextLength 48 = .ok (.iload_n 1, 1) := by decide +kernel
theorem dX4_nextLength_49 : decode cX4_nextLength 49 = .ok (.ireturn, 1) := by decide +kernel
theorem dX4_step_0 : decode cX4_step 0 = .ok (.aload_n 0, 1) := by decide +kernel
theorem dX4_step_1 : decode cX4_step 1 = .ok (.invokevirtual 117, 3) := by decide +kernel
theorem dX4_step_4 : decode cX4_step 4 = .ok (.istore_n 1, 1) := by decide +kernel
theorem dX4_step_5 : decode cX4_step 5 = .ok (.iload_n 1, 1) := by decide +kernel
theorem dX4_step_6 : decode cX4_step 6 = .ok (.iconst (-1), 1) := by decide +kernel
theorem dX4_step_7 : decode cX4_step 7 = .ok (.if_icmp .eq 29, 3) := by decide +kernel
theorem dX4_step_10 : decode cX4_step 10 = .ok (.aload_n 0, 1) := by decide +kernel
theorem dX4_step_11 : decode cX4_step 11 = .ok (.iload_n 1, 1) := by decide +kernel
theorem dX4_step_12 : decode cX4_step 12 = .ok (.aload_n 0, 1) := by decide +kernel
theorem dX4_step_13 : decode cX4_step 13 = .ok (.iload_n 1, 1) := by decide +kernel
theorem dX4_step_14 : decode cX4_step 14 = .ok (.invokevirtual 90, 3) := by decide +kernel
theorem dX4_step_17 : decode cX4_step 17 = .ok (.invokevirtual 104, 3) := by decide +kernel
theorem dX4_step_20 : decode cX4_step 20 = .ok (.ifCond .eq 16, 3) := by decide +kernel
theorem dX4_step_23 : decode cX4_step 23 = .ok (.aload_n 0, 1) := by decide +kernel
theorem dX4_step_24 : decode cX4_step 24 = .ok (.iload_n 1, 1) := by decide +kernel
theorem dX4_step_25 : decode cX4_step 25 = .ok (.aload_n 0, 1) := by decide +kernel
theorem dX4_step_26 : decode cX4_step 26 = .ok (.iload_n 1, 1) := by decide +kernel
theorem dX4_step_27 : decode cX4_step 27 = .ok (.invokevirtual 90, 3) := by decide +kernel
theorem dX4_step_30 : decode cX4_step 30 = .ok (.iconst 3, 1) := by decide +kernel
theorem dX4_step_31 : decode cX4_step 31 = .ok (.invokevirtual 97, 3) := by decide +kernel
theorem dX4_step_34 : decode cX4_step 34 = .ok (.iconst 1, 1) := by decide +kernel
theorem dX4_step_35 : decode cX4_step 35 = .ok (.ireturn, 1) := by decide +kernel
theorem dX4_step_36 : decode cX4_step 36 = .ok (.aload_n 0, 1) := by decide +kernel
theorem dX4_step_37 : decode cX4_step 37 = .ok (.invokevirtual 87, 3) := by decide +kernel
theorem dX4_step_40 : decode cX4_step 40 = .ok (.istore_n 2, 1) := by decide +kernel
theorem dX4_step_41 : decode cX4_step 41 = .ok (.iload_n 2, 1) := by decide +kernel
theorem dX4_step_42 : decode cX4_step 42 = .ok (.ifCond .ge 7, 3) := by decide +kernel
theorem dX4_step_45 : decode cX4_step 45 = .ok (.iconst (-1), 1) := by decide +kernel
theorem dX4_step_46 : decode cX4_step 46 = .ok (.goto 8, 3) := by decide +kernel
theorem dX4_step_49 : decode cX4_step 49 = .ok (.aload_n 0, 1) := by decide +kernel
theorem dX4_step_50 : decode cX4_step 50 = .ok (.iload_n 2, 1) := by decide +kernel
theorem dX4_step_51 : decode cX4_step 51 = .ok (.invokevirtual 90, 3) := by decide +kernel
theorem dX4_step_54 : decode cX4_step 54 = .ok (.istore_n 3, 1) := by decide +kernel
theorem dX4_step_55 : decode cX4_step 55 = .ok (.iload_n 3, 1) := by decide +kernel
theorem dX4_step_56 : decode cX4_step 56 = .ok (.iconst (-1), 1) := by decide +kernel
theorem dX4_step_57 : decode cX4_step 57 = .ok (.if_icmp .eq 45, 3) := by decide +kernel
theorem dX4_step_60 : decode cX4_step 60 = .ok (.aload_n 0, 1) := by decide +kernel
theorem dX4_step_61 : decode cX4_step 61 = .ok (.getfield 7, 3) := by decide +kernel
theorem dX4_step_64 : decode cX4_step 64 = .ok (.sipush 214, 3) := by decide +kernel
theorem dX4_step_67 : decode cX4_step 67 = .ok (.aload_n 0, 1) := by decide +kernel
theorem dX4_step_68 : decode cX4_step 68 = .ok (.getfield 7, 3) := by decide +kernel
theorem dX4_step_71 : decode cX4_step 71 = .ok (.bipush 14, 2) := by decide +kernel
theorem dX4_step_73 : decode cX4_step 73 = .ok (.iload_n 2, 1) := by decide +kernel
theorem dX4_step_74 : decode cX4_step 74 = .ok (.iadd, 1) := by decide +kernel
theorem dX4_step_75 : decode cX4_step 75 = .ok (.iaload, 1) := by decide +kernel
theorem dX4_step_76 : decode cX4_step 76 = .ok (.iadd, 1) := by decide +kernel
theorem dX4_step_77 : decode cX4_step 77 = .ok (.iaload, 1) := by decide +kernel
theorem dX4_step_78 : decode cX4_step 78 = .ok (.ifCond .eq 13, 3) := by decide +kernel
theorem dX4_step_81 : decode cX4_step 81 = .ok (.aload_n 0, 1) := by decide +kernel
theorem dX4_step_82 : decode cX4_step 82 = .ok (.getfield 7, 3) := by decide +kernel
theorem dX4_step_85 : decode cX4_step 85 = .ok (.bipush 7, 2) := by decide +kernel
theorem dX4_step_87 : decode cX4_step 87 = .ok (.iaload, 1) := by decide +kernel
theorem dX4_step_88 : decode cX4_step 88 = .ok (.ifCond .ne 5, 3) := by decide +kernel
theorem dX4_step_91 : decode cX4_step 91 = .ok (.iconst (-1), 1) := by decide +kernel
theorem dX4_step_92 : decode cX4_step 92 = .ok (.ireturn, 1) := by decide +kernel
theorem dX4_step_93 : decode cX4_step 93 = .ok (.aload_n 0, 1) := by decide +kernel
theorem dX4_step_94 : decode cX4_step 94 = .ok (.iload_n 2, 1) := by decide +kernel
theorem dX4_step_95 : decode cX4_step 95 = .ok (.iload_n 3, 1) := by decide +kernel
theorem dX4_step_96 : decode cX4_step 96 = .ok (.iconst 1, 1) := by decide +kernel
theorem dX4_step_97 : decode cX4_step 97 = .ok (.invokevirtual 97, 3) := by decide +kernel
theorem dX4_step_100 : decode cX4_step 100 = .ok (.iconst 1, 1) := by decide +kernel
theorem dX4_step_101 : decode cX4_step 101 = .ok (.ireturn, 1) := by decide +kernel
theorem dX4_step_102 : decode cX4_step 102 = .ok (.aload_n 0, 1) := by decide +kernel
theorem dX4_step_103 : decode cX4_step 103 = .ok (.invokevirtual 53, 3) := by decide +kernel
theorem dX4_step_106 : decode cX4_step 106 = .ok (.aload_n 0, 1) := by decide +kernel
theorem dX4_step_107 : decode cX4_step 107 = .ok (.getfield 7, 3) := by decide +kernel
theorem dX4_step_110 : decode cX4_step 110 = .ok (.iconst 0, 1) := by decide +kernel
theorem dX4_step_111 : decode cX4_step 111 = .ok (.iaload, 1) := by decide +kernel
theorem dX4_step_112 : decode cX4_step 112 = .ok (.if_icmp .ge 22, 3) := by decide +kernel
theorem dX4_step_115 : decode cX4_step 115 = .ok (.aload_n 0, 1) := by decide +kernel
theorem dX4_step_116 : decode cX4_step 116 = .ok (.getfield 7, 3) := by decide +kernel
theorem dX4_step_119 : decode cX4_step 119 = .ok (.iconst 2, 1) := by decide +kernel
theorem dX4_step_120 : decode cX4_step 120 = .ok (.iaload, 1) := by decide +kernel
theorem dX4_step_121 : decode cX4_step 121 = .ok (.bipush 100, 2) := by decide +kernel
theorem dX4_step_123 : decode cX4_step 123 = .ok (.if_icmp .eq 11, 3) := by decide +kernel
theorem dX4_step_126 : decode cX4_step 126 = .ok (.aload_n 0, 1) := by decide +kernel
theorem dX4_step_127 : decode cX4_step 127 = .ok (.invokevirtual 120, 3) := by decide +kernel
theorem dX4_step_130 : decode cX4_step 130 = .ok (.iconst (-1), 1) := by decide +kernel
theorem dX4_step_131 : decode cX4_step 131 = .ok (.if_icmp .ne 5, 3) := by decide +kernel
theorem dX4_step_134 : decode cX4_step 134 = .ok (.iconst (-1), 1) := by decide +kernel
theorem dX4_step_135 : decode cX4_step 135 = .ok (.ireturn, 1) := by decide +kernel
theorem dX4_step_136 : decode cX4_step 136 = .ok (.aload_n 0, 1) := by decide +kernel
theorem dX4_step_137 : decode cX4_step 137 = .ok (.aload_n 0, 1) := by decide +kernel
theorem dX4_step_138 : decode cX4_step 138 = .ok (.invokevirtual 120, 3) := by decide +kernel
theorem dX4_step_141 : decode cX4_step 141 = .ok (.invokevirtual 93, 3) := by decide +kernel
theorem dX4_step_144 : decode cX4_step 144 = .ok (.iconst 0, 1) := by decide +kernel
theorem dX4_step_145 : decode cX4_step 145 = .ok (.ireturn, 1) := by decide +kernel
theorem dX4_workDay_0 : decode cX4_workDay 0 = .ok (.aload_n 0, 1) := by decide +kernel
theorem dX4_workDay_1 : decode cX4_workDay 1 = .ok (.iload_n 1, 1) := by decide +kernel
theorem dX4_workDay_2 : decode cX4_workDay 2 = .ok (.invokevirtual 114, 3) := by decide +kernel
theorem dX4_workDay_5 : decode cX4_workDay 5 = .ok (.pop, 1) := by decide +kernel
theorem dX4_workDay_6 : decode cX4_workDay 6 = .ok (.iconst 0, 1) := by decide +kernel
theorem dX4_workDay_7 : decode cX4_workDay 7 = .ok (.istore_n 2, 1) := by decide +kernel
theorem dX4_workDay_8 : decode cX4_workDay 8 = .ok (.aload_n 0, 1) := by decide +kernel
theorem dX4_workDay_9 : decode cX4_workDay 9 = .ok (.invokevirtual 80, 3) := by decide +kernel
theorem dX4_workDay_12 : decode cX4_workDay 12 = .ok (.ifCond .eq 10, 3) := by decide +kernel
theorem dX4_workDay_15 : decode cX4_workDay 15 = .ok (.aload_n 0, 1) := by decide +kernel
theorem dX4_workDay_16 : decode cX4_workDay 16 = .ok (.invokevirtual 123, 3) := by decide +kernel
theorem dX4_workDay_19 : decode cX4_workDay 19 = .ok (.goto 4, 3) := by decide +kernel
theorem dX4_workDay_22 : decode cX4_workDay 22 = .ok (.iconst (-1), 1) := by decide +kernel
theorem dX4_workDay_23 : decode cX4_workDay 23 = .ok (.istore_n 3, 1) := by decide +kernel
theorem dX4_workDay_24 : decode cX4_workDay 24 = .ok (.iload_n 3, 1) := by decide +kernel
theorem dX4_workDay_25 : decode cX4_workDay 25 = .ok (.iconst (-1), 1) := by decide +kernel
theorem dX4_workDay_26 : decode cX4_workDay 26 = .ok (.if_icmp .eq 15, 3) := by decide +kernel
theorem dX4_workDay_29 : decode cX4_workDay 29 = .ok (.iload_n 2, 1) := by decide +kernel
theorem dX4_workDay_30 : decode cX4_workDay 30 = .ok (.iload_n 3, 1) := by decide +kernel
theorem dX4_workDay_31 : decode cX4_workDay 31 = .ok (.iadd, 1) := by decide +kernel
theorem dX4_workDay_32 : decode cX4_workDay 32 = .ok (.istore_n 2, 1) := by decide +kernel
theorem dX4_workDay_33 : decode cX4_workDay 33 = .ok (.aload_n 0, 1) := by decide +kernel
theorem dX4_workDay_34 : decode cX4_workDay 34 = .ok (.invokevirtual 123, 3) := by decide +kernel
theorem dX4_workDay_37 : decode cX4_workDay 37 = .ok (.istore_n 3, 1) := by decide +kernel
theorem dX4_workDay_38 : decode cX4_workDay 38 = .ok (.goto (-14), 3) := by decide +kernel
theorem dX4_workDay_41 : decode cX4_workDay 41 = .ok (.iload_n 2, 1) := by decide +kernel
theorem dX4_workDay_42 : decode cX4_workDay 42 = .ok (.ireturn, 1) := by decide +kernel
theorem dX4_append_0 : decode cX4_append 0 = .ok (.aload_n 0, 1) := by decide +kernel
theorem dX4_append_1 : decode cX4_append 1 = .ok (.iconst 0, 1) := by decide +kernel
theorem dX4_append_2 : decode cX4_append 2 = .ok (.putfield 25, 3) := by decide +kernel
theorem dX4_append_5 : decode cX4_append 5 = .ok (.iload_n 1, 1) := by decide +kernel
theorem dX4_append_6 : decode cX4_append 6 = .ok (.bipush 33, 2) := by decide +kernel
theorem dX4_append_8 : decode cX4_append 8 = .ok (.bipush 126, 2) := by decide +kernel
theorem dX4_append_10 : decode cX4_append 10 = .ok (.invokestatic 29, 3) := by decide +kernel
theorem dX4_append_13 : decode cX4_append 13 = .ok (.ifCond .ne 9, 3) := by decide +kernel
theorem dX4_append_16 : decode cX4_append 16 = .ok (.aload_n 0, 1) := by decide +kernel
theorem dX4_append_17 : decode cX4_append 17 = .ok (.iconst 1, 1) := by decide +kernel
theorem dX4_append_18 : decode cX4_append 18 = .ok (.invokevirtual 60, 3) := by decide +kernel
theorem dX4_append_21 : decode cX4_append 21 = .ok (.ireturn, 1) := by decide +kernel
theorem dX4_append_22 : decode cX4_append 22 = .ok (.aload_n 0, 1) := by decide +kernel
theorem dX4_append_23 : decode cX4_append 23 = .ok (.getfield 126, 3) := by decide +kernel
theorem dX4_append_26 : decode cX4_append 26 = .ok (.bipush 60, 2) := by decide +kernel
theorem dX4_append_28 : decode cX4_append 28 = .ok (.if_icmp .ne 9, 3) := by decide +kernel
theorem dX4_append_31 : decode cX4_append 31 = .ok (.aload_n 0, 1) := by decide +kernel
theorem dX4_append_32 : decode cX4_append 32 = .ok (.iconst 2, 1) := by decide +kernel
theorem dX4_append_33 : decode cX4_append 33 = .ok (.invokevirtual 60, 3) := by decide +kernel
theorem dX4_append_36 : decode cX4_append 36 = .ok (.ireturn, 1) := by decide +kernel
theorem dX4_append_37 : decode cX4_append 37 = .ok (.aload_n 0, 1) := by decide +kernel
theorem dX4_append_38 : decode cX4_append 38 = .ok (.getfield 19, 3) := by decide +kernel
theorem dX4_append_41 : decode cX4_append 41 = .ok (.aload_n 0, 1) := by decide +kernel
theorem dX4_append_42 : decode cX4_append 42 = .ok (.getfield 126, 3) := by decide +kernel
theorem dX4_append_45 : decode cX4_append 45 = .ok (.iload_n 1, 1) := by decide +kernel
theorem dX4_append_46 : decode cX4_append 46 = .ok (.iastore, 1) := by decide +kernel
theorem dX4_append_47 : decode cX4_append 47 = .ok (.aload_n 0, 1) := by decide +kernel
theorem dX4_append_48 : decode cX4_append 48 = .ok (.dup, 1) := by decide +kernel
theorem dX4_append_49 : decode cX4_append 49 = .ok (.getfield 126, 3) := by decide +kernel
theorem dX4_append_52 : decode cX4_append 52 = .ok (.iconst 1, 1) := by decide +kernel
theorem dX4_append_53 : decode cX4_append 53 = .ok (.iadd, 1) := by decide +kernel
theorem dX4_append_54 : decode cX4_append 54 = .ok (.putfield 126, 3) := by decide +kernel
theorem dX4_append_57 : decode cX4_append 57 = .ok (.aload_n 0, 1) := by decide +kernel
theorem dX4_append_58 : decode cX4_append 58 = .ok (.getfield 126, 3) := by decide +kernel
theorem dX4_append_61 : decode cX4_append 61 = .ok (.ireturn, 1) := by decide +kernel
theorem dX4_clearBuffer_0 : decode cX4_clearBuffer 0 = .ok (.aload_n 0, 1) := by decide +kernel
theorem dX4_clearBuffer_1 : decode cX4_clearBuffer 1 = .ok (.iconst 0, 1) := by decide +kernel
theorem dX4_clearBuffer_2 : decode cX4_clearBuffer 2 = .ok (.putfield 25, 3) := by decide +kernel
theorem dX4_clearBuffer_5 : decode cX4_clearBuffer 5 = .ok (.aload_n 0, 1) := by decide +kernel
theorem dX4_clearBuffer_6 : decode cX4_clearBuffer 6 = .ok (.getfield 126, 3) := by decide +kernel
theorem dX4_clearBuffer_9 : decode cX4_clearBuffer 9 = .ok (.istore_n 1, 1) := by decide +kernel
theorem dX4_clearBuffer_10 : decode cX4_clearBuffer 10 = .ok (.aload_n 0, 1) := by decide +kernel
theorem dX4_clearBuffer_11 : decode cX4_clearBuffer 11 = .ok (.iconst 0, 1) := by decide +kernel
theorem dX4_clearBuffer_12 : decode cX4_clearBuffer 12 = .ok (.putfield 126, 3) := by decide +kernel
theorem dX4_clearBuffer_15 : decode cX4_clearBuffer 15 = .ok (.iload_n 1, 1) := by decide +kernel
theorem dX4_clearBuffer_16 : decode cX4_clearBuffer 16 = .ok (.ireturn, 1) := by decide +kernel
theorem dX4_comes_0 : decode cX4_comes 0 = .ok (.iconst 0, 1) := by decide +kernel
theorem dX4_comes_1 : decode cX4_comes 1 = .ok (.istore_n 3, 1) := by decide +kernel
theorem dX4_comes_2 : decode cX4_comes 2 = .ok (.iload_n 3, 1) := by decide +kernel
theorem dX4_comes_3 : decode cX4_comes 3 = .ok (.iload_n 2, 1) := by decide +kernel
theorem dX4_comes_4 : decode cX4_comes 4 = .ok (.if_icmp .ge 39, 3) := by decide +kernel
theorem dX4_comes_7 : decode cX4_comes 7 = .ok (.aload_n 0, 1) := by decide +kernel
theorem dX4_comes_8 : decode cX4_comes 8 = .ok (.getfield 129, 3) := by decide +kernel
theorem dX4_comes_11 : decode cX4_comes 11 = .ok (.sipush 200, 3) := by decide +kernel
theorem dX4_comes_14 : decode cX4_comes 14 = .ok (.if_icmp .ge 13, 3) := by decide +kernel
theorem dX4_comes_17 : decode cX4_comes 17 = .ok (.aload_n 0, 1) := by decide +kernel
theorem dX4_comes_18 : decode cX4_comes 18 = .ok (.getfield 22, 3) := by decide +kernel
theorem dX4_comes_21 : decode cX4_comes 21 = .ok (.aload_n 0, 1) := by decide +kernel
theorem dX4_comes_22 : decode cX4_comes 22 = .ok (.getfield 129, 3) := by decide +kernel
theorem dX4_comes_25 : decode cX4_comes 25 = .ok (.iload_n 1, 1) := by decide +kernel
theorem dX4_comes_26 : decode cX4_comes 26 = .ok (.iastore, 1) := by decide +kernel
theorem dX4_comes_27 : decode cX4_comes 27 = .ok (.aload_n 0, 1) := by decide +kernel
theorem dX4_comes_28 : decode cX4_comes 28 = .ok (.dup, 1) := by decide +kernel
theorem dX4_comes_29 : decode cX4_comes 29 = .ok (.getfield 129, 3) := by decide +kernel
theorem dX4_comes_32 : decode cX4_comes 32 = .ok (.iconst 1, 1) := by decide +kernel
theorem dX4_comes_33 : decode cX4_comes 33 = .ok (.iadd, 1) := by decide +kernel
theorem dX4_comes_34 : decode cX4_comes 34 = .ok (.putfield 129, 3) := by decide +kernel
theorem dX4_comes_37 : decode cX4_comes 37 = .ok (.iinc 3 1, 3) := by decide +kernel
theorem dX4_comes_40 : decode cX4_comes 40 = .ok (.goto (-38), 3) := by decide +kernel
theorem dX4_comes_43 : decode cX4_comes 43 = .ok (.return_, 1) := by decide +kernel
theorem dX4_read_0 : decode cX4_read 0 = .ok (.aload_n 0, 1) := by decide +kernel
theorem dX4_read_1 : decode cX4_read 1 = .ok (.iconst 0, 1) := by decide +kernel
theorem dX4_read_2 : decode cX4_read 2 = .ok (.putfield 129, 3) := by decide +kernel
theorem dX4_read_5 : decode cX4_read 5 = .ok (.aload_n 0, 1) := by decide +kernel
theorem dX4_read_6 : decode cX4_read 6 = .ok (.iconst 0, 1) := by decide +kernel
theorem dX4_read_7 : decode cX4_read 7 = .ok (.putfield 132, 3) := by decide +kernel
theorem dX4_read_10 : decode cX4_read 10 = .ok (.iconst 0, 1) := by decide +kernel
theorem dX4_read_11 : decode cX4_read 11 = .ok (.istore_n 1, 1) := by decide +kernel
theorem dX4_read_12 : decode cX4_read 12 = .ok (.iconst 0, 1) := by decide +kernel
theorem dX4_read_13 : decode cX4_read 13 = .ok (.istore_n 2, 1) := by decide +kernel
theorem dX4_read_14 : decode cX4_read 14 = .ok (.iconst 0, 1) := by decide +kernel
theorem dX4_read_15 : decode cX4_read 15 = .ok (.istore_n 3, 1) := by decide +kernel
theorem dX4_read_16 : decode cX4_read 16 = .ok (.iconst 0, 1) := by decide +kernel
theorem dX4_read_17 : decode cX4_read 17 = .ok (.istore 4, 2) := by decide +kernel
theorem dX4_read_19 : decode cX4_read 19 = .ok (.iload 4, 2) := by decide +kernel
theorem dX4_read_21 : decode cX4_read 21 = .ok (.aload_n 0, 1) := by decide +kernel
theorem dX4_read_22 : decode cX4_read 22 = .ok (.getfield 126, 3) := by decide +kernel
theorem dX4_read_25 : decode cX4_read 25 = .ok (.if_icmp .ge 181, 3) := by decide +kernel
theorem dX4_read_28 : decode cX4_read 28 = .ok (.aload_n 0, 1) := by decide +kernel
theorem dX4_read_29 : decode cX4_read 29 = .ok (.getfield 19, 3) := by decide +kernel
theorem dX4_read_32 : decode cX4_read 32 = .ok (.iload 4, 2) := by decide +kernel
theorem dX4_read_34 : decode cX4_read 34 = .ok (.iaload, 1) := by decide +kernel
theorem dX4_read_35 : decode cX4_read 35 = .ok (.istore 5, 2) := by decide +kernel
theorem dX4_read_37 : decode cX4_read 37 = .ok (.iload 5, 2) := by decide +kernel
theorem dX4_read_39 : decode cX4_read 39 = .ok (.bipush 48, 2) := by decide +kernel
theorem dX4_read_41 : decode cX4_read 41 = .ok (.bipush 57, 2) := by decide +kernel
theorem dX4_read_43 : decode cX4_read 43 = .ok (.invokestatic 29, 3) := by decide +kernel
theorem dX4_read_46 : decode cX4_read 46 = .ok (.istore 6, 2) := by decide +kernel
theorem dX4_read_48 : decode cX4_read 48 = .ok (.iload 5, 2) := by decide +kernel
theorem dX4_read_50 : decode cX4_read 50 = .ok (.bipush 100, 2) := by decide +kernel
theorem dX4_read_52 : decode cX4_read 52 = .ok (.if_icmp .eq 17, 3) := by decide +kernel
theorem dX4_read_55 : decode cX4_read 55 = .ok (.iload 5, 2) := by decide +kernel
theorem dX4_read_57 : decode cX4_read 57 = .ok (.bipush 114, 2) := by decide +kernel
theorem dX4_read_59 : decode cX4_read 59 = .ok (.if_icmp .eq 10, 3) := by decide +kernel
theorem dX4_read_62 : decode cX4_read 62 = .ok (.iload 5, 2) := by decide +kernel
theorem dX4_read_64 : decode cX4_read 64 = .ok (.bipush 115, 2) := by decide +kernel
theorem dX4_read_66 : decode cX4_read 66 = .ok (.if_icmp .ne 7, 3) := by decide +kernel
theorem dX4_read_69 : decode cX4_read 69 = .ok (.iconst 1, 1) := by decide +kernel
theorem dX4_read_70 : decode cX4_read 70 = .ok (.goto 4, 3) := by decide +kernel
theorem dX4_read_73 : decode cX4_read 73 = .ok (.iconst 0, 1) := by decide +kernel
theorem dX4_read_74 : decode cX4_read 74 = .ok (.istore 7, 2) := by decide +kernel
theorem dX4_read_76 : decode cX4_read 76 = .ok (.iload 7, 2) := by decide +kernel
theorem dX4_read_78 : decode cX4_read 78 = .ok (.ifCond .eq 49, 3) := by decide +kernel
theorem dX4_read_81 : decode cX4_read 81 = .ok (.iload_n 1, 1) := by decide +kernel
theorem dX4_read_82 : decode cX4_read 82 = .ok (.iconst 2, 1) := by decide +kernel
theorem dX4_read_83 : decode cX4_read 83 = .ok (.if_icmp .eq 44, 3) := by decide +kernel
theorem dX4_read_86 : decode cX4_read 86 = .ok (.iload_n 1, 1) := by decide +kernel
theorem dX4_read_87 : decode cX4_read 87 = .ok (.ifCond .le 9, 3) := by decide +kernel
theorem dX4_read_90 : decode cX4_read 90 = .ok (.aload_n 0, 1) := by decide +kernel
theorem dX4_read_91 : decode cX4_read 91 = .ok (.iload_n 2, 1) := by decide +kernel
theorem dX4_read_92 : decode cX4_read 92 = .ok (.iload_n 3, 1) := by decide +kernel
theorem dX4_read_93 : decode cX4_read 93 = .ok (.invokevirtual 136, 3) := by decide +kernel
theorem dX4_read_96 : decode cX4_read 96 = .ok (.iload 5, 2) := by decide +kernel
theorem dX4_read_98 : decode cX4_read 98 = .ok (.bipush 100, 2) := by decide +kernel
theorem dX4_read_100 : decode cX4_read 100 = .ok (.if_icmp .ne 7, 3) := by decide +kernel
theorem dX4_read_103 : decode cX4_read 103 = .ok (.iconst 0, 1) := by decide +kernel
theorem dX4_read_104 : decode cX4_read 104 = .ok (.goto 15, 3) := by decide +kernel
theorem dX4_read_107 : decode cX4_read 107 = .ok (.iload 5, 2) := by decide +kernel
theorem dX4_read_109 : decode cX4_read 109 = .ok (.bipush 114, 2) := by decide +kernel
theorem dX4_read_111 : decode cX4_read 111 = .ok (.if_icmp .ne 7, 3) := by decide +kernel
theorem dX4_read_114 : decode cX4_read 114 = .ok (.iconst 1, 1) := by decide +kernel
theorem dX4_read_115 : decode cX4_read 115 = .ok (.goto 4, 3) := by decide +kernel
theorem dX4_read_118 : decode cX4_read 118 = .ok (.iconst 2, 1) := by decide +kernel
theorem dX4_read_119 : decode cX4_read 119 = .ok (.istore_n 2, 1) := by decide +kernel
theorem dX4_read_120 : decode cX4_read 120 = .ok (.iconst 1, 1) := by decide +kernel
theorem dX4_read_121 : decode cX4_read 121 = .ok (.istore_n 3, 1) := by decide +kernel
theorem dX4_read_122 : decode cX4_read 122 = .ok (.iconst 1, 1) := by decide +kernel
theorem dX4_read_123 : decode cX4_read 123 = .ok (.istore_n 1, 1) := by decide +kernel
theorem dX4_read_124 : decode cX4_read 124 = .ok (.goto 76, 3) := by decide +kernel
theorem dX4_read_127 : decode cX4_read 127 = .ok (.iload 6, 2) := by decide +kernel
theorem dX4_read_129 : decode cX4_read 129 = .ok (.ifCond .eq 37, 3) := by decide +kernel
theorem dX4_read_132 : decode cX4_read 132 = .ok (.iload_n 1, 1) := by decide +kernel
theorem dX4_read_133 : decode cX4_read 133 = .ok (.iconst 1, 1) := by decide +kernel
theorem dX4_read_134 : decode cX4_read 134 = .ok (.if_icmp .ne 32, 3) := by decide +kernel
theorem dX4_read_137 : decode cX4_read 137 = .ok (.iload 5, 2) := by decide +kernel
theorem dX4_read_139 : decode cX4_read 139 = .ok (.bipush 48, 2) := by decide +kernel
theorem dX4_read_141 : decode cX4_read 141 = .ok (.if_icmp .eq 25, 3) := by decide +kernel
theorem dX4_read_144 : decode cX4_read 144 = .ok (.iload 5, 2) := by decide +kernel
theorem dX4_read_146 : decode cX4_read 146 = .ok (.bipush 48, 2) := by decide +kernel
theorem dX4_read_148 : decode cX4_read 148 = .ok (.isub, 1) := by decide +kernel
theorem dX4_read_149 : decode cX4_read 149 = .ok (.istore_n 3, 1) := by decide +kernel
theorem dX4_read_150 : decode cX4_read 150 = .ok (.iload 5, 2) := by decide +kernel
theorem dX4_read_152 : decode cX4_read 152 = .ok (.bipush 49, 2) := by decide +kernel
theorem dX4_read_154 : decode cX4_read 154 = .ok (.if_icmp .ne 7, 3) := by decide +kernel
theorem dX4_read_157 : decode cX4_read 157 = .ok (.iconst 2, 1) := by decide +kernel
theorem dX4_read_158 : decode cX4_read 158 = .ok (.goto 4, 3) := by decide +kernel
theorem dX4_read_161 : decode cX4_read 161 = .ok (.iconst 3, 1) := by decide +kernel
theorem dX4_read_162 : decode cX4_read 162 = .ok (.istore_n 1, 1) := by decide +kernel
theorem dX4_read_163 : decode cX4_read 163 = .ok (.goto 37, 3) := by decide +kernel
theorem dX4_read_166 : decode cX4_read 166 = .ok (.iload 6, 2) := by decide +kernel
theorem dX4_read_168 : decode cX4_read 168 = .ok (.ifCond .eq 29, 3) := by decide +kernel
theorem dX4_read_171 : decode cX4_read 171 = .ok (.iload_n 1, 1) := by decide +kernel
theorem dX4_read_172 : decode cX4_read 172 = .ok (.iconst 2, 1) := by decide +kernel
theorem dX4_read_173 : decode cX4_read 173 = .ok (.if_icmp .eq 8, 3) := by decide +kernel
theorem dX4_read_176 : decode cX4_read 176 = .ok (.iload_n 1, 1) := by decide +kernel
theorem dX4_read_177 : decode cX4_read 177 = .ok (.iconst 3, 1) := by decide +kernel
theorem dX4_read_178 : decode cX4_read 178 = .ok (.if_icmp .ne 19, 3) := by decide +kernel
theorem dX4_read_181 : decode cX4_read 181 = .ok (.bipush 10, 2) := by decide +kernel
theorem dX4_read_183 : decode cX4_read 183 = .ok (.iload_n 3, 1) := by decide +kernel
theorem dX4_read_184 : decode cX4_read 184 = .ok (.imul, 1) := by decide +kernel
theorem dX4_read_185 : decode cX4_read 185 = .ok (.iload 5, 2) := by decide +kernel
theorem dX4_read_187 : decode cX4_read 187 = .ok (.iadd, 1) := by decide +kernel
theorem dX4_read_188 : decode cX4_read 188 = .ok (.bipush 48, 2) := by decide +kernel
theorem dX4_read_190 : decode cX4_read 190 = .ok (.isub, 1) := by decide +kernel
theorem dX4_read_191 : decode cX4_read 191 = .ok (.istore_n 3, 1) := by decide +kernel
theorem dX4_read_192 : decode cX4_read 192 = .ok (.iconst 4, 1) := by decide +kernel
theorem dX4_read_193 : decode cX4_read 193 = .ok (.istore_n 1, 1) := by decide +kernel
theorem dX4_read_194 : decode cX4_read 194 = .ok (.goto 6, 3) := by decide +kernel
theorem dX4_read_197 : decode cX4_read 197 = .ok (.iload 4, 2) := by decide +kernel
theorem dX4_read_199 : decode cX4_read 199 = .ok (.ireturn, 1) := by decide +kernel
theorem dX4_read_200 : decode cX4_read 200 = .ok (.iinc 4 1, 3) := by decide +kernel
theorem dX4_read_203 : decode cX4_read 203 = .ok (.goto (-184), 3) := by decide +kernel
theorem dX4_read_206 : decode cX4_read 206 = .ok (.aload_n 0, 1) := by decide +kernel
theorem dX4_read_207 : decode cX4_read 207 = .ok (.iload_n 1, 1) := by decide +kernel
theorem dX4_read_208 : decode cX4_read 208 = .ok (.ifCond .eq 12, 3) := by decide +kernel
theorem dX4_read_211 : decode cX4_read 211 = .ok (.iload_n 1, 1) := by decide +kernel
theorem dX4_read_212 : decode cX4_read 212 = .ok (.iconst 2, 1) := by decide +kernel
theorem dX4_read_213 : decode cX4_read 213 = .ok (.if_icmp .eq 7, 3) := by decide +kernel
theorem dX4_read_216 : decode cX4_read 216 = .ok (.iconst 1, 1) := by decide +kernel
theorem dX4_read_217 : decode cX4_read 217 = .ok (.goto 4, 3) := by decide +kernel
theorem dX4_read_220 : decode cX4_read 220 = .ok (.iconst 0, 1) := by decide +kernel
theorem dX4_read_221 : decode cX4_read 221 = .ok (.putfield 132, 3) := by decide +kernel
theorem dX4_read_224 : decode cX4_read 224 = .ok (.aload_n 0, 1) := by decide +kernel
theorem dX4_read_225 : decode cX4_read 225 = .ok (.getfield 132, 3) := by decide +kernel
theorem dX4_read_228 : decode cX4_read 228 = .ok (.ifCond .eq 9, 3) := by decide +kernel
theorem dX4_read_231 : decode cX4_read 231 = .ok (.aload_n 0, 1) := by decide +kernel
theorem dX4_read_232 : decode cX4_read 232 = .ok (.iload_n 2, 1) := by decide +kernel
theorem dX4_read_233 : decode cX4_read 233 = .ok (.iload_n 3, 1) := by decide +kernel
theorem dX4_read_234 : decode cX4_read 234 = .ok (.invokevirtual 136, 3) := by decide +kernel
theorem dX4_read_237 : decode cX4_read 237 = .ok (.aload_n 0, 1) := by decide +kernel
theorem dX4_read_238 : decode cX4_read 238 = .ok (.getfield 126, 3) := by decide +kernel
theorem dX4_read_241 : decode cX4_read 241 = .ok (.ireturn, 1) := by decide +kernel
theorem dX4_firstError_0 : decode cX4_firstError 0 = .ok (.aload_n 0, 1) := by decide +kernel
theorem dX4_firstError_1 : decode cX4_firstError 1 = .ok (.iconst 0, 1) := by decide +kernel
theorem dX4_firstError_2 : decode cX4_firstError 2 = .ok (.putfield 25, 3) := by decide +kernel
theorem dX4_firstError_5 : decode cX4_firstError 5 = .ok (.aload_n 0, 1) := by decide +kernel
theorem dX4_firstError_6 : decode cX4_firstError 6 = .ok (.invokevirtual 140, 3) := by decide +kernel
theorem dX4_firstError_9 : decode cX4_firstError 9 = .ok (.ireturn, 1) := by decide +kernel
theorem dX4_work_0 : decode cX4_work 0 = .ok (.aload_n 0, 1) := by decide +kernel
theorem dX4_work_1 : decode cX4_work 1 = .ok (.iconst 0, 1) := by decide +kernel
theorem dX4_work_2 : decode cX4_work 2 = .ok (.putfield 25, 3) := by decide +kernel
theorem dX4_work_5 : decode cX4_work 5 = .ok (.aload_n 0, 1) := by decide +kernel
theorem dX4_work_6 : decode cX4_work 6 = .ok (.invokevirtual 140, 3) := by decide +kernel
theorem dX4_work_9 : decode cX4_work 9 = .ok (.pop, 1) := by decide +kernel
theorem dX4_work_10 : decode cX4_work 10 = .ok (.aload_n 0, 1) := by decide +kernel
theorem dX4_work_11 : decode cX4_work 11 = .ok (.getfield 132, 3) := by decide +kernel
theorem dX4_work_14 : decode cX4_work 14 = .ok (.ifCond .ne 9, 3) := by decide +kernel
theorem dX4_work_17 : decode cX4_work 17 = .ok (.aload_n 0, 1) := by decide +kernel
theorem dX4_work_18 : decode cX4_work 18 = .ok (.iconst 1, 1) := by decide +kernel
theorem dX4_work_19 : decode cX4_work 19 = .ok (.invokevirtual 60, 3) := by decide +kernel
theorem dX4_work_22 : decode cX4_work 22 = .ok (.ireturn, 1) := by decide +kernel
theorem dX4_work_23 : decode cX4_work 23 = .ok (.aload_n 0, 1) := by decide +kernel
theorem dX4_work_24 : decode cX4_work 24 = .ok (.getfield 129, 3) := by decide +kernel
theorem dX4_work_27 : decode cX4_work 27 = .ok (.sipush 200, 3) := by decide +kernel
theorem dX4_work_30 : decode cX4_work 30 = .ok (.if_icmp .gt 21, 3) := by decide +kernel
theorem dX4_work_33 : decode cX4_work 33 = .ok (.aload_n 0, 1) := by decide +kernel
theorem dX4_work_34 : decode cX4_work 34 = .ok (.getfield 7, 3) := by decide +kernel
theorem dX4_work_37 : decode cX4_work 37 = .ok (.bipush 6, 2) := by decide +kernel
theorem dX4_work_39 : decode cX4_work 39 = .ok (.iaload, 1) := by decide +kernel
theorem dX4_work_40 : decode cX4_work 40 = .ok (.aload_n 0, 1) := by decide +kernel
theorem dX4_work_41 : decode cX4_work 41 = .ok (.getfield 129, 3) := by decide +kernel
theorem dX4_work_44 : decode cX4_work 44 = .ok (.iadd, 1) := by decide +kernel
theorem dX4_work_45 : decode cX4_work 45 = .ok (.sipush 1000, 3) := by decide +kernel
theorem dX4_work_48 : decode cX4_work 48 = .ok (.if_icmp .le 9, 3) := by decide +kernel
theorem dX4_work_51 : decode cX4_work 51 = .ok (.aload_n 0, 1) := by decide +kernel
theorem dX4_work_52 : decode cX4_work 52 = .ok (.iconst 2, 1) := by decide +kernel
theorem dX4_work_53 : decode cX4_work 53 = .ok (.invokevirtual 60, 3) := by decide +kernel
theorem dX4_work_56 : decode cX4_work 56 = .ok (.ireturn, 1) := by decide +kernel
theorem dX4_work_57 : decode cX4_work 57 = .ok (.aload_n 0, 1) := by decide +kernel
theorem dX4_work_58 : decode cX4_work 58 = .ok (.invokevirtual 63, 3) := by decide +kernel
theorem dX4_work_61 : decode cX4_work 61 = .ok (.aload_n 0, 1) := by decide +kernel
theorem dX4_work_62 : decode cX4_work 62 = .ok (.iconst 0, 1) := by decide +kernel
theorem dX4_work_63 : decode cX4_work 63 = .ok (.putfield 126, 3) := by decide +kernel
theorem dX4_work_66 : decode cX4_work 66 = .ok (.iconst 0, 1) := by decide +kernel
theorem dX4_work_67 : decode cX4_work 67 = .ok (.istore_n 1, 1) := by decide +kernel
theorem dX4_work_68 : decode cX4_work 68 = .ok (.iconst 0, 1) := by decide +kernel
theorem dX4_work_69 : decode cX4_work 69 = .ok (.istore_n 2, 1) := by decide +kernel
theorem dX4_work_70 : decode cX4_work 70 = .ok (.iload_n 2, 1) := by decide +kernel
theorem dX4_work_71 : decode cX4_work 71 = .ok (.aload_n 0, 1) := by decide +kernel
theorem dX4_work_72 : decode cX4_work 72 = .ok (.getfield 129, 3) := by decide +kernel
theorem dX4_work_75 : decode cX4_work 75 = .ok (.if_icmp .ge 22, 3) := by decide +kernel
theorem dX4_work_78 : decode cX4_work 78 = .ok (.iload_n 1, 1) := by decide +kernel
theorem dX4_work_79 : decode cX4_work 79 = .ok (.aload_n 0, 1) := by decide +kernel
theorem dX4_work_80 : decode cX4_work 80 = .ok (.aload_n 0, 1) := by decide +kernel
theorem dX4_work_81 : decode cX4_work 81 = .ok (.getfield 22, 3) := by decide +kernel
theorem dX4_work_84 : decode cX4_work 84 = .ok (.iload_n 2, 1) := by decide +kernel
theorem dX4_work_85 : decode cX4_work 85 = .ok (.iaload, 1) := by decide +kernel
theorem dX4_work_86 : decode cX4_work 86 = .ok (.invokevirtual 143, 3) := by decide +kernel
theorem dX4_work_89 : decode cX4_work 89 = .ok (.iadd, 1) := by decide +kernel
theorem dX4_work_90 : decode cX4_work 90 = .ok (.istore_n 1, 1) := by decide +kernel
theorem dX4_work_91 : decode cX4_work 91 = .ok (.iinc 2 1, 3) := by decide +kernel
theorem dX4_work_94 : decode cX4_work 94 = .ok (.goto (-24), 3) := by decide +kernel
theorem dX4_work_97 : decode cX4_work 97 = .ok (.iload_n 1, 1) := by decide +kernel
theorem dX4_work_98 : decode cX4_work 98 = .ok (.ireturn, 1) := by decide +kernel
theorem dX4_undo_0 : decode cX4_undo 0 = .ok (.aload_n 0, 1) := by decide +kernel
theorem dX4_undo_1 : decode cX4_undo 1 = .ok (.iconst 0, 1) := by decide +kernel
theorem dX4_undo_2 : decode cX4_undo 2 = .ok (.putfield 25, 3) := by decide +kernel
theorem dX4_undo_5 : decode cX4_undo 5 = .ok (.aload_n 0, 1) := by decide +kernel
theorem dX4_undo_6 : decode cX4_undo 6 = .ok (.getfield 33, 3) := by decide +kernel
theorem dX4_undo_9 : decode cX4_undo 9 = .ok (.ifCond .ne 9, 3) := by decide +kernel
theorem dX4_undo_12 : decode cX4_undo 12 = .ok (.aload_n 0, 1) := by decide +kernel
theorem dX4_undo_13 : decode cX4_undo 13 = .ok (.iconst 1, 1) := by decide +kernel
theorem dX4_undo_14 : decode cX4_undo 14 = .ok (.invokevirtual 60, 3) := by decide +kernel
theorem dX4_undo_17 : decode cX4_undo 17 = .ok (.ireturn, 1) := by decide +kernel
theorem dX4_undo_18 : decode cX4_undo 18 = .ok (.aload_n 0, 1) := by decide +kernel
theorem dX4_undo_19 : decode cX4_undo 19 = .ok (.dup, 1) := by decide +kernel
theorem dX4_undo_20 : decode cX4_undo 20 = .ok (.getfield 33, 3) := by decide +kernel
theorem dX4_undo_23 : decode cX4_undo 23 = .ok (.iconst 1, 1) := by decide +kernel
theorem dX4_undo_24 : decode cX4_undo 24 = .ok (.isub, 1) := by decide +kernel
theorem dX4_undo_25 : decode cX4_undo 25 = .ok (.putfield 33, 3) := by decide +kernel
theorem dX4_undo_28 : decode cX4_undo 28 = .ok (.iconst 0, 1) := by decide +kernel
theorem dX4_undo_29 : decode cX4_undo 29 = .ok (.istore_n 1, 1) := by decide +kernel
theorem dX4_undo_30 : decode cX4_undo 30 = .ok (.iload_n 1, 1) := by decide +kernel
theorem dX4_undo_31 : decode cX4_undo 31 = .ok (.sipush 294, 3) := by decide +kernel
theorem dX4_undo_34 : decode cX4_undo 34 = .ok (.if_icmp .ge 30, 3) := by decide +kernel
theorem dX4_undo_37 : decode cX4_undo 37 = .ok (.aload_n 0, 1) := by decide +kernel
theorem dX4_undo_38 : decode cX4_undo 38 = .ok (.getfield 7, 3) := by decide +kernel
theorem dX4_undo_41 : decode cX4_undo 41 = .ok (.iload_n 1, 1) := by decide +kernel
theorem dX4_undo_42 : decode cX4_undo 42 = .ok (.aload_n 0, 1) := by decide +kernel
theorem dX4_undo_43 : decode cX4_undo 43 = .ok (.getfield 16, 3) := by decide +kernel
theorem dX4_undo_46 : decode cX4_undo 46 = .ok (.sipush 294, 3) := by decide +kernel
theorem dX4_undo_49 : decode cX4_undo 49 = .ok (.aload_n 0, 1) := by decide +kernel
theorem dX4_undo_50 : decode cX4_undo 50 = .ok (.getfield 33, 3) := by decide +kernel
theorem dX4_undo_53 : decode cX4_undo 53 = .ok (.imul, 1) := by decide +kernel
theorem dX4_undo_54 : decode cX4_undo 54 = .ok (.iload_n 1, 1) := by decide +kernel
theorem dX4_undo_55 : decode cX4_undo 55 = .ok (.iadd, 1) := by decide +kernel
theorem dX4_undo_56 : decode cX4_undo 56 = .ok (.iaload, 1) := by decide +kernel
theorem dX4_undo_57 : decode cX4_undo 57 = .ok (.iastore, 1) := by decide +kernel
theorem dX4_undo_58 : decode cX4_undo 58 = .ok (.iinc 1 1, 3) := by decide +kernel
theorem dX4_undo_61 : decode cX4_undo 61 = .ok (.goto (-31), 3) := by decide +kernel
theorem dX4_undo_64 : decode cX4_undo 64 = .ok (.aload_n 0, 1) := by decide +kernel
theorem dX4_undo_65 : decode cX4_undo 65 = .ok (.getfield 33, 3) := by decide +kernel
theorem dX4_undo_68 : decode cX4_undo 68 = .ok (.ireturn, 1) := by decide +kernel
theorem dX4_courseNow_0 : decode cX4_courseNow 0 = .ok (.iload_n 2, 1) := by decide +kernel
theorem dX4_courseNow_1 : decode cX4_courseNow 1 = .ok (.tableswitch 87 0 5 #[39, 49, 55, 61, 75, 81], 39) := by decide +kernel
theorem dX4_courseNow_40 : decode cX4_courseNow 40 = .ok (.aload_n 0, 1) := by decide +kernel
theorem dX4_courseNow_41 : decode cX4_courseNow 41 = .ok (.getfield 7, 3) := by decide +kernel
theorem dX4_courseNow_44 : decode cX4_courseNow 44 = .ok (.bipush 14, 2) := by decide +kernel
theorem dX4_courseNow_46 : decode cX4_courseNow 46 = .ok (.iload_n 1, 1) := by decide +kernel
theorem dX4_courseNow_47 : decode cX4_courseNow 47 = .ok (.iadd, 1) := by decide +kernel
theorem dX4_courseNow_48 : decode cX4_courseNow 48 = .ok (.iaload, 1) := by decide +kernel
theorem dX4_courseNow_49 : decode cX4_courseNow 49 = .ok (.ireturn, 1) := by decide +kernel
theorem dX4_courseNow_50 : decode cX4_courseNow 50 = .ok (.aload_n 0, 1) := by decide +kernel
theorem dX4_courseNow_51 : decode cX4_courseNow 51 = .ok (.iload_n 1, 1) := by decide +kernel
theorem dX4_courseNow_52 : decode cX4_courseNow 52 = .ok (.invokevirtual 36, 3) := by decide +kernel
theorem dX4_courseNow_55 : decode cX4_courseNow 55 = .ok (.ireturn, 1) := by decide +kernel
theorem dX4_courseNow_56 : decode cX4_courseNow 56 = .ok (.aload_n 0, 1) := by decide +kernel
theorem dX4_courseNow_57 : decode cX4_courseNow 57 = .ok (.iload_n 1, 1) := by decide +kernel
theorem dX4_courseNow_58 : decode cX4_courseNow 58 = .ok (.invokevirtual 50, 3) := by decide +kernel
theorem dX4_courseNow_61 : decode cX4_courseNow 61 = .ok (.ireturn, 1) := by decide +kernel
theorem dX4_courseNow_62 : decode cX4_courseNow 62 = .ok (.aload_n 0, 1) := by decide +kernel
theorem dX4_courseNow_63 : decode cX4_courseNow 63 = .ok (.aload_n 0, 1) := by decide +kernel
theorem dX4_courseNow_64 : decode cX4_courseNow 64 = .ok (.getfield 7, 3) := by decide +kernel
theorem dX4_courseNow_67 : decode cX4_courseNow 67 = .ok (.bipush 14, 2) := by decide +kernel
theorem dX4_courseNow_69 : decode cX4_courseNow 69 = .ok (.iload_n 1, 1) := by decide +kernel
theorem dX4_courseNow_70 : decode cX4_courseNow 70 = .ok (.iadd, 1) := by decide +kernel
theorem dX4_courseNow_71 : decode cX4_courseNow 71 = .ok (.iaload, 1) := by decide +kernel
theorem dX4_courseNow_72 : decode cX4_courseNow 72 = .ok (.invokevirtual 44, 3) := by decide +kernel
theorem dX4_courseNow_75 : decode cX4_courseNow 75 = .ok (.ireturn, 1) := by decide +kernel
theorem dX4_courseNow_76 : decode cX4_courseNow 76 = .ok (.aload_n 0, 1) := by decide +kernel
theorem dX4_courseNow_77 : decode cX4_courseNow 77 = .ok (.iload_n 1, 1) := by decide +kernel
theorem dX4_courseNow_78 : decode cX4_courseNow 78 = .ok (.invokevirtual 47, 3) := by decide +kernel
theorem dX4_courseNow_81 : decode cX4_courseNow 81 = .ok (.ireturn, 1) := by decide +kernel
theorem dX4_courseNow_82 : decode cX4_courseNow 82 = .ok (.aload_n 0, 1) := by decide +kernel
theorem dX4_courseNow_83 : decode cX4_courseNow 83 = .ok (.iload_n 1, 1) := by decide +kernel
theorem dX4_courseNow_84 : decode cX4_courseNow 84 = .ok (.invokevirtual 90, 3) := by decide +kernel
theorem dX4_courseNow_87 : decode cX4_courseNow 87 = .ok (.ireturn, 1) := by decide +kernel
theorem dX4_courseNow_88 : decode cX4_courseNow 88 = .ok (.aload_n 0, 1) := by decide +kernel
theorem dX4_courseNow_89 : decode cX4_courseNow 89 = .ok (.iload_n 1, 1) := by decide +kernel
theorem dX4_courseNow_90 : decode cX4_courseNow 90 = .ok (.invokevirtual 146, 3) := by decide +kernel
theorem dX4_courseNow_93 : decode cX4_courseNow 93 = .ok (.ireturn, 1) := by decide +kernel
theorem dX4_courseOf_0 : decode cX4_courseOf 0 = .ok (.aload_n 0, 1) := by decide +kernel
theorem dX4_courseOf_1 : decode cX4_courseOf 1 = .ok (.iconst 0, 1) := by decide +kernel
theorem dX4_courseOf_2 : decode cX4_courseOf 2 = .ok (.putfield 25, 3) := by decide +kernel
theorem dX4_courseOf_5 : decode cX4_courseOf 5 = .ok (.iload_n 1, 1) := by decide +kernel
theorem dX4_courseOf_6 : decode cX4_courseOf 6 = .ok (.iconst 0, 1) := by decide +kernel
theorem dX4_courseOf_7 : decode cX4_courseOf 7 = .ok (.aload_n 0, 1) := by decide +kernel
theorem dX4_courseOf_8 : decode cX4_courseOf 8 = .ok (.invokevirtual 87, 3) := by decide +kernel
theorem dX4_courseOf_11 : decode cX4_courseOf 11 = .ok (.invokestatic 29, 3) := by decide +kernel
theorem dX4_courseOf_14 : decode cX4_courseOf 14 = .ok (.ifCond .ne 9, 3) := by decide +kernel
theorem dX4_courseOf_17 : decode cX4_courseOf 17 = .ok (.aload_n 0, 1) := by decide +kernel
theorem dX4_courseOf_18 : decode cX4_courseOf 18 = .ok (.iconst 1, 1) := by decide +kernel
theorem dX4_courseOf_19 : decode cX4_courseOf 19 = .ok (.invokevirtual 60, 3) := by decide +kernel
theorem dX4_courseOf_22 : decode cX4_courseOf 22 = .ok (.ireturn, 1) := by decide +kernel
theorem dX4_courseOf_23 : decode cX4_courseOf 23 = .ok (.iload_n 2, 1) := by decide +kernel
theorem dX4_courseOf_24 : decode cX4_courseOf 24 = .ok (.iconst 0, 1) := by decide +kernel
theorem dX4_courseOf_25 : decode cX4_courseOf 25 = .ok (.bipush 6, 2) := by decide +kernel
theorem dX4_courseOf_27 : decode cX4_courseOf 27 = .ok (.invokestatic 29, 3) := by decide +kernel
theorem dX4_courseOf_30 : decode cX4_courseOf 30 = .ok (.ifCond .eq 12, 3) := by decide +kernel
theorem dX4_courseOf_33 : decode cX4_courseOf 33 = .ok (.aload_n 0, 1) := by decide +kernel
theorem dX4_courseOf_34 : decode cX4_courseOf 34 = .ok (.iload_n 1, 1) := by decide +kernel
theorem dX4_courseOf_35 : decode cX4_courseOf 35 = .ok (.iload_n 2, 1) := by decide +kernel
theorem dX4_courseOf_36 : decode cX4_courseOf 36 = .ok (.invokevirtual 149, 3) := by decide +kernel
theorem dX4_courseOf_39 : decode cX4_courseOf 39 = .ok (.goto 8, 3) := by decide +kernel
theorem dX4_courseOf_42 : decode cX4_courseOf 42 = .ok (.aload_n 0, 1) := by decide +kernel
theorem dX4_courseOf_43 : decode cX4_courseOf 43 = .ok (.iconst 2, 1) := by decide +kernel
theorem dX4_courseOf_44 : decode cX4_courseOf 44 = .ok (.invokevirtual 60, 3) := by decide +kernel
theorem dX4_courseOf_47 : decode cX4_courseOf 47 = .ok (.ireturn, 1) := by decide +kernel
theorem dX4_lies_0 : decode cX4_lies 0 = .ok (.aload_n 0, 1) := by decide +kernel
theorem dX4_lies_1 : decode cX4_lies 1 = .ok (.iconst 0, 1) := by decide +kernel
theorem dX4_lies_2 : decode cX4_lies 2 = .ok (.putfield 25, 3) := by decide +kernel
theorem dX4_lies_5 : decode cX4_lies 5 = .ok (.aload_n 0, 1) := by decide +kernel
theorem dX4_lies_6 : decode cX4_lies 6 = .ok (.iload_n 1, 1) := by decide +kernel
theorem dX4_lies_7 : decode cX4_lies 7 = .ok (.iload_n 2, 1) := by decide +kernel
theorem dX4_lies_8 : decode cX4_lies 8 = .ok (.invokevirtual 101, 3) := by decide +kernel
theorem dX4_lies_11 : decode cX4_lies 11 = .ok (.ifCond .ne 18, 3) := by decide +kernel
theorem dX4_lies_14 : decode cX4_lies 14 = .ok (.aload_n 0, 1) := by decide +kernel
theorem dX4_lies_15 : decode cX4_lies 15 = .ok (.iconst 1, 1) := by decide +kernel
theorem dX4_lies_16 : decode cX4_lies 16 = .ok (.invokevirtual 60, 3) := by decide +kernel
theorem dX4_lies_19 : decode cX4_lies 19 = .ok (.iconst 1, 1) := by decide +kernel
theorem dX4_lies_20 : decode cX4_lies 20 = .ok (.if_icmp .ne 7, 3) := by decide +kernel
theorem dX4_lies_23 : decode cX4_lies 23 = .ok (.iconst 1, 1) := by decide +kernel
theorem dX4_lies_24 : decode cX4_lies 24 = .ok (.goto 4, 3) := by decide +kernel
theorem dX4_lies_27 : decode cX4_lies 27 = .ok (.iconst 0, 1) := by decide +kernel
theorem dX4_lies_28 : decode cX4_lies 28 = .ok (.ireturn, 1) := by decide +kernel
theorem dX4_lies_29 : decode cX4_lies 29 = .ok (.aload_n 0, 1) := by decide +kernel
theorem dX4_lies_30 : decode cX4_lies 30 = .ok (.iload_n 1, 1) := by decide +kernel
theorem dX4_lies_31 : decode cX4_lies 31 = .ok (.iload_n 2, 1) := by decide +kernel
theorem dX4_lies_32 : decode cX4_lies 32 = .ok (.invokevirtual 40, 3) := by decide +kernel
theorem dX4_lies_35 : decode cX4_lies 35 = .ok (.ireturn, 1) := by decide +kernel
theorem dX4_roofBy_0 : decode cX4_roofBy 0 = .ok (.iconst 0, 1) := by decide +kernel
theorem dX4_roofBy_1 : decode cX4_roofBy 1 = .ok (.istore_n 2, 1) := by decide +kernel
theorem dX4_roofBy_2 : decode cX4_roofBy 2 = .ok (.iconst 0, 1) := by decide +kernel
theorem dX4_roofBy_3 : decode cX4_roofBy 3 = .ok (.istore_n 3, 1) := by decide +kernel
theorem dX4_roofBy_4 : decode cX4_roofBy 4 = .ok (.iload_n 3, 1) := by decide +kernel
theorem dX4_roofBy_5 : decode cX4_roofBy 5 = .ok (.aload_n 0, 1) := by decide +kernel
theorem dX4_roofBy_6 : decode cX4_roofBy 6 = .ok (.getfield 7, 3) := by decide +kernel
theorem dX4_roofBy_9 : decode cX4_roofBy 9 = .ok (.iconst 2, 1) := by decide +kernel
theorem dX4_roofBy_10 : decode cX4_roofBy 10 = .ok (.iaload, 1) := by decide +kernel
theorem dX4_roofBy_11 : decode cX4_roofBy 11 = .ok (.if_icmp .ge 34, 3) := by decide +kernel
theorem dX4_roofBy_14 : decode cX4_roofBy 14 = .ok (.iload_n 2, 1) := by decide +kernel
theorem dX4_roofBy_15 : decode cX4_roofBy 15 = .ok (.aload_n 0, 1) := by decide +kernel
theorem dX4_roofBy_16 : decode cX4_roofBy 16 = .ok (.getfield 7, 3) := by decide +kernel
theorem dX4_roofBy_19 : decode cX4_roofBy 19 = .ok (.bipush 14, 2) := by decide +kernel
theorem dX4_roofBy_21 : decode cX4_roofBy 21 = .ok (.iload_n 3, 1) := by decide +kernel
theorem dX4_roofBy_22 : decode cX4_roofBy 22 = .ok (.iadd, 1) := by decide +kernel
theorem dX4_roofBy_23 : decode cX4_roofBy 23 = .ok (.iaload, 1) := by decide +kernel
theorem dX4_roofBy_24 : decode cX4_roofBy 24 = .ok (.iload_n 1, 1) := by decide +kernel
theorem dX4_roofBy_25 : decode cX4_roofBy 25 = .ok (.if_icmp .ne 11, 3) := by decide +kernel
theorem dX4_roofBy_28 : decode cX4_roofBy 28 = .ok (.aload_n 0, 1) := by decide +kernel
theorem dX4_roofBy_29 : decode cX4_roofBy 29 = .ok (.iload_n 3, 1) := by decide +kernel
theorem dX4_roofBy_30 : decode cX4_roofBy 30 = .ok (.invokevirtual 50, 3) := by decide +kernel
theorem dX4_roofBy_33 : decode cX4_roofBy 33 = .ok (.goto 4, 3) := by decide +kernel
theorem dX4_roofBy_36 : decode cX4_roofBy 36 = .ok (.iconst 0, 1) := by decide +kernel
theorem dX4_roofBy_37 : decode cX4_roofBy 37 = .ok (.iadd, 1) := by decide +kernel
theorem dX4_roofBy_38 : decode cX4_roofBy 38 = .ok (.istore_n 2, 1) := by decide +kernel
theorem dX4_roofBy_39 : decode cX4_roofBy 39 = .ok (.iinc 3 1, 3) := by decide +kernel
theorem dX4_roofBy_42 : decode cX4_roofBy 42 = .ok (.goto (-38), 3) := by decide +kernel
theorem dX4_roofBy_45 : decode cX4_roofBy 45 = .ok (.iload_n 2, 1) := by decide +kernel
theorem dX4_roofBy_46 : decode cX4_roofBy 46 = .ok (.ireturn, 1) := by decide +kernel
theorem dX4_slatesNow_0 : decode cX4_slatesNow 0 = .ok (.iload_n 2, 1) := by decide +kernel
theorem dX4_slatesNow_1 : decode cX4_slatesNow 1 = .ok (.tableswitch 70 0 3 #[31, 42, 53, 59], 31) := by decide +kernel
theorem dX4_slatesNow_32 : decode cX4_slatesNow 32 = .ok (.aload_n 0, 1) := by decide +kernel
theorem dX4_slatesNow_33 : decode cX4_slatesNow 33 = .ok (.getfield 7, 3) := by decide +kernel
theorem dX4_slatesNow_36 : decode cX4_slatesNow 36 = .ok (.sipush 214, 3) := by decide +kernel
theorem dX4_slatesNow_39 : decode cX4_slatesNow 39 = .ok (.iload_n 1, 1) := by decide +kernel
theorem dX4_slatesNow_40 : decode cX4_slatesNow 40 = .ok (.iadd, 1) := by decide +kernel
theorem dX4_slatesNow_41 : decode cX4_slatesNow 41 = .ok (.iaload, 1) := by decide +kernel
theorem dX4_slatesNow_42 : decode cX4_slatesNow 42 = .ok (.ireturn, 1) := by decide +kernel
theorem dX4_slatesNow_43 : decode cX4_slatesNow 43 = .ok (.aload_n 0, 1) := by decide +kernel
theorem dX4_slatesNow_44 : decode cX4_slatesNow 44 = .ok (.getfield 7, 3) := by decide +kernel
theorem dX4_slatesNow_47 : decode cX4_slatesNow 47 = .ok (.sipush 239, 3) := by decide +kernel
theorem dX4_slatesNow_50 : decode cX4_slatesNow 50 = .ok (.iload_n 1, 1) := by decide +kernel
theorem dX4_slatesNow_51 : decode cX4_slatesNow 51 = .ok (.iadd, 1) := by decide +kernel
theorem dX4_slatesNow_52 : decode cX4_slatesNow 52 = .ok (.iaload, 1) := by decide +kernel
theorem dX4_slatesNow_53 : decode cX4_slatesNow 53 = .ok (.ireturn, 1) := by decide +kernel
theorem dX4_slatesNow_54 : decode cX4_slatesNow 54 = .ok (.aload_n 0, 1) := by decide +kernel
theorem dX4_slatesNow_55 : decode cX4_slatesNow 55 = .ok (.iload_n 1, 1) := by decide +kernel
theorem dX4_slatesNow_56 : decode cX4_slatesNow 56 = .ok (.invokevirtual 152, 3) := by decide +kernel
theorem dX4_slatesNow_59 : decode cX4_slatesNow 59 = .ok (.ireturn, 1) := by decide +kernel
theorem dX4_slatesNow_60 : decode cX4_slatesNow 60 = .ok (.aload_n 0, 1) := by decide +kernel
theorem dX4_slatesNow_61 : decode cX4_slatesNow 61 = .ok (.getfield 7, 3) := by decide +kernel
theorem dX4_slatesNow_64 : decode cX4_slatesNow 64 = .ok (.sipush 264, 3) := by decide +kernel
theorem dX4_slatesNow_67 : decode cX4_slatesNow 67 = .ok (.iload_n 1, 1) := by decide +kernel
theorem dX4_slatesNow_68 : decode cX4_slatesNow 68 = .ok (.iadd, 1) := by decide +kernel
theorem dX4_slatesNow_69 : decode cX4_slatesNow 69 = .ok (.iaload, 1) := by decide +kernel
theorem dX4_slatesNow_70 : decode cX4_slatesNow 70 = .ok (.ireturn, 1) := by decide +kernel
theorem dX4_slatesNow_71 : decode cX4_slatesNow 71 = .ok (.iload_n 1, 1) := by decide +kernel
theorem dX4_slatesNow_72 : decode cX4_slatesNow 72 = .ok (.invokestatic 77, 3) := by decide +kernel
theorem dX4_slatesNow_75 : decode cX4_slatesNow 75 = .ok (.ireturn, 1) := by decide +kernel
theorem dX4_slates_0 : decode cX4_slates 0 = .ok (.aload_n 0, 1) := by decide +kernel
theorem dX4_slates_1 : decode cX4_slates 1 = .ok (.iconst 0, 1) := by decide +kernel
theorem dX4_slates_2 : decode cX4_slates 2 = .ok (.putfield 25, 3) := by decide +kernel
theorem dX4_slates_5 : decode cX4_slates 5 = .ok (.iload_n 1, 1) := by decide +kernel
theorem dX4_slates_6 : decode cX4_slates 6 = .ok (.invokestatic 69, 3) := by decide +kernel
theorem dX4_slates_9 : decode cX4_slates 9 = .ok (.ifCond .eq 21, 3) := by decide +kernel
theorem dX4_slates_12 : decode cX4_slates 12 = .ok (.iload_n 2, 1) := by decide +kernel
theorem dX4_slates_13 : decode cX4_slates 13 = .ok (.iconst 0, 1) := by decide +kernel
theorem dX4_slates_14 : decode cX4_slates 14 = .ok (.iconst 4, 1) := by decide +kernel
theorem dX4_slates_15 : decode cX4_slates 15 = .ok (.invokestatic 29, 3) := by decide +kernel
theorem dX4_slates_18 : decode cX4_slates 18 = .ok (.ifCond .eq 12, 3) := by decide +kernel
theorem dX4_slates_21 : decode cX4_slates 21 = .ok (.aload_n 0, 1) := by decide +kernel
theorem dX4_slates_22 : decode cX4_slates 22 = .ok (.iload_n 1, 1) := by decide +kernel
theorem dX4_slates_23 : decode cX4_slates 23 = .ok (.iload_n 2, 1) := by decide +kernel
theorem dX4_slates_24 : decode cX4_slates 24 = .ok (.invokevirtual 155, 3) := by decide +kernel
theorem dX4_slates_27 : decode cX4_slates 27 = .ok (.goto 8, 3) := by decide +kernel
theorem dX4_slates_30 : decode cX4_slates 30 = .ok (.aload_n 0, 1) := by decide +kernel
theorem dX4_slates_31 : decode cX4_slates 31 = .ok (.iconst 1, 1) := by decide +kernel
theorem dX4_slates_32 : decode cX4_slates 32 = .ok (.invokevirtual 60, 3) := by decide +kernel
theorem dX4_slates_35 : decode cX4_slates 35 = .ok (.ireturn, 1) := by decide +kernel
theorem dX4_counted_0 : decode cX4_counted 0 = .ok (.iload_n 1, 1) := by decide +kernel
theorem dX4_counted_1 : decode cX4_counted 1 = .ok (.tableswitch 224 0 17 #[87, 94, 101, 108, 113, 118, 123, 136, 144, 152, 160, 168, 176, 184, 192, 200, 208, 216], 87) := by decide +kernel
theorem dX4_counted_88 : decode cX4_counted 88 = .ok (.aload_n 0, 1) := by decide +kernel
theorem dX4_counted_89 : decode cX4_counted 89 = .ok (.getfield 7, 3) := by decide +kernel
theorem dX4_counted_92 : decode cX4_counted 92 = .ok (.iconst 0, 1) := by decide +kernel
theorem dX4_counted_93 : decode cX4_counted 93 = .ok (.iaload, 1) := by decide +kernel
theorem dX4_counted_94 : decode cX4_counted 94 = .ok (.ireturn, 1) := by decide +kernel
theorem dX4_counted_95 : decode cX4_counted 95 = .ok (.aload_n 0, 1) := by decide +kernel
theorem dX4_counted_96 : decode cX4_counted 96 = .ok (.getfield 7, 3) := by decide +kernel
theorem dX4_counted_99 : decode cX4_counted 99 = .ok (.iconst 1, 1) := by decide +kernel
theorem dX4_counted_100 : decode cX4_counted 100 = .ok (.iaload, 1) := by decide +kernel
theorem dX4_counted_101 : decode cX4_counted 101 = .ok (.ireturn, 1) := by decide +kernel
theorem dX4_counted_102 : decode cX4_counted 102 = .ok (.aload_n 0, 1) := by decide +kernel
theorem dX4_counted_103 : decode cX4_counted 103 = .ok (.getfield 7, 3) := by decide +kernel
theorem dX4_counted_106 : decode cX4_counted 106 = .ok (.iconst 2, 1) := by decide +kernel
theorem dX4_counted_107 : decode cX4_counted 107 = .ok (.iaload, 1) := by decide +kernel
theorem dX4_counted_108 : decode cX4_counted 108 = .ok (.ireturn, 1) := by decide +kernel
theorem dX4_counted_109 : decode cX4_counted 109 = .ok (.aload_n 0, 1) := by decide +kernel
theorem dX4_counted_110 : decode cX4_counted 110 = .ok (.invokevirtual 53, 3) := by decide +kernel
theorem dX4_counted_113 : decode cX4_counted 113 = .ok (.ireturn, 1) := by decide +kernel
theorem dX4_counted_114 : decode cX4_counted 114 = .ok (.aload_n 0, 1) := by decide +kernel
theorem dX4_counted_115 : decode cX4_counted 115 = .ok (.invokevirtual 66, 3) := by decide +kernel
theorem dX4_counted_118 : decode cX4_counted 118 = .ok (.ireturn, 1) := by decide +kernel
theorem dX4_counted_119 : decode cX4_counted 119 = .ok (.aload_n 0, 1) := by decide +kernel
theorem dX4_counted_120 : decode cX4_counted 120 = .ok (.invokevirtual 57, 3) := by decide +kernel
theorem dX4_counted_123 : decode cX4_counted 123 = .ok (.ireturn, 1) := by decide +kernel
theorem dX4_counted_124 : decode cX4_counted 124 = .ok (.aload_n 0, 1) := by decide +kernel
theorem dX4_counted_125 : decode cX4_counted 125 = .ok (.invokevirtual 107, 3) := by decide +kernel
theorem dX4_counted_128 : decode cX4_counted 128 = .ok (.ifCond .eq 7, 3) := by decide +kernel
theorem dX4_counted_131 : decode cX4_counted 131 = .ok (.iconst 1, 1) := by decide +kernel
theorem dX4_counted_132 : decode cX4_counted 132 = .ok (.goto 4, 3) := by decide +kernel
theorem dX4_counted_135 : decode cX4_counted 135 = .ok (.iconst 0, 1) := by decide +kernel
theorem dX4_counted_136 : decode cX4_counted 136 = .ok (.ireturn, 1) := by decide +kernel
theorem dX4_counted_137 : decode cX4_counted 137 = .ok (.aload_n 0, 1) := by decide +kernel
theorem dX4_counted_138 : decode cX4_counted 138 = .ok (.getfield 7, 3) := by decide +kernel
theorem dX4_counted_141 : decode cX4_counted 141 = .ok (.bipush 6, 2) := by decide +kernel
theorem dX4_counted_143 : decode cX4_counted 143 = .ok (.iaload, 1) := by decide +kernel
theorem dX4_counted_144 : decode cX4_counted 144 = .ok (.ireturn, 1) := by decide +kernel
theorem dX4_counted_145 : decode cX4_counted 145 = .ok (.aload_n 0, 1) := by decide +kernel
theorem dX4_counted_146 : decode cX4_counted 146 = .ok (.getfield 7, 3) := by decide +kernel
theorem dX4_counted_149 : decode cX4_counted 149 = .ok (.bipush 7, 2) := by decide +kernel
theorem dX4_counted_151 : decode cX4_counted 151 = .ok (.iaload, 1) := by decide +kernel
theorem dX4_counted_152 : decode cX4_counted 152 = .ok (.ireturn, 1) := by decide +kernel
theorem dX4_counted_153 : decode cX4_counted 153 = .ok (.aload_n 0, 1) := by decide +kernel
theorem dX4_counted_154 : decode cX4_counted 154 = .ok (.getfield 7, 3) := by decide +kernel
theorem dX4_counted_157 : decode cX4_counted 157 = .ok (.bipush 8, 2) := by decide +kernel
theorem dX4_counted_159 : decode cX4_counted 159 = .ok (.iaload, 1) := by decide +kernel
theorem dX4_counted_160 : decode cX4_counted 160 = .ok (.ireturn, 1) := by decide +kernel
theorem dX4_counted_161 : decode cX4_counted 161 = .ok (.aload_n 0, 1) := by decide +kernel
theorem dX4_counted_162 : decode cX4_counted 162 = .ok (.getfield 7, 3) := by decide +kernel
theorem dX4_counted_165 : decode cX4_counted 165 = .ok (.bipush 9, 2) := by decide +kernel
theorem dX4_counted_167 : decode cX4_counted 167 = .ok (.iaload, 1) := by decide +kernel
theorem dX4_counted_168 : decode cX4_counted 168 = .ok (.ireturn, 1) := by decide +kernel
theorem dX4_counted_169 : decode cX4_counted 169 = .ok (.aload_n 0, 1) := by decide +kernel
theorem dX4_counted_170 : decode cX4_counted 170 = .ok (.sipush 264, 3) := by decide +kernel
theorem dX4_counted_173 : decode cX4_counted 173 = .ok (.invokevirtual 73, 3) := by decide +kernel
theorem dX4_counted_176 : decode cX4_counted 176 = .ok (.ireturn, 1) := by decide +kernel
theorem dX4_counted_177 : decode cX4_counted 177 = .ok (.aload_n 0, 1) := by decide +kernel
theorem dX4_counted_178 : decode cX4_counted 178 = .ok (.sipush 214, 3) := by decide +kernel
theorem dX4_counted_181 : decode cX4_counted 181 = .ok (.invokevirtual 73, 3) := by decide +kernel
theorem dX4_counted_184 : decode cX4_counted 184 = .ok (.ireturn, 1) := by decide +kernel
theorem dX4_counted_185 : decode cX4_counted 185 = .ok (.aload_n 0, 1) := by decide +kernel
theorem dX4_counted_186 : decode cX4_counted 186 = .ok (.sipush 239, 3) := by decide +kernel
theorem dX4_counted_189 : decode cX4_counted 189 = .ok (.invokevirtual 73, 3) := by decide +kernel
theorem dX4_counted_192 : decode cX4_counted 192 = .ok (.ireturn, 1) := by decide +kernel
theorem dX4_counted_193 : decode cX4_counted 193 = .ok (.aload_n 0, 1) := by decide +kernel
theorem dX4_counted_194 : decode cX4_counted 194 = .ok (.getfield 7, 3) := by decide +kernel
theorem dX4_counted_197 : decode cX4_counted 197 = .ok (.bipush 10, 2) := by decide +kernel
theorem dX4_counted_199 : decode cX4_counted 199 = .ok (.iaload, 1) := by decide +kernel
theorem dX4_counted_200 : decode cX4_counted 200 = .ok (.ireturn, 1) := by decide +kernel
theorem dX4_counted_201 : decode cX4_counted 201 = .ok (.aload_n 0, 1) := by decide +kernel
theorem dX4_counted_202 : decode cX4_counted 202 = .ok (.getfield 7, 3) := by decide +kernel
theorem dX4_counted_205 : decode cX4_counted 205 = .ok (.bipush 11, 2) := by decide +kernel
theorem dX4_counted_207 : decode cX4_counted 207 = .ok (.iaload, 1) := by decide +kernel
theorem dX4_counted_208 : decode cX4_counted 208 = .ok (.ireturn, 1) := by decide +kernel
theorem dX4_counted_209 : decode cX4_counted 209 = .ok (.aload_n 0, 1) := by decide +kernel
theorem dX4_counted_210 : decode cX4_counted 210 = .ok (.getfield 7, 3) := by decide +kernel
theorem dX4_counted_213 : decode cX4_counted 213 = .ok (.bipush 12, 2) := by decide +kernel
theorem dX4_counted_215 : decode cX4_counted 215 = .ok (.iaload, 1) := by decide +kernel
theorem dX4_counted_216 : decode cX4_counted 216 = .ok (.ireturn, 1) := by decide +kernel
theorem dX4_counted_217 : decode cX4_counted 217 = .ok (.aload_n 0, 1) := by decide +kernel
theorem dX4_counted_218 : decode cX4_counted 218 = .ok (.getfield 7, 3) := by decide +kernel
theorem dX4_counted_221 : decode cX4_counted 221 = .ok (.bipush 13, 2) := by decide +kernel
theorem dX4_counted_223 : decode cX4_counted 223 = .ok (.iaload, 1) := by decide +kernel
theorem dX4_counted_224 : decode cX4_counted 224 = .ok (.ireturn, 1) := by decide +kernel
theorem dX4_counted_225 : decode cX4_counted 225 = .ok (.aload_n 0, 1) := by decide +kernel
theorem dX4_counted_226 : decode cX4_counted 226 = .ok (.getfield 33, 3) := by decide +kernel
theorem dX4_counted_229 : decode cX4_counted 229 = .ok (.ireturn, 1) := by decide +kernel
theorem dX4_count_0 : decode cX4_count 0 = .ok (.aload_n 0, 1) := by decide +kernel
theorem dX4_count_1 : decode cX4_count 1 = .ok (.iconst 0, 1) := by decide +kernel
theorem dX4_count_2 : decode cX4_count 2 = .ok (.putfield 25, 3) := by decide +kernel
theorem dX4_count_5 : decode cX4_count 5 = .ok (.iload_n 1, 1) := by decide +kernel
theorem dX4_count_6 : decode cX4_count 6 = .ok (.iconst 0, 1) := by decide +kernel
theorem dX4_count_7 : decode cX4_count 7 = .ok (.bipush 18, 2) := by decide +kernel
theorem dX4_count_9 : decode cX4_count 9 = .ok (.invokestatic 29, 3) := by decide +kernel
theorem dX4_count_12 : decode cX4_count 12 = .ok (.ifCond .eq 11, 3) := by decide +kernel
theorem dX4_count_15 : decode cX4_count 15 = .ok (.aload_n 0, 1) := by decide +kernel
theorem dX4_count_16 : decode cX4_count 16 = .ok (.iload_n 1, 1) := by decide +kernel
theorem dX4_count_17 : decode cX4_count 17 = .ok (.invokevirtual 158, 3) := by decide +kernel
theorem dX4_count_20 : decode cX4_count 20 = .ok (.goto 8, 3) := by decide +kernel
theorem dX4_count_23 : decode cX4_count 23 = .ok (.aload_n 0, 1) := by decide +kernel
theorem dX4_count_24 : decode cX4_count 24 = .ok (.iconst 1, 1) := by decide +kernel
theorem dX4_count_25 : decode cX4_count 25 = .ok (.invokevirtual 60, 3) := by decide +kernel
theorem dX4_count_28 : decode cX4_count 28 = .ok (.ireturn, 1) := by decide +kernel
theorem dX4_setting_0 : decode cX4_setting 0 = .ok (.aload_n 0, 1) := by decide +kernel
theorem dX4_setting_1 : decode cX4_setting 1 = .ok (.iconst 0, 1) := by decide +kernel
theorem dX4_setting_2 : decode cX4_setting 2 = .ok (.putfield 25, 3) := by decide +kernel
theorem dX4_setting_5 : decode cX4_setting 5 = .ok (.iload_n 1, 1) := by decide +kernel
theorem dX4_setting_6 : decode cX4_setting 6 = .ok (.iconst 0, 1) := by decide +kernel
theorem dX4_setting_7 : decode cX4_setting 7 = .ok (.iconst 2, 1) := by decide +kernel
theorem dX4_setting_8 : decode cX4_setting 8 = .ok (.invokestatic 29, 3) := by decide +kernel
theorem dX4_setting_11 : decode cX4_setting 11 = .ok (.ifCond .eq 14, 3) := by decide +kernel
theorem dX4_setting_14 : decode cX4_setting 14 = .ok (.aload_n 0, 1) := by decide +kernel
theorem dX4_setting_15 : decode cX4_setting 15 = .ok (.getfield 7, 3) := by decide +kernel
theorem dX4_setting_18 : decode cX4_setting 18 = .ok (.iconst 3, 1) := by decide +kernel
theorem dX4_setting_19 : decode cX4_setting 19 = .ok (.iload_n 1, 1) := by decide +kernel
theorem dX4_setting_20 : decode cX4_setting 20 = .ok (.iadd, 1) := by decide +kernel
theorem dX4_setting_21 : decode cX4_setting 21 = .ok (.iaload, 1) := by decide +kernel
theorem dX4_setting_22 : decode cX4_setting 22 = .ok (.goto 8, 3) := by decide +kernel
theorem dX4_setting_25 : decode cX4_setting 25 = .ok (.aload_n 0, 1) := by decide +kernel
theorem dX4_setting_26 : decode cX4_setting 26 = .ok (.iconst 1, 1) := by decide +kernel
theorem dX4_setting_27 : decode cX4_setting 27 = .ok (.invokevirtual 60, 3) := by decide +kernel
theorem dX4_setting_30 : decode cX4_setting 30 = .ok (.ireturn, 1) := by decide +kernel
theorem dX4_toTopNow_0 : decode cX4_toTopNow 0 = .ok (.iload_n 1, 1) := by decide +kernel
theorem dX4_toTopNow_1 : decode cX4_toTopNow 1 = .ok (.aload_n 0, 1) := by decide +kernel
theorem dX4_toTopNow_2 : decode cX4_toTopNow 2 = .ok (.invokevirtual 84, 3) := by decide +kernel
theorem dX4_toTopNow_5 : decode cX4_toTopNow 5 = .ok (.if_icmp .le 5, 3) := by decide +kernel
theorem dX4_toTopNow_8 : decode cX4_toTopNow 8 = .ok (.iconst (-1), 1) := by decide +kernel
theorem dX4_toTopNow_9 : decode cX4_toTopNow 9 = .ok (.ireturn, 1) := by decide +kernel
theorem dX4_toTopNow_10 : decode cX4_toTopNow 10 = .ok (.aload_n 0, 1) := by decide +kernel
theorem dX4_toTopNow_11 : decode cX4_toTopNow 11 = .ok (.invokevirtual 53, 3) := by decide +kernel
theorem dX4_toTopNow_14 : decode cX4_toTopNow 14 = .ok (.istore_n 3, 1) := by decide +kernel
theorem dX4_toTopNow_15 : decode cX4_toTopNow 15 = .ok (.iconst 0, 1) := by decide +kernel
theorem dX4_toTopNow_16 : decode cX4_toTopNow 16 = .ok (.istore 4, 2) := by decide +kernel
theorem dX4_toTopNow_18 : decode cX4_toTopNow 18 = .ok (.iconst 0, 1) := by decide +kernel
theorem dX4_toTopNow_19 : decode cX4_toTopNow 19 = .ok (.istore 5, 2) := by decide +kernel
theorem dX4_toTopNow_21 : decode cX4_toTopNow 21 = .ok (.iload_n 3, 1) := by decide +kernel
theorem dX4_toTopNow_22 : decode cX4_toTopNow 22 = .ok (.aload_n 0, 1) := by decide +kernel
theorem dX4_toTopNow_23 : decode cX4_toTopNow 23 = .ok (.getfield 7, 3) := by decide +kernel
theorem dX4_toTopNow_26 : decode cX4_toTopNow 26 = .ok (.iconst 0, 1) := by decide +kernel
theorem dX4_toTopNow_27 : decode cX4_toTopNow 27 = .ok (.iaload, 1) := by decide +kernel
theorem dX4_toTopNow_28 : decode cX4_toTopNow 28 = .ok (.if_icmp .ge 35, 3) := by decide +kernel
theorem dX4_toTopNow_31 : decode cX4_toTopNow 31 = .ok (.iload_n 3, 1) := by decide +kernel
theorem dX4_toTopNow_32 : decode cX4_toTopNow 32 = .ok (.aload_n 0, 1) := by decide +kernel
theorem dX4_toTopNow_33 : decode cX4_toTopNow 33 = .ok (.iload_n 1, 1) := by decide +kernel
theorem dX4_toTopNow_34 : decode cX4_toTopNow 34 = .ok (.invokevirtual 44, 3) := by decide +kernel
theorem dX4_toTopNow_37 : decode cX4_toTopNow 37 = .ok (.iadd, 1) := by decide +kernel
theorem dX4_toTopNow_38 : decode cX4_toTopNow 38 = .ok (.istore_n 3, 1) := by decide +kernel
theorem dX4_toTopNow_39 : decode cX4_toTopNow 39 = .ok (.iload 5, 2) := by decide +kernel
theorem dX4_toTopNow_41 : decode cX4_toTopNow 41 = .ok (.aload_n 0, 1) := by decide +kernel
theorem dX4_toTopNow_42 : decode cX4_toTopNow 42 = .ok (.aload_n 0, 1) := by decide +kernel
theorem dX4_toTopNow_43 : decode cX4_toTopNow 43 = .ok (.getfield 7, 3) := by decide +kernel
theorem dX4_toTopNow_46 : decode cX4_toTopNow 46 = .ok (.iconst 2, 1) := by decide +kernel
theorem dX4_toTopNow_47 : decode cX4_toTopNow 47 = .ok (.iaload, 1) := by decide +kernel
theorem dX4_toTopNow_48 : decode cX4_toTopNow 48 = .ok (.iload 4, 2) := by decide +kernel
theorem dX4_toTopNow_50 : decode cX4_toTopNow 50 = .ok (.iadd, 1) := by decide +kernel
theorem dX4_toTopNow_51 : decode cX4_toTopNow 51 = .ok (.invokevirtual 36, 3) := by decide +kernel
theorem dX4_toTopNow_54 : decode cX4_toTopNow 54 = .ok (.iadd, 1) := by decide +kernel
theorem dX4_toTopNow_55 : decode cX4_toTopNow 55 = .ok (.istore 5, 2) := by decide +kernel
theorem dX4_toTopNow_57 : decode cX4_toTopNow 57 = .ok (.iinc 4 1, 3) := by decide +kernel
theorem dX4_toTopNow_60 : decode cX4_toTopNow 60 = .ok (.goto (-39), 3) := by decide +kernel
theorem dX4_toTopNow_63 : decode cX4_toTopNow 63 = .ok (.iload_n 2, 1) := by decide +kernel
theorem dX4_toTopNow_64 : decode cX4_toTopNow 64 = .ok (.ifCond .ne 8, 3) := by decide +kernel
theorem dX4_toTopNow_67 : decode cX4_toTopNow 67 = .ok (.iload 4, 2) := by decide +kernel
theorem dX4_toTopNow_69 : decode cX4_toTopNow 69 = .ok (.goto 5, 3) := by decide +kernel
theorem dX4_toTopNow_72 : decode cX4_toTopNow 72 = .ok (.iload 5, 2) := by decide +kernel
theorem dX4_toTopNow_74 : decode cX4_toTopNow 74 = .ok (.ireturn, 1) := by decide +kernel
theorem dX4_toTop_0 : decode cX4_toTop 0 = .ok (.aload_n 0, 1) := by decide +kernel
theorem dX4_toTop_1 : decode cX4_toTop 1 = .ok (.iconst 0, 1) := by decide +kernel
theorem dX4_toTop_2 : decode cX4_toTop 2 = .ok (.putfield 25, 3) := by decide +kernel
theorem dX4_toTop_5 : decode cX4_toTop 5 = .ok (.iload_n 1, 1) := by decide +kernel
theorem dX4_toTop_6 : decode cX4_toTop 6 = .ok (.invokestatic 69, 3) := by decide +kernel
theorem dX4_toTop_9 : decode cX4_toTop 9 = .ok (.ifCond .eq 21, 3) := by decide +kernel
theorem dX4_toTop_12 : decode cX4_toTop 12 = .ok (.iload_n 2, 1) := by decide +kernel
theorem dX4_toTop_13 : decode cX4_toTop 13 = .ok (.iconst 0, 1) := by decide +kernel
theorem dX4_toTop_14 : decode cX4_toTop 14 = .ok (.iconst 1, 1) := by decide +kernel
theorem dX4_toTop_15 : decode cX4_toTop 15 = .ok (.invokestatic 29, 3) := by decide +kernel
theorem dX4_toTop_18 : decode cX4_toTop 18 = .ok (.ifCond .eq 12, 3) := by decide +kernel
theorem dX4_toTop_21 : decode cX4_toTop 21 = .ok (.aload_n 0, 1) := by decide +kernel
theorem dX4_toTop_22 : decode cX4_toTop 22 = .ok (.iload_n 1, 1) := by decide +kernel
theorem dX4_toTop_23 : decode cX4_toTop 23 = .ok (.iload_n 2, 1) := by decide +kernel
theorem dX4_toTop_24 : decode cX4_toTop 24 = .ok (.invokevirtual 161, 3) := by decide +kernel
theorem dX4_toTop_27 : decode cX4_toTop 27 = .ok (.goto 8, 3) := by decide +kernel
theorem dX4_toTop_30 : decode cX4_toTop 30 = .ok (.aload_n 0, 1) := by decide +kernel
theorem dX4_toTop_31 : decode cX4_toTop 31 = .ok (.iconst 1, 1) := by decide +kernel
theorem dX4_toTop_32 : decode cX4_toTop 32 = .ok (.invokevirtual 60, 3) := by decide +kernel
theorem dX4_toTop_35 : decode cX4_toTop 35 = .ok (.ireturn, 1) := by decide +kernel
theorem dX4_reachNow_0 : decode cX4_reachNow 0 = .ok (.aload_n 0, 1) := by decide +kernel
theorem dX4_reachNow_1 : decode cX4_reachNow 1 = .ok (.invokevirtual 164, 3) := by decide +kernel
theorem dX4_reachNow_4 : decode cX4_reachNow 4 = .ok (.iconst 0, 1) := by decide +kernel
theorem dX4_reachNow_5 : decode cX4_reachNow 5 = .ok (.istore_n 2, 1) := by decide +kernel
theorem dX4_reachNow_6 : decode cX4_reachNow 6 = .ok (.aload_n 0, 1) := by decide +kernel
theorem dX4_reachNow_7 : decode cX4_reachNow 7 = .ok (.iconst (-1), 1) := by decide +kernel
theorem dX4_reachNow_8 : decode cX4_reachNow 8 = .ok (.putfield 167, 3) := by decide +kernel
theorem dX4_reachNow_11 : decode cX4_reachNow 11 = .ok (.aload_n 0, 1) := by decide +kernel
theorem dX4_reachNow_12 : decode cX4_reachNow 12 = .ok (.invokevirtual 120, 3) := by decide +kernel
theorem dX4_reachNow_15 : decode cX4_reachNow 15 = .ok (.istore_n 3, 1) := by decide +kernel
theorem dX4_reachNow_16 : decode cX4_reachNow 16 = .ok (.aload_n 0, 1) := by decide +kernel
theorem dX4_reachNow_17 : decode cX4_reachNow 17 = .ok (.invokevirtual 53, 3) := by decide +kernel
theorem dX4_reachNow_20 : decode cX4_reachNow 20 = .ok (.aload_n 0, 1) := by decide +kernel
theorem dX4_reachNow_21 : decode cX4_reachNow 21 = .ok (.getfield 7, 3) := by decide +kernel
theorem dX4_reachNow_24 : decode cX4_reachNow 24 = .ok (.iconst 0, 1) := by decide +kernel
theorem dX4_reachNow_25 : decode cX4_reachNow 25 = .ok (.iaload, 1) := by decide +kernel
theorem dX4_reachNow_26 : decode cX4_reachNow 26 = .ok (.if_icmp .ge 63, 3) := by decide +kernel
theorem dX4_reachNow_29 : decode cX4_reachNow 29 = .ok (.aload_n 0, 1) := by decide +kernel
theorem dX4_reachNow_30 : decode cX4_reachNow 30 = .ok (.getfield 7, 3) := by decide +kernel
theorem dX4_reachNow_33 : decode cX4_reachNow 33 = .ok (.iconst 2, 1) := by decide +kernel
theorem dX4_reachNow_34 : decode cX4_reachNow 34 = .ok (.iaload, 1) := by decide +kernel
theorem dX4_reachNow_35 : decode cX4_reachNow 35 = .ok (.bipush 100, 2) := by decide +kernel
theorem dX4_reachNow_37 : decode cX4_reachNow 37 = .ok (.if_icmp .ge 52, 3) := by decide +kernel
theorem dX4_reachNow_40 : decode cX4_reachNow 40 = .ok (.iload_n 3, 1) := by decide +kernel
theorem dX4_reachNow_41 : decode cX4_reachNow 41 = .ok (.iconst (-1), 1) := by decide +kernel
theorem dX4_reachNow_42 : decode cX4_reachNow 42 = .ok (.if_icmp .eq 47, 3) := by decide +kernel
theorem dX4_reachNow_45 : decode cX4_reachNow 45 = .ok (.aload_n 0, 1) := by decide +kernel
theorem dX4_reachNow_46 : decode cX4_reachNow 46 = .ok (.getfield 7, 3) := by decide +kernel
theorem dX4_reachNow_49 : decode cX4_reachNow 49 = .ok (.sipush 214, 3) := by decide +kernel
theorem dX4_reachNow_52 : decode cX4_reachNow 52 = .ok (.iload_n 3, 1) := by decide +kernel
theorem dX4_reachNow_53 : decode cX4_reachNow 53 = .ok (.iadd, 1) := by decide +kernel
theorem dX4_reachNow_54 : decode cX4_reachNow 54 = .ok (.dup2, 1) := by decide +kernel
theorem dX4_reachNow_55 : decode cX4_reachNow 55 = .ok (.iaload, 1) := by decide +kernel
theorem dX4_reachNow_56 : decode cX4_reachNow 56 = .ok (.aload_n 0, 1) := by decide +kernel
theorem dX4_reachNow_57 : decode cX4_reachNow 57 = .ok (.aload_n 0, 1) := by decide +kernel
theorem dX4_reachNow_58 : decode cX4_reachNow 58 = .ok (.getfield 7, 3) := by decide +kernel
theorem dX4_reachNow_61 : decode cX4_reachNow 61 = .ok (.iconst 2, 1) := by decide +kernel
theorem dX4_reachNow_62 : decode cX4_reachNow 62 = .ok (.iaload, 1) := by decide +kernel
theorem dX4_reachNow_63 : decode cX4_reachNow 63 = .ok (.invokevirtual 36, 3) := by decide +kernel
theorem dX4_reachNow_66 : decode cX4_reachNow 66 = .ok (.isub, 1) := by decide +kernel
theorem dX4_reachNow_67 : decode cX4_reachNow 67 = .ok (.iastore, 1) := by decide +kernel
theorem dX4_reachNow_68 : decode cX4_reachNow 68 = .ok (.aload_n 0, 1) := by decide +kernel
theorem dX4_reachNow_69 : decode cX4_reachNow 69 = .ok (.iload_n 3, 1) := by decide +kernel
theorem dX4_reachNow_70 : decode cX4_reachNow 70 = .ok (.invokevirtual 93, 3) := by decide +kernel
theorem dX4_reachNow_73 : decode cX4_reachNow 73 = .ok (.iinc 2 1, 3) := by decide +kernel
theorem dX4_reachNow_76 : decode cX4_reachNow 76 = .ok (.aload_n 0, 1) := by decide +kernel
theorem dX4_reachNow_77 : decode cX4_reachNow 77 = .ok (.iload_n 3, 1) := by decide +kernel
theorem dX4_reachNow_78 : decode cX4_reachNow 78 = .ok (.putfield 167, 3) := by decide +kernel
theorem dX4_reachNow_81 : decode cX4_reachNow 81 = .ok (.aload_n 0, 1) := by decide +kernel
theorem dX4_reachNow_82 : decode cX4_reachNow 82 = .ok (.invokevirtual 120, 3) := by decide +kernel
theorem dX4_reachNow_85 : decode cX4_reachNow 85 = .ok (.istore_n 3, 1) := by decide +kernel
theorem dX4_reachNow_86 : decode cX4_reachNow 86 = .ok (.goto (-70), 3) := by decide +kernel
theorem dX4_reachNow_89 : decode cX4_reachNow 89 = .ok (.aload_n 0, 1) := by decide +kernel
theorem dX4_reachNow_90 : decode cX4_reachNow 90 = .ok (.aload_n 0, 1) := by decide +kernel
theorem dX4_reachNow_91 : decode cX4_reachNow 91 = .ok (.invokevirtual 53, 3) := by decide +kernel
theorem dX4_reachNow_94 : decode cX4_reachNow 94 = .ok (.putfield 170, 3) := by decide +kernel
theorem dX4_reachNow_97 : decode cX4_reachNow 97 = .ok (.aload_n 0, 1) := by decide +kernel
theorem dX4_reachNow_98 : decode cX4_reachNow 98 = .ok (.aload_n 0, 1) := by decide +kernel
theorem dX4_reachNow_99 : decode cX4_reachNow 99 = .ok (.sipush 214, 3) := by decide +kernel
theorem dX4_reachNow_102 : decode cX4_reachNow 102 = .ok (.invokevirtual 73, 3) := by decide +kernel
theorem dX4_reachNow_105 : decode cX4_reachNow 105 = .ok (.putfield 173, 3) := by decide +kernel
theorem dX4_reachNow_108 : decode cX4_reachNow 108 = .ok (.aload_n 0, 1) := by decide +kernel
theorem dX4_reachNow_109 : decode cX4_reachNow 109 = .ok (.invokevirtual 176, 3) := by decide +kernel
theorem dX4_reachNow_112 : decode cX4_reachNow 112 = .ok (.iload_n 1, 1) := by decide +kernel
theorem dX4_reachNow_113 : decode cX4_reachNow 113 = .ok (.ifCond .ne 7, 3) := by decide +kernel
theorem dX4_reachNow_116 : decode cX4_reachNow 116 = .ok (.iload_n 2, 1) := by decide +kernel
theorem dX4_reachNow_117 : decode cX4_reachNow 117 = .ok (.goto 31, 3) := by decide +kernel
theorem dX4_reachNow_120 : decode cX4_reachNow 120 = .ok (.iload_n 1, 1) := by decide +kernel
theorem dX4_reachNow_121 : decode cX4_reachNow 121 = .ok (.iconst 1, 1) := by decide +kernel
theorem dX4_reachNow_122 : decode cX4_reachNow 122 = .ok (.if_icmp .ne 10, 3) := by decide +kernel
theorem dX4_reachNow_125 : decode cX4_reachNow 125 = .ok (.aload_n 0, 1) := by decide +kernel
theorem dX4_reachNow_126 : decode cX4_reachNow 126 = .ok (.getfield 170, 3) := by decide +kernel
theorem dX4_reachNow_129 : decode cX4_reachNow 129 = .ok (.goto 19, 3) := by decide +kernel
theorem dX4_reachNow_132 : decode cX4_reachNow 132 = .ok (.iload_n 1, 1) := by decide +kernel
theorem dX4_reachNow_133 : decode cX4_reachNow 133 = .ok (.iconst 2, 1) := by decide +kernel
theorem dX4_reachNow_134 : decode cX4_reachNow 134 = .ok (.if_icmp .ne 10, 3) := by decide +kernel
theorem dX4_reachNow_137 : decode cX4_reachNow 137 = .ok (.aload_n 0, 1) := by decide +kernel
theorem dX4_reachNow_138 : decode cX4_reachNow 138 = .ok (.getfield 173, 3) := by decide +kernel
theorem dX4_reachNow_141 : decode cX4_reachNow 141 = .ok (.goto 7, 3) := by decide +kernel
theorem dX4_reachNow_144 : decode cX4_reachNow 144 = .ok (.aload_n 0, 1) := by decide +kernel
theorem dX4_reachNow_145 : decode cX4_reachNow 145 = .ok (.getfield 167, 3) := by decide +kernel
theorem dX4_reachNow_148 : decode cX4_reachNow 148 = .ok (.ireturn, 1) := by decide +kernel
theorem dX4_reach_0 : decode cX4_reach 0 = .ok (.aload_n 0, 1) := by decide +kernel
theorem dX4_reach_1 : decode cX4_reach 1 = .ok (.iconst 0, 1) := by decide +kernel
theorem dX4_reach_2 : decode cX4_reach 2 = .ok (.putfield 25, 3) := by decide +kernel
theorem dX4_reach_5 : decode cX4_reach 5 = .ok (.iload_n 1, 1) := by decide +kernel
theorem dX4_reach_6 : decode cX4_reach 6 = .ok (.iconst 0, 1) := by decide +kernel
theorem dX4_reach_7 : decode cX4_reach 7 = .ok (.iconst 3, 1) := by decide +kernel
theorem dX4_reach_8 : decode cX4_reach 8 = .ok (.invokestatic 29, 3) := by decide +kernel
theorem dX4_reach_11 : decode cX4_reach 11 = .ok (.ifCond .eq 11, 3) := by decide +kernel
theorem dX4_reach_14 : decode cX4_reach 14 = .ok (.aload_n 0, 1) := by decide +kernel
theorem dX4_reach_15 : decode cX4_reach 15 = .ok (.iload_n 1, 1) := by decide +kernel
theorem dX4_reach_16 : decode cX4_reach 16 = .ok (.invokevirtual 179, 3) := by decide +kernel
theorem dX4_reach_19 : decode cX4_reach 19 = .ok (.goto 8, 3) := by decide +kernel
theorem dX4_reach_22 : decode cX4_reach 22 = .ok (.aload_n 0, 1) := by decide +kernel
theorem dX4_reach_23 : decode cX4_reach 23 = .ok (.iconst 1, 1) := by decide +kernel
theorem dX4_reach_24 : decode cX4_reach 24 = .ok (.invokevirtual 60, 3) := by decide +kernel
theorem dX4_reach_27 : decode cX4_reach 27 = .ok (.ireturn, 1) := by decide +kernel
theorem dX4_dryNow_0 : decode cX4_dryNow 0 = .ok (.aload_n 0, 1) := by decide +kernel
theorem dX4_dryNow_1 : decode cX4_dryNow 1 = .ok (.invokevirtual 164, 3) := by decide +kernel
theorem dX4_dryNow_4 : decode cX4_dryNow 4 = .ok (.aload_n 0, 1) := by decide +kernel
theorem dX4_dryNow_5 : decode cX4_dryNow 5 = .ok (.getfield 7, 3) := by decide +kernel
theorem dX4_dryNow_8 : decode cX4_dryNow 8 = .ok (.bipush 9, 2) := by decide +kernel
theorem dX4_dryNow_10 : decode cX4_dryNow 10 = .ok (.iconst 0, 1) := by decide +kernel
theorem dX4_dryNow_11 : decode cX4_dryNow 11 = .ok (.iastore, 1) := by decide +kernel
theorem dX4_dryNow_12 : decode cX4_dryNow 12 = .ok (.iconst 0, 1) := by decide +kernel
theorem dX4_dryNow_13 : decode cX4_dryNow 13 = .ok (.istore_n 1, 1) := by decide +kernel
theorem dX4_dryNow_14 : decode cX4_dryNow 14 = .ok (.iload_n 1, 1) := by decide +kernel
theorem dX4_dryNow_15 : decode cX4_dryNow 15 = .ok (.sipush 200, 3) := by decide +kernel
theorem dX4_dryNow_18 : decode cX4_dryNow 18 = .ok (.if_icmp .gt 22, 3) := by decide +kernel
theorem dX4_dryNow_21 : decode cX4_dryNow 21 = .ok (.aload_n 0, 1) := by decide +kernel
theorem dX4_dryNow_22 : decode cX4_dryNow 22 = .ok (.invokevirtual 107, 3) := by decide +kernel
theorem dX4_dryNow_25 : decode cX4_dryNow 25 = .ok (.ifCond .ne 15, 3) := by decide +kernel
theorem dX4_dryNow_28 : decode cX4_dryNow 28 = .ok (.aload_n 0, 1) := by decide +kernel
theorem dX4_dryNow_29 : decode cX4_dryNow 29 = .ok (.iconst 0, 1) := by decide +kernel
theorem dX4_dryNow_30 : decode cX4_dryNow 30 = .ok (.invokevirtual 143, 3) := by decide +kernel
theorem dX4_dryNow_33 : decode cX4_dryNow 33 = .ok (.pop, 1) := by decide +kernel
theorem dX4_dryNow_34 : decode cX4_dryNow 34 = .ok (.iinc 1 1, 3) := by decide +kernel
theorem dX4_dryNow_37 : decode cX4_dryNow 37 = .ok (.goto (-23), 3) := by decide +kernel
theorem dX4_dryNow_40 : decode cX4_dryNow 40 = .ok (.aload_n 0, 1) := by decide +kernel
theorem dX4_dryNow_41 : decode cX4_dryNow 41 = .ok (.invokevirtual 176, 3) := by decide +kernel
theorem dX4_dryNow_44 : decode cX4_dryNow 44 = .ok (.iload_n 1, 1) := by decide +kernel
theorem dX4_dryNow_45 : decode cX4_dryNow 45 = .ok (.sipush 200, 3) := by decide +kernel
theorem dX4_dryNow_48 : decode cX4_dryNow 48 = .ok (.if_icmp .le 7, 3) := by decide +kernel
theorem dX4_dryNow_51 : decode cX4_dryNow 51 = .ok (.iconst (-1), 1) := by decide +kernel
theorem dX4_dryNow_52 : decode cX4_dryNow 52 = .ok (.goto 4, 3) := by decide +kernel
theorem dX4_dryNow_55 : decode cX4_dryNow 55 = .ok (.iload_n 1, 1) := by decide +kernel
theorem dX4_dryNow_56 : decode cX4_dryNow 56 = .ok (.ireturn, 1) := by decide +kernel
theorem dX4_dryDays_0 : decode cX4_dryDays 0 = .ok (.aload_n 0, 1) := by decide +kernel
theorem dX4_dryDays_1 : decode cX4_dryDays 1 = .ok (.iconst 0, 1) := by decide +kernel
theorem dX4_dryDays_2 : decode cX4_dryDays 2 = .ok (.putfield 25, 3) := by decide +kernel
theorem dX4_dryDays_5 : decode cX4_dryDays 5 = .ok (.aload_n 0, 1) := by decide +kernel
theorem dX4_dryDays_6 : decode cX4_dryDays 6 = .ok (.invokevirtual 182, 3) := by decide +kernel
theorem dX4_dryDays_9 : decode cX4_dryDays 9 = .ok (.ireturn, 1) := by decide +kernel
theorem dX4_bestNow_0 : decode cX4_bestNow 0 = .ok (.iconst (-1), 1) := by decide +kernel
theorem dX4_bestNow_1 : decode cX4_bestNow 1 = .ok (.istore_n 1, 1) := by decide +kernel
theorem dX4_bestNow_2 : decode cX4_bestNow 2 = .ok (.iconst 0, 1) := by decide +kernel
theorem dX4_bestNow_3 : decode cX4_bestNow 3 = .ok (.istore_n 2, 1) := by decide +kernel
theorem dX4_bestNow_4 : decode cX4_bestNow 4 = .ok (.aload_n 0, 1) := by decide +kernel
theorem dX4_bestNow_5 : decode cX4_bestNow 5 = .ok (.invokevirtual 53, 3) := by decide +kernel
theorem dX4_bestNow_8 : decode cX4_bestNow 8 = .ok (.aload_n 0, 1) := by decide +kernel
theorem dX4_bestNow_9 : decode cX4_bestNow 9 = .ok (.getfield 7, 3) := by decide +kernel
theorem dX4_bestNow_12 : decode cX4_bestNow 12 = .ok (.iconst 0, 1) := by decide +kernel
theorem dX4_bestNow_13 : decode cX4_bestNow 13 = .ok (.iaload, 1) := by decide +kernel
theorem dX4_bestNow_14 : decode cX4_bestNow 14 = .ok (.if_icmp .lt 5, 3) := by decide +kernel
theorem dX4_bestNow_17 : decode cX4_bestNow 17 = .ok (.iconst (-1), 1) := by decide +kernel
theorem dX4_bestNow_18 : decode cX4_bestNow 18 = .ok (.ireturn, 1) := by decide +kernel
theorem dX4_bestNow_19 : decode cX4_bestNow 19 = .ok (.bipush 8, 2) := by decide +kernel
theorem dX4_bestNow_21 : decode cX4_bestNow 21 = .ok (.istore_n 3, 1) := by decide +kernel
theorem dX4_bestNow_22 : decode cX4_bestNow 22 = .ok (.iload_n 3, 1) := by decide +kernel
theorem dX4_bestNow_23 : decode cX4_bestNow 23 = .ok (.aload_n 0, 1) := by decide +kernel
theorem dX4_bestNow_24 : decode cX4_bestNow 24 = .ok (.invokevirtual 84, 3) := by decide +kernel
theorem dX4_bestNow_27 : decode cX4_bestNow 27 = .ok (.if_icmp .gt 38, 3) := by decide +kernel
theorem dX4_bestNow_30 : decode cX4_bestNow 30 = .ok (.aload_n 0, 1) := by decide +kernel
theorem dX4_bestNow_31 : decode cX4_bestNow 31 = .ok (.iload_n 3, 1) := by decide +kernel
theorem dX4_bestNow_32 : decode cX4_bestNow 32 = .ok (.iconst 1, 1) := by decide +kernel
theorem dX4_bestNow_33 : decode cX4_bestNow 33 = .ok (.invokevirtual 161, 3) := by decide +kernel
theorem dX4_bestNow_36 : decode cX4_bestNow 36 = .ok (.iload_n 3, 1) := by decide +kernel
theorem dX4_bestNow_37 : decode cX4_bestNow 37 = .ok (.invokestatic 77, 3) := by decide +kernel
theorem dX4_bestNow_40 : decode cX4_bestNow 40 = .ok (.imul, 1) := by decide +kernel
theorem dX4_bestNow_41 : decode cX4_bestNow 41 = .ok (.istore 4, 2) := by decide +kernel
