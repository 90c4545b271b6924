theorem dX0_init_0 : decode cX0_init 0 = .ok (.aload_n 0, 1) := by decide +kernel
theorem dX0_init_1 : decode cX0_init 1 = .ok (.invokespecial 3, 3) := by decide +kernel
theorem dX0_init_4 : decode cX0_init 4 = .ok (.aload_n 0, 1) := by decide +kernel
theorem dX0_init_5 : decode cX0_init 5 = .ok (.bipush 60, 2) := by decide +kernel
theorem dX0_init_7 : decode cX0_init 7 = .ok (.newarray .char, 2) := by decide +kernel
theorem dX0_init_9 : decode cX0_init 9 = .ok (.putfield 9, 3) := by decide +kernel
theorem dX0_init_12 : decode cX0_init 12 = .ok (.aload_n 0, 1) := by decide +kernel
theorem dX0_init_13 : decode cX0_init 13 = .ok (.bipush 60, 2) := by decide +kernel
theorem dX0_init_15 : decode cX0_init 15 = .ok (.newarray .int, 2) := by decide +kernel
theorem dX0_init_17 : decode cX0_init 17 = .ok (.putfield 15, 3) := by decide +kernel
theorem dX0_init_20 : decode cX0_init 20 = .ok (.aload_n 0, 1) := by decide +kernel
theorem dX0_init_21 : decode cX0_init 21 = .ok (.bipush 60, 2) := by decide +kernel
theorem dX0_init_23 : decode cX0_init 23 = .ok (.newarray .int, 2) := by decide +kernel
theorem dX0_init_25 : decode cX0_init 25 = .ok (.putfield 19, 3) := by decide +kernel
theorem dX0_init_28 : decode cX0_init 28 = .ok (.return_, 1) := by decide +kernel
theorem dX0_addSign_0 : decode cX0_addSign 0 = .ok (.aload_n 0, 1) := by decide +kernel
theorem dX0_addSign_1 : decode cX0_addSign 1 = .ok (.getfield 22, 3) := by decide +kernel
theorem dX0_addSign_4 : decode cX0_addSign 4 = .ok (.ifCond .lt 35, 3) := by decide +kernel
theorem dX0_addSign_7 : decode cX0_addSign 7 = .ok (.aload_n 0, 1) := by decide +kernel
theorem dX0_addSign_8 : decode cX0_addSign 8 = .ok (.getfield 22, 3) := by decide +kernel
theorem dX0_addSign_11 : decode cX0_addSign 11 = .ok (.aload_n 0, 1) := by decide +kernel
theorem dX0_addSign_12 : decode cX0_addSign 12 = .ok (.getfield 9, 3) := by decide +kernel
theorem dX0_addSign_15 : decode cX0_addSign 15 = .ok (.arraylength, 1) := by decide +kernel
theorem dX0_addSign_16 : decode cX0_addSign 16 = .ok (.if_icmp .ge 23, 3) := by decide +kernel
theorem dX0_addSign_19 : decode cX0_addSign 19 = .ok (.aload_n 0, 1) := by decide +kernel
theorem dX0_addSign_20 : decode cX0_addSign 20 = .ok (.getfield 9, 3) := by decide +kernel
theorem dX0_addSign_23 : decode cX0_addSign 23 = .ok (.aload_n 0, 1) := by decide +kernel
theorem dX0_addSign_24 : decode cX0_addSign 24 = .ok (.getfield 22, 3) := by decide +kernel
theorem dX0_addSign_27 : decode cX0_addSign 27 = .ok (.iload_n 1, 1) := by decide +kernel
theorem dX0_addSign_28 : decode cX0_addSign 28 = .ok (.castore, 1) := by decide +kernel
theorem dX0_addSign_29 : decode cX0_addSign 29 = .ok (.aload_n 0, 1) := by decide +kernel
theorem dX0_addSign_30 : decode cX0_addSign 30 = .ok (.dup, 1) := by decide +kernel
theorem dX0_addSign_31 : decode cX0_addSign 31 = .ok (.getfield 22, 3) := by decide +kernel
theorem dX0_addSign_34 : decode cX0_addSign 34 = .ok (.iconst 1, 1) := by decide +kernel
theorem dX0_addSign_35 : decode cX0_addSign 35 = .ok (.iadd, 1) := by decide +kernel
theorem dX0_addSign_36 : decode cX0_addSign 36 = .ok (.putfield 22, 3) := by decide +kernel
theorem dX0_addSign_39 : decode cX0_addSign 39 = .ok (.return_, 1) := by decide +kernel
theorem dX0_signAt_0 : decode cX0_signAt 0 = .ok (.iload_n 1, 1) := by decide +kernel
theorem dX0_signAt_1 : decode cX0_signAt 1 = .ok (.ifCond .lt 21, 3) := by decide +kernel
theorem dX0_signAt_4 : decode cX0_signAt 4 = .ok (.iload_n 1, 1) := by decide +kernel
theorem dX0_signAt_5 : decode cX0_signAt 5 = .ok (.aload_n 0, 1) := by decide +kernel
theorem dX0_signAt_6 : decode cX0_signAt 6 = .ok (.getfield 9, 3) := by decide +kernel
theorem dX0_signAt_9 : decode cX0_signAt 9 = .ok (.arraylength, 1) := by decide +kernel
theorem dX0_signAt_10 : decode cX0_signAt 10 = .ok (.if_icmp .ge 12, 3) := by decide +kernel
theorem dX0_signAt_13 : decode cX0_signAt 13 = .ok (.aload_n 0, 1) := by decide +kernel
theorem dX0_signAt_14 : decode cX0_signAt 14 = .ok (.getfield 9, 3) := by decide +kernel
theorem dX0_signAt_17 : decode cX0_signAt 17 = .ok (.iload_n 1, 1) := by decide +kernel
theorem dX0_signAt_18 : decode cX0_signAt 18 = .ok (.caload, 1) := by decide +kernel
theorem dX0_signAt_19 : decode cX0_signAt 19 = .ok (.goto 4, 3) := by decide +kernel
theorem dX0_signAt_22 : decode cX0_signAt 22 = .ok (.iconst 0, 1) := by decide +kernel
theorem dX0_signAt_23 : decode cX0_signAt 23 = .ok (.ireturn, 1) := by decide +kernel
theorem dX0_isComplete_0 : decode cX0_isComplete 0 = .ok (.iconst 0, 1) := by decide +kernel
theorem dX0_isComplete_1 : decode cX0_isComplete 1 = .ok (.istore_n 1, 1) := by decide +kernel
theorem dX0_isComplete_2 : decode cX0_isComplete 2 = .ok (.iconst 0, 1) := by decide +kernel
theorem dX0_isComplete_3 : decode cX0_isComplete 3 = .ok (.istore_n 2, 1) := by decide +kernel
theorem dX0_isComplete_4 : decode cX0_isComplete 4 = .ok (.iload_n 2, 1) := by decide +kernel
theorem dX0_isComplete_5 : decode cX0_isComplete 5 = .ok (.aload_n 0, 1) := by decide +kernel
theorem dX0_isComplete_6 : decode cX0_isComplete 6 = .ok (.getfield 22, 3) := by decide +kernel
theorem dX0_isComplete_9 : decode cX0_isComplete 9 = .ok (.if_icmp .ge 24, 3) := by decide +kernel
theorem dX0_isComplete_12 : decode cX0_isComplete 12 = .ok (.iload_n 1, 1) := by decide +kernel
theorem dX0_isComplete_13 : decode cX0_isComplete 13 = .ok (.iconst (-1), 1) := by decide +kernel
theorem dX0_isComplete_14 : decode cX0_isComplete 14 = .ok (.if_icmp .eq 19, 3) := by decide +kernel
theorem dX0_isComplete_17 : decode cX0_isComplete 17 = .ok (.iload_n 1, 1) := by decide +kernel
theorem dX0_isComplete_18 : decode cX0_isComplete 18 = .ok (.aload_n 0, 1) := by decide +kernel
theorem dX0_isComplete_19 : decode cX0_isComplete 19 = .ok (.iload_n 2, 1) := by decide +kernel
theorem dX0_isComplete_20 : decode cX0_isComplete 20 = .ok (.invokevirtual 26, 3) := by decide +kernel
theorem dX0_isComplete_23 : decode cX0_isComplete 23 = .ok (.invokestatic 30, 3) := by decide +kernel
theorem dX0_isComplete_26 : decode cX0_isComplete 26 = .ok (.istore_n 1, 1) := by decide +kernel
theorem dX0_isComplete_27 : decode cX0_isComplete 27 = .ok (.iinc 2 1, 3) := by decide +kernel
theorem dX0_isComplete_30 : decode cX0_isComplete 30 = .ok (.goto (-26), 3) := by decide +kernel
theorem dX0_isComplete_33 : decode cX0_isComplete 33 = .ok (.iload_n 1, 1) := by decide +kernel
theorem dX0_isComplete_34 : decode cX0_isComplete 34 = .ok (.iconst 1, 1) := by decide +kernel
theorem dX0_isComplete_35 : decode cX0_isComplete 35 = .ok (.if_icmp .eq 13, 3) := by decide +kernel
theorem dX0_isComplete_38 : decode cX0_isComplete 38 = .ok (.iload_n 1, 1) := by decide +kernel
theorem dX0_isComplete_39 : decode cX0_isComplete 39 = .ok (.iconst 3, 1) := by decide +kernel
theorem dX0_isComplete_40 : decode cX0_isComplete 40 = .ok (.if_icmp .eq 8, 3) := by decide +kernel
theorem dX0_isComplete_43 : decode cX0_isComplete 43 = .ok (.iload_n 1, 1) := by decide +kernel
theorem dX0_isComplete_44 : decode cX0_isComplete 44 = .ok (.iconst 4, 1) := by decide +kernel
theorem dX0_isComplete_45 : decode cX0_isComplete 45 = .ok (.if_icmp .ne 7, 3) := by decide +kernel
theorem dX0_isComplete_48 : decode cX0_isComplete 48 = .ok (.iconst 1, 1) := by decide +kernel
theorem dX0_isComplete_49 : decode cX0_isComplete 49 = .ok (.goto 4, 3) := by decide +kernel
theorem dX0_isComplete_52 : decode cX0_isComplete 52 = .ok (.iconst 0, 1) := by decide +kernel
theorem dX0_isComplete_53 : decode cX0_isComplete 53 = .ok (.ireturn, 1) := by decide +kernel
theorem dX0_readParts_0 : decode cX0_readParts 0 = .ok (.iconst 0, 1) := by decide +kernel
theorem dX0_readParts_1 : decode cX0_readParts 1 = .ok (.istore_n 1, 1) := by decide +kernel
theorem dX0_readParts_2 : decode cX0_readParts 2 = .ok (.iconst 0, 1) := by decide +kernel
theorem dX0_readParts_3 : decode cX0_readParts 3 = .ok (.istore_n 2, 1) := by decide +kernel
theorem dX0_readParts_4 : decode cX0_readParts 4 = .ok (.iconst 0, 1) := by decide +kernel
theorem dX0_readParts_5 : decode cX0_readParts 5 = .ok (.istore_n 3, 1) := by decide +kernel
theorem dX0_readParts_6 : decode cX0_readParts 6 = .ok (.iload_n 2, 1) := by decide +kernel
theorem dX0_readParts_7 : decode cX0_readParts 7 = .ok (.aload_n 0, 1) := by decide +kernel
theorem dX0_readParts_8 : decode cX0_readParts 8 = .ok (.getfield 22, 3) := by decide +kernel
theorem dX0_readParts_11 : decode cX0_readParts 11 = .ok (.if_icmp .ge 109, 3) := by decide +kernel
theorem dX0_readParts_14 : decode cX0_readParts 14 = .ok (.iload_n 3, 1) := by decide +kernel
theorem dX0_readParts_15 : decode cX0_readParts 15 = .ok (.aload_n 0, 1) := by decide +kernel
theorem dX0_readParts_16 : decode cX0_readParts 16 = .ok (.getfield 15, 3) := by decide +kernel
theorem dX0_readParts_19 : decode cX0_readParts 19 = .ok (.arraylength, 1) := by decide +kernel
theorem dX0_readParts_20 : decode cX0_readParts 20 = .ok (.if_icmp .ge 100, 3) := by decide +kernel
theorem dX0_readParts_23 : decode cX0_readParts 23 = .ok (.iload_n 3, 1) := by decide +kernel
theorem dX0_readParts_24 : decode cX0_readParts 24 = .ok (.aload_n 0, 1) := by decide +kernel
theorem dX0_readParts_25 : decode cX0_readParts 25 = .ok (.getfield 19, 3) := by decide +kernel
theorem dX0_readParts_28 : decode cX0_readParts 28 = .ok (.arraylength, 1) := by decide +kernel
theorem dX0_readParts_29 : decode cX0_readParts 29 = .ok (.if_icmp .ge 91, 3) := by decide +kernel
theorem dX0_readParts_32 : decode cX0_readParts 32 = .ok (.aload_n 0, 1) := by decide +kernel
theorem dX0_readParts_33 : decode cX0_readParts 33 = .ok (.getfield 15, 3) := by decide +kernel
theorem dX0_readParts_36 : decode cX0_readParts 36 = .ok (.iload_n 3, 1) := by decide +kernel
theorem dX0_readParts_37 : decode cX0_readParts 37 = .ok (.aload_n 0, 1) := by decide +kernel
theorem dX0_readParts_38 : decode cX0_readParts 38 = .ok (.iload_n 2, 1) := by decide +kernel
theorem dX0_readParts_39 : decode cX0_readParts 39 = .ok (.invokevirtual 26, 3) := by decide +kernel
theorem dX0_readParts_42 : decode cX0_readParts 42 = .ok (.invokestatic 34, 3) := by decide +kernel
theorem dX0_readParts_45 : decode cX0_readParts 45 = .ok (.iastore, 1) := by decide +kernel
theorem dX0_readParts_46 : decode cX0_readParts 46 = .ok (.iinc 2 1, 3) := by decide +kernel
theorem dX0_readParts_49 : decode cX0_readParts 49 = .ok (.iconst 0, 1) := by decide +kernel
theorem dX0_readParts_50 : decode cX0_readParts 50 = .ok (.istore 4, 2) := by decide +kernel
theorem dX0_readParts_52 : decode cX0_readParts 52 = .ok (.iload_n 2, 1) := by decide +kernel
theorem dX0_readParts_53 : decode cX0_readParts 53 = .ok (.aload_n 0, 1) := by decide +kernel
theorem dX0_readParts_54 : decode cX0_readParts 54 = .ok (.getfield 22, 3) := by decide +kernel
theorem dX0_readParts_57 : decode cX0_readParts 57 = .ok (.if_icmp .ge 36, 3) := by decide +kernel
theorem dX0_readParts_60 : decode cX0_readParts 60 = .ok (.aload_n 0, 1) := by decide +kernel
theorem dX0_readParts_61 : decode cX0_readParts 61 = .ok (.iload_n 2, 1) := by decide +kernel
theorem dX0_readParts_62 : decode cX0_readParts 62 = .ok (.invokevirtual 26, 3) := by decide +kernel
theorem dX0_readParts_65 : decode cX0_readParts 65 = .ok (.invokestatic 38, 3) := by decide +kernel
theorem dX0_readParts_68 : decode cX0_readParts 68 = .ok (.ifCond .eq 25, 3) := by decide +kernel
theorem dX0_readParts_71 : decode cX0_readParts 71 = .ok (.iload 4, 2) := by decide +kernel
theorem dX0_readParts_73 : decode cX0_readParts 73 = .ok (.bipush 10, 2) := by decide +kernel
theorem dX0_readParts_75 : decode cX0_readParts 75 = .ok (.imul, 1) := by decide +kernel
theorem dX0_readParts_76 : decode cX0_readParts 76 = .ok (.aload_n 0, 1) := by decide +kernel
theorem dX0_readParts_77 : decode cX0_readParts 77 = .ok (.iload_n 2, 1) := by decide +kernel
theorem dX0_readParts_78 : decode cX0_readParts 78 = .ok (.invokevirtual 26, 3) := by decide +kernel
theorem dX0_readParts_81 : decode cX0_readParts 81 = .ok (.bipush 48, 2) := by decide +kernel
theorem dX0_readParts_83 : decode cX0_readParts 83 = .ok (.isub, 1) := by decide +kernel
theorem dX0_readParts_84 : decode cX0_readParts 84 = .ok (.iadd, 1) := by decide +kernel
theorem dX0_readParts_85 : decode cX0_readParts 85 = .ok (.istore 4, 2) := by decide +kernel
theorem dX0_readParts_87 : decode cX0_readParts 87 = .ok (.iinc 2 1, 3) := by decide +kernel
theorem dX0_readParts_90 : decode cX0_readParts 90 = .ok (.goto (-38), 3) := by decide +kernel
theorem dX0_readParts_93 : decode cX0_readParts 93 = .ok (.aload_n 0, 1) := by decide +kernel
theorem dX0_readParts_94 : decode cX0_readParts 94 = .ok (.getfield 19, 3) := by decide +kernel
theorem dX0_readParts_97 : decode cX0_readParts 97 = .ok (.iload_n 3, 1) := by decide +kernel
theorem dX0_readParts_98 : decode cX0_readParts 98 = .ok (.iconst 1, 1) := by decide +kernel
theorem dX0_readParts_99 : decode cX0_readParts 99 = .ok (.iload 4, 2) := by decide +kernel
theorem dX0_readParts_101 : decode cX0_readParts 101 = .ok (.invokestatic 42, 3) := by decide +kernel
theorem dX0_readParts_104 : decode cX0_readParts 104 = .ok (.iastore, 1) := by decide +kernel
theorem dX0_readParts_105 : decode cX0_readParts 105 = .ok (.iload_n 1, 1) := by decide +kernel
theorem dX0_readParts_106 : decode cX0_readParts 106 = .ok (.aload_n 0, 1) := by decide +kernel
theorem dX0_readParts_107 : decode cX0_readParts 107 = .ok (.getfield 19, 3) := by decide +kernel
theorem dX0_readParts_110 : decode cX0_readParts 110 = .ok (.iload_n 3, 1) := by decide +kernel
theorem dX0_readParts_111 : decode cX0_readParts 111 = .ok (.iaload, 1) := by decide +kernel
theorem dX0_readParts_112 : decode cX0_readParts 112 = .ok (.iadd, 1) := by decide +kernel
theorem dX0_readParts_113 : decode cX0_readParts 113 = .ok (.istore_n 1, 1) := by decide +kernel
theorem dX0_readParts_114 : decode cX0_readParts 114 = .ok (.iinc 3 1, 3) := by decide +kernel
theorem dX0_readParts_117 : decode cX0_readParts 117 = .ok (.goto (-111), 3) := by decide +kernel
theorem dX0_readParts_120 : decode cX0_readParts 120 = .ok (.aload_n 0, 1) := by decide +kernel
theorem dX0_readParts_121 : decode cX0_readParts 121 = .ok (.iload_n 3, 1) := by decide +kernel
theorem dX0_readParts_122 : decode cX0_readParts 122 = .ok (.putfield 48, 3) := by decide +kernel
theorem dX0_readParts_125 : decode cX0_readParts 125 = .ok (.iload_n 1, 1) := by decide +kernel
theorem dX0_readParts_126 : decode cX0_readParts 126 = .ok (.ireturn, 1) := by decide +kernel
theorem dX0_after_0 : decode cX0_after 0 = .ok (.iload_n 1, 1) := by decide +kernel
theorem dX0_after_1 : decode cX0_after 1 = .ok (.invokestatic 34, 3) := by decide +kernel
theorem dX0_after_4 : decode cX0_after 4 = .ok (.iconst (-1), 1) := by decide +kernel
theorem dX0_after_5 : decode cX0_after 5 = .ok (.if_icmp .eq 14, 3) := by decide +kernel
theorem dX0_after_8 : decode cX0_after 8 = .ok (.iload_n 0, 1) := by decide +kernel
theorem dX0_after_9 : decode cX0_after 9 = .ok (.iconst 2, 1) := by decide +kernel
theorem dX0_after_10 : decode cX0_after 10 = .ok (.if_icmp .ne 7, 3) := by decide +kernel
theorem dX0_after_13 : decode cX0_after 13 = .ok (.iconst (-1), 1) := by decide +kernel
theorem dX0_after_14 : decode cX0_after 14 = .ok (.goto 4, 3) := by decide +kernel
theorem dX0_after_17 : decode cX0_after 17 = .ok (.iconst 1, 1) := by decide +kernel
theorem dX0_after_18 : decode cX0_after 18 = .ok (.ireturn, 1) := by decide +kernel
theorem dX0_after_19 : decode cX0_after 19 = .ok (.iload_n 1, 1) := by decide +kernel
theorem dX0_after_20 : decode cX0_after 20 = .ok (.invokestatic 38, 3) := by decide +kernel
theorem dX0_after_23 : decode cX0_after 23 = .ok (.ifCond .ne 5, 3) := by decide +kernel
theorem dX0_after_26 : decode cX0_after 26 = .ok (.iconst (-1), 1) := by decide +kernel
theorem dX0_after_27 : decode cX0_after 27 = .ok (.ireturn, 1) := by decide +kernel
theorem dX0_after_28 : decode cX0_after 28 = .ok (.iload_n 0, 1) := by decide +kernel
theorem dX0_after_29 : decode cX0_after 29 = .ok (.tableswitch 49 1 3 #[27, 47, 47], 27) := by decide +kernel
theorem dX0_after_56 : decode cX0_after 56 = .ok (.iload_n 1, 1) := by decide +kernel
theorem dX0_after_57 : decode cX0_after 57 = .ok (.bipush 48, 2) := by decide +kernel
theorem dX0_after_59 : decode cX0_after 59 = .ok (.if_icmp .ne 5, 3) := by decide +kernel
theorem dX0_after_62 : decode cX0_after 62 = .ok (.iconst (-1), 1) := by decide +kernel
theorem dX0_after_63 : decode cX0_after 63 = .ok (.ireturn, 1) := by decide +kernel
theorem dX0_after_64 : decode cX0_after 64 = .ok (.iload_n 1, 1) := by decide +kernel
theorem dX0_after_65 : decode cX0_after 65 = .ok (.bipush 49, 2) := by decide +kernel
theorem dX0_after_67 : decode cX0_after 67 = .ok (.if_icmp .ne 7, 3) := by decide +kernel
theorem dX0_after_70 : decode cX0_after 70 = .ok (.iconst 2, 1) := by decide +kernel
theorem dX0_after_71 : decode cX0_after 71 = .ok (.goto 4, 3) := by decide +kernel
theorem dX0_after_74 : decode cX0_after 74 = .ok (.iconst 3, 1) := by decide +kernel
theorem dX0_after_75 : decode cX0_after 75 = .ok (.ireturn, 1) := by decide +kernel
theorem dX0_after_76 : decode cX0_after 76 = .ok (.iconst 4, 1) := by decide +kernel
theorem dX0_after_77 : decode cX0_after 77 = .ok (.ireturn, 1) := by decide +kernel
theorem dX0_after_78 : decode cX0_after 78 = .ok (.iconst (-1), 1) := by decide +kernel
theorem dX0_after_79 : decode cX0_after 79 = .ok (.ireturn, 1) := by decide +kernel
theorem dX0_isDigit_0 : decode cX0_isDigit 0 = .ok (.iload_n 0, 1) := by decide +kernel
theorem dX0_isDigit_1 : decode cX0_isDigit 1 = .ok (.bipush 48, 2) := by decide +kernel
theorem dX0_isDigit_3 : decode cX0_isDigit 3 = .ok (.if_icmp .lt 13, 3) := by decide +kernel
theorem dX0_isDigit_6 : decode cX0_isDigit 6 = .ok (.iload_n 0, 1) := by decide +kernel
theorem dX0_isDigit_7 : decode cX0_isDigit 7 = .ok (.bipush 57, 2) := by decide +kernel
theorem dX0_isDigit_9 : decode cX0_isDigit 9 = .ok (.if_icmp .gt 7, 3) := by decide +kernel
theorem dX0_isDigit_12 : decode cX0_isDigit 12 = .ok (.iconst 1, 1) := by decide +kernel
theorem dX0_isDigit_13 : decode cX0_isDigit 13 = .ok (.goto 4, 3) := by decide +kernel
theorem dX0_isDigit_16 : decode cX0_isDigit 16 = .ok (.iconst 0, 1) := by decide +kernel
theorem dX0_isDigit_17 : decode cX0_isDigit 17 = .ok (.ireturn, 1) := by decide +kernel
theorem dX0_weatherOf_0 : decode cX0_weatherOf 0 = .ok (.iload_n 0, 1) := by decide +kernel
theorem dX0_weatherOf_1 : decode cX0_weatherOf 1 = .ok (.lookupswitch 41 #[(100, 35), (114, 37), (115, 39)], 35) := by decide +kernel
theorem dX0_weatherOf_36 : decode cX0_weatherOf 36 = .ok (.iconst 0, 1) := by decide +kernel
theorem dX0_weatherOf_37 : decode cX0_weatherOf 37 = .ok (.ireturn, 1) := by decide +kernel
theorem dX0_weatherOf_38 : decode cX0_weatherOf 38 = .ok (.iconst 1, 1) := by decide +kernel
theorem dX0_weatherOf_39 : decode cX0_weatherOf 39 = .ok (.ireturn, 1) := by decide +kernel
theorem dX0_weatherOf_40 : decode cX0_weatherOf 40 = .ok (.iconst 2, 1) := by decide +kernel
theorem dX0_weatherOf_41 : decode cX0_weatherOf 41 = .ok (.ireturn, 1) := by decide +kernel
theorem dX0_weatherOf_42 : decode cX0_weatherOf 42 = .ok (.iconst (-1), 1) := by decide +kernel
theorem dX0_weatherOf_43 : decode cX0_weatherOf 43 = .ok (.ireturn, 1) := by decide +kernel
theorem dX1_init_0 : decode cX1_init 0 = .ok (.aload_n 0, 1) := by decide +kernel
theorem dX1_init_1 : decode cX1_init 1 = .ok (.invokespecial 3, 3) := by decide +kernel
theorem dX1_init_4 : decode cX1_init 4 = .ok (.aload_n 0, 1) := by decide +kernel
theorem dX1_init_5 : decode cX1_init 5 = .ok (.bipush 100, 2) := by decide +kernel
theorem dX1_init_7 : decode cX1_init 7 = .ok (.putfield 9, 3) := by decide +kernel
theorem dX1_init_10 : decode cX1_init 10 = .ok (.aload_n 0, 1) := by decide +kernel
theorem dX1_init_11 : decode cX1_init 11 = .ok (.bipush 6, 2) := by decide +kernel
theorem dX1_init_13 : decode cX1_init 13 = .ok (.putfield 15, 3) := by decide +kernel
theorem dX1_init_16 : decode cX1_init 16 = .ok (.aload_n 0, 1) := by decide +kernel
theorem dX1_init_17 : decode cX1_init 17 = .ok (.bipush 100, 2) := by decide +kernel
theorem dX1_init_19 : decode cX1_init 19 = .ok (.newarray .int, 2) := by decide +kernel
theorem dX1_init_21 : decode cX1_init 21 = .ok (.putfield 18, 3) := by decide +kernel
theorem dX1_init_24 : decode cX1_init 24 = .ok (.aload_n 0, 1) := by decide +kernel
theorem dX1_init_25 : decode cX1_init 25 = .ok (.bipush 100, 2) := by decide +kernel
theorem dX1_init_27 : decode cX1_init 27 = .ok (.newarray .int, 2) := by decide +kernel
theorem dX1_init_29 : decode cX1_init 29 = .ok (.putfield 22, 3) := by decide +kernel
theorem dX1_init_32 : decode cX1_init 32 = .ok (.aload_n 0, 1) := by decide +kernel
theorem dX1_init_33 : decode cX1_init 33 = .ok (.bipush 25, 2) := by decide +kernel
theorem dX1_init_35 : decode cX1_init 35 = .ok (.newarray .int, 2) := by decide +kernel
theorem dX1_init_37 : decode cX1_init 37 = .ok (.putfield 25, 3) := by decide +kernel
theorem dX1_init_40 : decode cX1_init 40 = .ok (.aload_n 0, 1) := by decide +kernel
theorem dX1_init_41 : decode cX1_init 41 = .ok (.bipush 25, 2) := by decide +kernel
theorem dX1_init_43 : decode cX1_init 43 = .ok (.newarray .int, 2) := by decide +kernel
theorem dX1_init_45 : decode cX1_init 45 = .ok (.putfield 28, 3) := by decide +kernel
theorem dX1_init_48 : decode cX1_init 48 = .ok (.aload_n 0, 1) := by decide +kernel
theorem dX1_init_49 : decode cX1_init 49 = .ok (.bipush 25, 2) := by decide +kernel
theorem dX1_init_51 : decode cX1_init 51 = .ok (.newarray .int, 2) := by decide +kernel
theorem dX1_init_53 : decode cX1_init 53 = .ok (.putfield 31, 3) := by decide +kernel
theorem dX1_init_56 : decode cX1_init 56 = .ok (.aload_n 0, 1) := by decide +kernel
theorem dX1_init_57 : decode cX1_init 57 = .ok (.iconst 4, 1) := by decide +kernel
theorem dX1_init_58 : decode cX1_init 58 = .ok (.putfield 34, 3) := by decide +kernel
theorem dX1_init_61 : decode cX1_init 61 = .ok (.aload_n 0, 1) := by decide +kernel
theorem dX1_init_62 : decode cX1_init 62 = .ok (.bipush 20, 2) := by decide +kernel
theorem dX1_init_64 : decode cX1_init 64 = .ok (.putfield 37, 3) := by decide +kernel
theorem dX1_init_67 : decode cX1_init 67 = .ok (.aload_n 0, 1) := by decide +kernel
theorem dX1_init_68 : decode cX1_init 68 = .ok (.iconst 2, 1) := by decide +kernel
theorem dX1_init_69 : decode cX1_init 69 = .ok (.putfield 40, 3) := by decide +kernel
theorem dX1_init_72 : decode cX1_init 72 = .ok (.aload_n 0, 1) := by decide +kernel
theorem dX1_init_73 : decode cX1_init 73 = .ok (.bipush 20, 2) := by decide +kernel
theorem dX1_init_75 : decode cX1_init 75 = .ok (.putfield 43, 3) := by decide +kernel
theorem dX1_init_78 : decode cX1_init 78 = .ok (.return_, 1) := by decide +kernel
theorem dX1_copyFrom_0 : decode cX1_copyFrom 0 = .ok (.aload_n 0, 1) := by decide +kernel
theorem dX1_copyFrom_1 : decode cX1_copyFrom 1 = .ok (.aload_n 1, 1) := by decide +kernel
theorem dX1_copyFrom_2 : decode cX1_copyFrom 2 = .ok (.getfield 9, 3) := by decide +kernel
theorem dX1_copyFrom_5 : decode cX1_copyFrom 5 = .ok (.putfield 9, 3) := by decide +kernel
theorem dX1_copyFrom_8 : decode cX1_copyFrom 8 = .ok (.aload_n 0, 1) := by decide +kernel
theorem dX1_copyFrom_9 : decode cX1_copyFrom 9 = .ok (.aload_n 1, 1) := by decide +kernel
theorem dX1_copyFrom_10 : decode cX1_copyFrom 10 = .ok (.getfield 15, 3) := by decide +kernel
theorem dX1_copyFrom_13 : decode cX1_copyFrom 13 = .ok (.putfield 15, 3) := by decide +kernel
theorem dX1_copyFrom_16 : decode cX1_copyFrom 16 = .ok (.aload_n 0, 1) := by decide +kernel
theorem dX1_copyFrom_17 : decode cX1_copyFrom 17 = .ok (.aload_n 1, 1) := by decide +kernel
theorem dX1_copyFrom_18 : decode cX1_copyFrom 18 = .ok (.getfield 46, 3) := by decide +kernel
theorem dX1_copyFrom_21 : decode cX1_copyFrom 21 = .ok (.putfield 46, 3) := by decide +kernel
theorem dX1_copyFrom_24 : decode cX1_copyFrom 24 = .ok (.aload_n 1, 1) := by decide +kernel
theorem dX1_copyFrom_25 : decode cX1_copyFrom 25 = .ok (.getfield 18, 3) := by decide +kernel
theorem dX1_copyFrom_28 : decode cX1_copyFrom 28 = .ok (.aload_n 0, 1) := by decide +kernel
theorem dX1_copyFrom_29 : decode cX1_copyFrom 29 = .ok (.getfield 18, 3) := by decide +kernel
theorem dX1_copyFrom_32 : decode cX1_copyFrom 32 = .ok (.invokestatic 49, 3) := by decide +kernel
theorem dX1_copyFrom_35 : decode cX1_copyFrom 35 = .ok (.aload_n 1, 1) := by decide +kernel
theorem dX1_copyFrom_36 : decode cX1_copyFrom 36 = .ok (.getfield 22, 3) := by decide +kernel
theorem dX1_copyFrom_39 : decode cX1_copyFrom 39 = .ok (.aload_n 0, 1) := by decide +kernel
theorem dX1_copyFrom_40 : decode cX1_copyFrom 40 = .ok (.getfield 22, 3) := by decide +kernel
theorem dX1_copyFrom_43 : decode cX1_copyFrom 43 = .ok (.invokestatic 49, 3) := by decide +kernel
theorem dX1_copyFrom_46 : decode cX1_copyFrom 46 = .ok (.aload_n 1, 1) := by decide +kernel
theorem dX1_copyFrom_47 : decode cX1_copyFrom 47 = .ok (.getfield 25, 3) := by decide +kernel
theorem dX1_copyFrom_50 : decode cX1_copyFrom 50 = .ok (.aload_n 0, 1) := by decide +kernel
theorem dX1_copyFrom_51 : decode cX1_copyFrom 51 = .ok (.getfield 25, 3) := by decide +kernel
theorem dX1_copyFrom_54 : decode cX1_copyFrom 54 = .ok (.invokestatic 49, 3) := by decide +kernel
theorem dX1_copyFrom_57 : decode cX1_copyFrom 57 = .ok (.aload_n 1, 1) := by decide +kernel
theorem dX1_copyFrom_58 : decode cX1_copyFrom 58 = .ok (.getfield 28, 3) := by decide +kernel
theorem dX1_copyFrom_61 : decode cX1_copyFrom 61 = .ok (.aload_n 0, 1) := by decide +kernel
theorem dX1_copyFrom_62 : decode cX1_copyFrom 62 = .ok (.getfield 28, 3) := by decide +kernel
theorem dX1_copyFrom_65 : decode cX1_copyFrom 65 = .ok (.invokestatic 49, 3) := by decide +kernel
theorem dX1_copyFrom_68 : decode cX1_copyFrom 68 = .ok (.aload_n 1, 1) := by decide +kernel
theorem dX1_copyFrom_69 : decode cX1_copyFrom 69 = .ok (.getfield 31, 3) := by decide +kernel
theorem dX1_copyFrom_72 : decode cX1_copyFrom 72 = .ok (.aload_n 0, 1) := by decide +kernel
theorem dX1_copyFrom_73 : decode cX1_copyFrom 73 = .ok (.getfield 31, 3) := by decide +kernel
theorem dX1_copyFrom_76 : decode cX1_copyFrom 76 = .ok (.invokestatic 49, 3) := by decide +kernel
theorem dX1_copyFrom_79 : decode cX1_copyFrom 79 = .ok (.aload_n 0, 1) := by decide +kernel
theorem dX1_copyFrom_80 : decode cX1_copyFrom 80 = .ok (.aload_n 1, 1) := by decide +kernel
theorem dX1_copyFrom_81 : decode cX1_copyFrom 81 = .ok (.getfield 34, 3) := by decide +kernel
theorem dX1_copyFrom_84 : decode cX1_copyFrom 84 = .ok (.putfield 34, 3) := by decide +kernel
theorem dX1_copyFrom_87 : decode cX1_copyFrom 87 = .ok (.aload_n 0, 1) := by decide +kernel
theorem dX1_copyFrom_88 : decode cX1_copyFrom 88 = .ok (.aload_n 1, 1) := by decide +kernel
theorem dX1_copyFrom_89 : decode cX1_copyFrom 89 = .ok (.getfield 37, 3) := by decide +kernel
theorem dX1_copyFrom_92 : decode cX1_copyFrom 92 = .ok (.putfield 37, 3) := by decide +kernel
theorem dX1_copyFrom_95 : decode cX1_copyFrom 95 = .ok (.aload_n 0, 1) := by decide +kernel
theorem dX1_copyFrom_96 : decode cX1_copyFrom 96 = .ok (.aload_n 1, 1) := by decide +kernel
theorem dX1_copyFrom_97 : decode cX1_copyFrom 97 = .ok (.getfield 40, 3) := by decide +kernel
theorem dX1_copyFrom_100 : decode cX1_copyFrom 100 = .ok (.putfield 40, 3) := by decide +kernel
theorem dX1_copyFrom_103 : decode cX1_copyFrom 103 = .ok (.aload_n 0, 1) := by decide +kernel
theorem dX1_copyFrom_104 : decode cX1_copyFrom 104 = .ok (.aload_n 1, 1) := by decide +kernel
theorem dX1_copyFrom_105 : decode cX1_copyFrom 105 = .ok (.getfield 53, 3) := by decide +kernel
theorem dX1_copyFrom_108 : decode cX1_copyFrom 108 = .ok (.putfield 53, 3) := by decide +kernel
theorem dX1_copyFrom_111 : decode cX1_copyFrom 111 = .ok (.aload_n 0, 1) := by decide +kernel
theorem dX1_copyFrom_112 : decode cX1_copyFrom 112 = .ok (.aload_n 1, 1) := by decide +kernel
theorem dX1_copyFrom_113 : decode cX1_copyFrom 113 = .ok (.getfield 43, 3) := by decide +kernel
theorem dX1_copyFrom_116 : decode cX1_copyFrom 116 = .ok (.putfield 43, 3) := by decide +kernel
theorem dX1_copyFrom_119 : decode cX1_copyFrom 119 = .ok (.aload_n 0, 1) := by decide +kernel
theorem dX1_copyFrom_120 : decode cX1_copyFrom 120 = .ok (.aload_n 1, 1) := by decide +kernel
theorem dX1_copyFrom_121 : decode cX1_copyFrom 121 = .ok (.getfield 56, 3) := by decide +kernel
theorem dX1_copyFrom_124 : decode cX1_copyFrom 124 = .ok (.putfield 56, 3) := by decide +kernel
theorem dX1_copyFrom_127 : decode cX1_copyFrom 127 = .ok (.aload_n 0, 1) := by decide +kernel
theorem dX1_copyFrom_128 : decode cX1_copyFrom 128 = .ok (.aload_n 1, 1) := by decide +kernel
theorem dX1_copyFrom_129 : decode cX1_copyFrom 129 = .ok (.getfield 59, 3) := by decide +kernel
theorem dX1_copyFrom_132 : decode cX1_copyFrom 132 = .ok (.putfield 59, 3) := by decide +kernel
theorem dX1_copyFrom_135 : decode cX1_copyFrom 135 = .ok (.aload_n 0, 1) := by decide +kernel
theorem dX1_copyFrom_136 : decode cX1_copyFrom 136 = .ok (.aload_n 1, 1) := by decide +kernel
theorem dX1_copyFrom_137 : decode cX1_copyFrom 137 = .ok (.getfield 63, 3) := by decide +kernel
theorem dX1_copyFrom_140 : decode cX1_copyFrom 140 = .ok (.putfield 63, 3) := by decide +kernel
theorem dX1_copyFrom_143 : decode cX1_copyFrom 143 = .ok (.aload_n 0, 1) := by decide +kernel
theorem dX1_copyFrom_144 : decode cX1_copyFrom 144 = .ok (.aload_n 1, 1) := by decide +kernel
theorem dX1_copyFrom_145 : decode cX1_copyFrom 145 = .ok (.getfield 66, 3) := by decide +kernel
theorem dX1_copyFrom_148 : decode cX1_copyFrom 148 = .ok (.putfield 66, 3) := by decide +kernel
theorem dX1_copyFrom_151 : decode cX1_copyFrom 151 = .ok (.aload_n 0, 1) := by decide +kernel
theorem dX1_copyFrom_152 : decode cX1_copyFrom 152 = .ok (.aload_n 1, 1) := by decide +kernel
theorem dX1_copyFrom_153 : decode cX1_copyFrom 153 = .ok (.getfield 69, 3) := by decide +kernel
theorem dX1_copyFrom_156 : decode cX1_copyFrom 156 = .ok (.putfield 69, 3) := by decide +kernel
theorem dX1_copyFrom_159 : decode cX1_copyFrom 159 = .ok (.aload_n 0, 1) := by decide +kernel
theorem dX1_copyFrom_160 : decode cX1_copyFrom 160 = .ok (.aload_n 1, 1) := by decide +kernel
theorem dX1_copyFrom_161 : decode cX1_copyFrom 161 = .ok (.getfield 72, 3) := by decide +kernel
theorem dX1_copyFrom_164 : decode cX1_copyFrom 164 = .ok (.putfield 72, 3) := by decide +kernel
theorem dX1_copyFrom_167 : decode cX1_copyFrom 167 = .ok (.return_, 1) := by decide +kernel
theorem dX1_settingOf_0 : decode cX1_settingOf 0 = .ok (.iload_n 1, 1) := by decide +kernel
theorem dX1_settingOf_1 : decode cX1_settingOf 1 = .ok (.lookupswitch 37 #[(0, 27), (1, 32)], 27) := by decide +kernel
theorem dX1_settingOf_28 : decode cX1_settingOf 28 = .ok (.aload_n 0, 1) := by decide +kernel
theorem dX1_settingOf_29 : decode cX1_settingOf 29 = .ok (.getfield 34, 3) := by decide +kernel
theorem dX1_settingOf_32 : decode cX1_settingOf 32 = .ok (.ireturn, 1) := by decide +kernel
theorem dX1_settingOf_33 : decode cX1_settingOf 33 = .ok (.aload_n 0, 1) := by decide +kernel
theorem dX1_settingOf_34 : decode cX1_settingOf 34 = .ok (.getfield 37, 3) := by decide +kernel
theorem dX1_settingOf_37 : decode cX1_settingOf 37 = .ok (.ireturn, 1) := by decide +kernel
theorem dX1_settingOf_38 : decode cX1_settingOf 38 = .ok (.aload_n 0, 1) := by decide +kernel
theorem dX1_settingOf_39 : decode cX1_settingOf 39 = .ok (.getfield 40, 3) := by decide +kernel
theorem dX1_settingOf_42 : decode cX1_settingOf 42 = .ok (.ireturn, 1) := by decide +kernel
theorem dX1_changeSetting_0 : decode cX1_changeSetting 0 = .ok (.iload_n 1, 1) := by decide +kernel
theorem dX1_changeSetting_1 : decode cX1_changeSetting 1 = .ok (.lookupswitch 43 #[(0, 27), (1, 35)], 27) := by decide +kernel
theorem dX1_changeSetting_28 : decode cX1_changeSetting 28 = .ok (.aload_n 0, 1) := by decide +kernel
theorem dX1_changeSetting_29 : decode cX1_changeSetting 29 = .ok (.iload_n 2, 1) := by decide +kernel
theorem dX1_changeSetting_30 : decode cX1_changeSetting 30 = .ok (.putfield 34, 3) := by decide +kernel
theorem dX1_changeSetting_33 : decode cX1_changeSetting 33 = .ok (.goto 16, 3) := by decide +kernel
theorem dX1_changeSetting_36 : decode cX1_changeSetting 36 = .ok (.aload_n 0, 1) := by decide +kernel
theorem dX1_changeSetting_37 : decode cX1_changeSetting 37 = .ok (.iload_n 2, 1) := by decide +kernel
theorem dX1_changeSetting_38 : decode cX1_changeSetting 38 = .ok (.putfield 37, 3) := by decide +kernel
theorem dX1_changeSetting_41 : decode cX1_changeSetting 41 = .ok (.goto 8, 3) := by decide +kernel
theorem dX1_changeSetting_44 : decode cX1_changeSetting 44 = .ok (.aload_n 0, 1) := by decide +kernel
theorem dX1_changeSetting_45 : decode cX1_changeSetting 45 = .ok (.iload_n 2, 1) := by decide +kernel
theorem dX1_changeSetting_46 : decode cX1_changeSetting 46 = .ok (.putfield 40, 3) := by decide +kernel
theorem dX1_changeSetting_49 : decode cX1_changeSetting 49 = .ok (.return_, 1) := by decide +kernel
theorem dX1_hasCourse_0 : decode cX1_hasCourse 0 = .ok (.iload_n 1, 1) := by decide +kernel
theorem dX1_hasCourse_1 : decode cX1_hasCourse 1 = .ok (.ifCond .lt 15, 3) := by decide +kernel
theorem dX1_hasCourse_4 : decode cX1_hasCourse 4 = .ok (.iload_n 1, 1) := by decide +kernel
theorem dX1_hasCourse_5 : decode cX1_hasCourse 5 = .ok (.aload_n 0, 1) := by decide +kernel
theorem dX1_hasCourse_6 : decode cX1_hasCourse 6 = .ok (.getfield 46, 3) := by decide +kernel
theorem dX1_hasCourse_9 : decode cX1_hasCourse 9 = .ok (.if_icmp .ge 7, 3) := by decide +kernel
theorem dX1_hasCourse_12 : decode cX1_hasCourse 12 = .ok (.iconst 1, 1) := by decide +kernel
theorem dX1_hasCourse_13 : decode cX1_hasCourse 13 = .ok (.goto 4, 3) := by decide +kernel
theorem dX1_hasCourse_16 : decode cX1_hasCourse 16 = .ok (.iconst 0, 1) := by decide +kernel
theorem dX1_hasCourse_17 : decode cX1_hasCourse 17 = .ok (.ireturn, 1) := by decide +kernel
theorem dX1_hasPlace_0 : decode cX1_hasPlace 0 = .ok (.aload_n 0, 1) := by decide +kernel
theorem dX1_hasPlace_1 : decode cX1_hasPlace 1 = .ok (.iload_n 1, 1) := by decide +kernel
theorem dX1_hasPlace_2 : decode cX1_hasPlace 2 = .ok (.invokevirtual 75, 3) := by decide +kernel
theorem dX1_hasPlace_5 : decode cX1_hasPlace 5 = .ok (.ifCond .eq 20, 3) := by decide +kernel
theorem dX1_hasPlace_8 : decode cX1_hasPlace 8 = .ok (.iload_n 2, 1) := by decide +kernel
theorem dX1_hasPlace_9 : decode cX1_hasPlace 9 = .ok (.ifCond .lt 16, 3) := by decide +kernel
theorem dX1_hasPlace_12 : decode cX1_hasPlace 12 = .ok (.iload_n 2, 1) := by decide +kernel
theorem dX1_hasPlace_13 : decode cX1_hasPlace 13 = .ok (.aload_n 0, 1) := by decide +kernel
theorem dX1_hasPlace_14 : decode cX1_hasPlace 14 = .ok (.iload_n 1, 1) := by decide +kernel
theorem dX1_hasPlace_15 : decode cX1_hasPlace 15 = .ok (.invokevirtual 79, 3) := by decide +kernel
theorem dX1_hasPlace_18 : decode cX1_hasPlace 18 = .ok (.if_icmp .ge 7, 3) := by decide +kernel
theorem dX1_hasPlace_21 : decode cX1_hasPlace 21 = .ok (.iconst 1, 1) := by decide +kernel
theorem dX1_hasPlace_22 : decode cX1_hasPlace 22 = .ok (.goto 4, 3) := by decide +kernel
theorem dX1_hasPlace_25 : decode cX1_hasPlace 25 = .ok (.iconst 0, 1) := by decide +kernel
theorem dX1_hasPlace_26 : decode cX1_hasPlace 26 = .ok (.ireturn, 1) := by decide +kernel
theorem dX1_placesOf_0 : decode cX1_placesOf 0 = .ok (.iload_n 1, 1) := by decide +kernel
theorem dX1_placesOf_1 : decode cX1_placesOf 1 = .ok (.iconst 2, 1) := by decide +kernel
theorem dX1_placesOf_2 : decode cX1_placesOf 2 = .ok (.irem, 1) := by decide +kernel
theorem dX1_placesOf_3 : decode cX1_placesOf 3 = .ok (.ifCond .ne 10, 3) := by decide +kernel
theorem dX1_placesOf_6 : decode cX1_placesOf 6 = .ok (.aload_n 0, 1) := by decide +kernel
theorem dX1_placesOf_7 : decode cX1_placesOf 7 = .ok (.getfield 15, 3) := by decide +kernel
theorem dX1_placesOf_10 : decode cX1_placesOf 10 = .ok (.goto 9, 3) := by decide +kernel
theorem dX1_placesOf_13 : decode cX1_placesOf 13 = .ok (.aload_n 0, 1) := by decide +kernel
theorem dX1_placesOf_14 : decode cX1_placesOf 14 = .ok (.getfield 15, 3) := by decide +kernel
theorem dX1_placesOf_17 : decode cX1_placesOf 17 = .ok (.iconst 1, 1) := by decide +kernel
theorem dX1_placesOf_18 : decode cX1_placesOf 18 = .ok (.iadd, 1) := by decide +kernel
theorem dX1_placesOf_19 : decode cX1_placesOf 19 = .ok (.ireturn, 1) := by decide +kernel
theorem dX1_hasSlate_0 : decode cX1_hasSlate 0 = .ok (.aload_n 0, 1) := by decide +kernel
theorem dX1_hasSlate_1 : decode cX1_hasSlate 1 = .ok (.getfield 22, 3) := by decide +kernel
theorem dX1_hasSlate_4 : decode cX1_hasSlate 4 = .ok (.iload_n 1, 1) := by decide +kernel
theorem dX1_hasSlate_5 : decode cX1_hasSlate 5 = .ok (.invokestatic 83, 3) := by decide +kernel
theorem dX1_hasSlate_8 : decode cX1_hasSlate 8 = .ok (.iload_n 2, 1) := by decide +kernel
theorem dX1_hasSlate_9 : decode cX1_hasSlate 9 = .ok (.iushr, 1) := by decide +kernel
theorem dX1_hasSlate_10 : decode cX1_hasSlate 10 = .ok (.iconst 1, 1) := by decide +kernel
theorem dX1_hasSlate_11 : decode cX1_hasSlate 11 = .ok (.iand, 1) := by decide +kernel
theorem dX1_hasSlate_12 : decode cX1_hasSlate 12 = .ok (.iconst 1, 1) := by decide +kernel
theorem dX1_hasSlate_13 : decode cX1_hasSlate 13 = .ok (.if_icmp .ne 7, 3) := by decide +kernel
theorem dX1_hasSlate_16 : decode cX1_hasSlate 16 = .ok (.iconst 1, 1) := by decide +kernel
theorem dX1_hasSlate_17 : decode cX1_hasSlate 17 = .ok (.goto 4, 3) := by decide +kernel
theorem dX1_hasSlate_20 : decode cX1_hasSlate 20 = .ok (.iconst 0, 1) := by decide +kernel
theorem dX1_hasSlate_21 : decode cX1_hasSlate 21 = .ok (.ireturn, 1) := by decide +kernel
theorem dX1_slatesIn_0 : decode cX1_slatesIn 0 = .ok (.aload_n 0, 1) := by decide +kernel
theorem dX1_slatesIn_1 : decode cX1_slatesIn 1 = .ok (.getfield 22, 3) := by decide +kernel
theorem dX1_slatesIn_4 : decode cX1_slatesIn 4 = .ok (.iload_n 1, 1) := by decide +kernel
theorem dX1_slatesIn_5 : decode cX1_slatesIn 5 = .ok (.invokestatic 83, 3) := by decide +kernel
theorem dX1_slatesIn_8 : decode cX1_slatesIn 8 = .ok (.invokestatic 87, 3) := by decide +kernel
theorem dX1_slatesIn_11 : decode cX1_slatesIn 11 = .ok (.ireturn, 1) := by decide +kernel
theorem dX1_isFull_0 : decode cX1_isFull 0 = .ok (.aload_n 0, 1) := by decide +kernel
theorem dX1_isFull_1 : decode cX1_isFull 1 = .ok (.iload_n 1, 1) := by decide +kernel
theorem dX1_isFull_2 : decode cX1_isFull 2 = .ok (.invokevirtual 92, 3) := by decide +kernel
theorem dX1_isFull_5 : decode cX1_isFull 5 = .ok (.aload_n 0, 1) := by decide +kernel
theorem dX1_isFull_6 : decode cX1_isFull 6 = .ok (.iload_n 1, 1) := by decide +kernel
theorem dX1_isFull_7 : decode cX1_isFull 7 = .ok (.invokevirtual 79, 3) := by decide +kernel
theorem dX1_isFull_10 : decode cX1_isFull 10 = .ok (.if_icmp .lt 7, 3) := by decide +kernel
theorem dX1_isFull_13 : decode cX1_isFull 13 = .ok (.iconst 1, 1) := by decide +kernel
theorem dX1_isFull_14 : decode cX1_isFull 14 = .ok (.goto 4, 3) := by decide +kernel
theorem dX1_isFull_17 : decode cX1_isFull 17 = .ok (.iconst 0, 1) := by decide +kernel
theorem dX1_isFull_18 : decode cX1_isFull 18 = .ok (.ireturn, 1) := by decide +kernel
theorem dX1_firstGap_0 : decode cX1_firstGap 0 = .ok (.aload_n 0, 1) := by decide +kernel
theorem dX1_firstGap_1 : decode cX1_firstGap 1 = .ok (.iload_n 1, 1) := by decide +kernel
theorem dX1_firstGap_2 : decode cX1_firstGap 2 = .ok (.invokevirtual 79, 3) := by decide +kernel
theorem dX1_firstGap_5 : decode cX1_firstGap 5 = .ok (.istore_n 2, 1) := by decide +kernel
theorem dX1_firstGap_6 : decode cX1_firstGap 6 = .ok (.iconst 0, 1) := by decide +kernel
theorem dX1_firstGap_7 : decode cX1_firstGap 7 = .ok (.istore_n 3, 1) := by decide +kernel
theorem dX1_firstGap_8 : decode cX1_firstGap 8 = .ok (.iload_n 3, 1) := by decide +kernel
theorem dX1_firstGap_9 : decode cX1_firstGap 9 = .ok (.iload_n 2, 1) := by decide +kernel
theorem dX1_firstGap_10 : decode cX1_firstGap 10 = .ok (.if_icmp .ge 20, 3) := by decide +kernel
theorem dX1_firstGap_13 : decode cX1_firstGap 13 = .ok (.aload_n 0, 1) := by decide +kernel
theorem dX1_firstGap_14 : decode cX1_firstGap 14 = .ok (.iload_n 1, 1) := by decide +kernel
theorem dX1_firstGap_15 : decode cX1_firstGap 15 = .ok (.iload_n 3, 1) := by decide +kernel
theorem dX1_firstGap_16 : decode cX1_firstGap 16 = .ok (.invokevirtual 95, 3) := by decide +kernel
theorem dX1_firstGap_19 : decode cX1_firstGap 19 = .ok (.ifCond .ne 5, 3) := by decide +kernel
theorem dX1_firstGap_22 : decode cX1_firstGap 22 = .ok (.iload_n 3, 1) := by decide +kernel
theorem dX1_firstGap_23 : decode cX1_firstGap 23 = .ok (.ireturn, 1) := by decide +kernel
theorem dX1_firstGap_24 : decode cX1_firstGap 24 = .ok (.iinc 3 1, 3) := by decide +kernel
theorem dX1_firstGap_27 : decode cX1_firstGap 27 = .ok (.goto (-19), 3) := by decide +kernel
theorem dX1_firstGap_30 : decode cX1_firstGap 30 = .ok (.iconst (-1), 1) := by decide +kernel
theorem dX1_firstGap_31 : decode cX1_firstGap 31 = .ok (.ireturn, 1) := by decide +kernel
theorem dX1_lastGap_0 : decode cX1_lastGap 0 = .ok (.aload_n 0, 1) := by decide +kernel
theorem dX1_lastGap_1 : decode cX1_lastGap 1 = .ok (.iload_n 1, 1) := by decide +kernel
theorem dX1_lastGap_2 : decode cX1_lastGap 2 = .ok (.invokevirtual 79, 3) := by decide +kernel
theorem dX1_lastGap_5 : decode cX1_lastGap 5 = .ok (.iconst 1, 1) := by decide +kernel
theorem dX1_lastGap_6 : decode cX1_lastGap 6 = .ok (.isub, 1) := by decide +kernel
theorem dX1_lastGap_7 : decode cX1_lastGap 7 = .ok (.istore_n 2, 1) := by decide +kernel
theorem dX1_lastGap_8 : decode cX1_lastGap 8 = .ok (.iload_n 2, 1) := by decide +kernel
theorem dX1_lastGap_9 : decode cX1_lastGap 9 = .ok (.ifCond .lt 20, 3) := by decide +kernel
theorem dX1_lastGap_12 : decode cX1_lastGap 12 = .ok (.aload_n 0, 1) := by decide +kernel
theorem dX1_lastGap_13 : decode cX1_lastGap 13 = .ok (.iload_n 1, 1) := by decide +kernel
theorem dX1_lastGap_14 : decode cX1_lastGap 14 = .ok (.iload_n 2, 1) := by decide +kernel
theorem dX1_lastGap_15 : decode cX1_lastGap 15 = .ok (.invokevirtual 95, 3) := by decide +kernel
theorem dX1_lastGap_18 : decode cX1_lastGap 18 = .ok (.ifCond .ne 5, 3) := by decide +kernel
theorem dX1_lastGap_21 : decode cX1_lastGap 21 = .ok (.iload_n 2, 1) := by decide +kernel
theorem dX1_lastGap_22 : decode cX1_lastGap 22 = .ok (.ireturn, 1) := by decide +kernel
theorem dX1_lastGap_23 : decode cX1_lastGap 23 = .ok (.iinc 2 (-1), 3) := by decide +kernel
theorem dX1_lastGap_26 : decode cX1_lastGap 26 = .ok (.goto (-18), 3) := by decide +kernel
theorem dX1_lastGap_29 : decode cX1_lastGap 29 = .ok (.iconst (-1), 1) := by decide +kernel
theorem dX1_lastGap_30 : decode cX1_lastGap 30 = .ok (.ireturn, 1) := by decide +kernel
theorem dX1_gaugeOf_0 : decode cX1_gaugeOf 0 = .ok (.iload_n 1, 1) := by decide +kernel
theorem dX1_gaugeOf_1 : decode cX1_gaugeOf 1 = .ok (.aload_n 0, 1) := by decide +kernel
theorem dX1_gaugeOf_2 : decode cX1_gaugeOf 2 = .ok (.getfield 34, 3) := by decide +kernel
theorem dX1_gaugeOf_5 : decode cX1_gaugeOf 5 = .ok (.isub, 1) := by decide +kernel
theorem dX1_gaugeOf_6 : decode cX1_gaugeOf 6 = .ok (.iconst 2, 1) := by decide +kernel
theorem dX1_gaugeOf_7 : decode cX1_gaugeOf 7 = .ok (.idiv, 1) := by decide +kernel
theorem dX1_gaugeOf_8 : decode cX1_gaugeOf 8 = .ok (.ireturn, 1) := by decide +kernel
theorem dX1_topOf_0 : decode cX1_topOf 0 = .ok (.iconst 0, 1) := by decide +kernel
theorem dX1_topOf_1 : decode cX1_topOf 1 = .ok (.istore_n 2, 1) := by decide +kernel
theorem dX1_topOf_2 : decode cX1_topOf 2 = .ok (.iconst 0, 1) := by decide +kernel
theorem dX1_topOf_3 : decode cX1_topOf 3 = .ok (.istore_n 3, 1) := by decide +kernel
theorem dX1_topOf_4 : decode cX1_topOf 4 = .ok (.iload_n 3, 1) := by decide +kernel
theorem dX1_topOf_5 : decode cX1_topOf 5 = .ok (.iload_n 1, 1) := by decide +kernel
theorem dX1_topOf_6 : decode cX1_topOf 6 = .ok (.if_icmp .gt 32, 3) := by decide +kernel
theorem dX1_topOf_9 : decode cX1_topOf 9 = .ok (.iload_n 3, 1) := by decide +kernel
theorem dX1_topOf_10 : decode cX1_topOf 10 = .ok (.aload_n 0, 1) := by decide +kernel
theorem dX1_topOf_11 : decode cX1_topOf 11 = .ok (.getfield 46, 3) := by decide +kernel
theorem dX1_topOf_14 : decode cX1_topOf 14 = .ok (.if_icmp .ge 24, 3) := by decide +kernel
theorem dX1_topOf_17 : decode cX1_topOf 17 = .ok (.iload_n 2, 1) := by decide +kernel
theorem dX1_topOf_18 : decode cX1_topOf 18 = .ok (.aload_n 0, 1) := by decide +kernel
theorem dX1_topOf_19 : decode cX1_topOf 19 = .ok (.aload_n 0, 1) := by decide +kernel
theorem dX1_topOf_20 : decode cX1_topOf 20 = .ok (.getfield 18, 3) := by decide +kernel
theorem dX1_topOf_23 : decode cX1_topOf 23 = .ok (.iload_n 3, 1) := by decide +kernel
theorem dX1_topOf_24 : decode cX1_topOf 24 = .ok (.invokestatic 83, 3) := by decide +kernel
theorem dX1_topOf_27 : decode cX1_topOf 27 = .ok (.invokevirtual 99, 3) := by decide +kernel
theorem dX1_topOf_30 : decode cX1_topOf 30 = .ok (.iadd, 1) := by decide +kernel
theorem dX1_topOf_31 : decode cX1_topOf 31 = .ok (.istore_n 2, 1) := by decide +kernel
theorem dX1_topOf_32 : decode cX1_topOf 32 = .ok (.iinc 3 1, 3) := by decide +kernel
theorem dX1_topOf_35 : decode cX1_topOf 35 = .ok (.goto (-31), 3) := by decide +kernel
theorem dX1_topOf_38 : decode cX1_topOf 38 = .ok (.iload_n 2, 1) := by decide +kernel
theorem dX1_topOf_39 : decode cX1_topOf 39 = .ok (.ireturn, 1) := by decide +kernel
theorem dX1_isHighEnough_0 : decode cX1_isHighEnough 0 = .ok (.aload_n 0, 1) := by decide +kernel
theorem dX1_isHighEnough_1 : decode cX1_isHighEnough 1 = .ok (.aload_n 0, 1) := by decide +kernel
theorem dX1_isHighEnough_2 : decode cX1_isHighEnough 2 = .ok (.getfield 46, 3) := by decide +kernel
theorem dX1_isHighEnough_5 : decode cX1_isHighEnough 5 = .ok (.iconst 1, 1) := by decide +kernel
theorem dX1_isHighEnough_6 : decode cX1_isHighEnough 6 = .ok (.isub, 1) := by decide +kernel
theorem dX1_isHighEnough_7 : decode cX1_isHighEnough 7 = .ok (.invokevirtual 102, 3) := by decide +kernel
theorem dX1_isHighEnough_10 : decode cX1_isHighEnough 10 = .ok (.aload_n 0, 1) := by decide +kernel
theorem dX1_isHighEnough_11 : decode cX1_isHighEnough 11 = .ok (.getfield 9, 3) := by decide +kernel
theorem dX1_isHighEnough_14 : decode cX1_isHighEnough 14 = .ok (.if_icmp .lt 7, 3) := by decide +kernel
theorem dX1_isHighEnough_17 : decode cX1_isHighEnough 17 = .ok (.iconst 1, 1) := by decide +kernel
theorem dX1_isHighEnough_18 : decode cX1_isHighEnough 18 = .ok (.goto 4, 3) := by decide +kernel
theorem dX1_isHighEnough_21 : decode cX1_isHighEnough 21 = .ok (.iconst 0, 1) := by decide +kernel
theorem dX1_isHighEnough_22 : decode cX1_isHighEnough 22 = .ok (.ireturn, 1) := by decide +kernel
theorem dX1_slatesOnRoof_0 : decode cX1_slatesOnRoof 0 = .ok (.iconst 0, 1) := by decide +kernel
theorem dX1_slatesOnRoof_1 : decode cX1_slatesOnRoof 1 = .ok (.istore_n 1, 1) := by decide +kernel
theorem dX1_slatesOnRoof_2 : decode cX1_slatesOnRoof 2 = .ok (.iconst 0, 1) := by decide +kernel
theorem dX1_slatesOnRoof_3 : decode cX1_slatesOnRoof 3 = .ok (.istore_n 2, 1) := by decide +kernel
theorem dX1_slatesOnRoof_4 : decode cX1_slatesOnRoof 4 = .ok (.iload_n 2, 1) := by decide +kernel
theorem dX1_slatesOnRoof_5 : decode cX1_slatesOnRoof 5 = .ok (.aload_n 0, 1) := by decide +kernel
theorem dX1_slatesOnRoof_6 : decode cX1_slatesOnRoof 6 = .ok (.getfield 46, 3) := by decide +kernel
theorem dX1_slatesOnRoof_9 : decode cX1_slatesOnRoof 9 = .ok (.if_icmp .ge 17, 3) := by decide +kernel
theorem dX1_slatesOnRoof_12 : decode cX1_slatesOnRoof 12 = .ok (.iload_n 1, 1) := by decide +kernel
theorem dX1_slatesOnRoof_13 : decode cX1_slatesOnRoof 13 = .ok (.aload_n 0, 1) := by decide +kernel
theorem dX1_slatesOnRoof_14 : decode cX1_slatesOnRoof 14 = .ok (.iload_n 2, 1) := by decide +kernel
theorem dX1_slatesOnRoof_15 : decode cX1_slatesOnRoof 15 = .ok (.invokevirtual 92, 3) := by decide +kernel
theorem dX1_slatesOnRoof_18 : decode cX1_slatesOnRoof 18 = .ok (.iadd, 1) := by decide +kernel
theorem dX1_slatesOnRoof_19 : decode cX1_slatesOnRoof 19 = .ok (.istore_n 1, 1) := by decide +kernel
theorem dX1_slatesOnRoof_20 : decode cX1_slatesOnRoof 20 = .ok (.iinc 2 1, 3) := by decide +kernel
theorem dX1_slatesOnRoof_23 : decode cX1_slatesOnRoof 23 = .ok (.goto (-19), 3) := by decide +kernel
theorem dX1_slatesOnRoof_26 : decode cX1_slatesOnRoof 26 = .ok (.iload_n 1, 1) := by decide +kernel
theorem dX1_slatesOnRoof_27 : decode cX1_slatesOnRoof 27 = .ok (.ireturn, 1) := by decide +kernel
theorem dX1_slatesOnRoofOf_0 : decode cX1_slatesOnRoofOf 0 = .ok (.iconst 0, 1) := by decide +kernel
theorem dX1_slatesOnRoofOf_1 : decode cX1_slatesOnRoofOf 1 = .ok (.istore_n 2, 1) := by decide +kernel
theorem dX1_slatesOnRoofOf_2 : decode cX1_slatesOnRoofOf 2 = .ok (.iconst 0, 1) := by decide +kernel
theorem dX1_slatesOnRoofOf_3 : decode cX1_slatesOnRoofOf 3 = .ok (.istore_n 3, 1) := by decide +kernel
theorem dX1_slatesOnRoofOf_4 : decode cX1_slatesOnRoofOf 4 = .ok (.iload_n 3, 1) := by decide +kernel
theorem dX1_slatesOnRoofOf_5 : decode cX1_slatesOnRoofOf 5 = .ok (.aload_n 0, 1) := by decide +kernel
theorem dX1_slatesOnRoofOf_6 : decode cX1_slatesOnRoofOf 6 = .ok (.getfield 46, 3) := by decide +kernel
theorem dX1_slatesOnRoofOf_9 : decode cX1_slatesOnRoofOf 9 = .ok (.if_icmp .ge 29, 3) := by decide +kernel
theorem dX1_slatesOnRoofOf_12 : decode cX1_slatesOnRoofOf 12 = .ok (.aload_n 0, 1) := by decide +kernel
theorem dX1_slatesOnRoofOf_13 : decode cX1_slatesOnRoofOf 13 = .ok (.getfield 18, 3) := by decide +kernel
theorem dX1_slatesOnRoofOf_16 : decode cX1_slatesOnRoofOf 16 = .ok (.iload_n 3, 1) := by decide +kernel
theorem dX1_slatesOnRoofOf_17 : decode cX1_slatesOnRoofOf 17 = .ok (.invokestatic 83, 3) := by decide +kernel
theorem dX1_slatesOnRoofOf_20 : decode cX1_slatesOnRoofOf 20 = .ok (.iload_n 1, 1) := by decide +kernel
theorem dX1_slatesOnRoofOf_21 : decode cX1_slatesOnRoofOf 21 = .ok (.if_icmp .ne 11, 3) := by decide +kernel
theorem dX1_slatesOnRoofOf_24 : decode cX1_slatesOnRoofOf 24 = .ok (.iload_n 2, 1) := by decide +kernel
theorem dX1_slatesOnRoofOf_25 : decode cX1_slatesOnRoofOf 25 = .ok (.aload_n 0, 1) := by decide +kernel
theorem dX1_slatesOnRoofOf_26 : decode cX1_slatesOnRoofOf 26 = .ok (.iload_n 3, 1) := by decide +kernel
theorem dX1_slatesOnRoofOf_27 : decode cX1_slatesOnRoofOf 27 = .ok (.invokevirtual 92, 3) := by decide +kernel
theorem dX1_slatesOnRoofOf_30 : decode cX1_slatesOnRoofOf 30 = .ok (.iadd, 1) := by decide +kernel
theorem dX1_slatesOnRoofOf_31 : decode cX1_slatesOnRoofOf 31 = .ok (.istore_n 2, 1) := by decide +kernel
theorem dX1_slatesOnRoofOf_32 : decode cX1_slatesOnRoofOf 32 = .ok (.iinc 3 1, 3) := by decide +kernel
theorem dX1_slatesOnRoofOf_35 : decode cX1_slatesOnRoofOf 35 = .ok (.goto (-31), 3) := by decide +kernel
theorem dX1_slatesOnRoofOf_38 : decode cX1_slatesOnRoofOf 38 = .ok (.iload_n 2, 1) := by decide +kernel
theorem dX1_slatesOnRoofOf_39 : decode cX1_slatesOnRoofOf 39 = .ok (.ireturn, 1) := by decide +kernel
theorem dX1_gapsOnRoof_0 : decode cX1_gapsOnRoof 0 = .ok (.iconst 0, 1) := by decide +kernel
theorem dX1_gapsOnRoof_1 : decode cX1_gapsOnRoof 1 = .ok (.istore_n 1, 1) := by decide +kernel
theorem dX1_gapsOnRoof_2 : decode cX1_gapsOnRoof 2 = .ok (.iconst 0, 1) := by decide +kernel
theorem dX1_gapsOnRoof_3 : decode cX1_gapsOnRoof 3 = .ok (.istore_n 2, 1) := by decide +kernel
theorem dX1_gapsOnRoof_4 : decode cX1_gapsOnRoof 4 = .ok (.iload_n 2, 1) := by decide +kernel
theorem dX1_gapsOnRoof_5 : decode cX1_gapsOnRoof 5 = .ok (.aload_n 0, 1) := by decide +kernel
theorem dX1_gapsOnRoof_6 : decode cX1_gapsOnRoof 6 = .ok (.getfield 46, 3) := by decide +kernel
theorem dX1_gapsOnRoof_9 : decode cX1_gapsOnRoof 9 = .ok (.if_icmp .ge 23, 3) := by decide +kernel
theorem dX1_gapsOnRoof_12 : decode cX1_gapsOnRoof 12 = .ok (.iload_n 1, 1) := by decide +kernel
theorem dX1_gapsOnRoof_13 : decode cX1_gapsOnRoof 13 = .ok (.aload_n 0, 1) := by decide +kernel
theorem dX1_gapsOnRoof_14 : decode cX1_gapsOnRoof 14 = .ok (.iload_n 2, 1) := by decide +kernel
theorem dX1_gapsOnRoof_15 : decode cX1_gapsOnRoof 15 = .ok (.invokevirtual 79, 3) := by decide +kernel
theorem dX1_gapsOnRoof_18 : decode cX1_gapsOnRoof 18 = .ok (.aload_n 0, 1) := by decide +kernel
theorem dX1_gapsOnRoof_19 : decode cX1_gapsOnRoof 19 = .ok (.iload_n 2, 1) := by decide +kernel
theorem dX1_gapsOnRoof_20 : decode cX1_gapsOnRoof 20 = .ok (.invokevirtual 92, 3) := by decide +kernel
theorem dX1_gapsOnRoof_23 : decode cX1_gapsOnRoof 23 = .ok (.isub, 1) := by decide +kernel
theorem dX1_gapsOnRoof_24 : decode cX1_gapsOnRoof 24 = .ok (.iadd, 1) := by decide +kernel
theorem dX1_gapsOnRoof_25 : decode cX1_gapsOnRoof 25 = .ok (.istore_n 1, 1) := by decide +kernel
theorem dX1_gapsOnRoof_26 : decode cX1_gapsOnRoof 26 = .ok (.iinc 2 1, 3) := by decide +kernel
theorem dX1_gapsOnRoof_29 : decode cX1_gapsOnRoof 29 = .ok (.goto (-25), 3) := by decide +kernel
theorem dX1_gapsOnRoof_32 : decode cX1_gapsOnRoof 32 = .ok (.iload_n 1, 1) := by decide +kernel
theorem dX1_gapsOnRoof_33 : decode cX1_gapsOnRoof 33 = .ok (.ireturn, 1) := by decide +kernel
theorem dX1_isDone_0 : decode cX1_isDone 0 = .ok (.aload_n 0, 1) := by decide +kernel
theorem dX1_isDone_1 : decode cX1_isDone 1 = .ok (.invokevirtual 105, 3) := by decide +kernel
theorem dX1_isDone_4 : decode cX1_isDone 4 = .ok (.ifCond .eq 14, 3) := by decide +kernel
theorem dX1_isDone_7 : decode cX1_isDone 7 = .ok (.aload_n 0, 1) := by decide +kernel
theorem dX1_isDone_8 : decode cX1_isDone 8 = .ok (.invokevirtual 109, 3) := by decide +kernel
theorem dX1_isDone_11 : decode cX1_isDone 11 = .ok (.ifCond .ne 7, 3) := by decide +kernel
theorem dX1_isDone_14 : decode cX1_isDone 14 = .ok (.iconst 1, 1) := by decide +kernel
theorem dX1_isDone_15 : decode cX1_isDone 15 = .ok (.goto 4, 3) := by decide +kernel
theorem dX1_isDone_18 : decode cX1_isDone 18 = .ok (.iconst 0, 1) := by decide +kernel
theorem dX1_isDone_19 : decode cX1_isDone 19 = .ok (.ireturn, 1) := by decide +kernel
theorem dX1_longestNext_0 : decode cX1_longestNext 0 = .ok (.aload_n 0, 1) := by decide +kernel
theorem dX1_longestNext_1 : decode cX1_longestNext 1 = .ok (.getfield 46, 3) := by decide +kernel
theorem dX1_longestNext_4 : decode cX1_longestNext 4 = .ok (.ifCond .le 19, 3) := by decide +kernel
theorem dX1_longestNext_7 : decode cX1_longestNext 7 = .ok (.aload_n 0, 1) := by decide +kernel
theorem dX1_longestNext_8 : decode cX1_longestNext 8 = .ok (.getfield 18, 3) := by decide +kernel
theorem dX1_longestNext_11 : decode cX1_longestNext 11 = .ok (.aload_n 0, 1) := by decide +kernel
theorem dX1_longestNext_12 : decode cX1_longestNext 12 = .ok (.getfield 46, 3) := by decide +kernel
theorem dX1_longestNext_15 : decode cX1_longestNext 15 = .ok (.iconst 1, 1) := by decide +kernel
theorem dX1_longestNext_16 : decode cX1_longestNext 16 = .ok (.isub, 1) := by decide +kernel
theorem dX1_longestNext_17 : decode cX1_longestNext 17 = .ok (.invokestatic 83, 3) := by decide +kernel
theorem dX1_longestNext_20 : decode cX1_longestNext 20 = .ok (.goto 5, 3) := by decide +kernel
theorem dX1_longestNext_23 : decode cX1_longestNext 23 = .ok (.bipush 24, 2) := by decide +kernel
theorem dX1_longestNext_25 : decode cX1_longestNext 25 = .ok (.ireturn, 1) := by decide +kernel
theorem dX1_canBeSlated_0 : decode cX1_canBeSlated 0 = .ok (.aload_n 0, 1) := by decide +kernel
theorem dX1_canBeSlated_1 : decode cX1_canBeSlated 1 = .ok (.getfield 59, 3) := by decide +kernel
theorem dX1_canBeSlated_4 : decode cX1_canBeSlated 4 = .ok (.ifCond .ne 14, 3) := by decide +kernel
theorem dX1_canBeSlated_7 : decode cX1_canBeSlated 7 = .ok (.aload_n 0, 1) := by decide +kernel
theorem dX1_canBeSlated_8 : decode cX1_canBeSlated 8 = .ok (.getfield 56, 3) := by decide +kernel
theorem dX1_canBeSlated_11 : decode cX1_canBeSlated 11 = .ok (.ifCond .ne 7, 3) := by decide +kernel
theorem dX1_canBeSlated_14 : decode cX1_canBeSlated 14 = .ok (.iconst 1, 1) := by decide +kernel
theorem dX1_canBeSlated_15 : decode cX1_canBeSlated 15 = .ok (.goto 4, 3) := by decide +kernel
theorem dX1_canBeSlated_18 : decode cX1_canBeSlated 18 = .ok (.iconst 0, 1) := by decide +kernel
theorem dX1_canBeSlated_19 : decode cX1_canBeSlated 19 = .ok (.ireturn, 1) := by decide +kernel
theorem dX1_canGoUp_0 : decode cX1_canGoUp 0 = .ok (.aload_n 0, 1) := by decide +kernel
theorem dX1_canGoUp_1 : decode cX1_canGoUp 1 = .ok (.getfield 46, 3) := by decide +kernel
theorem dX1_canGoUp_4 : decode cX1_canGoUp 4 = .ok (.bipush 100, 2) := by decide +kernel
theorem dX1_canGoUp_6 : decode cX1_canGoUp 6 = .ok (.if_icmp .ge 34, 3) := by decide +kernel
theorem dX1_canGoUp_9 : decode cX1_canGoUp 9 = .ok (.aload_n 0, 1) := by decide +kernel
theorem dX1_canGoUp_10 : decode cX1_canGoUp 10 = .ok (.invokevirtual 105, 3) := by decide +kernel
theorem dX1_canGoUp_13 : decode cX1_canGoUp 13 = .ok (.ifCond .ne 27, 3) := by decide +kernel
theorem dX1_canGoUp_16 : decode cX1_canGoUp 16 = .ok (.aload_n 0, 1) := by decide +kernel
theorem dX1_canGoUp_17 : decode cX1_canGoUp 17 = .ok (.getfield 46, 3) := by decide +kernel
theorem dX1_canGoUp_20 : decode cX1_canGoUp 20 = .ok (.ifCond .eq 16, 3) := by decide +kernel
theorem dX1_canGoUp_23 : decode cX1_canGoUp 23 = .ok (.aload_n 0, 1) := by decide +kernel
theorem dX1_canGoUp_24 : decode cX1_canGoUp 24 = .ok (.aload_n 0, 1) := by decide +kernel
theorem dX1_canGoUp_25 : decode cX1_canGoUp 25 = .ok (.getfield 46, 3) := by decide +kernel
theorem dX1_canGoUp_28 : decode cX1_canGoUp 28 = .ok (.iconst 1, 1) := by decide +kernel
theorem dX1_canGoUp_29 : decode cX1_canGoUp 29 = .ok (.isub, 1) := by decide +kernel
theorem dX1_canGoUp_30 : decode cX1_canGoUp 30 = .ok (.invokevirtual 113, 3) := by decide +kernel
theorem dX1_canGoUp_33 : decode cX1_canGoUp 33 = .ok (.ifCond .eq 7, 3) := by decide +kernel
theorem dX1_canGoUp_36 : decode cX1_canGoUp 36 = .ok (.iconst 1, 1) := by decide +kernel
theorem dX1_canGoUp_37 : decode cX1_canGoUp 37 = .ok (.goto 4, 3) := by decide +kernel
theorem dX1_canGoUp_40 : decode cX1_canGoUp 40 = .ok (.iconst 0, 1) := by decide +kernel
theorem dX1_canGoUp_41 : decode cX1_canGoUp 41 = .ok (.ireturn, 1) := by decide +kernel
theorem dX1_canLay_0 : decode cX1_canLay 0 = .ok (.aload_n 0, 1) := by decide +kernel
theorem dX1_canLay_1 : decode cX1_canLay 1 = .ok (.getfield 46, 3) := by decide +kernel
theorem dX1_canLay_4 : decode cX1_canLay 4 = .ok (.iconst 1, 1) := by decide +kernel
theorem dX1_canLay_5 : decode cX1_canLay 5 = .ok (.isub, 1) := by decide +kernel
theorem dX1_canLay_6 : decode cX1_canLay 6 = .ok (.istore_n 2, 1) := by decide +kernel
theorem dX1_canLay_7 : decode cX1_canLay 7 = .ok (.aload_n 0, 1) := by decide +kernel
theorem dX1_canLay_8 : decode cX1_canLay 8 = .ok (.iload_n 2, 1) := by decide +kernel
theorem dX1_canLay_9 : decode cX1_canLay 9 = .ok (.invokevirtual 75, 3) := by decide +kernel
theorem dX1_canLay_12 : decode cX1_canLay 12 = .ok (.ifCond .eq 49, 3) := by decide +kernel
theorem dX1_canLay_15 : decode cX1_canLay 15 = .ok (.aload_n 0, 1) := by decide +kernel
theorem dX1_canLay_16 : decode cX1_canLay 16 = .ok (.iload_n 2, 1) := by decide +kernel
theorem dX1_canLay_17 : decode cX1_canLay 17 = .ok (.invokevirtual 79, 3) := by decide +kernel
theorem dX1_canLay_20 : decode cX1_canLay 20 = .ok (.aload_n 0, 1) := by decide +kernel
theorem dX1_canLay_21 : decode cX1_canLay 21 = .ok (.iload_n 2, 1) := by decide +kernel
theorem dX1_canLay_22 : decode cX1_canLay 22 = .ok (.invokevirtual 92, 3) := by decide +kernel
theorem dX1_canLay_25 : decode cX1_canLay 25 = .ok (.isub, 1) := by decide +kernel
theorem dX1_canLay_26 : decode cX1_canLay 26 = .ok (.iload_n 1, 1) := by decide +kernel
theorem dX1_canLay_27 : decode cX1_canLay 27 = .ok (.if_icmp .lt 34, 3) := by decide +kernel
theorem dX1_canLay_30 : decode cX1_canLay 30 = .ok (.aload_n 0, 1) := by decide +kernel
theorem dX1_canLay_31 : decode cX1_canLay 31 = .ok (.getfield 25, 3) := by decide +kernel
theorem dX1_canLay_34 : decode cX1_canLay 34 = .ok (.aload_n 0, 1) := by decide +kernel
theorem dX1_canLay_35 : decode cX1_canLay 35 = .ok (.getfield 18, 3) := by decide +kernel
theorem dX1_canLay_38 : decode cX1_canLay 38 = .ok (.iload_n 2, 1) := by decide +kernel
theorem dX1_canLay_39 : decode cX1_canLay 39 = .ok (.invokestatic 83, 3) := by decide +kernel
theorem dX1_canLay_42 : decode cX1_canLay 42 = .ok (.invokestatic 83, 3) := by decide +kernel
theorem dX1_canLay_45 : decode cX1_canLay 45 = .ok (.iload_n 1, 1) := by decide +kernel
theorem dX1_canLay_46 : decode cX1_canLay 46 = .ok (.if_icmp .lt 15, 3) := by decide +kernel
theorem dX1_canLay_49 : decode cX1_canLay 49 = .ok (.aload_n 0, 1) := by decide +kernel
theorem dX1_canLay_50 : decode cX1_canLay 50 = .ok (.getfield 43, 3) := by decide +kernel
theorem dX1_canLay_53 : decode cX1_canLay 53 = .ok (.iload_n 1, 1) := by decide +kernel
theorem dX1_canLay_54 : decode cX1_canLay 54 = .ok (.if_icmp .lt 7, 3) := by decide +kernel
theorem dX1_canLay_57 : decode cX1_canLay 57 = .ok (.iconst 1, 1) := by decide +kernel
theorem dX1_canLay_58 : decode cX1_canLay 58 = .ok (.goto 4, 3) := by decide +kernel
theorem dX1_canLay_61 : decode cX1_canLay 61 = .ok (.iconst 0, 1) := by decide +kernel
theorem dX1_canLay_62 : decode cX1_canLay 62 = .ok (.ireturn, 1) := by decide +kernel
theorem dX1_canMend_0 : decode cX1_canMend 0 = .ok (.aload_n 0, 1) := by decide +kernel
theorem dX1_canMend_1 : decode cX1_canMend 1 = .ok (.iload_n 1, 1) := by decide +kernel
theorem dX1_canMend_2 : decode cX1_canMend 2 = .ok (.iload_n 2, 1) := by decide +kernel
theorem dX1_canMend_3 : decode cX1_canMend 3 = .ok (.invokevirtual 116, 3) := by decide +kernel
theorem dX1_canMend_6 : decode cX1_canMend 6 = .ok (.ifCond .eq 42, 3) := by decide +kernel
theorem dX1_canMend_9 : decode cX1_canMend 9 = .ok (.aload_n 0, 1) := by decide +kernel
theorem dX1_canMend_10 : decode cX1_canMend 10 = .ok (.iload_n 1, 1) := by decide +kernel
theorem dX1_canMend_11 : decode cX1_canMend 11 = .ok (.iload_n 2, 1) := by decide +kernel
theorem dX1_canMend_12 : decode cX1_canMend 12 = .ok (.invokevirtual 95, 3) := by decide +kernel
theorem dX1_canMend_15 : decode cX1_canMend 15 = .ok (.ifCond .ne 33, 3) := by decide +kernel
theorem dX1_canMend_18 : decode cX1_canMend 18 = .ok (.aload_n 0, 1) := by decide +kernel
theorem dX1_canMend_19 : decode cX1_canMend 19 = .ok (.getfield 25, 3) := by decide +kernel
theorem dX1_canMend_22 : decode cX1_canMend 22 = .ok (.aload_n 0, 1) := by decide +kernel
theorem dX1_canMend_23 : decode cX1_canMend 23 = .ok (.getfield 18, 3) := by decide +kernel
theorem dX1_canMend_26 : decode cX1_canMend 26 = .ok (.iload_n 1, 1) := by decide +kernel
theorem dX1_canMend_27 : decode cX1_canMend 27 = .ok (.invokestatic 83, 3) := by decide +kernel
theorem dX1_canMend_30 : decode cX1_canMend 30 = .ok (.invokestatic 83, 3) := by decide +kernel
theorem dX1_canMend_33 : decode cX1_canMend 33 = .ok (.ifCond .le 15, 3) := by decide +kernel
theorem dX1_canMend_36 : decode cX1_canMend 36 = .ok (.aload_n 0, 1) := by decide +kernel
theorem dX1_canMend_37 : decode cX1_canMend 37 = .ok (.getfield 43, 3) := by decide +kernel
theorem dX1_canMend_40 : decode cX1_canMend 40 = .ok (.iconst 3, 1) := by decide +kernel
theorem dX1_canMend_41 : decode cX1_canMend 41 = .ok (.if_icmp .lt 7, 3) := by decide +kernel
theorem dX1_canMend_44 : decode cX1_canMend 44 = .ok (.iconst 1, 1) := by decide +kernel
theorem dX1_canMend_45 : decode cX1_canMend 45 = .ok (.goto 4, 3) := by decide +kernel
theorem dX1_canMend_48 : decode cX1_canMend 48 = .ok (.iconst 0, 1) := by decide +kernel
theorem dX1_canMend_49 : decode cX1_canMend 49 = .ok (.ireturn, 1) := by decide +kernel
theorem dX1_addCourse_0 : decode cX1_addCourse 0 = .ok (.aload_n 0, 1) := by decide +kernel
theorem dX1_addCourse_1 : decode cX1_addCourse 1 = .ok (.getfield 46, 3) := by decide +kernel
theorem dX1_addCourse_4 : decode cX1_addCourse 4 = .ok (.ifCond .lt 57, 3) := by decide +kernel
theorem dX1_addCourse_7 : decode cX1_addCourse 7 = .ok (.aload_n 0, 1) := by decide +kernel
theorem dX1_addCourse_8 : decode cX1_addCourse 8 = .ok (.getfield 46, 3) := by decide +kernel
theorem dX1_addCourse_11 : decode cX1_addCourse 11 = .ok (.aload_n 0, 1) := by decide +kernel
theorem dX1_addCourse_12 : decode cX1_addCourse 12 = .ok (.getfield 18, 3) := by decide +kernel
theorem dX1_addCourse_15 : decode cX1_addCourse 15 = .ok (.arraylength, 1) := by decide +kernel
theorem dX1_addCourse_16 : decode cX1_addCourse 16 = .ok (.if_icmp .ge 45, 3) := by decide +kernel
theorem dX1_addCourse_19 : decode cX1_addCourse 19 = .ok (.aload_n 0, 1) := by decide +kernel
theorem dX1_addCourse_20 : decode cX1_addCourse 20 = .ok (.getfield 46, 3) := by decide +kernel
theorem dX1_addCourse_23 : decode cX1_addCourse 23 = .ok (.aload_n 0, 1) := by decide +kernel
theorem dX1_addCourse_24 : decode cX1_addCourse 24 = .ok (.getfield 22, 3) := by decide +kernel
theorem dX1_addCourse_27 : decode cX1_addCourse 27 = .ok (.arraylength, 1) := by decide +kernel
theorem dX1_addCourse_28 : decode cX1_addCourse 28 = .ok (.if_icmp .ge 33, 3) := by decide +kernel
theorem dX1_addCourse_31 : decode cX1_addCourse 31 = .ok (.aload_n 0, 1) := by decide +kernel
theorem dX1_addCourse_32 : decode cX1_addCourse 32 = .ok (.getfield 18, 3) := by decide +kernel
theorem dX1_addCourse_35 : decode cX1_addCourse 35 = .ok (.aload_n 0, 1) := by decide +kernel
theorem dX1_addCourse_36 : decode cX1_addCourse 36 = .ok (.getfield 46, 3) := by decide +kernel
theorem dX1_addCourse_39 : decode cX1_addCourse 39 = .ok (.iload_n 1, 1) := by decide +kernel
theorem dX1_addCourse_40 : decode cX1_addCourse 40 = .ok (.iastore, 1) := by decide +kernel
theorem dX1_addCourse_41 : decode cX1_addCourse 41 = .ok (.aload_n 0, 1) := by decide +kernel
theorem dX1_addCourse_42 : decode cX1_addCourse 42 = .ok (.getfield 22, 3) := by decide +kernel
theorem dX1_addCourse_45 : decode cX1_addCourse 45 = .ok (.aload_n 0, 1) := by decide +kernel
theorem dX1_addCourse_46 : decode cX1_addCourse 46 = .ok (.getfield 46, 3) := by decide +kernel
theorem dX1_addCourse_49 : decode cX1_addCourse 49 = .ok (.iconst 0, 1) := by decide +kernel
theorem dX1_addCourse_50 : decode cX1_addCourse 50 = .ok (.iastore, 1) := by decide +kernel
theorem dX1_addCourse_51 : decode cX1_addCourse 51 = .ok (.aload_n 0, 1) := by decide +kernel
theorem dX1_addCourse_52 : decode cX1_addCourse 52 = .ok (.dup, 1) := by decide +kernel
theorem dX1_addCourse_53 : decode cX1_addCourse 53 = .ok (.getfield 46, 3) := by decide +kernel
theorem dX1_addCourse_56 : decode cX1_addCourse 56 = .ok (.iconst 1, 1) := by decide +kernel
theorem dX1_addCourse_57 : decode cX1_addCourse 57 = .ok (.iadd, 1) := by decide +kernel
theorem dX1_addCourse_58 : decode cX1_addCourse 58 = .ok (.putfield 46, 3) := by decide +kernel
theorem dX1_addCourse_61 : decode cX1_addCourse 61 = .ok (.return_, 1) := by decide +kernel
theorem dX1_putSlate_0 : decode cX1_putSlate 0 = .ok (.aload_n 0, 1) := by decide +kernel
theorem dX1_putSlate_1 : decode cX1_putSlate 1 = .ok (.iload_n 1, 1) := by decide +kernel
theorem dX1_putSlate_2 : decode cX1_putSlate 2 = .ok (.iload_n 2, 1) := by decide +kernel
theorem dX1_putSlate_3 : decode cX1_putSlate 3 = .ok (.invokevirtual 116, 3) := by decide +kernel
theorem dX1_putSlate_6 : decode cX1_putSlate 6 = .ok (.ifCond .eq 49, 3) := by decide +kernel
theorem dX1_putSlate_9 : decode cX1_putSlate 9 = .ok (.aload_n 0, 1) := by decide +kernel
theorem dX1_putSlate_10 : decode cX1_putSlate 10 = .ok (.iload_n 1, 1) := by decide +kernel
theorem dX1_putSlate_11 : decode cX1_putSlate 11 = .ok (.iload_n 2, 1) := by decide +kernel
theorem dX1_putSlate_12 : decode cX1_putSlate 12 = .ok (.invokevirtual 95, 3) := by decide +kernel
theorem dX1_putSlate_15 : decode cX1_putSlate 15 = .ok (.ifCond .ne 40, 3) := by decide +kernel
theorem dX1_putSlate_18 : decode cX1_putSlate 18 = .ok (.aload_n 0, 1) := by decide +kernel
theorem dX1_putSlate_19 : decode cX1_putSlate 19 = .ok (.getfield 22, 3) := by decide +kernel
theorem dX1_putSlate_22 : decode cX1_putSlate 22 = .ok (.iload_n 1, 1) := by decide +kernel
theorem dX1_putSlate_23 : decode cX1_putSlate 23 = .ok (.iconst 1, 1) := by decide +kernel
theorem dX1_putSlate_24 : decode cX1_putSlate 24 = .ok (.iload_n 2, 1) := by decide +kernel
theorem dX1_putSlate_25 : decode cX1_putSlate 25 = .ok (.ishl, 1) := by decide +kernel
theorem dX1_putSlate_26 : decode cX1_putSlate 26 = .ok (.invokestatic 119, 3) := by decide +kernel
theorem dX1_putSlate_29 : decode cX1_putSlate 29 = .ok (.aload_n 0, 1) := by decide +kernel
theorem dX1_putSlate_30 : decode cX1_putSlate 30 = .ok (.getfield 25, 3) := by decide +kernel
theorem dX1_putSlate_33 : decode cX1_putSlate 33 = .ok (.aload_n 0, 1) := by decide +kernel
theorem dX1_putSlate_34 : decode cX1_putSlate 34 = .ok (.getfield 18, 3) := by decide +kernel
theorem dX1_putSlate_37 : decode cX1_putSlate 37 = .ok (.iload_n 1, 1) := by decide +kernel
theorem dX1_putSlate_38 : decode cX1_putSlate 38 = .ok (.invokestatic 83, 3) := by decide +kernel
theorem dX1_putSlate_41 : decode cX1_putSlate 41 = .ok (.iconst (-1), 1) := by decide +kernel
theorem dX1_putSlate_42 : decode cX1_putSlate 42 = .ok (.invokestatic 119, 3) := by decide +kernel
theorem dX1_putSlate_45 : decode cX1_putSlate 45 = .ok (.aload_n 0, 1) := by decide +kernel
theorem dX1_putSlate_46 : decode cX1_putSlate 46 = .ok (.dup, 1) := by decide +kernel
theorem dX1_putSlate_47 : decode cX1_putSlate 47 = .ok (.getfield 43, 3) := by decide +kernel
theorem dX1_putSlate_50 : decode cX1_putSlate 50 = .ok (.iload_n 3, 1) := by decide +kernel
theorem dX1_putSlate_51 : decode cX1_putSlate 51 = .ok (.isub, 1) := by decide +kernel
theorem dX1_putSlate_52 : decode cX1_putSlate 52 = .ok (.putfield 43, 3) := by decide +kernel
theorem dX1_putSlate_55 : decode cX1_putSlate 55 = .ok (.return_, 1) := by decide +kernel
theorem dX1_passDay_0 : decode cX1_passDay 0 = .ok (.aload_n 0, 1) := by decide +kernel
theorem dX1_passDay_1 : decode cX1_passDay 1 = .ok (.dup, 1) := by decide +kernel
theorem dX1_passDay_2 : decode cX1_passDay 2 = .ok (.getfield 53, 3) := by decide +kernel
theorem dX1_passDay_5 : decode cX1_passDay 5 = .ok (.iconst 1, 1) := by decide +kernel
theorem dX1_passDay_6 : decode cX1_passDay 6 = .ok (.iadd, 1) := by decide +kernel
theorem dX1_passDay_7 : decode cX1_passDay 7 = .ok (.putfield 53, 3) := by decide +kernel
theorem dX1_passDay_10 : decode cX1_passDay 10 = .ok (.iload_n 1, 1) := by decide +kernel
theorem dX1_passDay_11 : decode cX1_passDay 11 = .ok (.ifCond .ne 20, 3) := by decide +kernel
theorem dX1_passDay_14 : decode cX1_passDay 14 = .ok (.aload_n 0, 1) := by decide +kernel
theorem dX1_passDay_15 : decode cX1_passDay 15 = .ok (.iconst 0, 1) := by decide +kernel
theorem dX1_passDay_16 : decode cX1_passDay 16 = .ok (.aload_n 0, 1) := by decide +kernel
theorem dX1_passDay_17 : decode cX1_passDay 17 = .ok (.getfield 56, 3) := by decide +kernel
theorem dX1_passDay_20 : decode cX1_passDay 20 = .ok (.iconst 1, 1) := by decide +kernel
theorem dX1_passDay_21 : decode cX1_passDay 21 = .ok (.isub, 1) := by decide +kernel
theorem dX1_passDay_22 : decode cX1_passDay 22 = .ok (.invokestatic 123, 3) := by decide +kernel
theorem dX1_passDay_25 : decode cX1_passDay 25 = .ok (.putfield 56, 3) := by decide +kernel
theorem dX1_passDay_28 : decode cX1_passDay 28 = .ok (.goto 25, 3) := by decide +kernel
theorem dX1_passDay_31 : decode cX1_passDay 31 = .ok (.aload_n 0, 1) := by decide +kernel
theorem dX1_passDay_32 : decode cX1_passDay 32 = .ok (.getfield 59, 3) := by decide +kernel
theorem dX1_passDay_35 : decode cX1_passDay 35 = .ok (.ifCond .ne 18, 3) := by decide +kernel
theorem dX1_passDay_38 : decode cX1_passDay 38 = .ok (.aload_n 0, 1) := by decide +kernel
theorem dX1_passDay_39 : decode cX1_passDay 39 = .ok (.invokevirtual 129, 3) := by decide +kernel
theorem dX1_passDay_42 : decode cX1_passDay 42 = .ok (.ifCond .ne 11, 3) := by decide +kernel
theorem dX1_passDay_45 : decode cX1_passDay 45 = .ok (.aload_n 0, 1) := by decide +kernel
theorem dX1_passDay_46 : decode cX1_passDay 46 = .ok (.aload_n 0, 1) := by decide +kernel
theorem dX1_passDay_47 : decode cX1_passDay 47 = .ok (.getfield 40, 3) := by decide +kernel
theorem dX1_passDay_50 : decode cX1_passDay 50 = .ok (.putfield 56, 3) := by decide +kernel
theorem dX1_passDay_53 : decode cX1_passDay 53 = .ok (.iconst 0, 1) := by decide +kernel
theorem dX1_passDay_54 : decode cX1_passDay 54 = .ok (.istore_n 2, 1) := by decide +kernel
theorem dX1_passDay_55 : decode cX1_passDay 55 = .ok (.iload_n 1, 1) := by decide +kernel
theorem dX1_passDay_56 : decode cX1_passDay 56 = .ok (.iconst 2, 1) := by decide +kernel
theorem dX1_passDay_57 : decode cX1_passDay 57 = .ok (.if_icmp .ne 46, 3) := by decide +kernel
theorem dX1_passDay_60 : decode cX1_passDay 60 = .ok (.aload_n 0, 1) := by decide +kernel
theorem dX1_passDay_61 : decode cX1_passDay 61 = .ok (.getfield 59, 3) := by decide +kernel
theorem dX1_passDay_64 : decode cX1_passDay 64 = .ok (.ifCond .ne 39, 3) := by decide +kernel
theorem dX1_passDay_67 : decode cX1_passDay 67 = .ok (.aload_n 0, 1) := by decide +kernel
theorem dX1_passDay_68 : decode cX1_passDay 68 = .ok (.aload_n 0, 1) := by decide +kernel
theorem dX1_passDay_69 : decode cX1_passDay 69 = .ok (.getfield 46, 3) := by decide +kernel
theorem dX1_passDay_72 : decode cX1_passDay 72 = .ok (.iconst 1, 1) := by decide +kernel
theorem dX1_passDay_73 : decode cX1_passDay 73 = .ok (.isub, 1) := by decide +kernel
theorem dX1_passDay_74 : decode cX1_passDay 74 = .ok (.aload_n 0, 1) := by decide +kernel
theorem dX1_passDay_75 : decode cX1_passDay 75 = .ok (.getfield 53, 3) := by decide +kernel
theorem dX1_passDay_78 : decode cX1_passDay 78 = .ok (.iconst 5, 1) := by decide +kernel
theorem dX1_passDay_79 : decode cX1_passDay 79 = .ok (.irem, 1) := by decide +kernel
theorem dX1_passDay_80 : decode cX1_passDay 80 = .ok (.invokevirtual 132, 3) := by decide +kernel
theorem dX1_passDay_83 : decode cX1_passDay 83 = .ok (.aload_n 0, 1) := by decide +kernel
theorem dX1_passDay_84 : decode cX1_passDay 84 = .ok (.aload_n 0, 1) := by decide +kernel
theorem dX1_passDay_85 : decode cX1_passDay 85 = .ok (.getfield 46, 3) := by decide +kernel
theorem dX1_passDay_88 : decode cX1_passDay 88 = .ok (.iconst 2, 1) := by decide +kernel
theorem dX1_passDay_89 : decode cX1_passDay 89 = .ok (.isub, 1) := by decide +kernel
theorem dX1_passDay_90 : decode cX1_passDay 90 = .ok (.aload_n 0, 1) := by decide +kernel
theorem dX1_passDay_91 : decode cX1_passDay 91 = .ok (.getfield 53, 3) := by decide +kernel
theorem dX1_passDay_94 : decode cX1_passDay 94 = .ok (.iconst 2, 1) := by decide +kernel
theorem dX1_passDay_95 : decode cX1_passDay 95 = .ok (.iadd, 1) := by decide +kernel
theorem dX1_passDay_96 : decode cX1_passDay 96 = .ok (.iconst 5, 1) := by decide +kernel
theorem dX1_passDay_97 : decode cX1_passDay 97 = .ok (.irem, 1) := by decide +kernel
theorem dX1_passDay_98 : decode cX1_passDay 98 = .ok (.invokevirtual 132, 3) := by decide +kernel
theorem dX1_passDay_101 : decode cX1_passDay 101 = .ok (.iadd, 1) := by decide +kernel
theorem dX1_passDay_102 : decode cX1_passDay 102 = .ok (.istore_n 2, 1) := by decide +kernel
theorem dX1_passDay_103 : decode cX1_passDay 103 = .ok (.aload_n 0, 1) := by decide +kernel
theorem dX1_passDay_104 : decode cX1_passDay 104 = .ok (.aload_n 0, 1) := by decide +kernel
theorem dX1_passDay_105 : decode cX1_passDay 105 = .ok (.getfield 37, 3) := by decide +kernel
theorem dX1_passDay_108 : decode cX1_passDay 108 = .ok (.putfield 43, 3) := by decide +kernel
theorem dX1_passDay_111 : decode cX1_passDay 111 = .ok (.iload_n 2, 1) := by decide +kernel
theorem dX1_passDay_112 : decode cX1_passDay 112 = .ok (.ireturn, 1) := by decide +kernel
theorem dX1_dropSlates_0 : decode cX1_dropSlates 0 = .ok (.aload_n 0, 1) := by decide +kernel
theorem dX1_dropSlates_1 : decode cX1_dropSlates 1 = .ok (.iload_n 1, 1) := by decide +kernel
theorem dX1_dropSlates_2 : decode cX1_dropSlates 2 = .ok (.invokevirtual 75, 3) := by decide +kernel
theorem dX1_dropSlates_5 : decode cX1_dropSlates 5 = .ok (.ifCond .ne 5, 3) := by decide +kernel
theorem dX1_dropSlates_8 : decode cX1_dropSlates 8 = .ok (.iconst 0, 1) := by decide +kernel
theorem dX1_dropSlates_9 : decode cX1_dropSlates 9 = .ok (.ireturn, 1) := by decide +kernel
theorem dX1_dropSlates_10 : decode cX1_dropSlates 10 = .ok (.iconst 0, 1) := by decide +kernel
theorem dX1_dropSlates_11 : decode cX1_dropSlates 11 = .ok (.istore_n 3, 1) := by decide +kernel
theorem dX1_dropSlates_12 : decode cX1_dropSlates 12 = .ok (.aload_n 0, 1) := by decide +kernel
theorem dX1_dropSlates_13 : decode cX1_dropSlates 13 = .ok (.iload_n 1, 1) := by decide +kernel
theorem dX1_dropSlates_14 : decode cX1_dropSlates 14 = .ok (.invokevirtual 79, 3) := by decide +kernel
theorem dX1_dropSlates_17 : decode cX1_dropSlates 17 = .ok (.istore 4, 2) := by decide +kernel
theorem dX1_dropSlates_19 : decode cX1_dropSlates 19 = .ok (.iload_n 2, 1) := by decide +kernel
theorem dX1_dropSlates_20 : decode cX1_dropSlates 20 = .ok (.istore 5, 2) := by decide +kernel
theorem dX1_dropSlates_22 : decode cX1_dropSlates 22 = .ok (.iload 5, 2) := by decide +kernel
theorem dX1_dropSlates_24 : decode cX1_dropSlates 24 = .ok (.iload 4, 2) := by decide +kernel
theorem dX1_dropSlates_26 : decode cX1_dropSlates 26 = .ok (.if_icmp .ge 35, 3) := by decide +kernel
theorem dX1_dropSlates_29 : decode cX1_dropSlates 29 = .ok (.aload_n 0, 1) := by decide +kernel
theorem dX1_dropSlates_30 : decode cX1_dropSlates 30 = .ok (.iload_n 1, 1) := by decide +kernel
theorem dX1_dropSlates_31 : decode cX1_dropSlates 31 = .ok (.iload 5, 2) := by decide +kernel
theorem dX1_dropSlates_33 : decode cX1_dropSlates 33 = .ok (.invokevirtual 95, 3) := by decide +kernel
theorem dX1_dropSlates_36 : decode cX1_dropSlates 36 = .ok (.ifCond .eq 19, 3) := by decide +kernel
theorem dX1_dropSlates_39 : decode cX1_dropSlates 39 = .ok (.aload_n 0, 1) := by decide +kernel
theorem dX1_dropSlates_40 : decode cX1_dropSlates 40 = .ok (.getfield 22, 3) := by decide +kernel
theorem dX1_dropSlates_43 : decode cX1_dropSlates 43 = .ok (.iload_n 1, 1) := by decide +kernel
theorem dX1_dropSlates_44 : decode cX1_dropSlates 44 = .ok (.iconst 1, 1) := by decide +kernel
theorem dX1_dropSlates_45 : decode cX1_dropSlates 45 = .ok (.iload 5, 2) := by decide +kernel
theorem dX1_dropSlates_47 : decode cX1_dropSlates 47 = .ok (.ishl, 1) := by decide +kernel
theorem dX1_dropSlates_48 : decode cX1_dropSlates 48 = .ok (.ineg, 1) := by decide +kernel
theorem dX1_dropSlates_49 : decode cX1_dropSlates 49 = .ok (.invokestatic 119, 3) := by decide +kernel
theorem dX1_dropSlates_52 : decode cX1_dropSlates 52 = .ok (.iinc 3 1, 3) := by decide +kernel
theorem dX1_dropSlates_55 : decode cX1_dropSlates 55 = .ok (.iinc 5 5, 3) := by decide +kernel
theorem dX1_dropSlates_58 : decode cX1_dropSlates 58 = .ok (.goto (-36), 3) := by decide +kernel
theorem dX1_dropSlates_61 : decode cX1_dropSlates 61 = .ok (.aload_n 0, 1) := by decide +kernel
theorem dX1_dropSlates_62 : decode cX1_dropSlates 62 = .ok (.getfield 28, 3) := by decide +kernel
theorem dX1_dropSlates_65 : decode cX1_dropSlates 65 = .ok (.aload_n 0, 1) := by decide +kernel
theorem dX1_dropSlates_66 : decode cX1_dropSlates 66 = .ok (.getfield 18, 3) := by decide +kernel
theorem dX1_dropSlates_69 : decode cX1_dropSlates 69 = .ok (.iload_n 1, 1) := by decide +kernel
theorem dX1_dropSlates_70 : decode cX1_dropSlates 70 = .ok (.invokestatic 83, 3) := by decide +kernel
theorem dX1_dropSlates_73 : decode cX1_dropSlates 73 = .ok (.iload_n 3, 1) := by decide +kernel
theorem dX1_dropSlates_74 : decode cX1_dropSlates 74 = .ok (.invokestatic 119, 3) := by decide +kernel
theorem dX1_dropSlates_77 : decode cX1_dropSlates 77 = .ok (.iload_n 3, 1) := by decide +kernel
theorem dX1_dropSlates_78 : decode cX1_dropSlates 78 = .ok (.ireturn, 1) := by decide +kernel
theorem dX1_slateForTheDay_0 : decode cX1_slateForTheDay 0 = .ok (.iconst 0, 1) := by decide +kernel
theorem dX1_slateForTheDay_1 : decode cX1_slateForTheDay 1 = .ok (.istore_n 1, 1) := by decide +kernel
theorem dX1_slateForTheDay_2 : decode cX1_slateForTheDay 2 = .ok (.iconst 0, 1) := by decide +kernel
theorem dX1_slateForTheDay_3 : decode cX1_slateForTheDay 3 = .ok (.istore_n 2, 1) := by decide +kernel
theorem dX1_slateForTheDay_4 : decode cX1_slateForTheDay 4 = .ok (.iload_n 2, 1) := by decide +kernel
theorem dX1_slateForTheDay_5 : decode cX1_slateForTheDay 5 = .ok (.ldc 135, 2) := by decide +kernel
theorem dX1_slateForTheDay_7 : decode cX1_slateForTheDay 7 = .ok (.if_icmp .ge 59, 3) := by decide +kernel
theorem dX1_slateForTheDay_10 : decode cX1_slateForTheDay 10 = .ok (.aload_n 0, 1) := by decide +kernel
theorem dX1_slateForTheDay_11 : decode cX1_slateForTheDay 11 = .ok (.invokevirtual 136, 3) := by decide +kernel
theorem dX1_slateForTheDay_14 : decode cX1_slateForTheDay 14 = .ok (.ifCond .eq 52, 3) := by decide +kernel
theorem dX1_slateForTheDay_17 : decode cX1_slateForTheDay 17 = .ok (.aload_n 0, 1) := by decide +kernel
theorem dX1_slateForTheDay_18 : decode cX1_slateForTheDay 18 = .ok (.invokevirtual 139, 3) := by decide +kernel
theorem dX1_slateForTheDay_21 : decode cX1_slateForTheDay 21 = .ok (.ifCond .ne 10, 3) := by decide +kernel
theorem dX1_slateForTheDay_24 : decode cX1_slateForTheDay 24 = .ok (.aload_n 0, 1) := by decide +kernel
theorem dX1_slateForTheDay_25 : decode cX1_slateForTheDay 25 = .ok (.invokevirtual 142, 3) := by decide +kernel
theorem dX1_slateForTheDay_28 : decode cX1_slateForTheDay 28 = .ok (.ifCond .eq 9, 3) := by decide +kernel
theorem dX1_slateForTheDay_31 : decode cX1_slateForTheDay 31 = .ok (.iinc 1 1, 3) := by decide +kernel
theorem dX1_slateForTheDay_34 : decode cX1_slateForTheDay 34 = .ok (.goto 26, 3) := by decide +kernel
theorem dX1_slateForTheDay_37 : decode cX1_slateForTheDay 37 = .ok (.aload_n 0, 1) := by decide +kernel
theorem dX1_slateForTheDay_38 : decode cX1_slateForTheDay 38 = .ok (.invokevirtual 145, 3) := by decide +kernel
theorem dX1_slateForTheDay_41 : decode cX1_slateForTheDay 41 = .ok (.ifCond .eq 25, 3) := by decide +kernel
theorem dX1_slateForTheDay_44 : decode cX1_slateForTheDay 44 = .ok (.aload_n 0, 1) := by decide +kernel
theorem dX1_slateForTheDay_45 : decode cX1_slateForTheDay 45 = .ok (.invokevirtual 148, 3) := by decide +kernel
theorem dX1_slateForTheDay_48 : decode cX1_slateForTheDay 48 = .ok (.iconst (-1), 1) := by decide +kernel
theorem dX1_slateForTheDay_49 : decode cX1_slateForTheDay 49 = .ok (.if_icmp .eq 17, 3) := by decide +kernel
theorem dX1_slateForTheDay_52 : decode cX1_slateForTheDay 52 = .ok (.aload_n 0, 1) := by decide +kernel
theorem dX1_slateForTheDay_53 : decode cX1_slateForTheDay 53 = .ok (.aload_n 0, 1) := by decide +kernel
theorem dX1_slateForTheDay_54 : decode cX1_slateForTheDay 54 = .ok (.invokevirtual 148, 3) := by decide +kernel
theorem dX1_slateForTheDay_57 : decode cX1_slateForTheDay 57 = .ok (.invokevirtual 151, 3) := by decide +kernel
theorem dX1_slateForTheDay_60 : decode cX1_slateForTheDay 60 = .ok (.iinc 2 1, 3) := by decide +kernel
theorem dX1_slateForTheDay_63 : decode cX1_slateForTheDay 63 = .ok (.goto (-59), 3) := by decide +kernel
theorem dX1_slateForTheDay_66 : decode cX1_slateForTheDay 66 = .ok (.iload_n 1, 1) := by decide +kernel
theorem dX1_slateForTheDay_67 : decode cX1_slateForTheDay 67 = .ok (.ireturn, 1) := by decide +kernel
theorem dX1_mendFirstGap_0 : decode cX1_mendFirstGap 0 = .ok (.iconst 0, 1) := by decide +kernel
theorem dX1_mendFirstGap_1 : decode cX1_mendFirstGap 1 = .ok (.istore_n 1, 1) := by decide +kernel
theorem dX1_mendFirstGap_2 : decode cX1_mendFirstGap 2 = .ok (.iload_n 1, 1) := by decide +kernel
theorem dX1_mendFirstGap_3 : decode cX1_mendFirstGap 3 = .ok (.aload_n 0, 1) := by decide +kernel
theorem dX1_mendFirstGap_4 : decode cX1_mendFirstGap 4 = .ok (.getfield 46, 3) := by decide +kernel
theorem dX1_mendFirstGap_7 : decode cX1_mendFirstGap 7 = .ok (.iconst 1, 1) := by decide +kernel
theorem dX1_mendFirstGap_8 : decode cX1_mendFirstGap 8 = .ok (.isub, 1) := by decide +kernel
theorem dX1_mendFirstGap_9 : decode cX1_mendFirstGap 9 = .ok (.if_icmp .ge 43, 3) := by decide +kernel
theorem dX1_mendFirstGap_12 : decode cX1_mendFirstGap 12 = .ok (.aload_n 0, 1) := by decide +kernel
theorem dX1_mendFirstGap_13 : decode cX1_mendFirstGap 13 = .ok (.iload_n 1, 1) := by decide +kernel
theorem dX1_mendFirstGap_14 : decode cX1_mendFirstGap 14 = .ok (.invokevirtual 113, 3) := by decide +kernel
theorem dX1_mendFirstGap_17 : decode cX1_mendFirstGap 17 = .ok (.ifCond .ne 29, 3) := by decide +kernel
theorem dX1_mendFirstGap_20 : decode cX1_mendFirstGap 20 = .ok (.aload_n 0, 1) := by decide +kernel
theorem dX1_mendFirstGap_21 : decode cX1_mendFirstGap 21 = .ok (.iload_n 1, 1) := by decide +kernel
theorem dX1_mendFirstGap_22 : decode cX1_mendFirstGap 22 = .ok (.invokevirtual 155, 3) := by decide +kernel
theorem dX1_mendFirstGap_25 : decode cX1_mendFirstGap 25 = .ok (.istore_n 2, 1) := by decide +kernel
theorem dX1_mendFirstGap_26 : decode cX1_mendFirstGap 26 = .ok (.aload_n 0, 1) := by decide +kernel
theorem dX1_mendFirstGap_27 : decode cX1_mendFirstGap 27 = .ok (.iload_n 1, 1) := by decide +kernel
theorem dX1_mendFirstGap_28 : decode cX1_mendFirstGap 28 = .ok (.iload_n 2, 1) := by decide +kernel
theorem dX1_mendFirstGap_29 : decode cX1_mendFirstGap 29 = .ok (.invokevirtual 158, 3) := by decide +kernel
theorem dX1_mendFirstGap_32 : decode cX1_mendFirstGap 32 = .ok (.istore_n 3, 1) := by decide +kernel
theorem dX1_mendFirstGap_33 : decode cX1_mendFirstGap 33 = .ok (.iload_n 3, 1) := by decide +kernel
theorem dX1_mendFirstGap_34 : decode cX1_mendFirstGap 34 = .ok (.ifCond .eq 10, 3) := by decide +kernel
theorem dX1_mendFirstGap_37 : decode cX1_mendFirstGap 37 = .ok (.aload_n 0, 1) := by decide +kernel
theorem dX1_mendFirstGap_38 : decode cX1_mendFirstGap 38 = .ok (.iload_n 1, 1) := by decide +kernel
theorem dX1_mendFirstGap_39 : decode cX1_mendFirstGap 39 = .ok (.iload_n 2, 1) := by decide +kernel
theorem dX1_mendFirstGap_40 : decode cX1_mendFirstGap 40 = .ok (.iconst 3, 1) := by decide +kernel
theorem dX1_mendFirstGap_41 : decode cX1_mendFirstGap 41 = .ok (.invokevirtual 161, 3) := by decide +kernel
theorem dX1_mendFirstGap_44 : decode cX1_mendFirstGap 44 = .ok (.iload_n 3, 1) := by decide +kernel
theorem dX1_mendFirstGap_45 : decode cX1_mendFirstGap 45 = .ok (.ireturn, 1) := by decide +kernel
theorem dX1_mendFirstGap_46 : decode cX1_mendFirstGap 46 = .ok (.iinc 1 1, 3) := by decide +kernel
theorem dX1_mendFirstGap_49 : decode cX1_mendFirstGap 49 = .ok (.goto (-47), 3) := by decide +kernel
theorem dX1_mendFirstGap_52 : decode cX1_mendFirstGap 52 = .ok (.iconst 0, 1) := by decide +kernel
theorem dX1_mendFirstGap_53 : decode cX1_mendFirstGap 53 = .ok (.ireturn, 1) := by decide +kernel
theorem dX1_layNext_0 : decode cX1_layNext 0 = .ok (.aload_n 0, 1) := by decide +kernel
theorem dX1_layNext_1 : decode cX1_layNext 1 = .ok (.iconst 1, 1) := by decide +kernel
theorem dX1_layNext_2 : decode cX1_layNext 2 = .ok (.invokevirtual 165, 3) := by decide +kernel
theorem dX1_layNext_5 : decode cX1_layNext 5 = .ok (.istore_n 1, 1) := by decide +kernel
theorem dX1_layNext_6 : decode cX1_layNext 6 = .ok (.iload_n 1, 1) := by decide +kernel
theorem dX1_layNext_7 : decode cX1_layNext 7 = .ok (.ifCond .eq 24, 3) := by decide +kernel
theorem dX1_layNext_10 : decode cX1_layNext 10 = .ok (.aload_n 0, 1) := by decide +kernel
theorem dX1_layNext_11 : decode cX1_layNext 11 = .ok (.aload_n 0, 1) := by decide +kernel
theorem dX1_layNext_12 : decode cX1_layNext 12 = .ok (.getfield 46, 3) := by decide +kernel
theorem dX1_layNext_15 : decode cX1_layNext 15 = .ok (.iconst 1, 1) := by decide +kernel
theorem dX1_layNext_16 : decode cX1_layNext 16 = .ok (.isub, 1) := by decide +kernel
theorem dX1_layNext_17 : decode cX1_layNext 17 = .ok (.aload_n 0, 1) := by decide +kernel
theorem dX1_layNext_18 : decode cX1_layNext 18 = .ok (.aload_n 0, 1) := by decide +kernel
theorem dX1_layNext_19 : decode cX1_layNext 19 = .ok (.getfield 46, 3) := by decide +kernel
theorem dX1_layNext_22 : decode cX1_layNext 22 = .ok (.iconst 1, 1) := by decide +kernel
theorem dX1_layNext_23 : decode cX1_layNext 23 = .ok (.isub, 1) := by decide +kernel
theorem dX1_layNext_24 : decode cX1_layNext 24 = .ok (.invokevirtual 155, 3) := by decide +kernel
theorem dX1_layNext_27 : decode cX1_layNext 27 = .ok (.iconst 1, 1) := by decide +kernel
theorem dX1_layNext_28 : decode cX1_layNext 28 = .ok (.invokevirtual 161, 3) := by decide +kernel
theorem dX1_layNext_31 : decode cX1_layNext 31 = .ok (.iload_n 1, 1) := by decide +kernel
theorem dX1_layNext_32 : decode cX1_layNext 32 = .ok (.ireturn, 1) := by decide +kernel
theorem dX1_nextLength_0 : decode cX1_nextLength 0 = .ok (.aload_n 0, 1) := by decide +kernel
theorem dX1_nextLength_1 : decode cX1_nextLength 1 = .ok (.aload_n 0, 1) := by decide +kernel
theorem dX1_nextLength_2 : decode cX1_nextLength 2 = .ok (.getfield 46, 3) := by decide +kernel
theorem dX1_nextLength_5 : decode cX1_nextLength 5 = .ok (.invokevirtual 79, 3) := by decide +kernel
theorem dX1_nextLength_8 : decode cX1_nextLength 8 = .ok (.istore_n 1, 1) := by decide +kernel
theorem dX1_nextLength_9 : decode cX1_nextLength 9 = .ok (.aload_n 0, 1) := by decide +kernel
theorem dX1_nextLength_10 : decode cX1_nextLength 10 = .ok (.invokevirtual 168, 3) := by decide +kernel
theorem dX1_nextLength_13 : decode cX1_nextLength 13 = .ok (.istore_n 2, 1) := by decide +kernel
theorem dX1_nextLength_14 : decode cX1_nextLength 14 = .ok (.iload_n 2, 1) := by decide +kernel
theorem dX1_nextLength_15 : decode cX1_nextLength 15 = .ok (.bipush 8, 2) := by decide +kernel
theorem dX1_nextLength_17 : decode cX1_nextLength 17 = .ok (.if_icmp .lt 23, 3) := by decide +kernel
theorem dX1_nextLength_20 : decode cX1_nextLength 20 = .ok (.aload_n 0, 1) := by decide +kernel
theorem dX1_nextLength_21 : decode cX1_nextLength 21 = .ok (.getfield 25, 3) := by decide +kernel
theorem dX1_nextLength_24 : decode cX1_nextLength 24 = .ok (.iload_n 2, 1) := by decide +kernel
theorem dX1_nextLength_25 : decode cX1_nextLength 25 = .ok (.invokestatic 83, 3) := by decide +kernel
theorem dX1_nextLength_28 : decode cX1_nextLength 28 = .ok (.iload_n 1, 1) := by decide +kernel
theorem dX1_nextLength_29 : decode cX1_nextLength 29 = .ok (.if_icmp .lt 5, 3) := by decide +kernel
theorem dX1_nextLength_32 : decode cX1_nextLength 32 = .ok (.iload_n 2, 1) := by decide +kernel
theorem dX1_nextLength_33 : decode cX1_nextLength 33 = .ok (.ireturn, 1) := by decide +kernel
theorem dX1_nextLength_34 : decode cX1_nextLength 34 = .ok (.iinc 2 (-1), 3) := by decide +kernel
theorem dX1_nextLength_37 : decode cX1_nextLength 37 = .ok (.goto (-23), 3) := by decide +kernel
theorem dX1_nextLength_40 : decode cX1_nextLength 40 = .ok (.iconst (-1), 1) := by decide +kernel
theorem dX1_nextLength_41 : decode cX1_nextLength 41 = .ok (.ireturn, 1) := by decide +kernel
theorem dX1_buildFromStock_0 : decode cX1_buildFromStock 0 = .ok (.aload_n 0, 1) := by decide +kernel
theorem dX1_buildFromStock_1 : decode cX1_buildFromStock 1 = .ok (.getfield 46, 3) := by decide +kernel
theorem dX1_buildFromStock_4 : decode cX1_buildFromStock 4 = .ok (.istore_n 1, 1) := by decide +kernel
theorem dX1_buildFromStock_5 : decode cX1_buildFromStock 5 = .ok (.iload_n 1, 1) := by decide +kernel
theorem dX1_buildFromStock_6 : decode cX1_buildFromStock 6 = .ok (.bipush 100, 2) := by decide +kernel
theorem dX1_buildFromStock_8 : decode cX1_buildFromStock 8 = .ok (.if_icmp .ge 48, 3) := by decide +kernel
theorem dX1_buildFromStock_11 : decode cX1_buildFromStock 11 = .ok (.aload_n 0, 1) := by decide +kernel
theorem dX1_buildFromStock_12 : decode cX1_buildFromStock 12 = .ok (.invokevirtual 105, 3) := by decide +kernel
theorem dX1_buildFromStock_15 : decode cX1_buildFromStock 15 = .ok (.ifCond .ne 41, 3) := by decide +kernel
theorem dX1_buildFromStock_18 : decode cX1_buildFromStock 18 = .ok (.aload_n 0, 1) := by decide +kernel
theorem dX1_buildFromStock_19 : decode cX1_buildFromStock 19 = .ok (.invokevirtual 148, 3) := by decide +kernel
theorem dX1_buildFromStock_22 : decode cX1_buildFromStock 22 = .ok (.istore_n 2, 1) := by decide +kernel
theorem dX1_buildFromStock_23 : decode cX1_buildFromStock 23 = .ok (.iload_n 2, 1) := by decide +kernel
theorem dX1_buildFromStock_24 : decode cX1_buildFromStock 24 = .ok (.iconst (-1), 1) := by decide +kernel
theorem dX1_buildFromStock_25 : decode cX1_buildFromStock 25 = .ok (.if_icmp .ne 6, 3) := by decide +kernel
theorem dX1_buildFromStock_28 : decode cX1_buildFromStock 28 = .ok (.goto 28, 3) := by decide +kernel
theorem dX1_buildFromStock_31 : decode cX1_buildFromStock 31 = .ok (.aload_n 0, 1) := by decide +kernel
theorem dX1_buildFromStock_32 : decode cX1_buildFromStock 32 = .ok (.getfield 25, 3) := by decide +kernel
theorem dX1_buildFromStock_35 : decode cX1_buildFromStock 35 = .ok (.iload_n 2, 1) := by decide +kernel
theorem dX1_buildFromStock_36 : decode cX1_buildFromStock 36 = .ok (.aload_n 0, 1) := by decide +kernel
theorem dX1_buildFromStock_37 : decode cX1_buildFromStock 37 = .ok (.iload_n 1, 1) := by decide +kernel
theorem dX1_buildFromStock_38 : decode cX1_buildFromStock 38 = .ok (.invokevirtual 79, 3) := by decide +kernel
theorem dX1_buildFromStock_41 : decode cX1_buildFromStock 41 = .ok (.ineg, 1) := by decide +kernel
theorem dX1_buildFromStock_42 : decode cX1_buildFromStock 42 = .ok (.invokestatic 119, 3) := by decide +kernel
theorem dX1_buildFromStock_45 : decode cX1_buildFromStock 45 = .ok (.aload_n 0, 1) := by decide +kernel
theorem dX1_buildFromStock_46 : decode cX1_buildFromStock 46 = .ok (.iload_n 2, 1) := by decide +kernel
theorem dX1_buildFromStock_47 : decode cX1_buildFromStock 47 = .ok (.invokevirtual 151, 3) := by decide +kernel
theorem dX1_buildFromStock_50 : decode cX1_buildFromStock 50 = .ok (.iinc 1 1, 3) := by decide +kernel
theorem dX1_buildFromStock_53 : decode cX1_buildFromStock 53 = .ok (.goto (-48), 3) := by decide +kernel
theorem dX1_buildFromStock_56 : decode cX1_buildFromStock 56 = .ok (.return_, 1) := by decide +kernel
theorem dX1_coursesToTop_0 : decode cX1_coursesToTop 0 = .ok (.aload_n 0, 1) := by decide +kernel
theorem dX1_coursesToTop_1 : decode cX1_coursesToTop 1 = .ok (.getfield 9, 3) := by decide +kernel
theorem dX1_coursesToTop_4 : decode cX1_coursesToTop 4 = .ok (.aload_n 0, 1) := by decide +kernel
theorem dX1_coursesToTop_5 : decode cX1_coursesToTop 5 = .ok (.aload_n 0, 1) := by decide +kernel
theorem dX1_coursesToTop_6 : decode cX1_coursesToTop 6 = .ok (.getfield 46, 3) := by decide +kernel
theorem dX1_coursesToTop_9 : decode cX1_coursesToTop 9 = .ok (.iconst 1, 1) := by decide +kernel
theorem dX1_coursesToTop_10 : decode cX1_coursesToTop 10 = .ok (.isub, 1) := by decide +kernel
theorem dX1_coursesToTop_11 : decode cX1_coursesToTop 11 = .ok (.invokevirtual 102, 3) := by decide +kernel
theorem dX1_coursesToTop_14 : decode cX1_coursesToTop 14 = .ok (.isub, 1) := by decide +kernel
theorem dX1_coursesToTop_15 : decode cX1_coursesToTop 15 = .ok (.istore_n 2, 1) := by decide +kernel
theorem dX1_coursesToTop_16 : decode cX1_coursesToTop 16 = .ok (.aload_n 0, 1) := by decide +kernel
theorem dX1_coursesToTop_17 : decode cX1_coursesToTop 17 = .ok (.iload_n 1, 1) := by decide +kernel
theorem dX1_coursesToTop_18 : decode cX1_coursesToTop 18 = .ok (.invokevirtual 99, 3) := by decide +kernel
theorem dX1_coursesToTop_21 : decode cX1_coursesToTop 21 = .ok (.istore_n 3, 1) := by decide +kernel
theorem dX1_coursesToTop_22 : decode cX1_coursesToTop 22 = .ok (.iload_n 2, 1) := by decide +kernel
theorem dX1_coursesToTop_23 : decode cX1_coursesToTop 23 = .ok (.ifCond .le 17, 3) := by decide +kernel
theorem dX1_coursesToTop_26 : decode cX1_coursesToTop 26 = .ok (.iload_n 3, 1) := by decide +kernel
theorem dX1_coursesToTop_27 : decode cX1_coursesToTop 27 = .ok (.ifCond .le 13, 3) := by decide +kernel
theorem dX1_coursesToTop_30 : decode cX1_coursesToTop 30 = .ok (.iload_n 2, 1) := by decide +kernel
theorem dX1_coursesToTop_31 : decode cX1_coursesToTop 31 = .ok (.iload_n 3, 1) := by decide +kernel
theorem dX1_coursesToTop_32 : decode cX1_coursesToTop 32 = .ok (.iadd, 1) := by decide +kernel
theorem dX1_coursesToTop_33 : decode cX1_coursesToTop 33 = .ok (.iconst 1, 1) := by decide +kernel
theorem dX1_coursesToTop_34 : decode cX1_coursesToTop 34 = .ok (.isub, 1) := by decide +kernel
theorem dX1_coursesToTop_35 : decode cX1_coursesToTop 35 = .ok (.iload_n 3, 1) := by decide +kernel
theorem dX1_coursesToTop_36 : decode cX1_coursesToTop 36 = .ok (.idiv, 1) := by decide +kernel
theorem dX1_coursesToTop_37 : decode cX1_coursesToTop 37 = .ok (.goto 4, 3) := by decide +kernel
theorem dX1_coursesToTop_40 : decode cX1_coursesToTop 40 = .ok (.iconst 0, 1) := by decide +kernel
theorem dX1_coursesToTop_41 : decode cX1_coursesToTop 41 = .ok (.ireturn, 1) := by decide +kernel
theorem dX1_placesOfNext_0 : decode cX1_placesOfNext 0 = .ok (.aload_n 0, 1) := by decide +kernel
theorem dX1_placesOfNext_1 : decode cX1_placesOfNext 1 = .ok (.getfield 46, 3) := by decide +kernel
theorem dX1_placesOfNext_4 : decode cX1_placesOfNext 4 = .ok (.iload_n 1, 1) := by decide +kernel
theorem dX1_placesOfNext_5 : decode cX1_placesOfNext 5 = .ok (.iadd, 1) := by decide +kernel
theorem dX1_placesOfNext_6 : decode cX1_placesOfNext 6 = .ok (.iconst 2, 1) := by decide +kernel
theorem dX1_placesOfNext_7 : decode cX1_placesOfNext 7 = .ok (.idiv, 1) := by decide +kernel
theorem dX1_placesOfNext_8 : decode cX1_placesOfNext 8 = .ok (.aload_n 0, 1) := by decide +kernel
theorem dX1_placesOfNext_9 : decode cX1_placesOfNext 9 = .ok (.getfield 46, 3) := by decide +kernel
theorem dX1_placesOfNext_12 : decode cX1_placesOfNext 12 = .ok (.iconst 2, 1) := by decide +kernel
theorem dX1_placesOfNext_13 : decode cX1_placesOfNext 13 = .ok (.idiv, 1) := by decide +kernel
theorem dX1_placesOfNext_14 : decode cX1_placesOfNext 14 = .ok (.isub, 1) := by decide +kernel
theorem dX1_placesOfNext_15 : decode cX1_placesOfNext 15 = .ok (.istore_n 2, 1) := by decide +kernel
theorem dX1_placesOfNext_16 : decode cX1_placesOfNext 16 = .ok (.iload_n 1, 1) := by decide +kernel
theorem dX1_placesOfNext_17 : decode cX1_placesOfNext 17 = .ok (.aload_n 0, 1) := by decide +kernel
theorem dX1_placesOfNext_18 : decode cX1_placesOfNext 18 = .ok (.getfield 15, 3) := by decide +kernel
theorem dX1_placesOfNext_21 : decode cX1_placesOfNext 21 = .ok (.imul, 1) := by decide +kernel
theorem dX1_placesOfNext_22 : decode cX1_placesOfNext 22 = .ok (.iload_n 2, 1) := by decide +kernel
theorem dX1_placesOfNext_23 : decode cX1_placesOfNext 23 = .ok (.iadd, 1) := by decide +kernel
theorem dX1_placesOfNext_24 : decode cX1_placesOfNext 24 = .ok (.ireturn, 1) := by decide +kernel
theorem dX2_init_0 : decode cX2_init 0 = .ok (.aload_n 0, 1) := by decide +kernel
theorem dX2_init_1 : decode cX2_init 1 = .ok (.invokespecial 3, 3) := by decide +kernel
theorem dX2_init_4 : decode cX2_init 4 = .ok (.aload_n 0, 1) := by decide +kernel
theorem dX2_init_5 : decode cX2_init 5 = .ok (.bipush 6, 2) := by decide +kernel
theorem dX2_init_7 : decode cX2_init 7 = .ok (.anewarray 9, 3) := by decide +kernel
theorem dX2_init_10 : decode cX2_init 10 = .ok (.putfield 11, 3) := by decide +kernel
theorem dX2_init_13 : decode cX2_init 13 = .ok (.iconst 0, 1) := by decide +kernel
theorem dX2_init_14 : decode cX2_init 14 = .ok (.istore_n 1, 1) := by decide +kernel
theorem dX2_init_15 : decode cX2_init 15 = .ok (.iload_n 1, 1) := by decide +kernel
theorem dX2_init_16 : decode cX2_init 16 = .ok (.aload_n 0, 1) := by decide +kernel
theorem dX2_init_17 : decode cX2_init 17 = .ok (.getfield 11, 3) := by decide +kernel
theorem dX2_init_20 : decode cX2_init 20 = .ok (.arraylength, 1) := by decide +kernel
theorem dX2_init_21 : decode cX2_init 21 = .ok (.if_icmp .ge 22, 3) := by decide +kernel
theorem dX2_init_24 : decode cX2_init 24 = .ok (.aload_n 0, 1) := by decide +kernel
theorem dX2_init_25 : decode cX2_init 25 = .ok (.getfield 11, 3) := by decide +kernel
theorem dX2_init_28 : decode cX2_init 28 = .ok (.iload_n 1, 1) := by decide +kernel
theorem dX2_init_29 : decode cX2_init 29 = .ok (.new 9, 3) := by decide +kernel
theorem dX2_init_32 : decode cX2_init 32 = .ok (.dup, 1) := by decide +kernel
theorem dX2_init_33 : decode cX2_init 33 = .ok (.invokespecial 17, 3) := by decide +kernel
theorem dX2_init_36 : decode cX2_init 36 = .ok (.aastore, 1) := by decide +kernel
theorem dX2_init_37 : decode cX2_init 37 = .ok (.iinc 1 1, 3) := by decide +kernel
theorem dX2_init_40 : decode cX2_init 40 = .ok (.goto (-25), 3) := by decide +kernel
theorem dX2_init_43 : decode cX2_init 43 = .ok (.return_, 1) := by decide +kernel
theorem dX2_keep_0 : decode cX2_keep 0 = .ok (.aload_n 0, 1) := by decide +kernel
theorem dX2_keep_1 : decode cX2_keep 1 = .ok (.aload_n 0, 1) := by decide +kernel
theorem dX2_keep_2 : decode cX2_keep 2 = .ok (.getfield 18, 3) := by decide +kernel
theorem dX2_keep_5 : decode cX2_keep 5 = .ok (.aload_n 0, 1) := by decide +kernel
theorem dX2_keep_6 : decode cX2_keep 6 = .ok (.getfield 22, 3) := by decide +kernel
theorem dX2_keep_9 : decode cX2_keep 9 = .ok (.iadd, 1) := by decide +kernel
theorem dX2_keep_10 : decode cX2_keep 10 = .ok (.invokevirtual 25, 3) := by decide +kernel
theorem dX2_keep_13 : decode cX2_keep 13 = .ok (.astore_n 2, 1) := by decide +kernel
theorem dX2_keep_14 : decode cX2_keep 14 = .ok (.aload_n 2, 1) := by decide +kernel
theorem dX2_keep_15 : decode cX2_keep 15 = .ok (.ifnull 8, 3) := by decide +kernel
theorem dX2_keep_18 : decode cX2_keep 18 = .ok (.aload_n 2, 1) := by decide +kernel
theorem dX2_keep_19 : decode cX2_keep 19 = .ok (.aload_n 1, 1) := by decide +kernel
theorem dX2_keep_20 : decode cX2_keep 20 = .ok (.invokevirtual 29, 3) := by decide +kernel
theorem dX2_keep_23 : decode cX2_keep 23 = .ok (.aload_n 0, 1) := by decide +kernel
theorem dX2_keep_24 : decode cX2_keep 24 = .ok (.getfield 22, 3) := by decide +kernel
theorem dX2_keep_27 : decode cX2_keep 27 = .ok (.bipush 6, 2) := by decide +kernel
theorem dX2_keep_29 : decode cX2_keep 29 = .ok (.if_icmp .ge 16, 3) := by decide +kernel
theorem dX2_keep_32 : decode cX2_keep 32 = .ok (.aload_n 0, 1) := by decide +kernel
theorem dX2_keep_33 : decode cX2_keep 33 = .ok (.dup, 1) := by decide +kernel
theorem dX2_keep_34 : decode cX2_keep 34 = .ok (.getfield 22, 3) := by decide +kernel
theorem dX2_keep_37 : decode cX2_keep 37 = .ok (.iconst 1, 1) := by decide +kernel
theorem dX2_keep_38 : decode cX2_keep 38 = .ok (.iadd, 1) := by decide +kernel
theorem dX2_keep_39 : decode cX2_keep 39 = .ok (.putfield 22, 3) := by decide +kernel
theorem dX2_keep_42 : decode cX2_keep 42 = .ok (.goto 16, 3) := by decide +kernel
theorem dX2_keep_45 : decode cX2_keep 45 = .ok (.aload_n 0, 1) := by decide +kernel
theorem dX2_keep_46 : decode cX2_keep 46 = .ok (.aload_n 0, 1) := by decide +kernel
theorem dX2_keep_47 : decode cX2_keep 47 = .ok (.getfield 18, 3) := by decide +kernel
theorem dX2_keep_50 : decode cX2_keep 50 = .ok (.iconst 1, 1) := by decide +kernel
theorem dX2_keep_51 : decode cX2_keep 51 = .ok (.iadd, 1) := by decide +kernel
theorem dX2_keep_52 : decode cX2_keep 52 = .ok (.bipush 6, 2) := by decide +kernel
theorem dX2_keep_54 : decode cX2_keep 54 = .ok (.irem, 1) := by decide +kernel
theorem dX2_keep_55 : decode cX2_keep 55 = .ok (.putfield 18, 3) := by decide +kernel
theorem dX2_keep_58 : decode cX2_keep 58 = .ok (.return_, 1) := by decide +kernel
theorem dX2_slotAt_0 : decode cX2_slotAt 0 = .ok (.iload_n 1, 1) := by decide +kernel
theorem dX2_slotAt_1 : decode cX2_slotAt 1 = .ok (.bipush 6, 2) := by decide +kernel
theorem dX2_slotAt_3 : decode cX2_slotAt 3 = .ok (.irem, 1) := by decide +kernel
theorem dX2_slotAt_4 : decode cX2_slotAt 4 = .ok (.istore_n 2, 1) := by decide +kernel
theorem dX2_slotAt_5 : decode cX2_slotAt 5 = .ok (.iload_n 2, 1) := by decide +kernel
theorem dX2_slotAt_6 : decode cX2_slotAt 6 = .ok (.ifCond .lt 21, 3) := by decide +kernel
theorem dX2_slotAt_9 : decode cX2_slotAt 9 = .ok (.iload_n 2, 1) := by decide +kernel
theorem dX2_slotAt_10 : decode cX2_slotAt 10 = .ok (.aload_n 0, 1) := by decide +kernel
theorem dX2_slotAt_11 : decode cX2_slotAt 11 = .ok (.getfield 11, 3) := by decide +kernel
theorem dX2_slotAt_14 : decode cX2_slotAt 14 = .ok (.arraylength, 1) := by decide +kernel
theorem dX2_slotAt_15 : decode cX2_slotAt 15 = .ok (.if_icmp .ge 12, 3) := by decide +kernel
theorem dX2_slotAt_18 : decode cX2_slotAt 18 = .ok (.aload_n 0, 1) := by decide +kernel
theorem dX2_slotAt_19 : decode cX2_slotAt 19 = .ok (.getfield 11, 3) := by decide +kernel
theorem dX2_slotAt_22 : decode cX2_slotAt 22 = .ok (.iload_n 2, 1) := by decide +kernel
theorem dX2_slotAt_23 : decode cX2_slotAt 23 = .ok (.aaload, 1) := by decide +kernel
theorem dX2_slotAt_24 : decode cX2_slotAt 24 = .ok (.goto 4, 3) := by decide +kernel
theorem dX2_slotAt_27 : decode cX2_slotAt 27 = .ok (.aconst_null, 1) := by decide +kernel
theorem dX2_slotAt_28 : decode cX2_slotAt 28 = .ok (.areturn, 1) := by decide +kernel
theorem dX3_init_0 : decode cX3_init 0 = .ok (.aload_n 0, 1) := by decide +kernel
theorem dX3_init_1 : decode cX3_init 1 = .ok (.invokespecial 1, 3) := by decide +kernel
theorem dX3_init_4 : decode cX3_init 4 = .ok (.aload_n 0, 1) := by decide +kernel
theorem dX3_init_5 : decode cX3_init 5 = .ok (.new 7, 3) := by decide +kernel
theorem dX3_init_8 : decode cX3_init 8 = .ok (.dup, 1) := by decide +kernel
theorem dX3_init_9 : decode cX3_init 9 = .ok (.invokespecial 9, 3) := by decide +kernel
theorem dX3_init_12 : decode cX3_init 12 = .ok (.putfield 10, 3) := by decide +kernel
theorem dX3_init_15 : decode cX3_init 15 = .ok (.aload_n 0, 1) := by decide +kernel
theorem dX3_init_16 : decode cX3_init 16 = .ok (.new 7, 3) := by decide +kernel
theorem dX3_init_19 : decode cX3_init 19 = .ok (.dup, 1) := by decide +kernel
theorem dX3_init_20 : decode cX3_init 20 = .ok (.invokespecial 9, 3) := by decide +kernel
theorem dX3_init_23 : decode cX3_init 23 = .ok (.putfield 16, 3) := by decide +kernel
theorem dX3_init_26 : decode cX3_init 26 = .ok (.aload_n 0, 1) := by decide +kernel
theorem dX3_init_27 : decode cX3_init 27 = .ok (.new 19, 3) := by decide +kernel
theorem dX3_init_30 : decode cX3_init 30 = .ok (.dup, 1) := by decide +kernel
theorem dX3_init_31 : decode cX3_init 31 = .ok (.invokespecial 21, 3) := by decide +kernel
theorem dX3_init_34 : decode cX3_init 34 = .ok (.putfield 22, 3) := by decide +kernel
theorem dX3_init_37 : decode cX3_init 37 = .ok (.aload_n 0, 1) := by decide +kernel
theorem dX3_init_38 : decode cX3_init 38 = .ok (.new 26, 3) := by decide +kernel
theorem dX3_init_41 : decode cX3_init 41 = .ok (.dup, 1) := by decide +kernel
theorem dX3_init_42 : decode cX3_init 42 = .ok (.invokespecial 28, 3) := by decide +kernel
theorem dX3_init_45 : decode cX3_init 45 = .ok (.putfield 29, 3) := by decide +kernel
theorem dX3_init_48 : decode cX3_init 48 = .ok (.return_, 1) := by decide +kernel
theorem dX3_begin_0 : decode cX3_begin 0 = .ok (.iload_n 1, 1) := by decide +kernel
theorem dX3_begin_1 : decode cX3_begin 1 = .ok (.bipush 20, 2) := by decide +kernel
theorem dX3_begin_3 : decode cX3_begin 3 = .ok (.sipush 400, 3) := by decide +kernel
theorem dX3_begin_6 : decode cX3_begin 6 = .ok (.invokestatic 33, 3) := by decide +kernel
theorem dX3_begin_9 : decode cX3_begin 9 = .ok (.ifCond .eq 13, 3) := by decide +kernel
theorem dX3_begin_12 : decode cX3_begin 12 = .ok (.iload_n 2, 1) := by decide +kernel
theorem dX3_begin_13 : decode cX3_begin 13 = .ok (.iconst 2, 1) := by decide +kernel
theorem dX3_begin_14 : decode cX3_begin 14 = .ok (.bipush 30, 2) := by decide +kernel
theorem dX3_begin_16 : decode cX3_begin 16 = .ok (.invokestatic 33, 3) := by decide +kernel
theorem dX3_begin_19 : decode cX3_begin 19 = .ok (.ifCond .ne 13, 3) := by decide +kernel
theorem dX3_begin_22 : decode cX3_begin 22 = .ok (.new 37, 3) := by decide +kernel
theorem dX3_begin_25 : decode cX3_begin 25 = .ok (.dup, 1) := by decide +kernel
theorem dX3_begin_26 : decode cX3_begin 26 = .ok (.ldc 39, 2) := by decide +kernel
theorem dX3_begin_28 : decode cX3_begin 28 = .ok (.invokespecial 41, 3) := by decide +kernel
theorem dX3_begin_31 : decode cX3_begin 31 = .ok (.athrow, 1) := by decide +kernel
theorem dX3_begin_32 : decode cX3_begin 32 = .ok (.aload_n 0, 1) := by decide +kernel
theorem dX3_begin_33 : decode cX3_begin 33 = .ok (.getfield 22, 3) := by decide +kernel
theorem dX3_begin_36 : decode cX3_begin 36 = .ok (.aload_n 0, 1) := by decide +kernel
theorem dX3_begin_37 : decode cX3_begin 37 = .ok (.getfield 10, 3) := by decide +kernel
theorem dX3_begin_40 : decode cX3_begin 40 = .ok (.invokevirtual 44, 3) := by decide +kernel
theorem dX3_begin_43 : decode cX3_begin 43 = .ok (.aload_n 0, 1) := by decide +kernel
theorem dX3_begin_44 : decode cX3_begin 44 = .ok (.getfield 10, 3) := by decide +kernel
theorem dX3_begin_47 : decode cX3_begin 47 = .ok (.invokevirtual 48, 3) := by decide +kernel
theorem dX3_begin_50 : decode cX3_begin 50 = .ok (.istore_n 3, 1) := by decide +kernel
theorem dX3_begin_51 : decode cX3_begin 51 = .ok (.aload_n 0, 1) := by decide +kernel
theorem dX3_begin_52 : decode cX3_begin 52 = .ok (.getfield 10, 3) := by decide +kernel
theorem dX3_begin_55 : decode cX3_begin 55 = .ok (.dup, 1) := by decide +kernel
theorem dX3_begin_56 : decode cX3_begin 56 = .ok (.getfield 52, 3) := by decide +kernel
theorem dX3_begin_59 : decode cX3_begin 59 = .ok (.iload_n 3, 1) := by decide +kernel
theorem dX3_begin_60 : decode cX3_begin 60 = .ok (.iadd, 1) := by decide +kernel
theorem dX3_begin_61 : decode cX3_begin 61 = .ok (.putfield 52, 3) := by decide +kernel
theorem dX3_begin_64 : decode cX3_begin 64 = .ok (.aload_n 0, 1) := by decide +kernel
theorem dX3_begin_65 : decode cX3_begin 65 = .ok (.getfield 10, 3) := by decide +kernel
theorem dX3_begin_68 : decode cX3_begin 68 = .ok (.iconst 0, 1) := by decide +kernel
theorem dX3_begin_69 : decode cX3_begin 69 = .ok (.putfield 56, 3) := by decide +kernel
theorem dX3_begin_72 : decode cX3_begin 72 = .ok (.aload_n 0, 1) := by decide +kernel
theorem dX3_begin_73 : decode cX3_begin 73 = .ok (.getfield 10, 3) := by decide +kernel
theorem dX3_begin_76 : decode cX3_begin 76 = .ok (.iload_n 1, 1) := by decide +kernel
theorem dX3_begin_77 : decode cX3_begin 77 = .ok (.putfield 59, 3) := by decide +kernel
theorem dX3_begin_80 : decode cX3_begin 80 = .ok (.aload_n 0, 1) := by decide +kernel
theorem dX3_begin_81 : decode cX3_begin 81 = .ok (.getfield 10, 3) := by decide +kernel
theorem dX3_begin_84 : decode cX3_begin 84 = .ok (.iload_n 2, 1) := by decide +kernel
theorem dX3_begin_85 : decode cX3_begin 85 = .ok (.putfield 62, 3) := by decide +kernel
theorem dX3_begin_88 : decode cX3_begin 88 = .ok (.iload_n 3, 1) := by decide +kernel
theorem dX3_begin_89 : decode cX3_begin 89 = .ok (.ireturn, 1) := by decide +kernel
theorem dX3_set_0 : decode cX3_set 0 = .ok (.iload_n 1, 1) := by decide +kernel
theorem dX3_set_1 : decode cX3_set 1 = .ok (.iconst 0, 1) := by decide +kernel
theorem dX3_set_2 : decode cX3_set 2 = .ok (.iconst 2, 1) := by decide +kernel
theorem dX3_set_3 : decode cX3_set 3 = .ok (.invokestatic 33, 3) := by decide +kernel
theorem dX3_set_6 : decode cX3_set 6 = .ok (.ifCond .ne 13, 3) := by decide +kernel
theorem dX3_set_9 : decode cX3_set 9 = .ok (.new 65, 3) := by decide +kernel
theorem dX3_set_12 : decode cX3_set 12 = .ok (.dup, 1) := by decide +kernel
theorem dX3_set_13 : decode cX3_set 13 = .ok (.ldc 67, 2) := by decide +kernel
theorem dX3_set_15 : decode cX3_set 15 = .ok (.invokespecial 69, 3) := by decide +kernel
theorem dX3_set_18 : decode cX3_set 18 = .ok (.athrow, 1) := by decide +kernel
theorem dX3_set_19 : decode cX3_set 19 = .ok (.iload_n 2, 1) := by decide +kernel
theorem dX3_set_20 : decode cX3_set 20 = .ok (.getstatic 70, 3) := by decide +kernel
theorem dX3_set_23 : decode cX3_set 23 = .ok (.iload_n 1, 1) := by decide +kernel
theorem dX3_set_24 : decode cX3_set 24 = .ok (.invokestatic 74, 3) := by decide +kernel
theorem dX3_set_27 : decode cX3_set 27 = .ok (.getstatic 78, 3) := by decide +kernel
theorem dX3_set_30 : decode cX3_set 30 = .ok (.iload_n 1, 1) := by decide +kernel
theorem dX3_set_31 : decode cX3_set 31 = .ok (.invokestatic 74, 3) := by decide +kernel
theorem dX3_set_34 : decode cX3_set 34 = .ok (.invokestatic 33, 3) := by decide +kernel
theorem dX3_set_37 : decode cX3_set 37 = .ok (.ifCond .ne 13, 3) := by decide +kernel
theorem dX3_set_40 : decode cX3_set 40 = .ok (.new 37, 3) := by decide +kernel
theorem dX3_set_43 : decode cX3_set 43 = .ok (.dup, 1) := by decide +kernel
theorem dX3_set_44 : decode cX3_set 44 = .ok (.ldc 81, 2) := by decide +kernel
theorem dX3_set_46 : decode cX3_set 46 = .ok (.invokespecial 41, 3) := by decide +kernel
theorem dX3_set_49 : decode cX3_set 49 = .ok (.athrow, 1) := by decide +kernel
theorem dX3_set_50 : decode cX3_set 50 = .ok (.aload_n 0, 1) := by decide +kernel
theorem dX3_set_51 : decode cX3_set 51 = .ok (.getfield 22, 3) := by decide +kernel
theorem dX3_set_54 : decode cX3_set 54 = .ok (.aload_n 0, 1) := by decide +kernel
theorem dX3_set_55 : decode cX3_set 55 = .ok (.getfield 10, 3) := by decide +kernel
theorem dX3_set_58 : decode cX3_set 58 = .ok (.invokevirtual 44, 3) := by decide +kernel
theorem dX3_set_61 : decode cX3_set 61 = .ok (.aload_n 0, 1) := by decide +kernel
theorem dX3_set_62 : decode cX3_set 62 = .ok (.getfield 10, 3) := by decide +kernel
theorem dX3_set_65 : decode cX3_set 65 = .ok (.iload_n 1, 1) := by decide +kernel
theorem dX3_set_66 : decode cX3_set 66 = .ok (.invokevirtual 83, 3) := by decide +kernel
theorem dX3_set_69 : decode cX3_set 69 = .ok (.istore_n 3, 1) := by decide +kernel
theorem dX3_set_70 : decode cX3_set 70 = .ok (.aload_n 0, 1) := by decide +kernel
theorem dX3_set_71 : decode cX3_set 71 = .ok (.getfield 10, 3) := by decide +kernel
theorem dX3_set_74 : decode cX3_set 74 = .ok (.iload_n 1, 1) := by decide +kernel
theorem dX3_set_75 : decode cX3_set 75 = .ok (.iload_n 2, 1) := by decide +kernel
theorem dX3_set_76 : decode cX3_set 76 = .ok (.invokevirtual 87, 3) := by decide +kernel
theorem dX3_set_79 : decode cX3_set 79 = .ok (.iload_n 3, 1) := by decide +kernel
theorem dX3_set_80 : decode cX3_set 80 = .ok (.ireturn, 1) := by decide +kernel
theorem dX3_buy_0 : decode cX3_buy 0 = .ok (.iload_n 1, 1) := by decide +kernel
theorem dX3_buy_1 : decode cX3_buy 1 = .ok (.invokestatic 91, 3) := by decide +kernel
theorem dX3_buy_4 : decode cX3_buy 4 = .ok (.ifCond .eq 14, 3) := by decide +kernel
theorem dX3_buy_7 : decode cX3_buy 7 = .ok (.iload_n 2, 1) := by decide +kernel
theorem dX3_buy_8 : decode cX3_buy 8 = .ok (.iconst 1, 1) := by decide +kernel
theorem dX3_buy_9 : decode cX3_buy 9 = .ok (.sipush 200, 3) := by decide +kernel
theorem dX3_buy_12 : decode cX3_buy 12 = .ok (.invokestatic 33, 3) := by decide +kernel
theorem dX3_buy_15 : decode cX3_buy 15 = .ok (.ifCond .ne 13, 3) := by decide +kernel
theorem dX3_buy_18 : decode cX3_buy 18 = .ok (.new 37, 3) := by decide +kernel
theorem dX3_buy_21 : decode cX3_buy 21 = .ok (.dup, 1) := by decide +kernel
theorem dX3_buy_22 : decode cX3_buy 22 = .ok (.ldc 95, 2) := by decide +kernel
theorem dX3_buy_24 : decode cX3_buy 24 = .ok (.invokespecial 41, 3) := by decide +kernel
theorem dX3_buy_27 : decode cX3_buy 27 = .ok (.athrow, 1) := by decide +kernel
theorem dX3_buy_28 : decode cX3_buy 28 = .ok (.aload_n 0, 1) := by decide +kernel
theorem dX3_buy_29 : decode cX3_buy 29 = .ok (.getfield 10, 3) := by decide +kernel
theorem dX3_buy_32 : decode cX3_buy 32 = .ok (.getfield 97, 3) := by decide +kernel
theorem dX3_buy_35 : decode cX3_buy 35 = .ok (.invokestatic 100, 3) := by decide +kernel
theorem dX3_buy_38 : decode cX3_buy 38 = .ok (.iload_n 2, 1) := by decide +kernel
theorem dX3_buy_39 : decode cX3_buy 39 = .ok (.iadd, 1) := by decide +kernel
theorem dX3_buy_40 : decode cX3_buy 40 = .ok (.sipush 5000, 3) := by decide +kernel
theorem dX3_buy_43 : decode cX3_buy 43 = .ok (.if_icmp .le 13, 3) := by decide +kernel
theorem dX3_buy_46 : decode cX3_buy 46 = .ok (.new 104, 3) := by decide +kernel
theorem dX3_buy_49 : decode cX3_buy 49 = .ok (.dup, 1) := by decide +kernel
theorem dX3_buy_50 : decode cX3_buy 50 = .ok (.ldc 106, 2) := by decide +kernel
theorem dX3_buy_52 : decode cX3_buy 52 = .ok (.invokespecial 108, 3) := by decide +kernel
theorem dX3_buy_55 : decode cX3_buy 55 = .ok (.athrow, 1) := by decide +kernel
theorem dX3_buy_56 : decode cX3_buy 56 = .ok (.aload_n 0, 1) := by decide +kernel
theorem dX3_buy_57 : decode cX3_buy 57 = .ok (.getfield 22, 3) := by decide +kernel
theorem dX3_buy_60 : decode cX3_buy 60 = .ok (.aload_n 0, 1) := by decide +kernel
theorem dX3_buy_61 : decode cX3_buy 61 = .ok (.getfield 10, 3) := by decide +kernel
theorem dX3_buy_64 : decode cX3_buy 64 = .ok (.invokevirtual 44, 3) := by decide +kernel
theorem dX3_buy_67 : decode cX3_buy 67 = .ok (.iload_n 2, 1) := by decide +kernel
theorem dX3_buy_68 : decode cX3_buy 68 = .ok (.iload_n 3, 1) := by decide +kernel
theorem dX3_buy_69 : decode cX3_buy 69 = .ok (.invokestatic 109, 3) := by decide +kernel
theorem dX3_buy_72 : decode cX3_buy 72 = .ok (.istore 4, 2) := by decide +kernel
theorem dX3_buy_74 : decode cX3_buy 74 = .ok (.aload_n 0, 1) := by decide +kernel
theorem dX3_buy_75 : decode cX3_buy 75 = .ok (.getfield 10, 3) := by decide +kernel
theorem dX3_buy_78 : decode cX3_buy 78 = .ok (.getfield 97, 3) := by decide +kernel
theorem dX3_buy_81 : decode cX3_buy 81 = .ok (.iload_n 1, 1) := by decide +kernel
theorem dX3_buy_82 : decode cX3_buy 82 = .ok (.iload_n 2, 1) := by decide +kernel
theorem dX3_buy_83 : decode cX3_buy 83 = .ok (.invokestatic 113, 3) := by decide +kernel
theorem dX3_buy_86 : decode cX3_buy 86 = .ok (.aload_n 0, 1) := by decide +kernel
theorem dX3_buy_87 : decode cX3_buy 87 = .ok (.getfield 10, 3) := by decide +kernel
theorem dX3_buy_90 : decode cX3_buy 90 = .ok (.getfield 117, 3) := by decide +kernel
theorem dX3_buy_93 : decode cX3_buy 93 = .ok (.iload_n 1, 1) := by decide +kernel
theorem dX3_buy_94 : decode cX3_buy 94 = .ok (.iload_n 2, 1) := by decide +kernel
theorem dX3_buy_95 : decode cX3_buy 95 = .ok (.iload 4, 2) := by decide +kernel
theorem dX3_buy_97 : decode cX3_buy 97 = .ok (.isub, 1) := by decide +kernel
theorem dX3_buy_98 : decode cX3_buy 98 = .ok (.invokestatic 113, 3) := by decide +kernel
theorem dX3_buy_101 : decode cX3_buy 101 = .ok (.aload_n 0, 1) := by decide +kernel
theorem dX3_buy_102 : decode cX3_buy 102 = .ok (.getfield 10, 3) := by decide +kernel
theorem dX3_buy_105 : decode cX3_buy 105 = .ok (.getfield 120, 3) := by decide +kernel
theorem dX3_buy_108 : decode cX3_buy 108 = .ok (.iload_n 1, 1) := by decide +kernel
theorem dX3_buy_109 : decode cX3_buy 109 = .ok (.iload 4, 2) := by decide +kernel
theorem dX3_buy_111 : decode cX3_buy 111 = .ok (.invokestatic 113, 3) := by decide +kernel
theorem dX3_buy_114 : decode cX3_buy 114 = .ok (.aload_n 0, 1) := by decide +kernel
theorem dX3_buy_115 : decode cX3_buy 115 = .ok (.getfield 10, 3) := by decide +kernel
theorem dX3_buy_118 : decode cX3_buy 118 = .ok (.dup, 1) := by decide +kernel
theorem dX3_buy_119 : decode cX3_buy 119 = .ok (.getfield 123, 3) := by decide +kernel
theorem dX3_buy_122 : decode cX3_buy 122 = .ok (.iload_n 2, 1) := by decide +kernel
theorem dX3_buy_123 : decode cX3_buy 123 = .ok (.iload_n 1, 1) := by decide +kernel
theorem dX3_buy_124 : decode cX3_buy 124 = .ok (.invokestatic 126, 3) := by decide +kernel
theorem dX3_buy_127 : decode cX3_buy 127 = .ok (.imul, 1) := by decide +kernel
theorem dX3_buy_128 : decode cX3_buy 128 = .ok (.iadd, 1) := by decide +kernel
theorem dX3_buy_129 : decode cX3_buy 129 = .ok (.putfield 123, 3) := by decide +kernel
theorem dX3_buy_132 : decode cX3_buy 132 = .ok (.iload 4, 2) := by decide +kernel
theorem dX3_buy_134 : decode cX3_buy 134 = .ok (.ireturn, 1) := by decide +kernel
theorem dX3_recut_0 : decode cX3_recut 0 = .ok (.iload_n 1, 1) := by decide +kernel
theorem dX3_recut_1 : decode cX3_recut 1 = .ok (.invokestatic 91, 3) := by decide +kernel
theorem dX3_recut_4 : decode cX3_recut 4 = .ok (.ifCond .eq 32, 3) := by decide +kernel
theorem dX3_recut_7 : decode cX3_recut 7 = .ok (.iload_n 2, 1) := by decide +kernel
theorem dX3_recut_8 : decode cX3_recut 8 = .ok (.bipush 8, 2) := by decide +kernel
theorem dX3_recut_10 : decode cX3_recut 10 = .ok (.bipush 20, 2) := by decide +kernel
theorem dX3_recut_12 : decode cX3_recut 12 = .ok (.invokestatic 33, 3) := by decide +kernel
theorem dX3_recut_15 : decode cX3_recut 15 = .ok (.ifCond .eq 21, 3) := by decide +kernel
theorem dX3_recut_18 : decode cX3_recut 18 = .ok (.iload_n 3, 1) := by decide +kernel
theorem dX3_recut_19 : decode cX3_recut 19 = .ok (.iconst 1, 1) := by decide +kernel
theorem dX3_recut_20 : decode cX3_recut 20 = .ok (.sipush 200, 3) := by decide +kernel
theorem dX3_recut_23 : decode cX3_recut 23 = .ok (.invokestatic 33, 3) := by decide +kernel
theorem dX3_recut_26 : decode cX3_recut 26 = .ok (.ifCond .eq 10, 3) := by decide +kernel
theorem dX3_recut_29 : decode cX3_recut 29 = .ok (.iload_n 2, 1) := by decide +kernel
theorem dX3_recut_30 : decode cX3_recut 30 = .ok (.iload_n 1, 1) := by decide +kernel
theorem dX3_recut_31 : decode cX3_recut 31 = .ok (.iconst 4, 1) := by decide +kernel
theorem dX3_recut_32 : decode cX3_recut 32 = .ok (.isub, 1) := by decide +kernel
theorem dX3_recut_33 : decode cX3_recut 33 = .ok (.if_icmp .le 13, 3) := by decide +kernel
theorem dX3_recut_36 : decode cX3_recut 36 = .ok (.new 37, 3) := by decide +kernel
theorem dX3_recut_39 : decode cX3_recut 39 = .ok (.dup, 1) := by decide +kernel
theorem dX3_recut_40 : decode cX3_recut 40 = .ok (.ldc 129, 2) := by decide +kernel
theorem dX3_recut_42 : decode cX3_recut 42 = .ok (.invokespecial 41, 3) := by decide +kernel
theorem dX3_recut_45 : decode cX3_recut 45 = .ok (.athrow, 1) := by decide +kernel
theorem dX3_recut_46 : decode cX3_recut 46 = .ok (.aload_n 0, 1) := by decide +kernel
theorem dX3_recut_47 : decode cX3_recut 47 = .ok (.getfield 10, 3) := by decide +kernel
theorem dX3_recut_50 : decode cX3_recut 50 = .ok (.getfield 120, 3) := by decide +kernel
theorem dX3_recut_53 : decode cX3_recut 53 = .ok (.iload_n 1, 1) := by decide +kernel
theorem dX3_recut_54 : decode cX3_recut 54 = .ok (.invokestatic 74, 3) := by decide +kernel
theorem dX3_recut_57 : decode cX3_recut 57 = .ok (.iload_n 3, 1) := by decide +kernel
theorem dX3_recut_58 : decode cX3_recut 58 = .ok (.if_icmp .ge 13, 3) := by decide +kernel
theorem dX3_recut_61 : decode cX3_recut 61 = .ok (.new 104, 3) := by decide +kernel
theorem dX3_recut_64 : decode cX3_recut 64 = .ok (.dup, 1) := by decide +kernel
theorem dX3_recut_65 : decode cX3_recut 65 = .ok (.ldc 131, 2) := by decide +kernel
theorem dX3_recut_67 : decode cX3_recut 67 = .ok (.invokespecial 108, 3) := by decide +kernel
theorem dX3_recut_70 : decode cX3_recut 70 = .ok (.athrow, 1) := by decide +kernel
theorem dX3_recut_71 : decode cX3_recut 71 = .ok (.aload_n 0, 1) := by decide +kernel
theorem dX3_recut_72 : decode cX3_recut 72 = .ok (.getfield 22, 3) := by decide +kernel
theorem dX3_recut_75 : decode cX3_recut 75 = .ok (.aload_n 0, 1) := by decide +kernel
theorem dX3_recut_76 : decode cX3_recut 76 = .ok (.getfield 10, 3) := by decide +kernel
theorem dX3_recut_79 : decode cX3_recut 79 = .ok (.invokevirtual 44, 3) := by decide +kernel
theorem dX3_recut_82 : decode cX3_recut 82 = .ok (.aload_n 0, 1) := by decide +kernel
theorem dX3_recut_83 : decode cX3_recut 83 = .ok (.getfield 10, 3) := by decide +kernel
theorem dX3_recut_86 : decode cX3_recut 86 = .ok (.getfield 120, 3) := by decide +kernel
theorem dX3_recut_89 : decode cX3_recut 89 = .ok (.iload_n 1, 1) := by decide +kernel
theorem dX3_recut_90 : decode cX3_recut 90 = .ok (.iload_n 3, 1) := by decide +kernel
theorem dX3_recut_91 : decode cX3_recut 91 = .ok (.ineg, 1) := by decide +kernel
theorem dX3_recut_92 : decode cX3_recut 92 = .ok (.invokestatic 113, 3) := by decide +kernel
theorem dX3_recut_95 : decode cX3_recut 95 = .ok (.aload_n 0, 1) := by decide +kernel
theorem dX3_recut_96 : decode cX3_recut 96 = .ok (.getfield 10, 3) := by decide +kernel
theorem dX3_recut_99 : decode cX3_recut 99 = .ok (.getfield 117, 3) := by decide +kernel
theorem dX3_recut_102 : decode cX3_recut 102 = .ok (.iload_n 2, 1) := by decide +kernel
theorem dX3_recut_103 : decode cX3_recut 103 = .ok (.iload_n 3, 1) := by decide +kernel
theorem dX3_recut_104 : decode cX3_recut 104 = .ok (.invokestatic 113, 3) := by decide +kernel
theorem dX3_recut_107 : decode cX3_recut 107 = .ok (.aload_n 0, 1) := by decide +kernel
theorem dX3_recut_108 : decode cX3_recut 108 = .ok (.getfield 10, 3) := by decide +kernel
theorem dX3_recut_111 : decode cX3_recut 111 = .ok (.dup, 1) := by decide +kernel
theorem dX3_recut_112 : decode cX3_recut 112 = .ok (.getfield 133, 3) := by decide +kernel
theorem dX3_recut_115 : decode cX3_recut 115 = .ok (.iload_n 3, 1) := by decide +kernel
theorem dX3_recut_116 : decode cX3_recut 116 = .ok (.iadd, 1) := by decide +kernel
theorem dX3_recut_117 : decode cX3_recut 117 = .ok (.putfield 133, 3) := by decide +kernel
theorem dX3_recut_120 : decode cX3_recut 120 = .ok (.aload_n 0, 1) := by decide +kernel
theorem dX3_recut_121 : decode cX3_recut 121 = .ok (.getfield 10, 3) := by decide +kernel
theorem dX3_recut_124 : decode cX3_recut 124 = .ok (.getfield 120, 3) := by decide +kernel
theorem dX3_recut_127 : decode cX3_recut 127 = .ok (.iload_n 1, 1) := by decide +kernel
theorem dX3_recut_128 : decode cX3_recut 128 = .ok (.invokestatic 74, 3) := by decide +kernel
theorem dX3_recut_131 : decode cX3_recut 131 = .ok (.ireturn, 1) := by decide +kernel
theorem dX3_clearHeap_0 : decode cX3_clearHeap 0 = .ok (.iload_n 1, 1) := by decide +kernel
theorem dX3_clearHeap_1 : decode cX3_clearHeap 1 = .ok (.bipush 8, 2) := by decide +kernel
theorem dX3_clearHeap_3 : decode cX3_clearHeap 3 = .ok (.bipush 25, 2) := by decide +kernel
theorem dX3_clearHeap_5 : decode cX3_clearHeap 5 = .ok (.invokestatic 33, 3) := by decide +kernel
theorem dX3_clearHeap_8 : decode cX3_clearHeap 8 = .ok (.ifCond .ne 13, 3) := by decide +kernel
theorem dX3_clearHeap_11 : decode cX3_clearHeap 11 = .ok (.new 37, 3) := by decide +kernel
theorem dX3_clearHeap_14 : decode cX3_clearHeap 14 = .ok (.dup, 1) := by decide +kernel
theorem dX3_clearHeap_15 : decode cX3_clearHeap 15 = .ok (.ldc 136, 2) := by decide +kernel
theorem dX3_clearHeap_17 : decode cX3_clearHeap 17 = .ok (.invokespecial 41, 3) := by decide +kernel
theorem dX3_clearHeap_20 : decode cX3_clearHeap 20 = .ok (.athrow, 1) := by decide +kernel
theorem dX3_clearHeap_21 : decode cX3_clearHeap 21 = .ok (.aload_n 0, 1) := by decide +kernel
theorem dX3_clearHeap_22 : decode cX3_clearHeap 22 = .ok (.getfield 22, 3) := by decide +kernel
theorem dX3_clearHeap_25 : decode cX3_clearHeap 25 = .ok (.aload_n 0, 1) := by decide +kernel
theorem dX3_clearHeap_26 : decode cX3_clearHeap 26 = .ok (.getfield 10, 3) := by decide +kernel
theorem dX3_clearHeap_29 : decode cX3_clearHeap 29 = .ok (.invokevirtual 44, 3) := by decide +kernel
theorem dX3_clearHeap_32 : decode cX3_clearHeap 32 = .ok (.iconst 0, 1) := by decide +kernel
theorem dX3_clearHeap_33 : decode cX3_clearHeap 33 = .ok (.istore_n 2, 1) := by decide +kernel
theorem dX3_clearHeap_34 : decode cX3_clearHeap 34 = .ok (.bipush 8, 2) := by decide +kernel
theorem dX3_clearHeap_36 : decode cX3_clearHeap 36 = .ok (.istore_n 3, 1) := by decide +kernel
theorem dX3_clearHeap_37 : decode cX3_clearHeap 37 = .ok (.iload_n 3, 1) := by decide +kernel
theorem dX3_clearHeap_38 : decode cX3_clearHeap 38 = .ok (.iload_n 1, 1) := by decide +kernel
theorem dX3_clearHeap_39 : decode cX3_clearHeap 39 = .ok (.if_icmp .ge 41, 3) := by decide +kernel
theorem dX3_clearHeap_42 : decode cX3_clearHeap 42 = .ok (.aload_n 0, 1) := by decide +kernel
theorem dX3_clearHeap_43 : decode cX3_clearHeap 43 = .ok (.getfield 10, 3) := by decide +kernel
theorem dX3_clearHeap_46 : decode cX3_clearHeap 46 = .ok (.getfield 120, 3) := by decide +kernel
theorem dX3_clearHeap_49 : decode cX3_clearHeap 49 = .ok (.iload_n 3, 1) := by decide +kernel
theorem dX3_clearHeap_50 : decode cX3_clearHeap 50 = .ok (.invokestatic 74, 3) := by decide +kernel
theorem dX3_clearHeap_53 : decode cX3_clearHeap 53 = .ok (.istore 4, 2) := by decide +kernel
theorem dX3_clearHeap_55 : decode cX3_clearHeap 55 = .ok (.aload_n 0, 1) := by decide +kernel
theorem dX3_clearHeap_56 : decode cX3_clearHeap 56 = .ok (.getfield 10, 3) := by decide +kernel
theorem dX3_clearHeap_59 : decode cX3_clearHeap 59 = .ok (.getfield 120, 3) := by decide +kernel
theorem dX3_clearHeap_62 : decode cX3_clearHeap 62 = .ok (.iload_n 3, 1) := by decide +kernel
theorem dX3_clearHeap_63 : decode cX3_clearHeap 63 = .ok (.iload 4, 2) := by decide +kernel
theorem dX3_clearHeap_65 : decode cX3_clearHeap 65 = .ok (.ineg, 1) := by decide +kernel
theorem dX3_clearHeap_66 : decode cX3_clearHeap 66 = .ok (.invokestatic 113, 3) := by decide +kernel
theorem dX3_clearHeap_69 : decode cX3_clearHeap 69 = .ok (.iload_n 2, 1) := by decide +kernel
theorem dX3_clearHeap_70 : decode cX3_clearHeap 70 = .ok (.iload 4, 2) := by decide +kernel
theorem dX3_clearHeap_72 : decode cX3_clearHeap 72 = .ok (.iadd, 1) := by decide +kernel
theorem dX3_clearHeap_73 : decode cX3_clearHeap 73 = .ok (.istore_n 2, 1) := by decide +kernel
theorem dX3_clearHeap_74 : decode cX3_clearHeap 74 = .ok (.iinc 3 1, 3) := by decide +kernel
theorem dX3_clearHeap_77 : decode cX3_clearHeap 77 = .ok (.goto (-40), 3) := by decide +kernel
theorem dX3_clearHeap_80 : decode cX3_clearHeap 80 = .ok (.aload_n 0, 1) := by decide +kernel
theorem dX3_clearHeap_81 : decode cX3_clearHeap 81 = .ok (.getfield 10, 3) := by decide +kernel
theorem dX3_clearHeap_84 : decode cX3_clearHeap 84 = .ok (.dup, 1) := by decide +kernel
theorem dX3_clearHeap_85 : decode cX3_clearHeap 85 = .ok (.getfield 138, 3) := by decide +kernel
theorem dX3_clearHeap_88 : decode cX3_clearHeap 88 = .ok (.iload_n 2, 1) := by decide +kernel
theorem dX3_clearHeap_89 : decode cX3_clearHeap 89 = .ok (.iadd, 1) := by decide +kernel
theorem dX3_clearHeap_90 : decode cX3_clearHeap 90 = .ok (.putfield 138, 3) := by decide +kernel
theorem dX3_clearHeap_93 : decode cX3_clearHeap 93 = .ok (.iload_n 2, 1) := by decide +kernel
theorem dX3_clearHeap_94 : decode cX3_clearHeap 94 = .ok (.ireturn, 1) := by decide +kernel
theorem dX3_course_0 : decode cX3_course 0 = .ok (.iload_n 1, 1) := by decide +kernel
theorem dX3_course_1 : decode cX3_course 1 = .ok (.invokestatic 91, 3) := by decide +kernel
theorem dX3_course_4 : decode cX3_course 4 = .ok (.ifCond .ne 13, 3) := by decide +kernel
theorem dX3_course_7 : decode cX3_course 7 = .ok (.new 37, 3) := by decide +kernel
theorem dX3_course_10 : decode cX3_course 10 = .ok (.dup, 1) := by decide +kernel
theorem dX3_course_11 : decode cX3_course 11 = .ok (.ldc 136, 2) := by decide +kernel
theorem dX3_course_13 : decode cX3_course 13 = .ok (.invokespecial 41, 3) := by decide +kernel
theorem dX3_course_16 : decode cX3_course 16 = .ok (.athrow, 1) := by decide +kernel
theorem dX3_course_17 : decode cX3_course 17 = .ok (.aload_n 0, 1) := by decide +kernel
theorem dX3_course_18 : decode cX3_course 18 = .ok (.getfield 10, 3) := by decide +kernel
theorem dX3_course_21 : decode cX3_course 21 = .ok (.invokevirtual 141, 3) := by decide +kernel
theorem dX3_course_24 : decode cX3_course 24 = .ok (.ifCond .eq 24, 3) := by decide +kernel
theorem dX3_course_27 : decode cX3_course 27 = .ok (.aload_n 0, 1) := by decide +kernel
theorem dX3_course_28 : decode cX3_course 28 = .ok (.getfield 10, 3) := by decide +kernel
theorem dX3_course_31 : decode cX3_course 31 = .ok (.invokevirtual 145, 3) := by decide +kernel
theorem dX3_course_34 : decode cX3_course 34 = .ok (.ifCond .eq 14, 3) := by decide +kernel
theorem dX3_course_37 : decode cX3_course 37 = .ok (.iload_n 1, 1) := by decide +kernel
theorem dX3_course_38 : decode cX3_course 38 = .ok (.aload_n 0, 1) := by decide +kernel
theorem dX3_course_39 : decode cX3_course 39 = .ok (.getfield 10, 3) := by decide +kernel
theorem dX3_course_42 : decode cX3_course 42 = .ok (.invokevirtual 148, 3) := by decide +kernel
theorem dX3_course_45 : decode cX3_course 45 = .ok (.if_icmp .le 13, 3) := by decide +kernel
theorem dX3_course_48 : decode cX3_course 48 = .ok (.new 104, 3) := by decide +kernel
theorem dX3_course_51 : decode cX3_course 51 = .ok (.dup, 1) := by decide +kernel
theorem dX3_course_52 : decode cX3_course 52 = .ok (.ldc 151, 2) := by decide +kernel
theorem dX3_course_54 : decode cX3_course 54 = .ok (.invokespecial 108, 3) := by decide +kernel
theorem dX3_course_57 : decode cX3_course 57 = .ok (.athrow, 1) := by decide +kernel
theorem dX3_course_58 : decode cX3_course 58 = .ok (.aload_n 0, 1) := by decide +kernel
theorem dX3_course_59 : decode cX3_course 59 = .ok (.getfield 22, 3) := by decide +kernel
theorem dX3_course_62 : decode cX3_course 62 = .ok (.aload_n 0, 1) := by decide +kernel
theorem dX3_course_63 : decode cX3_course 63 = .ok (.getfield 10, 3) := by decide +kernel
theorem dX3_course_66 : decode cX3_course 66 = .ok (.invokevirtual 44, 3) := by decide +kernel
theorem dX3_course_69 : decode cX3_course 69 = .ok (.aload_n 0, 1) := by decide +kernel
theorem dX3_course_70 : decode cX3_course 70 = .ok (.getfield 10, 3) := by decide +kernel
theorem dX3_course_73 : decode cX3_course 73 = .ok (.iload_n 1, 1) := by decide +kernel
theorem dX3_course_74 : decode cX3_course 74 = .ok (.invokevirtual 153, 3) := by decide +kernel
theorem dX3_course_77 : decode cX3_course 77 = .ok (.aload_n 0, 1) := by decide +kernel
theorem dX3_course_78 : decode cX3_course 78 = .ok (.getfield 10, 3) := by decide +kernel
theorem dX3_course_81 : decode cX3_course 81 = .ok (.getfield 56, 3) := by decide +kernel
theorem dX3_course_84 : decode cX3_course 84 = .ok (.iconst 1, 1) := by decide +kernel
theorem dX3_course_85 : decode cX3_course 85 = .ok (.isub, 1) := by decide +kernel
theorem dX3_course_86 : decode cX3_course 86 = .ok (.ireturn, 1) := by decide +kernel
theorem dX3_lay_0 : decode cX3_lay 0 = .ok (.iload_n 1, 1) := by decide +kernel
theorem dX3_lay_1 : decode cX3_lay 1 = .ok (.iconst 1, 1) := by decide +kernel
theorem dX3_lay_2 : decode cX3_lay 2 = .ok (.bipush 60, 2) := by decide +kernel
theorem dX3_lay_4 : decode cX3_lay 4 = .ok (.invokestatic 33, 3) := by decide +kernel
theorem dX3_lay_7 : decode cX3_lay 7 = .ok (.ifCond .ne 13, 3) := by decide +kernel
theorem dX3_lay_10 : decode cX3_lay 10 = .ok (.new 37, 3) := by decide +kernel
theorem dX3_lay_13 : decode cX3_lay 13 = .ok (.dup, 1) := by decide +kernel
theorem dX3_lay_14 : decode cX3_lay 14 = .ok (.ldc 157, 2) := by decide +kernel
theorem dX3_lay_16 : decode cX3_lay 16 = .ok (.invokespecial 41, 3) := by decide +kernel
theorem dX3_lay_19 : decode cX3_lay 19 = .ok (.athrow, 1) := by decide +kernel
theorem dX3_lay_20 : decode cX3_lay 20 = .ok (.aload_n 0, 1) := by decide +kernel
theorem dX3_lay_21 : decode cX3_lay 21 = .ok (.getfield 10, 3) := by decide +kernel
theorem dX3_lay_24 : decode cX3_lay 24 = .ok (.invokevirtual 141, 3) := by decide +kernel
theorem dX3_lay_27 : decode cX3_lay 27 = .ok (.ifCond .eq 14, 3) := by decide +kernel
theorem dX3_lay_30 : decode cX3_lay 30 = .ok (.aload_n 0, 1) := by decide +kernel
theorem dX3_lay_31 : decode cX3_lay 31 = .ok (.getfield 10, 3) := by decide +kernel
theorem dX3_lay_34 : decode cX3_lay 34 = .ok (.iload_n 1, 1) := by decide +kernel
theorem dX3_lay_35 : decode cX3_lay 35 = .ok (.invokevirtual 159, 3) := by decide +kernel
theorem dX3_lay_38 : decode cX3_lay 38 = .ok (.ifCond .ne 13, 3) := by decide +kernel
theorem dX3_lay_41 : decode cX3_lay 41 = .ok (.new 104, 3) := by decide +kernel
theorem dX3_lay_44 : decode cX3_lay 44 = .ok (.dup, 1) := by decide +kernel
theorem dX3_lay_45 : decode cX3_lay 45 = .ok (.ldc 162, 2) := by decide +kernel
theorem dX3_lay_47 : decode cX3_lay 47 = .ok (.invokespecial 108, 3) := by decide +kernel
theorem dX3_lay_50 : decode cX3_lay 50 = .ok (.athrow, 1) := by decide +kernel
theorem dX3_lay_51 : decode cX3_lay 51 = .ok (.aload_n 0, 1) := by decide +kernel
theorem dX3_lay_52 : decode cX3_lay 52 = .ok (.getfield 22, 3) := by decide +kernel
theorem dX3_lay_55 : decode cX3_lay 55 = .ok (.aload_n 0, 1) := by decide +kernel
theorem dX3_lay_56 : decode cX3_lay 56 = .ok (.getfield 10, 3) := by decide +kernel
theorem dX3_lay_59 : decode cX3_lay 59 = .ok (.invokevirtual 44, 3) := by decide +kernel
theorem dX3_lay_62 : decode cX3_lay 62 = .ok (.aload_n 0, 1) := by decide +kernel
theorem dX3_lay_63 : decode cX3_lay 63 = .ok (.getfield 10, 3) := by decide +kernel
theorem dX3_lay_66 : decode cX3_lay 66 = .ok (.getfield 56, 3) := by decide +kernel
theorem dX3_lay_69 : decode cX3_lay 69 = .ok (.iconst 1, 1) := by decide +kernel
theorem dX3_lay_70 : decode cX3_lay 70 = .ok (.isub, 1) := by decide +kernel
theorem dX3_lay_71 : decode cX3_lay 71 = .ok (.istore_n 2, 1) := by decide +kernel
theorem dX3_lay_72 : decode cX3_lay 72 = .ok (.iconst 0, 1) := by decide +kernel
theorem dX3_lay_73 : decode cX3_lay 73 = .ok (.istore_n 3, 1) := by decide +kernel
theorem dX3_lay_74 : decode cX3_lay 74 = .ok (.iload_n 3, 1) := by decide +kernel
theorem dX3_lay_75 : decode cX3_lay 75 = .ok (.iload_n 1, 1) := by decide +kernel
theorem dX3_lay_76 : decode cX3_lay 76 = .ok (.if_icmp .ge 26, 3) := by decide +kernel
theorem dX3_lay_79 : decode cX3_lay 79 = .ok (.aload_n 0, 1) := by decide +kernel
theorem dX3_lay_80 : decode cX3_lay 80 = .ok (.getfield 10, 3) := by decide +kernel
theorem dX3_lay_83 : decode cX3_lay 83 = .ok (.iload_n 2, 1) := by decide +kernel
theorem dX3_lay_84 : decode cX3_lay 84 = .ok (.aload_n 0, 1) := by decide +kernel
theorem dX3_lay_85 : decode cX3_lay 85 = .ok (.getfield 10, 3) := by decide +kernel
theorem dX3_lay_88 : decode cX3_lay 88 = .ok (.iload_n 2, 1) := by decide +kernel
theorem dX3_lay_89 : decode cX3_lay 89 = .ok (.invokevirtual 164, 3) := by decide +kernel
theorem dX3_lay_92 : decode cX3_lay 92 = .ok (.iconst 1, 1) := by decide +kernel
theorem dX3_lay_93 : decode cX3_lay 93 = .ok (.invokevirtual 167, 3) := by decide +kernel
theorem dX3_lay_96 : decode cX3_lay 96 = .ok (.iinc 3 1, 3) := by decide +kernel
theorem dX3_lay_99 : decode cX3_lay 99 = .ok (.goto (-25), 3) := by decide +kernel
theorem dX3_lay_102 : decode cX3_lay 102 = .ok (.aload_n 0, 1) := by decide +kernel
theorem dX3_lay_103 : decode cX3_lay 103 = .ok (.getfield 10, 3) := by decide +kernel
theorem dX3_lay_106 : decode cX3_lay 106 = .ok (.iload_n 2, 1) := by decide +kernel
theorem dX3_lay_107 : decode cX3_lay 107 = .ok (.invokevirtual 171, 3) := by decide +kernel
theorem dX3_lay_110 : decode cX3_lay 110 = .ok (.ireturn, 1) := by decide +kernel
theorem dX3_mend_0 : decode cX3_mend 0 = .ok (.aload_n 0, 1) := by decide +kernel
theorem dX3_mend_1 : decode cX3_mend 1 = .ok (.getfield 10, 3) := by decide +kernel
theorem dX3_mend_4 : decode cX3_mend 4 = .ok (.iload_n 1, 1) := by decide +kernel
theorem dX3_mend_5 : decode cX3_mend 5 = .ok (.iload_n 2, 1) := by decide +kernel
theorem dX3_mend_6 : decode cX3_mend 6 = .ok (.invokevirtual 174, 3) := by decide +kernel
theorem dX3_mend_9 : decode cX3_mend 9 = .ok (.ifCond .ne 13, 3) := by decide +kernel
theorem dX3_mend_12 : decode cX3_mend 12 = .ok (.new 65, 3) := by decide +kernel
theorem dX3_mend_15 : decode cX3_mend 15 = .ok (.dup, 1) := by decide +kernel
theorem dX3_mend_16 : decode cX3_mend 16 = .ok (.ldc 178, 2) := by decide +kernel
theorem dX3_mend_18 : decode cX3_mend 18 = .ok (.invokespecial 69, 3) := by decide +kernel
theorem dX3_mend_21 : decode cX3_mend 21 = .ok (.athrow, 1) := by decide +kernel
theorem dX3_mend_22 : decode cX3_mend 22 = .ok (.aload_n 0, 1) := by decide +kernel
theorem dX3_mend_23 : decode cX3_mend 23 = .ok (.getfield 10, 3) := by decide +kernel
theorem dX3_mend_26 : decode cX3_mend 26 = .ok (.invokevirtual 141, 3) := by decide +kernel
theorem dX3_mend_29 : decode cX3_mend 29 = .ok (.ifCond .eq 15, 3) := by decide +kernel
theorem dX3_mend_32 : decode cX3_mend 32 = .ok (.aload_n 0, 1) := by decide +kernel
theorem dX3_mend_33 : decode cX3_mend 33 = .ok (.getfield 10, 3) := by decide +kernel
theorem dX3_mend_36 : decode cX3_mend 36 = .ok (.iload_n 1, 1) := by decide +kernel
theorem dX3_mend_37 : decode cX3_mend 37 = .ok (.iload_n 2, 1) := by decide +kernel
theorem dX3_mend_38 : decode cX3_mend 38 = .ok (.invokevirtual 180, 3) := by decide +kernel
theorem dX3_mend_41 : decode cX3_mend 41 = .ok (.ifCond .ne 13, 3) := by decide +kernel
theorem dX3_mend_44 : decode cX3_mend 44 = .ok (.new 104, 3) := by decide +kernel
theorem dX3_mend_47 : decode cX3_mend 47 = .ok (.dup, 1) := by decide +kernel
theorem dX3_mend_48 : decode cX3_mend 48 = .ok (.ldc 183, 2) := by decide +kernel
theorem dX3_mend_50 : decode cX3_mend 50 = .ok (.invokespecial 108, 3) := by decide +kernel
theorem dX3_mend_53 : decode cX3_mend 53 = .ok (.athrow, 1) := by decide +kernel
theorem dX3_mend_54 : decode cX3_mend 54 = .ok (.aload_n 0, 1) := by decide +kernel
theorem dX3_mend_55 : decode cX3_mend 55 = .ok (.getfield 22, 3) := by decide +kernel
theorem dX3_mend_58 : decode cX3_mend 58 = .ok (.aload_n 0, 1) := by decide +kernel
theorem dX3_mend_59 : decode cX3_mend 59 = .ok (.getfield 10, 3) := by decide +kernel
theorem dX3_mend_62 : decode cX3_mend 62 = .ok (.invokevirtual 44, 3) := by decide +kernel
theorem dX3_mend_65 : decode cX3_mend 65 = .ok (.aload_n 0, 1) := by decide +kernel
theorem dX3_mend_66 : decode cX3_mend 66 = .ok (.getfield 10, 3) := by decide +kernel
theorem dX3_mend_69 : decode cX3_mend 69 = .ok (.iload_n 1, 1) := by decide +kernel
theorem dX3_mend_70 : decode cX3_mend 70 = .ok (.iload_n 2, 1) := by decide +kernel
theorem dX3_mend_71 : decode cX3_mend 71 = .ok (.iconst 3, 1) := by decide +kernel
theorem dX3_mend_72 : decode cX3_mend 72 = .ok (.invokevirtual 167, 3) := by decide +kernel
theorem dX3_mend_75 : decode cX3_mend 75 = .ok (.aload_n 0, 1) := by decide +kernel
theorem dX3_mend_76 : decode cX3_mend 76 = .ok (.getfield 10, 3) := by decide +kernel
theorem dX3_mend_79 : decode cX3_mend 79 = .ok (.getfield 185, 3) := by decide +kernel
theorem dX3_mend_82 : decode cX3_mend 82 = .ok (.ireturn, 1) := by decide +kernel
theorem dX3_cover_0 : decode cX3_cover 0 = .ok (.aload_n 0, 1) := by decide +kernel
theorem dX3_cover_1 : decode cX3_cover 1 = .ok (.getfield 22, 3) := by decide +kernel
theorem dX3_cover_4 : decode cX3_cover 4 = .ok (.aload_n 0, 1) := by decide +kernel
theorem dX3_cover_5 : decode cX3_cover 5 = .ok (.getfield 10, 3) := by decide +kernel
theorem dX3_cover_8 : decode cX3_cover 8 = .ok (.invokevirtual 44, 3) := by decide +kernel
theorem dX3_cover_11 : decode cX3_cover 11 = .ok (.aload_n 0, 1) := by decide +kernel
theorem dX3_cover_12 : decode cX3_cover 12 = .ok (.getfield 10, 3) := by decide +kernel
theorem dX3_cover_15 : decode cX3_cover 15 = .ok (.getfield 188, 3) := by decide +kernel
theorem dX3_cover_18 : decode cX3_cover 18 = .ok (.ifCond .eq 7, 3) := by decide +kernel
theorem dX3_cover_21 : decode cX3_cover 21 = .ok (.iconst 1, 1) := by decide +kernel
theorem dX3_cover_22 : decode cX3_cover 22 = .ok (.goto 4, 3) := by decide +kernel
theorem dX3_cover_25 : decode cX3_cover 25 = .ok (.iconst 0, 1) := by decide +kernel
theorem dX3_cover_26 : decode cX3_cover 26 = .ok (.istore_n 2, 1) := by decide +kernel
theorem dX3_cover_27 : decode cX3_cover 27 = .ok (.aload_n 0, 1) := by decide +kernel
theorem dX3_cover_28 : decode cX3_cover 28 = .ok (.getfield 10, 3) := by decide +kernel
theorem dX3_cover_31 : decode cX3_cover 31 = .ok (.iload_n 1, 1) := by decide +kernel
theorem dX3_cover_32 : decode cX3_cover 32 = .ok (.putfield 188, 3) := by decide +kernel
theorem dX3_cover_35 : decode cX3_cover 35 = .ok (.iload_n 2, 1) := by decide +kernel
theorem dX3_cover_36 : decode cX3_cover 36 = .ok (.ireturn, 1) := by decide +kernel
theorem dX3_pass_0 : decode cX3_pass 0 = .ok (.iload_n 1, 1) := by decide +kernel
theorem dX3_pass_1 : decode cX3_pass 1 = .ok (.iconst 0, 1) := by decide +kernel
theorem dX3_pass_2 : decode cX3_pass 2 = .ok (.iconst 2, 1) := by decide +kernel
theorem dX3_pass_3 : decode cX3_pass 3 = .ok (.invokestatic 33, 3) := by decide +kernel
theorem dX3_pass_6 : decode cX3_pass 6 = .ok (.ifCond .ne 13, 3) := by decide +kernel
theorem dX3_pass_9 : decode cX3_pass 9 = .ok (.new 37, 3) := by decide +kernel
theorem dX3_pass_12 : decode cX3_pass 12 = .ok (.dup, 1) := by decide +kernel
theorem dX3_pass_13 : decode cX3_pass 13 = .ok (.ldc 192, 2) := by decide +kernel
theorem dX3_pass_15 : decode cX3_pass 15 = .ok (.invokespecial 41, 3) := by decide +kernel
theorem dX3_pass_18 : decode cX3_pass 18 = .ok (.athrow, 1) := by decide +kernel
theorem dX3_pass_19 : decode cX3_pass 19 = .ok (.aload_n 0, 1) := by decide +kernel
theorem dX3_pass_20 : decode cX3_pass 20 = .ok (.getfield 10, 3) := by decide +kernel
theorem dX3_pass_23 : decode cX3_pass 23 = .ok (.getfield 194, 3) := by decide +kernel
theorem dX3_pass_26 : decode cX3_pass 26 = .ok (.sipush 1000, 3) := by decide +kernel
theorem dX3_pass_29 : decode cX3_pass 29 = .ok (.if_icmp .lt 13, 3) := by decide +kernel
theorem dX3_pass_32 : decode cX3_pass 32 = .ok (.new 104, 3) := by decide +kernel
theorem dX3_pass_35 : decode cX3_pass 35 = .ok (.dup, 1) := by decide +kernel
theorem dX3_pass_36 : decode cX3_pass 36 = .ok (.ldc 197, 2) := by decide +kernel
theorem dX3_pass_38 : decode cX3_pass 38 = .ok (.invokespecial 108, 3) := by decide +kernel
theorem dX3_pass_41 : decode cX3_pass 41 = .ok (.athrow, 1) := by decide +kernel
theorem dX3_pass_42 : decode cX3_pass 42 = .ok (.aload_n 0, 1) := by decide +kernel
theorem dX3_pass_43 : decode cX3_pass 43 = .ok (.getfield 22, 3) := by decide +kernel
theorem dX3_pass_46 : decode cX3_pass 46 = .ok (.aload_n 0, 1) := by decide +kernel
theorem dX3_pass_47 : decode cX3_pass 47 = .ok (.getfield 10, 3) := by decide +kernel
theorem dX3_pass_50 : decode cX3_pass 50 = .ok (.invokevirtual 44, 3) := by decide +kernel
theorem dX3_pass_53 : decode cX3_pass 53 = .ok (.aload_n 0, 1) := by decide +kernel
theorem dX3_pass_54 : decode cX3_pass 54 = .ok (.getfield 10, 3) := by decide +kernel
