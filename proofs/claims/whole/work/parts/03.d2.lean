theorem dX4_elementsAsBits_11 : decode cX4_elementsAsBits 11 = .ok (.aload_n 0, 1) := by decide +kernel
theorem dX4_elementsAsBits_12 : decode cX4_elementsAsBits 12 = .ok (.iload_n 1, 1) := by decide +kernel
theorem dX4_elementsAsBits_13 : decode cX4_elementsAsBits 13 = .ok (.iload 5, 2) := by decide +kernel
theorem dX4_elementsAsBits_15 : decode cX4_elementsAsBits 15 = .ok (.invokevirtual 53, 3) := by decide +kernel
theorem dX4_elementsAsBits_18 : decode cX4_elementsAsBits 18 = .ok (.lconst 0, 1) := by decide +kernel
theorem dX4_elementsAsBits_19 : decode cX4_elementsAsBits 19 = .ok (.lcmp, 1) := by decide +kernel
theorem dX4_elementsAsBits_20 : decode cX4_elementsAsBits 20 = .ok (.ifCond .eq 10, 3) := by decide +kernel
theorem dX4_elementsAsBits_23 : decode cX4_elementsAsBits 23 = .ok (.lload_n 3, 1) := by decide +kernel
theorem dX4_elementsAsBits_24 : decode cX4_elementsAsBits 24 = .ok (.lconst 1, 1) := by decide +kernel
theorem dX4_elementsAsBits_25 : decode cX4_elementsAsBits 25 = .ok (.iload 5, 2) := by decide +kernel
theorem dX4_elementsAsBits_27 : decode cX4_elementsAsBits 27 = .ok (.lshl, 1) := by decide +kernel
theorem dX4_elementsAsBits_28 : decode cX4_elementsAsBits 28 = .ok (.lor, 1) := by decide +kernel
theorem dX4_elementsAsBits_29 : decode cX4_elementsAsBits 29 = .ok (.lstore_n 3, 1) := by decide +kernel
theorem dX4_elementsAsBits_30 : decode cX4_elementsAsBits 30 = .ok (.iinc 5 1, 3) := by decide +kernel
theorem dX4_elementsAsBits_33 : decode cX4_elementsAsBits 33 = .ok (.goto (-28), 3) := by decide +kernel
theorem dX4_elementsAsBits_36 : decode cX4_elementsAsBits 36 = .ok (.lload_n 3, 1) := by decide +kernel
theorem dX4_elementsAsBits_37 : decode cX4_elementsAsBits 37 = .ok (.lreturn, 1) := by decide +kernel
theorem dX4_firstWrong_0 : decode cX4_firstWrong 0 = .ok (.iconst 0, 1) := by decide +kernel
theorem dX4_firstWrong_1 : decode cX4_firstWrong 1 = .ok (.istore_n 3, 1) := by decide +kernel
theorem dX4_firstWrong_2 : decode cX4_firstWrong 2 = .ok (.iload_n 3, 1) := by decide +kernel
theorem dX4_firstWrong_3 : decode cX4_firstWrong 3 = .ok (.iload_n 2, 1) := by decide +kernel
theorem dX4_firstWrong_4 : decode cX4_firstWrong 4 = .ok (.if_icmp .ge 33, 3) := by decide +kernel
theorem dX4_firstWrong_7 : decode cX4_firstWrong 7 = .ok (.aload_n 0, 1) := by decide +kernel
theorem dX4_firstWrong_8 : decode cX4_firstWrong 8 = .ok (.iload_n 1, 1) := by decide +kernel
theorem dX4_firstWrong_9 : decode cX4_firstWrong 9 = .ok (.iload_n 3, 1) := by decide +kernel
theorem dX4_firstWrong_10 : decode cX4_firstWrong 10 = .ok (.invokevirtual 53, 3) := by decide +kernel
theorem dX4_firstWrong_13 : decode cX4_firstWrong 13 = .ok (.lconst 0, 1) := by decide +kernel
theorem dX4_firstWrong_14 : decode cX4_firstWrong 14 = .ok (.lcmp, 1) := by decide +kernel
theorem dX4_firstWrong_15 : decode cX4_firstWrong 15 = .ok (.ifCond .eq 16, 3) := by decide +kernel
theorem dX4_firstWrong_18 : decode cX4_firstWrong 18 = .ok (.aload_n 0, 1) := by decide +kernel
theorem dX4_firstWrong_19 : decode cX4_firstWrong 19 = .ok (.iload_n 1, 1) := by decide +kernel
theorem dX4_firstWrong_20 : decode cX4_firstWrong 20 = .ok (.iload_n 3, 1) := by decide +kernel
theorem dX4_firstWrong_21 : decode cX4_firstWrong 21 = .ok (.invokevirtual 53, 3) := by decide +kernel
theorem dX4_firstWrong_24 : decode cX4_firstWrong 24 = .ok (.lconst 1, 1) := by decide +kernel
theorem dX4_firstWrong_25 : decode cX4_firstWrong 25 = .ok (.lcmp, 1) := by decide +kernel
theorem dX4_firstWrong_26 : decode cX4_firstWrong 26 = .ok (.ifCond .eq 5, 3) := by decide +kernel
theorem dX4_firstWrong_29 : decode cX4_firstWrong 29 = .ok (.iload_n 3, 1) := by decide +kernel
theorem dX4_firstWrong_30 : decode cX4_firstWrong 30 = .ok (.ireturn, 1) := by decide +kernel
theorem dX4_firstWrong_31 : decode cX4_firstWrong 31 = .ok (.iinc 3 1, 3) := by decide +kernel
theorem dX4_firstWrong_34 : decode cX4_firstWrong 34 = .ok (.goto (-32), 3) := by decide +kernel
theorem dX4_firstWrong_37 : decode cX4_firstWrong 37 = .ok (.iconst (-1), 1) := by decide +kernel
theorem dX4_firstWrong_38 : decode cX4_firstWrong 38 = .ok (.ireturn, 1) := by decide +kernel
theorem dX4_clearLawsFrom_0 : decode cX4_clearLawsFrom 0 = .ok (.iconst 0, 1) := by decide +kernel
theorem dX4_clearLawsFrom_1 : decode cX4_clearLawsFrom 1 = .ok (.istore_n 2, 1) := by decide +kernel
theorem dX4_clearLawsFrom_2 : decode cX4_clearLawsFrom 2 = .ok (.iload_n 2, 1) := by decide +kernel
theorem dX4_clearLawsFrom_3 : decode cX4_clearLawsFrom 3 = .ok (.bipush 8, 2) := by decide +kernel
theorem dX4_clearLawsFrom_5 : decode cX4_clearLawsFrom 5 = .ok (.if_icmp .ge 23, 3) := by decide +kernel
theorem dX4_clearLawsFrom_8 : decode cX4_clearLawsFrom 8 = .ok (.aload_n 0, 1) := by decide +kernel
theorem dX4_clearLawsFrom_9 : decode cX4_clearLawsFrom 9 = .ok (.iload_n 2, 1) := by decide +kernel
theorem dX4_clearLawsFrom_10 : decode cX4_clearLawsFrom 10 = .ok (.invokevirtual 57, 3) := by decide +kernel
theorem dX4_clearLawsFrom_13 : decode cX4_clearLawsFrom 13 = .ok (.iload_n 1, 1) := by decide +kernel
theorem dX4_clearLawsFrom_14 : decode cX4_clearLawsFrom 14 = .ok (.if_icmp .lt 8, 3) := by decide +kernel
theorem dX4_clearLawsFrom_17 : decode cX4_clearLawsFrom 17 = .ok (.aload_n 0, 1) := by decide +kernel
theorem dX4_clearLawsFrom_18 : decode cX4_clearLawsFrom 18 = .ok (.iload_n 2, 1) := by decide +kernel
theorem dX4_clearLawsFrom_19 : decode cX4_clearLawsFrom 19 = .ok (.invokevirtual 60, 3) := by decide +kernel
theorem dX4_clearLawsFrom_22 : decode cX4_clearLawsFrom 22 = .ok (.iinc 2 1, 3) := by decide +kernel
theorem dX4_clearLawsFrom_25 : decode cX4_clearLawsFrom 25 = .ok (.goto (-23), 3) := by decide +kernel
theorem dX4_clearLawsFrom_28 : decode cX4_clearLawsFrom 28 = .ok (.return_, 1) := by decide +kernel
theorem dX5_init_0 : decode cX5_init 0 = .ok (.aload_n 0, 1) := by decide +kernel
theorem dX5_init_1 : decode cX5_init 1 = .ok (.invokespecial 3, 3) := by decide +kernel
theorem dX5_init_4 : decode cX5_init 4 = .ok (.aload_n 0, 1) := by decide +kernel
theorem dX5_init_5 : decode cX5_init 5 = .ok (.sipush 250, 3) := by decide +kernel
theorem dX5_init_8 : decode cX5_init 8 = .ok (.newarray .int, 2) := by decide +kernel
theorem dX5_init_10 : decode cX5_init 10 = .ok (.putfield 11, 3) := by decide +kernel
theorem dX5_init_13 : decode cX5_init 13 = .ok (.return_, 1) := by decide +kernel
theorem dX5_hasRoom_0 : decode cX5_hasRoom 0 = .ok (.aload_n 0, 1) := by decide +kernel
theorem dX5_hasRoom_1 : decode cX5_hasRoom 1 = .ok (.getfield 15, 3) := by decide +kernel
theorem dX5_hasRoom_4 : decode cX5_hasRoom 4 = .ok (.sipush 250, 3) := by decide +kernel
theorem dX5_hasRoom_7 : decode cX5_hasRoom 7 = .ok (.if_icmp .ge 7, 3) := by decide +kernel
theorem dX5_hasRoom_10 : decode cX5_hasRoom 10 = .ok (.iconst 1, 1) := by decide +kernel
theorem dX5_hasRoom_11 : decode cX5_hasRoom 11 = .ok (.goto 4, 3) := by decide +kernel
theorem dX5_hasRoom_14 : decode cX5_hasRoom 14 = .ok (.iconst 0, 1) := by decide +kernel
theorem dX5_hasRoom_15 : decode cX5_hasRoom 15 = .ok (.ireturn, 1) := by decide +kernel
theorem dX5_add_0 : decode cX5_add 0 = .ok (.aload_n 0, 1) := by decide +kernel
theorem dX5_add_1 : decode cX5_add 1 = .ok (.getfield 15, 3) := by decide +kernel
theorem dX5_add_4 : decode cX5_add 4 = .ok (.ifCond .lt 35, 3) := by decide +kernel
theorem dX5_add_7 : decode cX5_add 7 = .ok (.aload_n 0, 1) := by decide +kernel
theorem dX5_add_8 : decode cX5_add 8 = .ok (.getfield 15, 3) := by decide +kernel
theorem dX5_add_11 : decode cX5_add 11 = .ok (.aload_n 0, 1) := by decide +kernel
theorem dX5_add_12 : decode cX5_add 12 = .ok (.getfield 11, 3) := by decide +kernel
theorem dX5_add_15 : decode cX5_add 15 = .ok (.arraylength, 1) := by decide +kernel
theorem dX5_add_16 : decode cX5_add 16 = .ok (.if_icmp .ge 23, 3) := by decide +kernel
theorem dX5_add_19 : decode cX5_add 19 = .ok (.aload_n 0, 1) := by decide +kernel
theorem dX5_add_20 : decode cX5_add 20 = .ok (.getfield 11, 3) := by decide +kernel
theorem dX5_add_23 : decode cX5_add 23 = .ok (.aload_n 0, 1) := by decide +kernel
theorem dX5_add_24 : decode cX5_add 24 = .ok (.getfield 15, 3) := by decide +kernel
theorem dX5_add_27 : decode cX5_add 27 = .ok (.iload_n 1, 1) := by decide +kernel
theorem dX5_add_28 : decode cX5_add 28 = .ok (.iastore, 1) := by decide +kernel
theorem dX5_add_29 : decode cX5_add 29 = .ok (.aload_n 0, 1) := by decide +kernel
theorem dX5_add_30 : decode cX5_add 30 = .ok (.dup, 1) := by decide +kernel
theorem dX5_add_31 : decode cX5_add 31 = .ok (.getfield 15, 3) := by decide +kernel
theorem dX5_add_34 : decode cX5_add 34 = .ok (.iconst 1, 1) := by decide +kernel
theorem dX5_add_35 : decode cX5_add 35 = .ok (.iadd, 1) := by decide +kernel
theorem dX5_add_36 : decode cX5_add 36 = .ok (.putfield 15, 3) := by decide +kernel
theorem dX5_add_39 : decode cX5_add 39 = .ok (.aload_n 0, 1) := by decide +kernel
theorem dX5_add_40 : decode cX5_add 40 = .ok (.getfield 15, 3) := by decide +kernel
theorem dX5_add_43 : decode cX5_add 43 = .ok (.ireturn, 1) := by decide +kernel
theorem dX5_byteAt_0 : decode cX5_byteAt 0 = .ok (.iload_n 1, 1) := by decide +kernel
theorem dX5_byteAt_1 : decode cX5_byteAt 1 = .ok (.ifCond .lt 29, 3) := by decide +kernel
theorem dX5_byteAt_4 : decode cX5_byteAt 4 = .ok (.iload_n 1, 1) := by decide +kernel
theorem dX5_byteAt_5 : decode cX5_byteAt 5 = .ok (.aload_n 0, 1) := by decide +kernel
theorem dX5_byteAt_6 : decode cX5_byteAt 6 = .ok (.getfield 15, 3) := by decide +kernel
theorem dX5_byteAt_9 : decode cX5_byteAt 9 = .ok (.if_icmp .ge 21, 3) := by decide +kernel
theorem dX5_byteAt_12 : decode cX5_byteAt 12 = .ok (.iload_n 1, 1) := by decide +kernel
theorem dX5_byteAt_13 : decode cX5_byteAt 13 = .ok (.aload_n 0, 1) := by decide +kernel
theorem dX5_byteAt_14 : decode cX5_byteAt 14 = .ok (.getfield 11, 3) := by decide +kernel
theorem dX5_byteAt_17 : decode cX5_byteAt 17 = .ok (.arraylength, 1) := by decide +kernel
theorem dX5_byteAt_18 : decode cX5_byteAt 18 = .ok (.if_icmp .ge 12, 3) := by decide +kernel
theorem dX5_byteAt_21 : decode cX5_byteAt 21 = .ok (.aload_n 0, 1) := by decide +kernel
theorem dX5_byteAt_22 : decode cX5_byteAt 22 = .ok (.getfield 11, 3) := by decide +kernel
theorem dX5_byteAt_25 : decode cX5_byteAt 25 = .ok (.iload_n 1, 1) := by decide +kernel
theorem dX5_byteAt_26 : decode cX5_byteAt 26 = .ok (.iaload, 1) := by decide +kernel
theorem dX5_byteAt_27 : decode cX5_byteAt 27 = .ok (.goto 4, 3) := by decide +kernel
theorem dX5_byteAt_30 : decode cX5_byteAt 30 = .ok (.iconst (-1), 1) := by decide +kernel
theorem dX5_byteAt_31 : decode cX5_byteAt 31 = .ok (.ireturn, 1) := by decide +kernel
theorem dX5_rewind_0 : decode cX5_rewind 0 = .ok (.aload_n 0, 1) := by decide +kernel
theorem dX5_rewind_1 : decode cX5_rewind 1 = .ok (.iconst 0, 1) := by decide +kernel
theorem dX5_rewind_2 : decode cX5_rewind 2 = .ok (.putfield 19, 3) := by decide +kernel
theorem dX5_rewind_5 : decode cX5_rewind 5 = .ok (.return_, 1) := by decide +kernel
theorem dX5_nextToken_0 : decode cX5_nextToken 0 = .ok (.aload_n 0, 1) := by decide +kernel
theorem dX5_nextToken_1 : decode cX5_nextToken 1 = .ok (.aload_n 0, 1) := by decide +kernel
theorem dX5_nextToken_2 : decode cX5_nextToken 2 = .ok (.getfield 19, 3) := by decide +kernel
theorem dX5_nextToken_5 : decode cX5_nextToken 5 = .ok (.putfield 22, 3) := by decide +kernel
theorem dX5_nextToken_8 : decode cX5_nextToken 8 = .ok (.aload_n 0, 1) := by decide +kernel
theorem dX5_nextToken_9 : decode cX5_nextToken 9 = .ok (.getfield 22, 3) := by decide +kernel
theorem dX5_nextToken_12 : decode cX5_nextToken 12 = .ok (.aload_n 0, 1) := by decide +kernel
theorem dX5_nextToken_13 : decode cX5_nextToken 13 = .ok (.getfield 15, 3) := by decide +kernel
theorem dX5_nextToken_16 : decode cX5_nextToken 16 = .ok (.if_icmp .ge 29, 3) := by decide +kernel
theorem dX5_nextToken_19 : decode cX5_nextToken 19 = .ok (.aload_n 0, 1) := by decide +kernel
theorem dX5_nextToken_20 : decode cX5_nextToken 20 = .ok (.aload_n 0, 1) := by decide +kernel
theorem dX5_nextToken_21 : decode cX5_nextToken 21 = .ok (.getfield 22, 3) := by decide +kernel
theorem dX5_nextToken_24 : decode cX5_nextToken 24 = .ok (.invokevirtual 25, 3) := by decide +kernel
theorem dX5_nextToken_27 : decode cX5_nextToken 27 = .ok (.bipush 32, 2) := by decide +kernel
theorem dX5_nextToken_29 : decode cX5_nextToken 29 = .ok (.if_icmp .ne 16, 3) := by decide +kernel
theorem dX5_nextToken_32 : decode cX5_nextToken 32 = .ok (.aload_n 0, 1) := by decide +kernel
theorem dX5_nextToken_33 : decode cX5_nextToken 33 = .ok (.dup, 1) := by decide +kernel
theorem dX5_nextToken_34 : decode cX5_nextToken 34 = .ok (.getfield 22, 3) := by decide +kernel
theorem dX5_nextToken_37 : decode cX5_nextToken 37 = .ok (.iconst 1, 1) := by decide +kernel
theorem dX5_nextToken_38 : decode cX5_nextToken 38 = .ok (.iadd, 1) := by decide +kernel
theorem dX5_nextToken_39 : decode cX5_nextToken 39 = .ok (.putfield 22, 3) := by decide +kernel
theorem dX5_nextToken_42 : decode cX5_nextToken 42 = .ok (.goto (-34), 3) := by decide +kernel
theorem dX5_nextToken_45 : decode cX5_nextToken 45 = .ok (.aload_n 0, 1) := by decide +kernel
theorem dX5_nextToken_46 : decode cX5_nextToken 46 = .ok (.aload_n 0, 1) := by decide +kernel
theorem dX5_nextToken_47 : decode cX5_nextToken 47 = .ok (.aload_n 0, 1) := by decide +kernel
theorem dX5_nextToken_48 : decode cX5_nextToken 48 = .ok (.getfield 22, 3) := by decide +kernel
theorem dX5_nextToken_51 : decode cX5_nextToken 51 = .ok (.invokevirtual 25, 3) := by decide +kernel
theorem dX5_nextToken_54 : decode cX5_nextToken 54 = .ok (.invokestatic 29, 3) := by decide +kernel
theorem dX5_nextToken_57 : decode cX5_nextToken 57 = .ok (.putfield 32, 3) := by decide +kernel
theorem dX5_nextToken_60 : decode cX5_nextToken 60 = .ok (.aload_n 0, 1) := by decide +kernel
theorem dX5_nextToken_61 : decode cX5_nextToken 61 = .ok (.aload_n 0, 1) := by decide +kernel
theorem dX5_nextToken_62 : decode cX5_nextToken 62 = .ok (.getfield 22, 3) := by decide +kernel
theorem dX5_nextToken_65 : decode cX5_nextToken 65 = .ok (.iconst 1, 1) := by decide +kernel
theorem dX5_nextToken_66 : decode cX5_nextToken 66 = .ok (.iadd, 1) := by decide +kernel
theorem dX5_nextToken_67 : decode cX5_nextToken 67 = .ok (.aload_n 0, 1) := by decide +kernel
theorem dX5_nextToken_68 : decode cX5_nextToken 68 = .ok (.getfield 15, 3) := by decide +kernel
theorem dX5_nextToken_71 : decode cX5_nextToken 71 = .ok (.invokestatic 35, 3) := by decide +kernel
theorem dX5_nextToken_74 : decode cX5_nextToken 74 = .ok (.putfield 19, 3) := by decide +kernel
theorem dX5_nextToken_77 : decode cX5_nextToken 77 = .ok (.aload_n 0, 1) := by decide +kernel
theorem dX5_nextToken_78 : decode cX5_nextToken 78 = .ok (.getfield 32, 3) := by decide +kernel
theorem dX5_nextToken_81 : decode cX5_nextToken 81 = .ok (.iconst 1, 1) := by decide +kernel
theorem dX5_nextToken_82 : decode cX5_nextToken 82 = .ok (.if_icmp .eq 11, 3) := by decide +kernel
theorem dX5_nextToken_85 : decode cX5_nextToken 85 = .ok (.aload_n 0, 1) := by decide +kernel
theorem dX5_nextToken_86 : decode cX5_nextToken 86 = .ok (.getfield 32, 3) := by decide +kernel
theorem dX5_nextToken_89 : decode cX5_nextToken 89 = .ok (.iconst 2, 1) := by decide +kernel
theorem dX5_nextToken_90 : decode cX5_nextToken 90 = .ok (.if_icmp .ne 45, 3) := by decide +kernel
theorem dX5_nextToken_93 : decode cX5_nextToken 93 = .ok (.aload_n 0, 1) := by decide +kernel
theorem dX5_nextToken_94 : decode cX5_nextToken 94 = .ok (.getfield 19, 3) := by decide +kernel
theorem dX5_nextToken_97 : decode cX5_nextToken 97 = .ok (.aload_n 0, 1) := by decide +kernel
theorem dX5_nextToken_98 : decode cX5_nextToken 98 = .ok (.getfield 15, 3) := by decide +kernel
theorem dX5_nextToken_101 : decode cX5_nextToken 101 = .ok (.if_icmp .ge 34, 3) := by decide +kernel
theorem dX5_nextToken_104 : decode cX5_nextToken 104 = .ok (.aload_n 0, 1) := by decide +kernel
theorem dX5_nextToken_105 : decode cX5_nextToken 105 = .ok (.aload_n 0, 1) := by decide +kernel
theorem dX5_nextToken_106 : decode cX5_nextToken 106 = .ok (.getfield 19, 3) := by decide +kernel
theorem dX5_nextToken_109 : decode cX5_nextToken 109 = .ok (.invokevirtual 25, 3) := by decide +kernel
theorem dX5_nextToken_112 : decode cX5_nextToken 112 = .ok (.invokestatic 29, 3) := by decide +kernel
theorem dX5_nextToken_115 : decode cX5_nextToken 115 = .ok (.aload_n 0, 1) := by decide +kernel
theorem dX5_nextToken_116 : decode cX5_nextToken 116 = .ok (.getfield 32, 3) := by decide +kernel
theorem dX5_nextToken_119 : decode cX5_nextToken 119 = .ok (.if_icmp .ne 16, 3) := by decide +kernel
theorem dX5_nextToken_122 : decode cX5_nextToken 122 = .ok (.aload_n 0, 1) := by decide +kernel
theorem dX5_nextToken_123 : decode cX5_nextToken 123 = .ok (.dup, 1) := by decide +kernel
theorem dX5_nextToken_124 : decode cX5_nextToken 124 = .ok (.getfield 19, 3) := by decide +kernel
theorem dX5_nextToken_127 : decode cX5_nextToken 127 = .ok (.iconst 1, 1) := by decide +kernel
theorem dX5_nextToken_128 : decode cX5_nextToken 128 = .ok (.iadd, 1) := by decide +kernel
theorem dX5_nextToken_129 : decode cX5_nextToken 129 = .ok (.putfield 19, 3) := by decide +kernel
theorem dX5_nextToken_132 : decode cX5_nextToken 132 = .ok (.goto (-39), 3) := by decide +kernel
theorem dX5_nextToken_135 : decode cX5_nextToken 135 = .ok (.return_, 1) := by decide +kernel
theorem dX5_tokenBegunBy_0 : decode cX5_tokenBegunBy 0 = .ok (.iload_n 0, 1) := by decide +kernel
theorem dX5_tokenBegunBy_1 : decode cX5_tokenBegunBy 1 = .ok (.bipush 97, 2) := by decide +kernel
theorem dX5_tokenBegunBy_3 : decode cX5_tokenBegunBy 3 = .ok (.if_icmp .lt 11, 3) := by decide +kernel
theorem dX5_tokenBegunBy_6 : decode cX5_tokenBegunBy 6 = .ok (.iload_n 0, 1) := by decide +kernel
theorem dX5_tokenBegunBy_7 : decode cX5_tokenBegunBy 7 = .ok (.bipush 122, 2) := by decide +kernel
theorem dX5_tokenBegunBy_9 : decode cX5_tokenBegunBy 9 = .ok (.if_icmp .gt 5, 3) := by decide +kernel
theorem dX5_tokenBegunBy_12 : decode cX5_tokenBegunBy 12 = .ok (.iconst 1, 1) := by decide +kernel
theorem dX5_tokenBegunBy_13 : decode cX5_tokenBegunBy 13 = .ok (.ireturn, 1) := by decide +kernel
theorem dX5_tokenBegunBy_14 : decode cX5_tokenBegunBy 14 = .ok (.iload_n 0, 1) := by decide +kernel
theorem dX5_tokenBegunBy_15 : decode cX5_tokenBegunBy 15 = .ok (.bipush 48, 2) := by decide +kernel
theorem dX5_tokenBegunBy_17 : decode cX5_tokenBegunBy 17 = .ok (.if_icmp .lt 11, 3) := by decide +kernel
theorem dX5_tokenBegunBy_20 : decode cX5_tokenBegunBy 20 = .ok (.iload_n 0, 1) := by decide +kernel
theorem dX5_tokenBegunBy_21 : decode cX5_tokenBegunBy 21 = .ok (.bipush 57, 2) := by decide +kernel
theorem dX5_tokenBegunBy_23 : decode cX5_tokenBegunBy 23 = .ok (.if_icmp .gt 5, 3) := by decide +kernel
theorem dX5_tokenBegunBy_26 : decode cX5_tokenBegunBy 26 = .ok (.iconst 2, 1) := by decide +kernel
theorem dX5_tokenBegunBy_27 : decode cX5_tokenBegunBy 27 = .ok (.ireturn, 1) := by decide +kernel
theorem dX5_tokenBegunBy_28 : decode cX5_tokenBegunBy 28 = .ok (.iload_n 0, 1) := by decide +kernel
theorem dX5_tokenBegunBy_29 : decode cX5_tokenBegunBy 29 = .ok (.bipush 59, 2) := by decide +kernel
theorem dX5_tokenBegunBy_31 : decode cX5_tokenBegunBy 31 = .ok (.if_icmp .ne 5, 3) := by decide +kernel
theorem dX5_tokenBegunBy_34 : decode cX5_tokenBegunBy 34 = .ok (.iconst 3, 1) := by decide +kernel
theorem dX5_tokenBegunBy_35 : decode cX5_tokenBegunBy 35 = .ok (.ireturn, 1) := by decide +kernel
theorem dX5_tokenBegunBy_36 : decode cX5_tokenBegunBy 36 = .ok (.iload_n 0, 1) := by decide +kernel
theorem dX5_tokenBegunBy_37 : decode cX5_tokenBegunBy 37 = .ok (.iconst (-1), 1) := by decide +kernel
theorem dX5_tokenBegunBy_38 : decode cX5_tokenBegunBy 38 = .ok (.if_icmp .ne 7, 3) := by decide +kernel
theorem dX5_tokenBegunBy_41 : decode cX5_tokenBegunBy 41 = .ok (.iconst 0, 1) := by decide +kernel
theorem dX5_tokenBegunBy_42 : decode cX5_tokenBegunBy 42 = .ok (.goto 4, 3) := by decide +kernel
theorem dX5_tokenBegunBy_45 : decode cX5_tokenBegunBy 45 = .ok (.iconst 4, 1) := by decide +kernel
theorem dX5_tokenBegunBy_46 : decode cX5_tokenBegunBy 46 = .ok (.ireturn, 1) := by decide +kernel
theorem dX5_tokenLength_0 : decode cX5_tokenLength 0 = .ok (.aload_n 0, 1) := by decide +kernel
theorem dX5_tokenLength_1 : decode cX5_tokenLength 1 = .ok (.getfield 19, 3) := by decide +kernel
theorem dX5_tokenLength_4 : decode cX5_tokenLength 4 = .ok (.aload_n 0, 1) := by decide +kernel
theorem dX5_tokenLength_5 : decode cX5_tokenLength 5 = .ok (.getfield 22, 3) := by decide +kernel
theorem dX5_tokenLength_8 : decode cX5_tokenLength 8 = .ok (.isub, 1) := by decide +kernel
theorem dX5_tokenLength_9 : decode cX5_tokenLength 9 = .ok (.ireturn, 1) := by decide +kernel
theorem dX5_isWord_0 : decode cX5_isWord 0 = .ok (.aload_n 0, 1) := by decide +kernel
theorem dX5_isWord_1 : decode cX5_isWord 1 = .ok (.getfield 32, 3) := by decide +kernel
theorem dX5_isWord_4 : decode cX5_isWord 4 = .ok (.iconst 1, 1) := by decide +kernel
theorem dX5_isWord_5 : decode cX5_isWord 5 = .ok (.if_icmp .ne 14, 3) := by decide +kernel
theorem dX5_isWord_8 : decode cX5_isWord 8 = .ok (.aload_n 0, 1) := by decide +kernel
theorem dX5_isWord_9 : decode cX5_isWord 9 = .ok (.invokevirtual 41, 3) := by decide +kernel
theorem dX5_isWord_12 : decode cX5_isWord 12 = .ok (.aload_n 1, 1) := by decide +kernel
theorem dX5_isWord_13 : decode cX5_isWord 13 = .ok (.invokevirtual 45, 3) := by decide +kernel
theorem dX5_isWord_16 : decode cX5_isWord 16 = .ok (.if_icmp .eq 5, 3) := by decide +kernel
theorem dX5_isWord_19 : decode cX5_isWord 19 = .ok (.iconst 0, 1) := by decide +kernel
theorem dX5_isWord_20 : decode cX5_isWord 20 = .ok (.ireturn, 1) := by decide +kernel
theorem dX5_isWord_21 : decode cX5_isWord 21 = .ok (.iconst 0, 1) := by decide +kernel
theorem dX5_isWord_22 : decode cX5_isWord 22 = .ok (.istore_n 2, 1) := by decide +kernel
theorem dX5_isWord_23 : decode cX5_isWord 23 = .ok (.iload_n 2, 1) := by decide +kernel
theorem dX5_isWord_24 : decode cX5_isWord 24 = .ok (.aload_n 1, 1) := by decide +kernel
theorem dX5_isWord_25 : decode cX5_isWord 25 = .ok (.invokevirtual 45, 3) := by decide +kernel
theorem dX5_isWord_28 : decode cX5_isWord 28 = .ok (.if_icmp .ge 29, 3) := by decide +kernel
theorem dX5_isWord_31 : decode cX5_isWord 31 = .ok (.aload_n 0, 1) := by decide +kernel
theorem dX5_isWord_32 : decode cX5_isWord 32 = .ok (.aload_n 0, 1) := by decide +kernel
theorem dX5_isWord_33 : decode cX5_isWord 33 = .ok (.getfield 22, 3) := by decide +kernel
theorem dX5_isWord_36 : decode cX5_isWord 36 = .ok (.iload_n 2, 1) := by decide +kernel
theorem dX5_isWord_37 : decode cX5_isWord 37 = .ok (.iadd, 1) := by decide +kernel
theorem dX5_isWord_38 : decode cX5_isWord 38 = .ok (.invokevirtual 25, 3) := by decide +kernel
theorem dX5_isWord_41 : decode cX5_isWord 41 = .ok (.aload_n 1, 1) := by decide +kernel
theorem dX5_isWord_42 : decode cX5_isWord 42 = .ok (.iload_n 2, 1) := by decide +kernel
theorem dX5_isWord_43 : decode cX5_isWord 43 = .ok (.invokevirtual 50, 3) := by decide +kernel
theorem dX5_isWord_46 : decode cX5_isWord 46 = .ok (.if_icmp .eq 5, 3) := by decide +kernel
theorem dX5_isWord_49 : decode cX5_isWord 49 = .ok (.iconst 0, 1) := by decide +kernel
theorem dX5_isWord_50 : decode cX5_isWord 50 = .ok (.ireturn, 1) := by decide +kernel
theorem dX5_isWord_51 : decode cX5_isWord 51 = .ok (.iinc 2 1, 3) := by decide +kernel
theorem dX5_isWord_54 : decode cX5_isWord 54 = .ok (.goto (-31), 3) := by decide +kernel
theorem dX5_isWord_57 : decode cX5_isWord 57 = .ok (.iconst 1, 1) := by decide +kernel
theorem dX5_isWord_58 : decode cX5_isWord 58 = .ok (.ireturn, 1) := by decide +kernel
theorem dX6_init_0 : decode cX6_init 0 = .ok (.aload_n 0, 1) := by decide +kernel
theorem dX6_init_1 : decode cX6_init 1 = .ok (.invokespecial 1, 3) := by decide +kernel
theorem dX6_init_4 : decode cX6_init 4 = .ok (.aload_n 0, 1) := by decide +kernel
theorem dX6_init_5 : decode cX6_init 5 = .ok (.new 7, 3) := by decide +kernel
theorem dX6_init_8 : decode cX6_init 8 = .ok (.dup, 1) := by decide +kernel
theorem dX6_init_9 : decode cX6_init 9 = .ok (.invokespecial 9, 3) := by decide +kernel
theorem dX6_init_12 : decode cX6_init 12 = .ok (.putfield 10, 3) := by decide +kernel
theorem dX6_init_15 : decode cX6_init 15 = .ok (.aload_n 0, 1) := by decide +kernel
theorem dX6_init_16 : decode cX6_init 16 = .ok (.new 7, 3) := by decide +kernel
theorem dX6_init_19 : decode cX6_init 19 = .ok (.dup, 1) := by decide +kernel
theorem dX6_init_20 : decode cX6_init 20 = .ok (.invokespecial 9, 3) := by decide +kernel
theorem dX6_init_23 : decode cX6_init 23 = .ok (.putfield 16, 3) := by decide +kernel
theorem dX6_init_26 : decode cX6_init 26 = .ok (.aload_n 0, 1) := by decide +kernel
theorem dX6_init_27 : decode cX6_init 27 = .ok (.new 19, 3) := by decide +kernel
theorem dX6_init_30 : decode cX6_init 30 = .ok (.dup, 1) := by decide +kernel
theorem dX6_init_31 : decode cX6_init 31 = .ok (.invokespecial 21, 3) := by decide +kernel
theorem dX6_init_34 : decode cX6_init 34 = .ok (.putfield 22, 3) := by decide +kernel
theorem dX6_init_37 : decode cX6_init 37 = .ok (.aload_n 0, 1) := by decide +kernel
theorem dX6_init_38 : decode cX6_init 38 = .ok (.new 26, 3) := by decide +kernel
theorem dX6_init_41 : decode cX6_init 41 = .ok (.dup, 1) := by decide +kernel
theorem dX6_init_42 : decode cX6_init 42 = .ok (.invokespecial 28, 3) := by decide +kernel
theorem dX6_init_45 : decode cX6_init 45 = .ok (.putfield 29, 3) := by decide +kernel
theorem dX6_init_48 : decode cX6_init 48 = .ok (.aload_n 0, 1) := by decide +kernel
theorem dX6_init_49 : decode cX6_init 49 = .ok (.iconst 5, 1) := by decide +kernel
theorem dX6_init_50 : decode cX6_init 50 = .ok (.newarray .int, 2) := by decide +kernel
theorem dX6_init_52 : decode cX6_init 52 = .ok (.putfield 33, 3) := by decide +kernel
theorem dX6_init_55 : decode cX6_init 55 = .ok (.return_, 1) := by decide +kernel
theorem dX6_row_0 : decode cX6_row 0 = .ok (.iload_n 1, 1) := by decide +kernel
theorem dX6_row_1 : decode cX6_row 1 = .ok (.invokestatic 37, 3) := by decide +kernel
theorem dX6_row_4 : decode cX6_row 4 = .ok (.ifCond .eq 22, 3) := by decide +kernel
theorem dX6_row_7 : decode cX6_row 7 = .ok (.iload_n 2, 1) := by decide +kernel
theorem dX6_row_8 : decode cX6_row 8 = .ok (.iconst 0, 1) := by decide +kernel
theorem dX6_row_9 : decode cX6_row 9 = .ok (.iconst 4, 1) := by decide +kernel
theorem dX6_row_10 : decode cX6_row 10 = .ok (.invokestatic 41, 3) := by decide +kernel
theorem dX6_row_13 : decode cX6_row 13 = .ok (.ifCond .eq 13, 3) := by decide +kernel
theorem dX6_row_16 : decode cX6_row 16 = .ok (.iload_n 3, 1) := by decide +kernel
theorem dX6_row_17 : decode cX6_row 17 = .ok (.iconst 0, 1) := by decide +kernel
theorem dX6_row_18 : decode cX6_row 18 = .ok (.bipush 40, 2) := by decide +kernel
theorem dX6_row_20 : decode cX6_row 20 = .ok (.invokestatic 41, 3) := by decide +kernel
theorem dX6_row_23 : decode cX6_row 23 = .ok (.ifCond .ne 10, 3) := by decide +kernel
theorem dX6_row_26 : decode cX6_row 26 = .ok (.aload_n 0, 1) := by decide +kernel
theorem dX6_row_27 : decode cX6_row 27 = .ok (.bipush (-2), 2) := by decide +kernel
theorem dX6_row_29 : decode cX6_row 29 = .ok (.invokevirtual 45, 3) := by decide +kernel
theorem dX6_row_32 : decode cX6_row 32 = .ok (.ireturn, 1) := by decide +kernel
theorem dX6_row_33 : decode cX6_row 33 = .ok (.aload_n 0, 1) := by decide +kernel
theorem dX6_row_34 : decode cX6_row 34 = .ok (.getfield 29, 3) := by decide +kernel
theorem dX6_row_37 : decode cX6_row 37 = .ok (.iload_n 1, 1) := by decide +kernel
theorem dX6_row_38 : decode cX6_row 38 = .ok (.iload_n 2, 1) := by decide +kernel
theorem dX6_row_39 : decode cX6_row 39 = .ok (.iload_n 3, 1) := by decide +kernel
theorem dX6_row_40 : decode cX6_row 40 = .ok (.invokevirtual 49, 3) := by decide +kernel
theorem dX6_row_43 : decode cX6_row 43 = .ok (.iconst 1, 1) := by decide +kernel
theorem dX6_row_44 : decode cX6_row 44 = .ok (.ireturn, 1) := by decide +kernel
theorem dX6_set_0 : decode cX6_set 0 = .ok (.aload_n 0, 1) := by decide +kernel
theorem dX6_set_1 : decode cX6_set 1 = .ok (.iload_n 1, 1) := by decide +kernel
theorem dX6_set_2 : decode cX6_set 2 = .ok (.invokevirtual 53, 3) := by decide +kernel
theorem dX6_set_5 : decode cX6_set 5 = .ok (.istore 5, 2) := by decide +kernel
theorem dX6_set_7 : decode cX6_set 7 = .ok (.iload 5, 2) := by decide +kernel
theorem dX6_set_9 : decode cX6_set 9 = .ok (.ifCond .ne 25, 3) := by decide +kernel
theorem dX6_set_12 : decode cX6_set 12 = .ok (.iload_n 2, 1) := by decide +kernel
theorem dX6_set_13 : decode cX6_set 13 = .ok (.iconst 0, 1) := by decide +kernel
theorem dX6_set_14 : decode cX6_set 14 = .ok (.aload_n 0, 1) := by decide +kernel
theorem dX6_set_15 : decode cX6_set 15 = .ok (.getfield 29, 3) := by decide +kernel
theorem dX6_set_18 : decode cX6_set 18 = .ok (.iload_n 1, 1) := by decide +kernel
theorem dX6_set_19 : decode cX6_set 19 = .ok (.invokevirtual 56, 3) := by decide +kernel
theorem dX6_set_22 : decode cX6_set 22 = .ok (.iconst 1, 1) := by decide +kernel
theorem dX6_set_23 : decode cX6_set 23 = .ok (.isub, 1) := by decide +kernel
theorem dX6_set_24 : decode cX6_set 24 = .ok (.invokestatic 41, 3) := by decide +kernel
theorem dX6_set_27 : decode cX6_set 27 = .ok (.ifCond .ne 7, 3) := by decide +kernel
theorem dX6_set_30 : decode cX6_set 30 = .ok (.bipush (-2), 2) := by decide +kernel
theorem dX6_set_32 : decode cX6_set 32 = .ok (.istore 5, 2) := by decide +kernel
theorem dX6_set_34 : decode cX6_set 34 = .ok (.iload 5, 2) := by decide +kernel
theorem dX6_set_36 : decode cX6_set 36 = .ok (.ifCond .eq 10, 3) := by decide +kernel
theorem dX6_set_39 : decode cX6_set 39 = .ok (.aload_n 0, 1) := by decide +kernel
theorem dX6_set_40 : decode cX6_set 40 = .ok (.iload 5, 2) := by decide +kernel
theorem dX6_set_42 : decode cX6_set 42 = .ok (.invokevirtual 45, 3) := by decide +kernel
theorem dX6_set_45 : decode cX6_set 45 = .ok (.ireturn, 1) := by decide +kernel
theorem dX6_set_46 : decode cX6_set 46 = .ok (.aload_n 0, 1) := by decide +kernel
theorem dX6_set_47 : decode cX6_set 47 = .ok (.getfield 29, 3) := by decide +kernel
theorem dX6_set_50 : decode cX6_set 50 = .ok (.iload_n 1, 1) := by decide +kernel
theorem dX6_set_51 : decode cX6_set 51 = .ok (.iload_n 2, 1) := by decide +kernel
theorem dX6_set_52 : decode cX6_set 52 = .ok (.lload_n 3, 1) := by decide +kernel
theorem dX6_set_53 : decode cX6_set 53 = .ok (.invokevirtual 59, 3) := by decide +kernel
theorem dX6_set_56 : decode cX6_set 56 = .ok (.iconst 1, 1) := by decide +kernel
theorem dX6_set_57 : decode cX6_set 57 = .ok (.ireturn, 1) := by decide +kernel
theorem dX6_copy_0 : decode cX6_copy 0 = .ok (.aload_n 0, 1) := by decide +kernel
theorem dX6_copy_1 : decode cX6_copy 1 = .ok (.iload_n 1, 1) := by decide +kernel
theorem dX6_copy_2 : decode cX6_copy 2 = .ok (.iload_n 2, 1) := by decide +kernel
theorem dX6_copy_3 : decode cX6_copy 3 = .ok (.invokevirtual 63, 3) := by decide +kernel
theorem dX6_copy_6 : decode cX6_copy 6 = .ok (.istore 6, 2) := by decide +kernel
theorem dX6_copy_8 : decode cX6_copy 8 = .ok (.iload 6, 2) := by decide +kernel
theorem dX6_copy_10 : decode cX6_copy 10 = .ok (.ifCond .ne 36, 3) := by decide +kernel
theorem dX6_copy_13 : decode cX6_copy 13 = .ok (.aload_n 0, 1) := by decide +kernel
theorem dX6_copy_14 : decode cX6_copy 14 = .ok (.getfield 29, 3) := by decide +kernel
theorem dX6_copy_17 : decode cX6_copy 17 = .ok (.iload_n 1, 1) := by decide +kernel
theorem dX6_copy_18 : decode cX6_copy 18 = .ok (.iload_n 3, 1) := by decide +kernel
theorem dX6_copy_19 : decode cX6_copy 19 = .ok (.iload 5, 2) := by decide +kernel
theorem dX6_copy_21 : decode cX6_copy 21 = .ok (.invokevirtual 67, 3) := by decide +kernel
theorem dX6_copy_24 : decode cX6_copy 24 = .ok (.ifCond .eq 18, 3) := by decide +kernel
theorem dX6_copy_27 : decode cX6_copy 27 = .ok (.aload_n 0, 1) := by decide +kernel
theorem dX6_copy_28 : decode cX6_copy 28 = .ok (.getfield 29, 3) := by decide +kernel
theorem dX6_copy_31 : decode cX6_copy 31 = .ok (.iload_n 2, 1) := by decide +kernel
theorem dX6_copy_32 : decode cX6_copy 32 = .ok (.iload 4, 2) := by decide +kernel
theorem dX6_copy_34 : decode cX6_copy 34 = .ok (.iload 5, 2) := by decide +kernel
theorem dX6_copy_36 : decode cX6_copy 36 = .ok (.invokevirtual 67, 3) := by decide +kernel
theorem dX6_copy_39 : decode cX6_copy 39 = .ok (.ifCond .ne 7, 3) := by decide +kernel
theorem dX6_copy_42 : decode cX6_copy 42 = .ok (.bipush (-2), 2) := by decide +kernel
theorem dX6_copy_44 : decode cX6_copy 44 = .ok (.istore 6, 2) := by decide +kernel
theorem dX6_copy_46 : decode cX6_copy 46 = .ok (.iload 6, 2) := by decide +kernel
theorem dX6_copy_48 : decode cX6_copy 48 = .ok (.ifCond .eq 10, 3) := by decide +kernel
theorem dX6_copy_51 : decode cX6_copy 51 = .ok (.aload_n 0, 1) := by decide +kernel
theorem dX6_copy_52 : decode cX6_copy 52 = .ok (.iload 6, 2) := by decide +kernel
theorem dX6_copy_54 : decode cX6_copy 54 = .ok (.invokevirtual 45, 3) := by decide +kernel
theorem dX6_copy_57 : decode cX6_copy 57 = .ok (.ireturn, 1) := by decide +kernel
theorem dX6_copy_58 : decode cX6_copy 58 = .ok (.aload_n 0, 1) := by decide +kernel
theorem dX6_copy_59 : decode cX6_copy 59 = .ok (.getfield 29, 3) := by decide +kernel
theorem dX6_copy_62 : decode cX6_copy 62 = .ok (.iload_n 1, 1) := by decide +kernel
theorem dX6_copy_63 : decode cX6_copy 63 = .ok (.iload_n 2, 1) := by decide +kernel
theorem dX6_copy_64 : decode cX6_copy 64 = .ok (.iload_n 3, 1) := by decide +kernel
theorem dX6_copy_65 : decode cX6_copy 65 = .ok (.iload 4, 2) := by decide +kernel
theorem dX6_copy_67 : decode cX6_copy 67 = .ok (.iload 5, 2) := by decide +kernel
theorem dX6_copy_69 : decode cX6_copy 69 = .ok (.invokevirtual 70, 3) := by decide +kernel
theorem dX6_copy_72 : decode cX6_copy 72 = .ok (.iload 5, 2) := by decide +kernel
theorem dX6_copy_74 : decode cX6_copy 74 = .ok (.ireturn, 1) := by decide +kernel
theorem dX6_element_0 : decode cX6_element 0 = .ok (.aload_n 0, 1) := by decide +kernel
theorem dX6_element_1 : decode cX6_element 1 = .ok (.getfield 29, 3) := by decide +kernel
theorem dX6_element_4 : decode cX6_element 4 = .ok (.iload_n 1, 1) := by decide +kernel
theorem dX6_element_5 : decode cX6_element 5 = .ok (.iload_n 2, 1) := by decide +kernel
theorem dX6_element_6 : decode cX6_element 6 = .ok (.invokevirtual 74, 3) := by decide +kernel
theorem dX6_element_9 : decode cX6_element 9 = .ok (.lreturn, 1) := by decide +kernel
theorem dX6_holds_0 : decode cX6_holds 0 = .ok (.aload_n 0, 1) := by decide +kernel
theorem dX6_holds_1 : decode cX6_holds 1 = .ok (.getfield 29, 3) := by decide +kernel
theorem dX6_holds_4 : decode cX6_holds 4 = .ok (.iload_n 1, 1) := by decide +kernel
theorem dX6_holds_5 : decode cX6_holds 5 = .ok (.invokevirtual 78, 3) := by decide +kernel
theorem dX6_holds_8 : decode cX6_holds 8 = .ok (.ireturn, 1) := by decide +kernel
theorem dX6_show_0 : decode cX6_show 0 = .ok (.iload_n 1, 1) := by decide +kernel
theorem dX6_show_1 : decode cX6_show 1 = .ok (.invokestatic 37, 3) := by decide +kernel
theorem dX6_show_4 : decode cX6_show 4 = .ok (.ifCond .eq 22, 3) := by decide +kernel
theorem dX6_show_7 : decode cX6_show 7 = .ok (.iload_n 2, 1) := by decide +kernel
theorem dX6_show_8 : decode cX6_show 8 = .ok (.iconst (-1), 1) := by decide +kernel
theorem dX6_show_9 : decode cX6_show 9 = .ok (.if_icmp .eq 24, 3) := by decide +kernel
theorem dX6_show_12 : decode cX6_show 12 = .ok (.aload_n 0, 1) := by decide +kernel
theorem dX6_show_13 : decode cX6_show 13 = .ok (.getfield 10, 3) := by decide +kernel
theorem dX6_show_16 : decode cX6_show 16 = .ok (.getfield 81, 3) := by decide +kernel
theorem dX6_show_19 : decode cX6_show 19 = .ok (.iload_n 2, 1) := by decide +kernel
theorem dX6_show_20 : decode cX6_show 20 = .ok (.invokevirtual 85, 3) := by decide +kernel
theorem dX6_show_23 : decode cX6_show 23 = .ok (.ifCond .ne 10, 3) := by decide +kernel
theorem dX6_show_26 : decode cX6_show 26 = .ok (.aload_n 0, 1) := by decide +kernel
theorem dX6_show_27 : decode cX6_show 27 = .ok (.bipush (-2), 2) := by decide +kernel
theorem dX6_show_29 : decode cX6_show 29 = .ok (.invokevirtual 45, 3) := by decide +kernel
theorem dX6_show_32 : decode cX6_show 32 = .ok (.ireturn, 1) := by decide +kernel
theorem dX6_show_33 : decode cX6_show 33 = .ok (.iload_n 2, 1) := by decide +kernel
theorem dX6_show_34 : decode cX6_show 34 = .ok (.iconst (-1), 1) := by decide +kernel
theorem dX6_show_35 : decode cX6_show 35 = .ok (.if_icmp .ne 14, 3) := by decide +kernel
theorem dX6_show_38 : decode cX6_show 38 = .ok (.aload_n 0, 1) := by decide +kernel
theorem dX6_show_39 : decode cX6_show 39 = .ok (.getfield 29, 3) := by decide +kernel
theorem dX6_show_42 : decode cX6_show 42 = .ok (.iload_n 1, 1) := by decide +kernel
theorem dX6_show_43 : decode cX6_show 43 = .ok (.invokevirtual 90, 3) := by decide +kernel
theorem dX6_show_46 : decode cX6_show 46 = .ok (.goto 12, 3) := by decide +kernel
theorem dX6_show_49 : decode cX6_show 49 = .ok (.aload_n 0, 1) := by decide +kernel
theorem dX6_show_50 : decode cX6_show 50 = .ok (.getfield 29, 3) := by decide +kernel
theorem dX6_show_53 : decode cX6_show 53 = .ok (.iload_n 1, 1) := by decide +kernel
theorem dX6_show_54 : decode cX6_show 54 = .ok (.iload_n 2, 1) := by decide +kernel
theorem dX6_show_55 : decode cX6_show 55 = .ok (.invokevirtual 94, 3) := by decide +kernel
theorem dX6_show_58 : decode cX6_show 58 = .ok (.iconst 1, 1) := by decide +kernel
theorem dX6_show_59 : decode cX6_show 59 = .ok (.ireturn, 1) := by decide +kernel
theorem dX6_says_0 : decode cX6_says 0 = .ok (.iload_n 1, 1) := by decide +kernel
theorem dX6_says_1 : decode cX6_says 1 = .ok (.invokestatic 37, 3) := by decide +kernel
theorem dX6_says_4 : decode cX6_says 4 = .ok (.ifCond .eq 10, 3) := by decide +kernel
theorem dX6_says_7 : decode cX6_says 7 = .ok (.iload_n 2, 1) := by decide +kernel
theorem dX6_says_8 : decode cX6_says 8 = .ok (.invokestatic 98, 3) := by decide +kernel
theorem dX6_says_11 : decode cX6_says 11 = .ok (.ifCond .ne 10, 3) := by decide +kernel
theorem dX6_says_14 : decode cX6_says 14 = .ok (.aload_n 0, 1) := by decide +kernel
theorem dX6_says_15 : decode cX6_says 15 = .ok (.bipush (-2), 2) := by decide +kernel
theorem dX6_says_17 : decode cX6_says 17 = .ok (.invokevirtual 45, 3) := by decide +kernel
theorem dX6_says_20 : decode cX6_says 20 = .ok (.ireturn, 1) := by decide +kernel
theorem dX6_says_21 : decode cX6_says 21 = .ok (.aload_n 0, 1) := by decide +kernel
theorem dX6_says_22 : decode cX6_says 22 = .ok (.getfield 29, 3) := by decide +kernel
theorem dX6_says_25 : decode cX6_says 25 = .ok (.iload_n 1, 1) := by decide +kernel
theorem dX6_says_26 : decode cX6_says 26 = .ok (.invokevirtual 101, 3) := by decide +kernel
theorem dX6_says_29 : decode cX6_says 29 = .ok (.istore_n 3, 1) := by decide +kernel
theorem dX6_says_30 : decode cX6_says 30 = .ok (.aload_n 0, 1) := by decide +kernel
theorem dX6_says_31 : decode cX6_says 31 = .ok (.getfield 29, 3) := by decide +kernel
theorem dX6_says_34 : decode cX6_says 34 = .ok (.iload_n 1, 1) := by decide +kernel
theorem dX6_says_35 : decode cX6_says 35 = .ok (.invokevirtual 104, 3) := by decide +kernel
theorem dX6_says_38 : decode cX6_says 38 = .ok (.ifCond .ne 26, 3) := by decide +kernel
theorem dX6_says_41 : decode cX6_says 41 = .ok (.iload_n 3, 1) := by decide +kernel
theorem dX6_says_42 : decode cX6_says 42 = .ok (.iconst (-1), 1) := by decide +kernel
theorem dX6_says_43 : decode cX6_says 43 = .ok (.if_icmp .eq 28, 3) := by decide +kernel
theorem dX6_says_46 : decode cX6_says 46 = .ok (.aload_n 0, 1) := by decide +kernel
theorem dX6_says_47 : decode cX6_says 47 = .ok (.getfield 10, 3) := by decide +kernel
theorem dX6_says_50 : decode cX6_says 50 = .ok (.getfield 81, 3) := by decide +kernel
theorem dX6_says_53 : decode cX6_says 53 = .ok (.iload_n 3, 1) := by decide +kernel
theorem dX6_says_54 : decode cX6_says 54 = .ok (.invokevirtual 107, 3) := by decide +kernel
theorem dX6_says_57 : decode cX6_says 57 = .ok (.iload_n 2, 1) := by decide +kernel
theorem dX6_says_58 : decode cX6_says 58 = .ok (.invokestatic 110, 3) := by decide +kernel
theorem dX6_says_61 : decode cX6_says 61 = .ok (.ifCond .ne 10, 3) := by decide +kernel
theorem dX6_says_64 : decode cX6_says 64 = .ok (.aload_n 0, 1) := by decide +kernel
theorem dX6_says_65 : decode cX6_says 65 = .ok (.bipush (-3), 2) := by decide +kernel
theorem dX6_says_67 : decode cX6_says 67 = .ok (.invokevirtual 45, 3) := by decide +kernel
theorem dX6_says_70 : decode cX6_says 70 = .ok (.ireturn, 1) := by decide +kernel
theorem dX6_says_71 : decode cX6_says 71 = .ok (.iload_n 3, 1) := by decide +kernel
theorem dX6_says_72 : decode cX6_says 72 = .ok (.iconst (-1), 1) := by decide +kernel
theorem dX6_says_73 : decode cX6_says 73 = .ok (.if_icmp .ne 10, 3) := by decide +kernel
theorem dX6_says_76 : decode cX6_says 76 = .ok (.aload_n 0, 1) := by decide +kernel
theorem dX6_says_77 : decode cX6_says 77 = .ok (.bipush (-4), 2) := by decide +kernel
theorem dX6_says_79 : decode cX6_says 79 = .ok (.invokevirtual 45, 3) := by decide +kernel
theorem dX6_says_82 : decode cX6_says 82 = .ok (.ireturn, 1) := by decide +kernel
theorem dX6_says_83 : decode cX6_says 83 = .ok (.iload_n 2, 1) := by decide +kernel
theorem dX6_says_84 : decode cX6_says 84 = .ok (.tableswitch 70 0 3 #[32, 44, 70, 44], 32) := by decide +kernel
theorem dX6_says_116 : decode cX6_says 116 = .ok (.aload_n 0, 1) := by decide +kernel
theorem dX6_says_117 : decode cX6_says 117 = .ok (.getfield 10, 3) := by decide +kernel
theorem dX6_says_120 : decode cX6_says 120 = .ok (.getfield 81, 3) := by decide +kernel
theorem dX6_says_123 : decode cX6_says 123 = .ok (.iload_n 3, 1) := by decide +kernel
theorem dX6_says_124 : decode cX6_says 124 = .ok (.invokevirtual 114, 3) := by decide +kernel
theorem dX6_says_127 : decode cX6_says 127 = .ok (.ireturn, 1) := by decide +kernel
theorem dX6_says_128 : decode cX6_says 128 = .ok (.aload_n 0, 1) := by decide +kernel
theorem dX6_says_129 : decode cX6_says 129 = .ok (.getfield 10, 3) := by decide +kernel
theorem dX6_says_132 : decode cX6_says 132 = .ok (.getfield 81, 3) := by decide +kernel
theorem dX6_says_135 : decode cX6_says 135 = .ok (.iload_n 3, 1) := by decide +kernel
theorem dX6_says_136 : decode cX6_says 136 = .ok (.invokevirtual 107, 3) := by decide +kernel
theorem dX6_says_139 : decode cX6_says 139 = .ok (.aload_n 0, 1) := by decide +kernel
theorem dX6_says_140 : decode cX6_says 140 = .ok (.getfield 10, 3) := by decide +kernel
theorem dX6_says_143 : decode cX6_says 143 = .ok (.getfield 81, 3) := by decide +kernel
theorem dX6_says_146 : decode cX6_says 146 = .ok (.iload_n 3, 1) := by decide +kernel
theorem dX6_says_147 : decode cX6_says 147 = .ok (.invokevirtual 114, 3) := by decide +kernel
theorem dX6_says_150 : decode cX6_says 150 = .ok (.invokestatic 117, 3) := by decide +kernel
theorem dX6_says_153 : decode cX6_says 153 = .ok (.ireturn, 1) := by decide +kernel
theorem dX6_says_154 : decode cX6_says 154 = .ok (.aload_n 0, 1) := by decide +kernel
theorem dX6_says_155 : decode cX6_says 155 = .ok (.getfield 10, 3) := by decide +kernel
theorem dX6_says_158 : decode cX6_says 158 = .ok (.iload_n 3, 1) := by decide +kernel
theorem dX6_says_159 : decode cX6_says 159 = .ok (.aload_n 0, 1) := by decide +kernel
theorem dX6_says_160 : decode cX6_says 160 = .ok (.getfield 10, 3) := by decide +kernel
theorem dX6_says_163 : decode cX6_says 163 = .ok (.getfield 120, 3) := by decide +kernel
theorem dX6_says_166 : decode cX6_says 166 = .ok (.invokevirtual 124, 3) := by decide +kernel
theorem dX6_says_169 : decode cX6_says 169 = .ok (.ireturn, 1) := by decide +kernel
theorem dX6_law_0 : decode cX6_law 0 = .ok (.iload_n 1, 1) := by decide +kernel
theorem dX6_law_1 : decode cX6_law 1 = .ok (.invokestatic 98, 3) := by decide +kernel
theorem dX6_law_4 : decode cX6_law 4 = .ok (.ifCond .eq 13, 3) := by decide +kernel
theorem dX6_law_7 : decode cX6_law 7 = .ok (.iload_n 2, 1) := by decide +kernel
theorem dX6_law_8 : decode cX6_law 8 = .ok (.iconst 0, 1) := by decide +kernel
theorem dX6_law_9 : decode cX6_law 9 = .ok (.bipush 9, 2) := by decide +kernel
theorem dX6_law_11 : decode cX6_law 11 = .ok (.invokestatic 41, 3) := by decide +kernel
theorem dX6_law_14 : decode cX6_law 14 = .ok (.ifCond .ne 10, 3) := by decide +kernel
theorem dX6_law_17 : decode cX6_law 17 = .ok (.aload_n 0, 1) := by decide +kernel
theorem dX6_law_18 : decode cX6_law 18 = .ok (.bipush (-2), 2) := by decide +kernel
theorem dX6_law_20 : decode cX6_law 20 = .ok (.invokevirtual 45, 3) := by decide +kernel
theorem dX6_law_23 : decode cX6_law 23 = .ok (.ireturn, 1) := by decide +kernel
theorem dX6_law_24 : decode cX6_law 24 = .ok (.aload_n 0, 1) := by decide +kernel
theorem dX6_law_25 : decode cX6_law 25 = .ok (.getfield 10, 3) := by decide +kernel
theorem dX6_law_28 : decode cX6_law 28 = .ok (.getfield 81, 3) := by decide +kernel
theorem dX6_law_31 : decode cX6_law 31 = .ok (.invokevirtual 128, 3) := by decide +kernel
theorem dX6_law_34 : decode cX6_law 34 = .ok (.ifCond .ne 10, 3) := by decide +kernel
theorem dX6_law_37 : decode cX6_law 37 = .ok (.aload_n 0, 1) := by decide +kernel
theorem dX6_law_38 : decode cX6_law 38 = .ok (.bipush (-6), 2) := by decide +kernel
theorem dX6_law_40 : decode cX6_law 40 = .ok (.invokevirtual 45, 3) := by decide +kernel
theorem dX6_law_43 : decode cX6_law 43 = .ok (.ireturn, 1) := by decide +kernel
theorem dX6_law_44 : decode cX6_law 44 = .ok (.aload_n 0, 1) := by decide +kernel
theorem dX6_law_45 : decode cX6_law 45 = .ok (.getfield 10, 3) := by decide +kernel
theorem dX6_law_48 : decode cX6_law 48 = .ok (.getfield 81, 3) := by decide +kernel
theorem dX6_law_51 : decode cX6_law 51 = .ok (.iload_n 1, 1) := by decide +kernel
theorem dX6_law_52 : decode cX6_law 52 = .ok (.iload_n 2, 1) := by decide +kernel
theorem dX6_law_53 : decode cX6_law 53 = .ok (.invokevirtual 132, 3) := by decide +kernel
theorem dX6_law_56 : decode cX6_law 56 = .ok (.ireturn, 1) := by decide +kernel
theorem dX6_use_0 : decode cX6_use 0 = .ok (.aload_n 0, 1) := by decide +kernel
theorem dX6_use_1 : decode cX6_use 1 = .ok (.getfield 10, 3) := by decide +kernel
theorem dX6_use_4 : decode cX6_use 4 = .ok (.getfield 81, 3) := by decide +kernel
theorem dX6_use_7 : decode cX6_use 7 = .ok (.iload_n 1, 1) := by decide +kernel
theorem dX6_use_8 : decode cX6_use 8 = .ok (.invokevirtual 85, 3) := by decide +kernel
theorem dX6_use_11 : decode cX6_use 11 = .ok (.ifCond .ne 10, 3) := by decide +kernel
theorem dX6_use_14 : decode cX6_use 14 = .ok (.aload_n 0, 1) := by decide +kernel
theorem dX6_use_15 : decode cX6_use 15 = .ok (.bipush (-2), 2) := by decide +kernel
theorem dX6_use_17 : decode cX6_use 17 = .ok (.invokevirtual 45, 3) := by decide +kernel
theorem dX6_use_20 : decode cX6_use 20 = .ok (.ireturn, 1) := by decide +kernel
theorem dX6_use_21 : decode cX6_use 21 = .ok (.aload_n 0, 1) := by decide +kernel
theorem dX6_use_22 : decode cX6_use 22 = .ok (.getfield 10, 3) := by decide +kernel
theorem dX6_use_25 : decode cX6_use 25 = .ok (.getfield 135, 3) := by decide +kernel
theorem dX6_use_28 : decode cX6_use 28 = .ok (.istore_n 2, 1) := by decide +kernel
theorem dX6_use_29 : decode cX6_use 29 = .ok (.aload_n 0, 1) := by decide +kernel
theorem dX6_use_30 : decode cX6_use 30 = .ok (.getfield 10, 3) := by decide +kernel
theorem dX6_use_33 : decode cX6_use 33 = .ok (.iload_n 1, 1) := by decide +kernel
theorem dX6_use_34 : decode cX6_use 34 = .ok (.putfield 135, 3) := by decide +kernel
theorem dX6_use_37 : decode cX6_use 37 = .ok (.iload_n 2, 1) := by decide +kernel
theorem dX6_use_38 : decode cX6_use 38 = .ok (.ireturn, 1) := by decide +kernel
theorem dX6_ask_0 : decode cX6_ask 0 = .ok (.iload_n 1, 1) := by decide +kernel
theorem dX6_ask_1 : decode cX6_ask 1 = .ok (.iconst 0, 1) := by decide +kernel
theorem dX6_ask_2 : decode cX6_ask 2 = .ok (.iconst 1, 1) := by decide +kernel
theorem dX6_ask_3 : decode cX6_ask 3 = .ok (.invokestatic 41, 3) := by decide +kernel
theorem dX6_ask_6 : decode cX6_ask 6 = .ok (.ifCond .eq 22, 3) := by decide +kernel
theorem dX6_ask_9 : decode cX6_ask 9 = .ok (.iload_n 2, 1) := by decide +kernel
theorem dX6_ask_10 : decode cX6_ask 10 = .ok (.iconst 0, 1) := by decide +kernel
theorem dX6_ask_11 : decode cX6_ask 11 = .ok (.iload_n 1, 1) := by decide +kernel
theorem dX6_ask_12 : decode cX6_ask 12 = .ok (.ifCond .ne 8, 3) := by decide +kernel
theorem dX6_ask_15 : decode cX6_ask 15 = .ok (.bipush 9, 2) := by decide +kernel
theorem dX6_ask_17 : decode cX6_ask 17 = .ok (.goto 5, 3) := by decide +kernel
theorem dX6_ask_20 : decode cX6_ask 20 = .ok (.bipush 100, 2) := by decide +kernel
theorem dX6_ask_22 : decode cX6_ask 22 = .ok (.invokestatic 41, 3) := by decide +kernel
theorem dX6_ask_25 : decode cX6_ask 25 = .ok (.ifCond .ne 10, 3) := by decide +kernel
theorem dX6_ask_28 : decode cX6_ask 28 = .ok (.aload_n 0, 1) := by decide +kernel
theorem dX6_ask_29 : decode cX6_ask 29 = .ok (.bipush (-2), 2) := by decide +kernel
theorem dX6_ask_31 : decode cX6_ask 31 = .ok (.invokevirtual 45, 3) := by decide +kernel
theorem dX6_ask_34 : decode cX6_ask 34 = .ok (.ireturn, 1) := by decide +kernel
theorem dX6_ask_35 : decode cX6_ask 35 = .ok (.iload_n 1, 1) := by decide +kernel
theorem dX6_ask_36 : decode cX6_ask 36 = .ok (.ifCond .ne 13, 3) := by decide +kernel
theorem dX6_ask_39 : decode cX6_ask 39 = .ok (.aload_n 0, 1) := by decide +kernel
theorem dX6_ask_40 : decode cX6_ask 40 = .ok (.getfield 10, 3) := by decide +kernel
theorem dX6_ask_43 : decode cX6_ask 43 = .ok (.getfield 139, 3) := by decide +kernel
theorem dX6_ask_46 : decode cX6_ask 46 = .ok (.goto 10, 3) := by decide +kernel
theorem dX6_ask_49 : decode cX6_ask 49 = .ok (.aload_n 0, 1) := by decide +kernel
theorem dX6_ask_50 : decode cX6_ask 50 = .ok (.getfield 10, 3) := by decide +kernel
theorem dX6_ask_53 : decode cX6_ask 53 = .ok (.getfield 142, 3) := by decide +kernel
theorem dX6_ask_56 : decode cX6_ask 56 = .ok (.istore_n 3, 1) := by decide +kernel
theorem dX6_ask_57 : decode cX6_ask 57 = .ok (.iload_n 1, 1) := by decide +kernel
theorem dX6_ask_58 : decode cX6_ask 58 = .ok (.ifCond .ne 14, 3) := by decide +kernel
theorem dX6_ask_61 : decode cX6_ask 61 = .ok (.aload_n 0, 1) := by decide +kernel
theorem dX6_ask_62 : decode cX6_ask 62 = .ok (.getfield 10, 3) := by decide +kernel
theorem dX6_ask_65 : decode cX6_ask 65 = .ok (.iload_n 2, 1) := by decide +kernel
theorem dX6_ask_66 : decode cX6_ask 66 = .ok (.putfield 139, 3) := by decide +kernel
theorem dX6_ask_69 : decode cX6_ask 69 = .ok (.goto 11, 3) := by decide +kernel
theorem dX6_ask_72 : decode cX6_ask 72 = .ok (.aload_n 0, 1) := by decide +kernel
theorem dX6_ask_73 : decode cX6_ask 73 = .ok (.getfield 10, 3) := by decide +kernel
theorem dX6_ask_76 : decode cX6_ask 76 = .ok (.iload_n 2, 1) := by decide +kernel
theorem dX6_ask_77 : decode cX6_ask 77 = .ok (.putfield 142, 3) := by decide +kernel
theorem dX6_ask_80 : decode cX6_ask 80 = .ok (.iload_n 3, 1) := by decide +kernel
theorem dX6_ask_81 : decode cX6_ask 81 = .ok (.ireturn, 1) := by decide +kernel
theorem dX6_person_0 : decode cX6_person 0 = .ok (.iload_n 1, 1) := by decide +kernel
theorem dX6_person_1 : decode cX6_person 1 = .ok (.iconst 1, 1) := by decide +kernel
theorem dX6_person_2 : decode cX6_person 2 = .ok (.bipush 99, 2) := by decide +kernel
theorem dX6_person_4 : decode cX6_person 4 = .ok (.invokestatic 41, 3) := by decide +kernel
theorem dX6_person_7 : decode cX6_person 7 = .ok (.ifCond .ne 10, 3) := by decide +kernel
theorem dX6_person_10 : decode cX6_person 10 = .ok (.aload_n 0, 1) := by decide +kernel
theorem dX6_person_11 : decode cX6_person 11 = .ok (.bipush (-2), 2) := by decide +kernel
theorem dX6_person_13 : decode cX6_person 13 = .ok (.invokevirtual 45, 3) := by decide +kernel
theorem dX6_person_16 : decode cX6_person 16 = .ok (.ireturn, 1) := by decide +kernel
theorem dX6_person_17 : decode cX6_person 17 = .ok (.aload_n 0, 1) := by decide +kernel
theorem dX6_person_18 : decode cX6_person 18 = .ok (.getfield 10, 3) := by decide +kernel
theorem dX6_person_21 : decode cX6_person 21 = .ok (.getfield 145, 3) := by decide +kernel
theorem dX6_person_24 : decode cX6_person 24 = .ok (.invokevirtual 149, 3) := by decide +kernel
theorem dX6_person_27 : decode cX6_person 27 = .ok (.ifCond .ne 10, 3) := by decide +kernel
theorem dX6_person_30 : decode cX6_person 30 = .ok (.aload_n 0, 1) := by decide +kernel
theorem dX6_person_31 : decode cX6_person 31 = .ok (.bipush (-6), 2) := by decide +kernel
theorem dX6_person_33 : decode cX6_person 33 = .ok (.invokevirtual 45, 3) := by decide +kernel
theorem dX6_person_36 : decode cX6_person 36 = .ok (.ireturn, 1) := by decide +kernel
theorem dX6_person_37 : decode cX6_person 37 = .ok (.aload_n 0, 1) := by decide +kernel
theorem dX6_person_38 : decode cX6_person 38 = .ok (.getfield 10, 3) := by decide +kernel
theorem dX6_person_41 : decode cX6_person 41 = .ok (.getfield 145, 3) := by decide +kernel
theorem dX6_person_44 : decode cX6_person 44 = .ok (.iload_n 1, 1) := by decide +kernel
theorem dX6_person_45 : decode cX6_person 45 = .ok (.invokevirtual 152, 3) := by decide +kernel
theorem dX6_person_48 : decode cX6_person 48 = .ok (.ireturn, 1) := by decide +kernel
theorem dX6_feed_0 : decode cX6_feed 0 = .ok (.iload_n 1, 1) := by decide +kernel
theorem dX6_feed_1 : decode cX6_feed 1 = .ok (.iconst 0, 1) := by decide +kernel
theorem dX6_feed_2 : decode cX6_feed 2 = .ok (.sipush 255, 3) := by decide +kernel
theorem dX6_feed_5 : decode cX6_feed 5 = .ok (.invokestatic 41, 3) := by decide +kernel
theorem dX6_feed_8 : decode cX6_feed 8 = .ok (.ifCond .ne 10, 3) := by decide +kernel
theorem dX6_feed_11 : decode cX6_feed 11 = .ok (.aload_n 0, 1) := by decide +kernel
theorem dX6_feed_12 : decode cX6_feed 12 = .ok (.bipush (-2), 2) := by decide +kernel
theorem dX6_feed_14 : decode cX6_feed 14 = .ok (.invokevirtual 45, 3) := by decide +kernel
theorem dX6_feed_17 : decode cX6_feed 17 = .ok (.ireturn, 1) := by decide +kernel
theorem dX6_feed_18 : decode cX6_feed 18 = .ok (.aload_n 0, 1) := by decide +kernel
theorem dX6_feed_19 : decode cX6_feed 19 = .ok (.getfield 22, 3) := by decide +kernel
theorem dX6_feed_22 : decode cX6_feed 22 = .ok (.getfield 154, 3) := by decide +kernel
theorem dX6_feed_25 : decode cX6_feed 25 = .ok (.invokevirtual 158, 3) := by decide +kernel
theorem dX6_feed_28 : decode cX6_feed 28 = .ok (.ifCond .ne 10, 3) := by decide +kernel
theorem dX6_feed_31 : decode cX6_feed 31 = .ok (.aload_n 0, 1) := by decide +kernel
theorem dX6_feed_32 : decode cX6_feed 32 = .ok (.bipush (-6), 2) := by decide +kernel
theorem dX6_feed_34 : decode cX6_feed 34 = .ok (.invokevirtual 45, 3) := by decide +kernel
theorem dX6_feed_37 : decode cX6_feed 37 = .ok (.ireturn, 1) := by decide +kernel
theorem dX6_feed_38 : decode cX6_feed 38 = .ok (.aload_n 0, 1) := by decide +kernel
theorem dX6_feed_39 : decode cX6_feed 39 = .ok (.getfield 22, 3) := by decide +kernel
theorem dX6_feed_42 : decode cX6_feed 42 = .ok (.getfield 154, 3) := by decide +kernel
theorem dX6_feed_45 : decode cX6_feed 45 = .ok (.iload_n 1, 1) := by decide +kernel
theorem dX6_feed_46 : decode cX6_feed 46 = .ok (.invokevirtual 161, 3) := by decide +kernel
theorem dX6_feed_49 : decode cX6_feed 49 = .ok (.ireturn, 1) := by decide +kernel
theorem dX6_wipe_0 : decode cX6_wipe 0 = .ok (.aload_n 0, 1) := by decide +kernel
theorem dX6_wipe_1 : decode cX6_wipe 1 = .ok (.getfield 22, 3) := by decide +kernel
theorem dX6_wipe_4 : decode cX6_wipe 4 = .ok (.getfield 154, 3) := by decide +kernel
theorem dX6_wipe_7 : decode cX6_wipe 7 = .ok (.getfield 162, 3) := by decide +kernel
theorem dX6_wipe_10 : decode cX6_wipe 10 = .ok (.istore_n 1, 1) := by decide +kernel
theorem dX6_wipe_11 : decode cX6_wipe 11 = .ok (.aload_n 0, 1) := by decide +kernel
theorem dX6_wipe_12 : decode cX6_wipe 12 = .ok (.getfield 22, 3) := by decide +kernel
theorem dX6_wipe_15 : decode cX6_wipe 15 = .ok (.getfield 154, 3) := by decide +kernel
theorem dX6_wipe_18 : decode cX6_wipe 18 = .ok (.iconst 0, 1) := by decide +kernel
theorem dX6_wipe_19 : decode cX6_wipe 19 = .ok (.putfield 162, 3) := by decide +kernel
theorem dX6_wipe_22 : decode cX6_wipe 22 = .ok (.iload_n 1, 1) := by decide +kernel
theorem dX6_wipe_23 : decode cX6_wipe 23 = .ok (.ireturn, 1) := by decide +kernel
theorem dX6_lake_0 : decode cX6_lake 0 = .ok (.aload_n 0, 1) := by decide +kernel
theorem dX6_lake_1 : decode cX6_lake 1 = .ok (.getfield 22, 3) := by decide +kernel
theorem dX6_lake_4 : decode cX6_lake 4 = .ok (.getfield 165, 3) := by decide +kernel
theorem dX6_lake_7 : decode cX6_lake 7 = .ok (.aload_n 0, 1) := by decide +kernel
theorem dX6_lake_8 : decode cX6_lake 8 = .ok (.getfield 10, 3) := by decide +kernel
theorem dX6_lake_11 : decode cX6_lake 11 = .ok (.invokevirtual 168, 3) := by decide +kernel
theorem dX6_lake_14 : decode cX6_lake 14 = .ok (.aload_n 0, 1) := by decide +kernel
theorem dX6_lake_15 : decode cX6_lake 15 = .ok (.getfield 22, 3) := by decide +kernel
theorem dX6_lake_18 : decode cX6_lake 18 = .ok (.invokevirtual 172, 3) := by decide +kernel
theorem dX6_lake_21 : decode cX6_lake 21 = .ok (.istore_n 1, 1) := by decide +kernel
theorem dX6_lake_22 : decode cX6_lake 22 = .ok (.aload_n 0, 1) := by decide +kernel
theorem dX6_lake_23 : decode cX6_lake 23 = .ok (.getfield 22, 3) := by decide +kernel
theorem dX6_lake_26 : decode cX6_lake 26 = .ok (.getfield 154, 3) := by decide +kernel
theorem dX6_lake_29 : decode cX6_lake 29 = .ok (.iconst 0, 1) := by decide +kernel
theorem dX6_lake_30 : decode cX6_lake 30 = .ok (.putfield 162, 3) := by decide +kernel
theorem dX6_lake_33 : decode cX6_lake 33 = .ok (.iload_n 1, 1) := by decide +kernel
theorem dX6_lake_34 : decode cX6_lake 34 = .ok (.iconst (-1), 1) := by decide +kernel
theorem dX6_lake_35 : decode cX6_lake 35 = .ok (.if_icmp .ne 24, 3) := by decide +kernel
theorem dX6_lake_38 : decode cX6_lake 38 = .ok (.aload_n 0, 1) := by decide +kernel
theorem dX6_lake_39 : decode cX6_lake 39 = .ok (.bipush (-2), 2) := by decide +kernel
theorem dX6_lake_41 : decode cX6_lake 41 = .ok (.invokevirtual 45, 3) := by decide +kernel
theorem dX6_lake_44 : decode cX6_lake 44 = .ok (.pop, 1) := by decide +kernel
theorem dX6_lake_45 : decode cX6_lake 45 = .ok (.bipush (-20), 2) := by decide +kernel
theorem dX6_lake_47 : decode cX6_lake 47 = .ok (.aload_n 0, 1) := by decide +kernel
theorem dX6_lake_48 : decode cX6_lake 48 = .ok (.getfield 22, 3) := by decide +kernel
theorem dX6_lake_51 : decode cX6_lake 51 = .ok (.getfield 154, 3) := by decide +kernel
theorem dX6_lake_54 : decode cX6_lake 54 = .ok (.getfield 176, 3) := by decide +kernel
theorem dX6_lake_57 : decode cX6_lake 57 = .ok (.isub, 1) := by decide +kernel
theorem dX6_lake_58 : decode cX6_lake 58 = .ok (.ireturn, 1) := by decide +kernel
theorem dX6_lake_59 : decode cX6_lake 59 = .ok (.aload_n 0, 1) := by decide +kernel
theorem dX6_lake_60 : decode cX6_lake 60 = .ok (.getfield 10, 3) := by decide +kernel
theorem dX6_lake_63 : decode cX6_lake 63 = .ok (.aload_n 0, 1) := by decide +kernel
theorem dX6_lake_64 : decode cX6_lake 64 = .ok (.getfield 22, 3) := by decide +kernel
theorem dX6_lake_67 : decode cX6_lake 67 = .ok (.getfield 165, 3) := by decide +kernel
theorem dX6_lake_70 : decode cX6_lake 70 = .ok (.invokevirtual 168, 3) := by decide +kernel
theorem dX6_lake_73 : decode cX6_lake 73 = .ok (.iload_n 1, 1) := by decide +kernel
theorem dX6_lake_74 : decode cX6_lake 74 = .ok (.ireturn, 1) := by decide +kernel
theorem dX6_lawOf_0 : decode cX6_lawOf 0 = .ok (.aload_n 0, 1) := by decide +kernel
theorem dX6_lawOf_1 : decode cX6_lawOf 1 = .ok (.getfield 10, 3) := by decide +kernel
theorem dX6_lawOf_4 : decode cX6_lawOf 4 = .ok (.getfield 81, 3) := by decide +kernel
theorem dX6_lawOf_7 : decode cX6_lawOf 7 = .ok (.iload_n 1, 1) := by decide +kernel
theorem dX6_lawOf_8 : decode cX6_lawOf 8 = .ok (.invokevirtual 85, 3) := by decide +kernel
theorem dX6_lawOf_11 : decode cX6_lawOf 11 = .ok (.ifCond .eq 12, 3) := by decide +kernel
theorem dX6_lawOf_14 : decode cX6_lawOf 14 = .ok (.iload_n 2, 1) := by decide +kernel
theorem dX6_lawOf_15 : decode cX6_lawOf 15 = .ok (.iconst 0, 1) := by decide +kernel
theorem dX6_lawOf_16 : decode cX6_lawOf 16 = .ok (.iconst 1, 1) := by decide +kernel
theorem dX6_lawOf_17 : decode cX6_lawOf 17 = .ok (.invokestatic 41, 3) := by decide +kernel
theorem dX6_lawOf_20 : decode cX6_lawOf 20 = .ok (.ifCond .ne 10, 3) := by decide +kernel
theorem dX6_lawOf_23 : decode cX6_lawOf 23 = .ok (.aload_n 0, 1) := by decide +kernel
theorem dX6_lawOf_24 : decode cX6_lawOf 24 = .ok (.bipush (-2), 2) := by decide +kernel
theorem dX6_lawOf_26 : decode cX6_lawOf 26 = .ok (.invokevirtual 45, 3) := by decide +kernel
theorem dX6_lawOf_29 : decode cX6_lawOf 29 = .ok (.ireturn, 1) := by decide +kernel
theorem dX6_lawOf_30 : decode cX6_lawOf 30 = .ok (.iload_n 2, 1) := by decide +kernel
theorem dX6_lawOf_31 : decode cX6_lawOf 31 = .ok (.ifCond .ne 17, 3) := by decide +kernel
theorem dX6_lawOf_34 : decode cX6_lawOf 34 = .ok (.aload_n 0, 1) := by decide +kernel
theorem dX6_lawOf_35 : decode cX6_lawOf 35 = .ok (.getfield 10, 3) := by decide +kernel
theorem dX6_lawOf_38 : decode cX6_lawOf 38 = .ok (.getfield 81, 3) := by decide +kernel
theorem dX6_lawOf_41 : decode cX6_lawOf 41 = .ok (.iload_n 1, 1) := by decide +kernel
theorem dX6_lawOf_42 : decode cX6_lawOf 42 = .ok (.invokevirtual 107, 3) := by decide +kernel
theorem dX6_lawOf_45 : decode cX6_lawOf 45 = .ok (.goto 14, 3) := by decide +kernel
theorem dX6_lawOf_48 : decode cX6_lawOf 48 = .ok (.aload_n 0, 1) := by decide +kernel
theorem dX6_lawOf_49 : decode cX6_lawOf 49 = .ok (.getfield 10, 3) := by decide +kernel
theorem dX6_lawOf_52 : decode cX6_lawOf 52 = .ok (.getfield 81, 3) := by decide +kernel
theorem dX6_lawOf_55 : decode cX6_lawOf 55 = .ok (.iload_n 1, 1) := by decide +kernel
theorem dX6_lawOf_56 : decode cX6_lawOf 56 = .ok (.invokevirtual 114, 3) := by decide +kernel
theorem dX6_lawOf_59 : decode cX6_lawOf 59 = .ok (.ireturn, 1) := by decide +kernel
theorem dX6_age_0 : decode cX6_age 0 = .ok (.aload_n 0, 1) := by decide +kernel
theorem dX6_age_1 : decode cX6_age 1 = .ok (.getfield 10, 3) := by decide +kernel
theorem dX6_age_4 : decode cX6_age 4 = .ok (.getfield 145, 3) := by decide +kernel
theorem dX6_age_7 : decode cX6_age 7 = .ok (.iload_n 1, 1) := by decide +kernel
theorem dX6_age_8 : decode cX6_age 8 = .ok (.invokevirtual 179, 3) := by decide +kernel
theorem dX6_age_11 : decode cX6_age 11 = .ok (.ifCond .eq 17, 3) := by decide +kernel
theorem dX6_age_14 : decode cX6_age 14 = .ok (.aload_n 0, 1) := by decide +kernel
theorem dX6_age_15 : decode cX6_age 15 = .ok (.getfield 10, 3) := by decide +kernel
theorem dX6_age_18 : decode cX6_age 18 = .ok (.getfield 145, 3) := by decide +kernel
theorem dX6_age_21 : decode cX6_age 21 = .ok (.iload_n 1, 1) := by decide +kernel
theorem dX6_age_22 : decode cX6_age 22 = .ok (.invokevirtual 180, 3) := by decide +kernel
theorem dX6_age_25 : decode cX6_age 25 = .ok (.goto 9, 3) := by decide +kernel
theorem dX6_age_28 : decode cX6_age 28 = .ok (.aload_n 0, 1) := by decide +kernel
theorem dX6_age_29 : decode cX6_age 29 = .ok (.bipush (-2), 2) := by decide +kernel
theorem dX6_age_31 : decode cX6_age 31 = .ok (.invokevirtual 45, 3) := by decide +kernel
theorem dX6_age_34 : decode cX6_age 34 = .ok (.ireturn, 1) := by decide +kernel
theorem dX6_step_0 : decode cX6_step 0 = .ok (.aload_n 0, 1) := by decide +kernel
theorem dX6_step_1 : decode cX6_step 1 = .ok (.iload_n 1, 1) := by decide +kernel
theorem dX6_step_2 : decode cX6_step 2 = .ok (.invokevirtual 183, 3) := by decide +kernel
theorem dX6_step_5 : decode cX6_step 5 = .ok (.ifCond .eq 20, 3) := by decide +kernel
theorem dX6_step_8 : decode cX6_step 8 = .ok (.aload_n 0, 1) := by decide +kernel
theorem dX6_step_9 : decode cX6_step 9 = .ok (.getfield 10, 3) := by decide +kernel
theorem dX6_step_12 : decode cX6_step 12 = .ok (.getfield 120, 3) := by decide +kernel
theorem dX6_step_15 : decode cX6_step 15 = .ok (.iload_n 1, 1) := by decide +kernel
theorem dX6_step_16 : decode cX6_step 16 = .ok (.invokestatic 186, 3) := by decide +kernel
theorem dX6_step_19 : decode cX6_step 19 = .ok (.invokestatic 190, 3) := by decide +kernel
theorem dX6_step_22 : decode cX6_step 22 = .ok (.goto 9, 3) := by decide +kernel
theorem dX6_step_25 : decode cX6_step 25 = .ok (.aload_n 0, 1) := by decide +kernel
theorem dX6_step_26 : decode cX6_step 26 = .ok (.bipush (-2), 2) := by decide +kernel
theorem dX6_step_28 : decode cX6_step 28 = .ok (.invokevirtual 45, 3) := by decide +kernel
theorem dX6_step_31 : decode cX6_step 31 = .ok (.ireturn, 1) := by decide +kernel
theorem dX6_strikes_0 : decode cX6_strikes 0 = .ok (.aload_n 0, 1) := by decide +kernel
theorem dX6_strikes_1 : decode cX6_strikes 1 = .ok (.iload_n 1, 1) := by decide +kernel
theorem dX6_strikes_2 : decode cX6_strikes 2 = .ok (.invokevirtual 183, 3) := by decide +kernel
theorem dX6_strikes_5 : decode cX6_strikes 5 = .ok (.ifCond .ne 10, 3) := by decide +kernel
theorem dX6_strikes_8 : decode cX6_strikes 8 = .ok (.aload_n 0, 1) := by decide +kernel
theorem dX6_strikes_9 : decode cX6_strikes 9 = .ok (.bipush (-2), 2) := by decide +kernel
theorem dX6_strikes_11 : decode cX6_strikes 11 = .ok (.invokevirtual 45, 3) := by decide +kernel
theorem dX6_strikes_14 : decode cX6_strikes 14 = .ok (.ireturn, 1) := by decide +kernel
theorem dX6_strikes_15 : decode cX6_strikes 15 = .ok (.aload_n 0, 1) := by decide +kernel
theorem dX6_strikes_16 : decode cX6_strikes 16 = .ok (.getfield 10, 3) := by decide +kernel
theorem dX6_strikes_19 : decode cX6_strikes 19 = .ok (.getfield 81, 3) := by decide +kernel
theorem dX6_strikes_22 : decode cX6_strikes 22 = .ok (.getfield 194, 3) := by decide +kernel
theorem dX6_strikes_25 : decode cX6_strikes 25 = .ok (.ifCond .ne 10, 3) := by decide +kernel
theorem dX6_strikes_28 : decode cX6_strikes 28 = .ok (.aload_n 0, 1) := by decide +kernel
theorem dX6_strikes_29 : decode cX6_strikes 29 = .ok (.bipush (-5), 2) := by decide +kernel
theorem dX6_strikes_31 : decode cX6_strikes 31 = .ok (.invokevirtual 45, 3) := by decide +kernel
theorem dX6_strikes_34 : decode cX6_strikes 34 = .ok (.ireturn, 1) := by decide +kernel
theorem dX6_strikes_35 : decode cX6_strikes 35 = .ok (.aload_n 0, 1) := by decide +kernel
theorem dX6_strikes_36 : decode cX6_strikes 36 = .ok (.getfield 10, 3) := by decide +kernel
theorem dX6_strikes_39 : decode cX6_strikes 39 = .ok (.iload_n 1, 1) := by decide +kernel
theorem dX6_strikes_40 : decode cX6_strikes 40 = .ok (.invokevirtual 197, 3) := by decide +kernel
theorem dX6_strikes_43 : decode cX6_strikes 43 = .ok (.invokestatic 190, 3) := by decide +kernel
theorem dX6_strikes_46 : decode cX6_strikes 46 = .ok (.ireturn, 1) := by decide +kernel
theorem dX6_strikesBy_0 : decode cX6_strikesBy 0 = .ok (.aload_n 0, 1) := by decide +kernel
theorem dX6_strikesBy_1 : decode cX6_strikesBy 1 = .ok (.getfield 10, 3) := by decide +kernel
theorem dX6_strikesBy_4 : decode cX6_strikesBy 4 = .ok (.getfield 81, 3) := by decide +kernel
theorem dX6_strikesBy_7 : decode cX6_strikesBy 7 = .ok (.iload_n 1, 1) := by decide +kernel
theorem dX6_strikesBy_8 : decode cX6_strikesBy 8 = .ok (.invokevirtual 85, 3) := by decide +kernel
theorem dX6_strikesBy_11 : decode cX6_strikesBy 11 = .ok (.ifCond .eq 11, 3) := by decide +kernel
theorem dX6_strikesBy_14 : decode cX6_strikesBy 14 = .ok (.aload_n 0, 1) := by decide +kernel
theorem dX6_strikesBy_15 : decode cX6_strikesBy 15 = .ok (.iload_n 2, 1) := by decide +kernel
theorem dX6_strikesBy_16 : decode cX6_strikesBy 16 = .ok (.invokevirtual 183, 3) := by decide +kernel
theorem dX6_strikesBy_19 : decode cX6_strikesBy 19 = .ok (.ifCond .ne 10, 3) := by decide +kernel
theorem dX6_strikesBy_22 : decode cX6_strikesBy 22 = .ok (.aload_n 0, 1) := by decide +kernel
theorem dX6_strikesBy_23 : decode cX6_strikesBy 23 = .ok (.bipush (-2), 2) := by decide +kernel
theorem dX6_strikesBy_25 : decode cX6_strikesBy 25 = .ok (.invokevirtual 45, 3) := by decide +kernel
theorem dX6_strikesBy_28 : decode cX6_strikesBy 28 = .ok (.ireturn, 1) := by decide +kernel
theorem dX6_strikesBy_29 : decode cX6_strikesBy 29 = .ok (.aload_n 0, 1) := by decide +kernel
theorem dX6_strikesBy_30 : decode cX6_strikesBy 30 = .ok (.getfield 10, 3) := by decide +kernel
theorem dX6_strikesBy_33 : decode cX6_strikesBy 33 = .ok (.getfield 81, 3) := by decide +kernel
theorem dX6_strikesBy_36 : decode cX6_strikesBy 36 = .ok (.iload_n 1, 1) := by decide +kernel
theorem dX6_strikesBy_37 : decode cX6_strikesBy 37 = .ok (.aload_n 0, 1) := by decide +kernel
theorem dX6_strikesBy_38 : decode cX6_strikesBy 38 = .ok (.getfield 10, 3) := by decide +kernel
theorem dX6_strikesBy_41 : decode cX6_strikesBy 41 = .ok (.getfield 120, 3) := by decide +kernel
theorem dX6_strikesBy_44 : decode cX6_strikesBy 44 = .ok (.aload_n 0, 1) := by decide +kernel
theorem dX6_strikesBy_45 : decode cX6_strikesBy 45 = .ok (.getfield 10, 3) := by decide +kernel
theorem dX6_strikesBy_48 : decode cX6_strikesBy 48 = .ok (.getfield 200, 3) := by decide +kernel
theorem dX6_strikesBy_51 : decode cX6_strikesBy 51 = .ok (.iload_n 2, 1) := by decide +kernel
theorem dX6_strikesBy_52 : decode cX6_strikesBy 52 = .ok (.invokevirtual 203, 3) := by decide +kernel
theorem dX6_strikesBy_55 : decode cX6_strikesBy 55 = .ok (.invokestatic 190, 3) := by decide +kernel
theorem dX6_strikesBy_58 : decode cX6_strikesBy 58 = .ok (.ireturn, 1) := by decide +kernel
theorem dX6_heard_0 : decode cX6_heard 0 = .ok (.aload_n 0, 1) := by decide +kernel
theorem dX6_heard_1 : decode cX6_heard 1 = .ok (.iload_n 1, 1) := by decide +kernel
theorem dX6_heard_2 : decode cX6_heard 2 = .ok (.invokevirtual 183, 3) := by decide +kernel
theorem dX6_heard_5 : decode cX6_heard 5 = .ok (.ifCond .eq 12, 3) := by decide +kernel
theorem dX6_heard_8 : decode cX6_heard 8 = .ok (.iload_n 2, 1) := by decide +kernel
theorem dX6_heard_9 : decode cX6_heard 9 = .ok (.iconst 0, 1) := by decide +kernel
theorem dX6_heard_10 : decode cX6_heard 10 = .ok (.iconst 2, 1) := by decide +kernel
theorem dX6_heard_11 : decode cX6_heard 11 = .ok (.invokestatic 41, 3) := by decide +kernel
theorem dX6_heard_14 : decode cX6_heard 14 = .ok (.ifCond .ne 10, 3) := by decide +kernel
theorem dX6_heard_17 : decode cX6_heard 17 = .ok (.aload_n 0, 1) := by decide +kernel
theorem dX6_heard_18 : decode cX6_heard 18 = .ok (.bipush (-2), 2) := by decide +kernel
theorem dX6_heard_20 : decode cX6_heard 20 = .ok (.invokevirtual 45, 3) := by decide +kernel
theorem dX6_heard_23 : decode cX6_heard 23 = .ok (.ireturn, 1) := by decide +kernel
theorem dX6_heard_24 : decode cX6_heard 24 = .ok (.aload_n 0, 1) := by decide +kernel
theorem dX6_heard_25 : decode cX6_heard 25 = .ok (.getfield 10, 3) := by decide +kernel
theorem dX6_heard_28 : decode cX6_heard 28 = .ok (.aload_n 0, 1) := by decide +kernel
theorem dX6_heard_29 : decode cX6_heard 29 = .ok (.getfield 10, 3) := by decide +kernel
theorem dX6_heard_32 : decode cX6_heard 32 = .ok (.getfield 120, 3) := by decide +kernel
theorem dX6_heard_35 : decode cX6_heard 35 = .ok (.aload_n 0, 1) := by decide +kernel
theorem dX6_heard_36 : decode cX6_heard 36 = .ok (.getfield 10, 3) := by decide +kernel
theorem dX6_heard_39 : decode cX6_heard 39 = .ok (.getfield 200, 3) := by decide +kernel
theorem dX6_heard_42 : decode cX6_heard 42 = .ok (.iload_n 2, 1) := by decide +kernel
theorem dX6_heard_43 : decode cX6_heard 43 = .ok (.invokevirtual 207, 3) := by decide +kernel
theorem dX6_heard_46 : decode cX6_heard 46 = .ok (.iload_n 1, 1) := by decide +kernel
theorem dX6_heard_47 : decode cX6_heard 47 = .ok (.invokestatic 186, 3) := by decide +kernel
theorem dX6_heard_50 : decode cX6_heard 50 = .ok (.invokestatic 190, 3) := by decide +kernel
theorem dX6_heard_53 : decode cX6_heard 53 = .ok (.ireturn, 1) := by decide +kernel
theorem dX6_all_0 : decode cX6_all 0 = .ok (.iload_n 1, 1) := by decide +kernel
theorem dX6_all_1 : decode cX6_all 1 = .ok (.iconst 0, 1) := by decide +kernel
theorem dX6_all_2 : decode cX6_all 2 = .ok (.iconst 2, 1) := by decide +kernel
theorem dX6_all_3 : decode cX6_all 3 = .ok (.invokestatic 41, 3) := by decide +kernel
theorem dX6_all_6 : decode cX6_all 6 = .ok (.ifCond .ne 10, 3) := by decide +kernel
theorem dX6_all_9 : decode cX6_all 9 = .ok (.aload_n 0, 1) := by decide +kernel
theorem dX6_all_10 : decode cX6_all 10 = .ok (.bipush (-2), 2) := by decide +kernel
theorem dX6_all_12 : decode cX6_all 12 = .ok (.invokevirtual 45, 3) := by decide +kernel
theorem dX6_all_15 : decode cX6_all 15 = .ok (.ireturn, 1) := by decide +kernel
theorem dX6_all_16 : decode cX6_all 16 = .ok (.aload_n 0, 1) := by decide +kernel
theorem dX6_all_17 : decode cX6_all 17 = .ok (.getfield 10, 3) := by decide +kernel
theorem dX6_all_20 : decode cX6_all 20 = .ok (.aload_n 0, 1) := by decide +kernel
theorem dX6_all_21 : decode cX6_all 21 = .ok (.getfield 10, 3) := by decide +kernel
theorem dX6_all_24 : decode cX6_all 24 = .ok (.getfield 120, 3) := by decide +kernel
theorem dX6_all_27 : decode cX6_all 27 = .ok (.aload_n 0, 1) := by decide +kernel
theorem dX6_all_28 : decode cX6_all 28 = .ok (.getfield 10, 3) := by decide +kernel
theorem dX6_all_31 : decode cX6_all 31 = .ok (.getfield 200, 3) := by decide +kernel
theorem dX6_all_34 : decode cX6_all 34 = .ok (.iload_n 1, 1) := by decide +kernel
theorem dX6_all_35 : decode cX6_all 35 = .ok (.invokevirtual 207, 3) := by decide +kernel
theorem dX6_all_38 : decode cX6_all 38 = .ok (.invokestatic 211, 3) := by decide +kernel
theorem dX6_all_41 : decode cX6_all 41 = .ok (.ireturn, 1) := by decide +kernel
theorem dX6_silent_0 : decode cX6_silent 0 = .ok (.aload_n 0, 1) := by decide +kernel
theorem dX6_silent_1 : decode cX6_silent 1 = .ok (.iload_n 1, 1) := by decide +kernel
theorem dX6_silent_2 : decode cX6_silent 2 = .ok (.invokevirtual 183, 3) := by decide +kernel
theorem dX6_silent_5 : decode cX6_silent 5 = .ok (.ifCond .ne 10, 3) := by decide +kernel
theorem dX6_silent_8 : decode cX6_silent 8 = .ok (.aload_n 0, 1) := by decide +kernel
theorem dX6_silent_9 : decode cX6_silent 9 = .ok (.bipush (-2), 2) := by decide +kernel
theorem dX6_silent_11 : decode cX6_silent 11 = .ok (.invokevirtual 45, 3) := by decide +kernel
theorem dX6_silent_14 : decode cX6_silent 14 = .ok (.ireturn, 1) := by decide +kernel
theorem dX6_silent_15 : decode cX6_silent 15 = .ok (.aload_n 0, 1) := by decide +kernel
theorem dX6_silent_16 : decode cX6_silent 16 = .ok (.getfield 10, 3) := by decide +kernel
theorem dX6_silent_19 : decode cX6_silent 19 = .ok (.aload_n 0, 1) := by decide +kernel
theorem dX6_silent_20 : decode cX6_silent 20 = .ok (.getfield 10, 3) := by decide +kernel
theorem dX6_silent_23 : decode cX6_silent 23 = .ok (.getfield 120, 3) := by decide +kernel
theorem dX6_silent_26 : decode cX6_silent 26 = .ok (.aload_n 0, 1) := by decide +kernel
theorem dX6_silent_27 : decode cX6_silent 27 = .ok (.getfield 10, 3) := by decide +kernel
theorem dX6_silent_30 : decode cX6_silent 30 = .ok (.getfield 200, 3) := by decide +kernel
theorem dX6_silent_33 : decode cX6_silent 33 = .ok (.iconst 2, 1) := by decide +kernel
theorem dX6_silent_34 : decode cX6_silent 34 = .ok (.invokevirtual 207, 3) := by decide +kernel
theorem dX6_silent_37 : decode cX6_silent 37 = .ok (.iload_n 1, 1) := by decide +kernel
theorem dX6_silent_38 : decode cX6_silent 38 = .ok (.aload_n 0, 1) := by decide +kernel
theorem dX6_silent_39 : decode cX6_silent 39 = .ok (.getfield 10, 3) := by decide +kernel
theorem dX6_silent_42 : decode cX6_silent 42 = .ok (.getfield 200, 3) := by decide +kernel
theorem dX6_silent_45 : decode cX6_silent 45 = .ok (.invokestatic 217, 3) := by decide +kernel
theorem dX6_silent_48 : decode cX6_silent 48 = .ok (.ireturn, 1) := by decide +kernel
theorem dX6_run_0 : decode cX6_run 0 = .ok (.iload_n 1, 1) := by decide +kernel
theorem dX6_run_1 : decode cX6_run 1 = .ok (.tableswitch 100 0 2 #[27, 45, 67], 27) := by decide +kernel
theorem dX6_run_28 : decode cX6_run 28 = .ok (.aload_n 0, 1) := by decide +kernel
theorem dX6_run_29 : decode cX6_run 29 = .ok (.getfield 10, 3) := by decide +kernel
theorem dX6_run_32 : decode cX6_run 32 = .ok (.getfield 120, 3) := by decide +kernel
theorem dX6_run_35 : decode cX6_run 35 = .ok (.aload_n 0, 1) := by decide +kernel
theorem dX6_run_36 : decode cX6_run 36 = .ok (.getfield 10, 3) := by decide +kernel
theorem dX6_run_39 : decode cX6_run 39 = .ok (.getfield 200, 3) := by decide +kernel
theorem dX6_run_42 : decode cX6_run 42 = .ok (.invokestatic 221, 3) := by decide +kernel
theorem dX6_run_45 : decode cX6_run 45 = .ok (.ireturn, 1) := by decide +kernel
theorem dX6_run_46 : decode cX6_run 46 = .ok (.aload_n 0, 1) := by decide +kernel
theorem dX6_run_47 : decode cX6_run 47 = .ok (.getfield 10, 3) := by decide +kernel
theorem dX6_run_50 : decode cX6_run 50 = .ok (.getfield 120, 3) := by decide +kernel
theorem dX6_run_53 : decode cX6_run 53 = .ok (.ldc2_w 225, 3) := by decide +kernel
theorem dX6_run_56 : decode cX6_run 56 = .ok (.lxor, 1) := by decide +kernel
theorem dX6_run_57 : decode cX6_run 57 = .ok (.aload_n 0, 1) := by decide +kernel
theorem dX6_run_58 : decode cX6_run 58 = .ok (.getfield 10, 3) := by decide +kernel
theorem dX6_run_61 : decode cX6_run 61 = .ok (.getfield 200, 3) := by decide +kernel
theorem dX6_run_64 : decode cX6_run 64 = .ok (.invokestatic 221, 3) := by decide +kernel
theorem dX6_run_67 : decode cX6_run 67 = .ok (.ireturn, 1) := by decide +kernel
theorem dX6_run_68 : decode cX6_run 68 = .ok (.aload_n 0, 1) := by decide +kernel
theorem dX6_run_69 : decode cX6_run 69 = .ok (.getfield 10, 3) := by decide +kernel
theorem dX6_run_72 : decode cX6_run 72 = .ok (.aload_n 0, 1) := by decide +kernel
theorem dX6_run_73 : decode cX6_run 73 = .ok (.getfield 10, 3) := by decide +kernel
theorem dX6_run_76 : decode cX6_run 76 = .ok (.getfield 120, 3) := by decide +kernel
theorem dX6_run_79 : decode cX6_run 79 = .ok (.aload_n 0, 1) := by decide +kernel
theorem dX6_run_80 : decode cX6_run 80 = .ok (.getfield 10, 3) := by decide +kernel
theorem dX6_run_83 : decode cX6_run 83 = .ok (.getfield 200, 3) := by decide +kernel
theorem dX6_run_86 : decode cX6_run 86 = .ok (.iconst 2, 1) := by decide +kernel
theorem dX6_run_87 : decode cX6_run 87 = .ok (.invokevirtual 207, 3) := by decide +kernel
theorem dX6_run_90 : decode cX6_run 90 = .ok (.aload_n 0, 1) := by decide +kernel
theorem dX6_run_91 : decode cX6_run 91 = .ok (.getfield 10, 3) := by decide +kernel
theorem dX6_run_94 : decode cX6_run 94 = .ok (.getfield 200, 3) := by decide +kernel
theorem dX6_run_97 : decode cX6_run 97 = .ok (.invokestatic 221, 3) := by decide +kernel
theorem dX6_run_100 : decode cX6_run 100 = .ok (.ireturn, 1) := by decide +kernel
theorem dX6_run_101 : decode cX6_run 101 = .ok (.aload_n 0, 1) := by decide +kernel
theorem dX6_run_102 : decode cX6_run 102 = .ok (.bipush (-2), 2) := by decide +kernel
theorem dX6_run_104 : decode cX6_run 104 = .ok (.invokevirtual 45, 3) := by decide +kernel
theorem dX6_run_107 : decode cX6_run 107 = .ok (.ireturn, 1) := by decide +kernel
theorem dX6_loop_0 : decode cX6_loop 0 = .ok (.iload_n 1, 1) := by decide +kernel
theorem dX6_loop_1 : decode cX6_loop 1 = .ok (.iconst 0, 1) := by decide +kernel
theorem dX6_loop_2 : decode cX6_loop 2 = .ok (.bipush 60, 2) := by decide +kernel
theorem dX6_loop_4 : decode cX6_loop 4 = .ok (.invokestatic 41, 3) := by decide +kernel
theorem dX6_loop_7 : decode cX6_loop 7 = .ok (.ifCond .ne 10, 3) := by decide +kernel
theorem dX6_loop_10 : decode cX6_loop 10 = .ok (.aload_n 0, 1) := by decide +kernel
theorem dX6_loop_11 : decode cX6_loop 11 = .ok (.bipush (-2), 2) := by decide +kernel
theorem dX6_loop_13 : decode cX6_loop 13 = .ok (.invokevirtual 45, 3) := by decide +kernel
theorem dX6_loop_16 : decode cX6_loop 16 = .ok (.ireturn, 1) := by decide +kernel
theorem dX6_loop_17 : decode cX6_loop 17 = .ok (.aload_n 0, 1) := by decide +kernel
theorem dX6_loop_18 : decode cX6_loop 18 = .ok (.getfield 10, 3) := by decide +kernel
theorem dX6_loop_21 : decode cX6_loop 21 = .ok (.getfield 81, 3) := by decide +kernel
theorem dX6_loop_24 : decode cX6_loop 24 = .ok (.getfield 194, 3) := by decide +kernel
theorem dX6_loop_27 : decode cX6_loop 27 = .ok (.ifCond .ne 10, 3) := by decide +kernel
theorem dX6_loop_30 : decode cX6_loop 30 = .ok (.aload_n 0, 1) := by decide +kernel
theorem dX6_loop_31 : decode cX6_loop 31 = .ok (.bipush (-5), 2) := by decide +kernel
theorem dX6_loop_33 : decode cX6_loop 33 = .ok (.invokevirtual 45, 3) := by decide +kernel
theorem dX6_loop_36 : decode cX6_loop 36 = .ok (.ireturn, 1) := by decide +kernel
theorem dX6_loop_37 : decode cX6_loop 37 = .ok (.aload_n 0, 1) := by decide +kernel
theorem dX6_loop_38 : decode cX6_loop 38 = .ok (.getfield 10, 3) := by decide +kernel
theorem dX6_loop_41 : decode cX6_loop 41 = .ok (.iload_n 1, 1) := by decide +kernel
theorem dX6_loop_42 : decode cX6_loop 42 = .ok (.invokevirtual 227, 3) := by decide +kernel
theorem dX6_loop_45 : decode cX6_loop 45 = .ok (.invokestatic 211, 3) := by decide +kernel
theorem dX6_loop_48 : decode cX6_loop 48 = .ok (.ireturn, 1) := by decide +kernel
theorem dX6_period_0 : decode cX6_period 0 = .ok (.iconst 1, 1) := by decide +kernel
theorem dX6_period_1 : decode cX6_period 1 = .ok (.istore_n 1, 1) := by decide +kernel
theorem dX6_period_2 : decode cX6_period 2 = .ok (.iload_n 1, 1) := by decide +kernel
theorem dX6_period_3 : decode cX6_period 3 = .ok (.aload_n 0, 1) := by decide +kernel
theorem dX6_period_4 : decode cX6_period 4 = .ok (.getfield 10, 3) := by decide +kernel
theorem dX6_period_7 : decode cX6_period 7 = .ok (.getfield 200, 3) := by decide +kernel
theorem dX6_period_10 : decode cX6_period 10 = .ok (.if_icmp .ge 44, 3) := by decide +kernel
theorem dX6_period_13 : decode cX6_period 13 = .ok (.aload_n 0, 1) := by decide +kernel
theorem dX6_period_14 : decode cX6_period 14 = .ok (.getfield 10, 3) := by decide +kernel
theorem dX6_period_17 : decode cX6_period 17 = .ok (.getfield 120, 3) := by decide +kernel
theorem dX6_period_20 : decode cX6_period 20 = .ok (.iload_n 1, 1) := by decide +kernel
theorem dX6_period_21 : decode cX6_period 21 = .ok (.lushr, 1) := by decide +kernel
theorem dX6_period_22 : decode cX6_period 22 = .ok (.aload_n 0, 1) := by decide +kernel
theorem dX6_period_23 : decode cX6_period 23 = .ok (.getfield 10, 3) := by decide +kernel
theorem dX6_period_26 : decode cX6_period 26 = .ok (.getfield 120, 3) := by decide +kernel
theorem dX6_period_29 : decode cX6_period 29 = .ok (.aload_n 0, 1) := by decide +kernel
theorem dX6_period_30 : decode cX6_period 30 = .ok (.getfield 10, 3) := by decide +kernel
theorem dX6_period_33 : decode cX6_period 33 = .ok (.getfield 200, 3) := by decide +kernel
theorem dX6_period_36 : decode cX6_period 36 = .ok (.iload_n 1, 1) := by decide +kernel
theorem dX6_period_37 : decode cX6_period 37 = .ok (.isub, 1) := by decide +kernel
theorem dX6_period_38 : decode cX6_period 38 = .ok (.invokestatic 231, 3) := by decide +kernel
theorem dX6_period_41 : decode cX6_period 41 = .ok (.land, 1) := by decide +kernel
theorem dX6_period_42 : decode cX6_period 42 = .ok (.lcmp, 1) := by decide +kernel
theorem dX6_period_43 : decode cX6_period 43 = .ok (.ifCond .ne 5, 3) := by decide +kernel
theorem dX6_period_46 : decode cX6_period 46 = .ok (.iload_n 1, 1) := by decide +kernel
theorem dX6_period_47 : decode cX6_period 47 = .ok (.ireturn, 1) := by decide +kernel
theorem dX6_period_48 : decode cX6_period 48 = .ok (.iinc 1 1, 3) := by decide +kernel
theorem dX6_period_51 : decode cX6_period 51 = .ok (.goto (-49), 3) := by decide +kernel
theorem dX6_period_54 : decode cX6_period 54 = .ok (.aload_n 0, 1) := by decide +kernel
theorem dX6_period_55 : decode cX6_period 55 = .ok (.getfield 10, 3) := by decide +kernel
theorem dX6_period_58 : decode cX6_period 58 = .ok (.getfield 200, 3) := by decide +kernel
theorem dX6_period_61 : decode cX6_period 61 = .ok (.ireturn, 1) := by decide +kernel
theorem dX6_mirror_0 : decode cX6_mirror 0 = .ok (.aload_n 0, 1) := by decide +kernel
theorem dX6_mirror_1 : decode cX6_mirror 1 = .ok (.getfield 10, 3) := by decide +kernel
theorem dX6_mirror_4 : decode cX6_mirror 4 = .ok (.invokevirtual 234, 3) := by decide +kernel
theorem dX6_mirror_7 : decode cX6_mirror 7 = .ok (.aload_n 0, 1) := by decide +kernel
theorem dX6_mirror_8 : decode cX6_mirror 8 = .ok (.getfield 10, 3) := by decide +kernel
theorem dX6_mirror_11 : decode cX6_mirror 11 = .ok (.getfield 120, 3) := by decide +kernel
theorem dX6_mirror_14 : decode cX6_mirror 14 = .ok (.lcmp, 1) := by decide +kernel
theorem dX6_mirror_15 : decode cX6_mirror 15 = .ok (.ifCond .ne 7, 3) := by decide +kernel
theorem dX6_mirror_18 : decode cX6_mirror 18 = .ok (.iconst 1, 1) := by decide +kernel
theorem dX6_mirror_19 : decode cX6_mirror 19 = .ok (.goto 4, 3) := by decide +kernel
theorem dX6_mirror_22 : decode cX6_mirror 22 = .ok (.iconst 0, 1) := by decide +kernel
theorem dX6_mirror_23 : decode cX6_mirror 23 = .ok (.invokestatic 190, 3) := by decide +kernel
theorem dX6_mirror_26 : decode cX6_mirror 26 = .ok (.ireturn, 1) := by decide +kernel
theorem dX6_lastStroke_0 : decode cX6_lastStroke 0 = .ok (.iconst (-1), 1) := by decide +kernel
theorem dX6_lastStroke_1 : decode cX6_lastStroke 1 = .ok (.istore_n 1, 1) := by decide +kernel
theorem dX6_lastStroke_2 : decode cX6_lastStroke 2 = .ok (.iconst 0, 1) := by decide +kernel
theorem dX6_lastStroke_3 : decode cX6_lastStroke 3 = .ok (.istore_n 2, 1) := by decide +kernel
theorem dX6_lastStroke_4 : decode cX6_lastStroke 4 = .ok (.iload_n 2, 1) := by decide +kernel
theorem dX6_lastStroke_5 : decode cX6_lastStroke 5 = .ok (.aload_n 0, 1) := by decide +kernel
theorem dX6_lastStroke_6 : decode cX6_lastStroke 6 = .ok (.getfield 10, 3) := by decide +kernel
theorem dX6_lastStroke_9 : decode cX6_lastStroke 9 = .ok (.getfield 200, 3) := by decide +kernel
theorem dX6_lastStroke_12 : decode cX6_lastStroke 12 = .ok (.if_icmp .ge 25, 3) := by decide +kernel
theorem dX6_lastStroke_15 : decode cX6_lastStroke 15 = .ok (.aload_n 0, 1) := by decide +kernel
theorem dX6_lastStroke_16 : decode cX6_lastStroke 16 = .ok (.getfield 10, 3) := by decide +kernel
theorem dX6_lastStroke_19 : decode cX6_lastStroke 19 = .ok (.getfield 120, 3) := by decide +kernel
theorem dX6_lastStroke_22 : decode cX6_lastStroke 22 = .ok (.iload_n 2, 1) := by decide +kernel
theorem dX6_lastStroke_23 : decode cX6_lastStroke 23 = .ok (.invokestatic 186, 3) := by decide +kernel
theorem dX6_lastStroke_26 : decode cX6_lastStroke 26 = .ok (.ifCond .eq 5, 3) := by decide +kernel
theorem dX6_lastStroke_29 : decode cX6_lastStroke 29 = .ok (.iload_n 2, 1) := by decide +kernel
theorem dX6_lastStroke_30 : decode cX6_lastStroke 30 = .ok (.istore_n 1, 1) := by decide +kernel
theorem dX6_lastStroke_31 : decode cX6_lastStroke 31 = .ok (.iinc 2 1, 3) := by decide +kernel
theorem dX6_lastStroke_34 : decode cX6_lastStroke 34 = .ok (.goto (-30), 3) := by decide +kernel
theorem dX6_lastStroke_37 : decode cX6_lastStroke 37 = .ok (.iload_n 1, 1) := by decide +kernel
theorem dX6_lastStroke_38 : decode cX6_lastStroke 38 = .ok (.ireturn, 1) := by decide +kernel
theorem dX6_shift_0 : decode cX6_shift 0 = .ok (.aload_n 0, 1) := by decide +kernel
theorem dX6_shift_1 : decode cX6_shift 1 = .ok (.iload_n 1, 1) := by decide +kernel
theorem dX6_shift_2 : decode cX6_shift 2 = .ok (.invokevirtual 183, 3) := by decide +kernel
theorem dX6_shift_5 : decode cX6_shift 5 = .ok (.ifCond .ne 10, 3) := by decide +kernel
theorem dX6_shift_8 : decode cX6_shift 8 = .ok (.aload_n 0, 1) := by decide +kernel
theorem dX6_shift_9 : decode cX6_shift 9 = .ok (.bipush (-2), 2) := by decide +kernel
theorem dX6_shift_11 : decode cX6_shift 11 = .ok (.invokevirtual 45, 3) := by decide +kernel
theorem dX6_shift_14 : decode cX6_shift 14 = .ok (.ireturn, 1) := by decide +kernel
theorem dX6_shift_15 : decode cX6_shift 15 = .ok (.aload_n 0, 1) := by decide +kernel
theorem dX6_shift_16 : decode cX6_shift 16 = .ok (.getfield 10, 3) := by decide +kernel
theorem dX6_shift_19 : decode cX6_shift 19 = .ok (.getfield 120, 3) := by decide +kernel
theorem dX6_shift_22 : decode cX6_shift 22 = .ok (.iload_n 1, 1) := by decide +kernel
theorem dX6_shift_23 : decode cX6_shift 23 = .ok (.lushr, 1) := by decide +kernel
theorem dX6_shift_24 : decode cX6_shift 24 = .ok (.aload_n 0, 1) := by decide +kernel
theorem dX6_shift_25 : decode cX6_shift 25 = .ok (.getfield 10, 3) := by decide +kernel
theorem dX6_shift_28 : decode cX6_shift 28 = .ok (.getfield 120, 3) := by decide +kernel
theorem dX6_shift_31 : decode cX6_shift 31 = .ok (.aload_n 0, 1) := by decide +kernel
theorem dX6_shift_32 : decode cX6_shift 32 = .ok (.getfield 10, 3) := by decide +kernel
theorem dX6_shift_35 : decode cX6_shift 35 = .ok (.getfield 200, 3) := by decide +kernel
theorem dX6_shift_38 : decode cX6_shift 38 = .ok (.iload_n 1, 1) := by decide +kernel
theorem dX6_shift_39 : decode cX6_shift 39 = .ok (.isub, 1) := by decide +kernel
theorem dX6_shift_40 : decode cX6_shift 40 = .ok (.lshl, 1) := by decide +kernel
theorem dX6_shift_41 : decode cX6_shift 41 = .ok (.lor, 1) := by decide +kernel
theorem dX6_shift_42 : decode cX6_shift 42 = .ok (.aload_n 0, 1) := by decide +kernel
theorem dX6_shift_43 : decode cX6_shift 43 = .ok (.getfield 10, 3) := by decide +kernel
theorem dX6_shift_46 : decode cX6_shift 46 = .ok (.getfield 200, 3) := by decide +kernel
theorem dX6_shift_49 : decode cX6_shift 49 = .ok (.invokestatic 231, 3) := by decide +kernel
theorem dX6_shift_52 : decode cX6_shift 52 = .ok (.land, 1) := by decide +kernel
theorem dX6_shift_53 : decode cX6_shift 53 = .ok (.lstore_n 2, 1) := by decide +kernel
theorem dX6_shift_54 : decode cX6_shift 54 = .ok (.aload_n 0, 1) := by decide +kernel
theorem dX6_shift_55 : decode cX6_shift 55 = .ok (.getfield 10, 3) := by decide +kernel
theorem dX6_shift_58 : decode cX6_shift 58 = .ok (.aload_n 0, 1) := by decide +kernel
theorem dX6_shift_59 : decode cX6_shift 59 = .ok (.getfield 10, 3) := by decide +kernel
theorem dX6_shift_62 : decode cX6_shift 62 = .ok (.getfield 135, 3) := by decide +kernel
theorem dX6_shift_65 : decode cX6_shift 65 = .ok (.lload_n 2, 1) := by decide +kernel
theorem dX6_shift_66 : decode cX6_shift 66 = .ok (.invokevirtual 124, 3) := by decide +kernel
theorem dX6_shift_69 : decode cX6_shift 69 = .ok (.ireturn, 1) := by decide +kernel
theorem dX6_flip_0 : decode cX6_flip 0 = .ok (.aload_n 0, 1) := by decide +kernel
theorem dX6_flip_1 : decode cX6_flip 1 = .ok (.getfield 10, 3) := by decide +kernel
theorem dX6_flip_4 : decode cX6_flip 4 = .ok (.getfield 200, 3) := by decide +kernel
theorem dX6_flip_7 : decode cX6_flip 7 = .ok (.ifCond .ne 10, 3) := by decide +kernel
theorem dX6_flip_10 : decode cX6_flip 10 = .ok (.aload_n 0, 1) := by decide +kernel
theorem dX6_flip_11 : decode cX6_flip 11 = .ok (.bipush (-5), 2) := by decide +kernel
theorem dX6_flip_13 : decode cX6_flip 13 = .ok (.invokevirtual 45, 3) := by decide +kernel
theorem dX6_flip_16 : decode cX6_flip 16 = .ok (.ireturn, 1) := by decide +kernel
theorem dX6_flip_17 : decode cX6_flip 17 = .ok (.iconst 0, 1) := by decide +kernel
theorem dX6_flip_18 : decode cX6_flip 18 = .ok (.istore_n 1, 1) := by decide +kernel
theorem dX6_flip_19 : decode cX6_flip 19 = .ok (.iconst (-1), 1) := by decide +kernel
theorem dX6_flip_20 : decode cX6_flip 20 = .ok (.istore_n 2, 1) := by decide +kernel
theorem dX6_flip_21 : decode cX6_flip 21 = .ok (.iconst 0, 1) := by decide +kernel
theorem dX6_flip_22 : decode cX6_flip 22 = .ok (.istore_n 3, 1) := by decide +kernel
theorem dX6_flip_23 : decode cX6_flip 23 = .ok (.iload_n 3, 1) := by decide +kernel
theorem dX6_flip_24 : decode cX6_flip 24 = .ok (.aload_n 0, 1) := by decide +kernel
theorem dX6_flip_25 : decode cX6_flip 25 = .ok (.getfield 10, 3) := by decide +kernel
theorem dX6_flip_28 : decode cX6_flip 28 = .ok (.getfield 200, 3) := by decide +kernel
theorem dX6_flip_31 : decode cX6_flip 31 = .ok (.if_icmp .ge 51, 3) := by decide +kernel
theorem dX6_flip_34 : decode cX6_flip 34 = .ok (.aload_n 0, 1) := by decide +kernel
theorem dX6_flip_35 : decode cX6_flip 35 = .ok (.getfield 10, 3) := by decide +kernel
theorem dX6_flip_38 : decode cX6_flip 38 = .ok (.aload_n 0, 1) := by decide +kernel
theorem dX6_flip_39 : decode cX6_flip 39 = .ok (.getfield 10, 3) := by decide +kernel
theorem dX6_flip_42 : decode cX6_flip 42 = .ok (.getfield 120, 3) := by decide +kernel
theorem dX6_flip_45 : decode cX6_flip 45 = .ok (.lconst 1, 1) := by decide +kernel
theorem dX6_flip_46 : decode cX6_flip 46 = .ok (.iload_n 3, 1) := by decide +kernel
theorem dX6_flip_47 : decode cX6_flip 47 = .ok (.lshl, 1) := by decide +kernel
theorem dX6_flip_48 : decode cX6_flip 48 = .ok (.lxor, 1) := by decide +kernel
theorem dX6_flip_49 : decode cX6_flip 49 = .ok (.aload_n 0, 1) := by decide +kernel
theorem dX6_flip_50 : decode cX6_flip 50 = .ok (.getfield 10, 3) := by decide +kernel
theorem dX6_flip_53 : decode cX6_flip 53 = .ok (.getfield 200, 3) := by decide +kernel
theorem dX6_flip_56 : decode cX6_flip 56 = .ok (.iconst 0, 1) := by decide +kernel
theorem dX6_flip_57 : decode cX6_flip 57 = .ok (.invokevirtual 207, 3) := by decide +kernel
theorem dX6_flip_60 : decode cX6_flip 60 = .ok (.invokestatic 211, 3) := by decide +kernel
theorem dX6_flip_63 : decode cX6_flip 63 = .ok (.istore 4, 2) := by decide +kernel
theorem dX6_flip_65 : decode cX6_flip 65 = .ok (.iload 4, 2) := by decide +kernel
theorem dX6_flip_67 : decode cX6_flip 67 = .ok (.iload_n 2, 1) := by decide +kernel
theorem dX6_flip_68 : decode cX6_flip 68 = .ok (.if_icmp .le 8, 3) := by decide +kernel
theorem dX6_flip_71 : decode cX6_flip 71 = .ok (.iload_n 3, 1) := by decide +kernel
theorem dX6_flip_72 : decode cX6_flip 72 = .ok (.istore_n 1, 1) := by decide +kernel
theorem dX6_flip_73 : decode cX6_flip 73 = .ok (.iload 4, 2) := by decide +kernel
theorem dX6_flip_75 : decode cX6_flip 75 = .ok (.istore_n 2, 1) := by decide +kernel
theorem dX6_flip_76 : decode cX6_flip 76 = .ok (.iinc 3 1, 3) := by decide +kernel
theorem dX6_flip_79 : decode cX6_flip 79 = .ok (.goto (-56), 3) := by decide +kernel
theorem dX6_flip_82 : decode cX6_flip 82 = .ok (.iload_n 1, 1) := by decide +kernel
theorem dX6_flip_83 : decode cX6_flip 83 = .ok (.ireturn, 1) := by decide +kernel
theorem dX6_until_0 : decode cX6_until 0 = .ok (.iload_n 1, 1) := by decide +kernel
theorem dX6_until_1 : decode cX6_until 1 = .ok (.iconst 0, 1) := by decide +kernel
theorem dX6_until_2 : decode cX6_until 2 = .ok (.bipush 40, 2) := by decide +kernel
theorem dX6_until_4 : decode cX6_until 4 = .ok (.invokestatic 41, 3) := by decide +kernel
theorem dX6_until_7 : decode cX6_until 7 = .ok (.ifCond .ne 10, 3) := by decide +kernel
theorem dX6_until_10 : decode cX6_until 10 = .ok (.aload_n 0, 1) := by decide +kernel
theorem dX6_until_11 : decode cX6_until 11 = .ok (.bipush (-2), 2) := by decide +kernel
theorem dX6_until_13 : decode cX6_until 13 = .ok (.invokevirtual 45, 3) := by decide +kernel
theorem dX6_until_16 : decode cX6_until 16 = .ok (.ireturn, 1) := by decide +kernel
theorem dX6_until_17 : decode cX6_until 17 = .ok (.aload_n 0, 1) := by decide +kernel
theorem dX6_until_18 : decode cX6_until 18 = .ok (.getfield 10, 3) := by decide +kernel
theorem dX6_until_21 : decode cX6_until 21 = .ok (.aload_n 0, 1) := by decide +kernel
theorem dX6_until_22 : decode cX6_until 22 = .ok (.getfield 10, 3) := by decide +kernel
theorem dX6_until_25 : decode cX6_until 25 = .ok (.getfield 135, 3) := by decide +kernel
theorem dX6_until_28 : decode cX6_until 28 = .ok (.aload_n 0, 1) := by decide +kernel
theorem dX6_until_29 : decode cX6_until 29 = .ok (.getfield 10, 3) := by decide +kernel
theorem dX6_until_32 : decode cX6_until 32 = .ok (.getfield 120, 3) := by decide +kernel
theorem dX6_until_35 : decode cX6_until 35 = .ok (.invokevirtual 238, 3) := by decide +kernel
theorem dX6_until_38 : decode cX6_until 38 = .ok (.lstore_n 2, 1) := by decide +kernel
theorem dX6_until_39 : decode cX6_until 39 = .ok (.iconst 0, 1) := by decide +kernel
theorem dX6_until_40 : decode cX6_until 40 = .ok (.istore 4, 2) := by decide +kernel
theorem dX6_until_42 : decode cX6_until 42 = .ok (.iload 4, 2) := by decide +kernel
theorem dX6_until_44 : decode cX6_until 44 = .ok (.aload_n 0, 1) := by decide +kernel
theorem dX6_until_45 : decode cX6_until 45 = .ok (.getfield 10, 3) := by decide +kernel
theorem dX6_until_48 : decode cX6_until 48 = .ok (.getfield 200, 3) := by decide +kernel
theorem dX6_until_51 : decode cX6_until 51 = .ok (.if_icmp .gt 26, 3) := by decide +kernel
theorem dX6_until_54 : decode cX6_until 54 = .ok (.lload_n 2, 1) := by decide +kernel
theorem dX6_until_55 : decode cX6_until 55 = .ok (.iload 4, 2) := by decide +kernel
theorem dX6_until_57 : decode cX6_until 57 = .ok (.invokestatic 231, 3) := by decide +kernel
theorem dX6_until_60 : decode cX6_until 60 = .ok (.land, 1) := by decide +kernel
theorem dX6_until_61 : decode cX6_until 61 = .ok (.invokestatic 211, 3) := by decide +kernel
theorem dX6_until_64 : decode cX6_until 64 = .ok (.iload_n 1, 1) := by decide +kernel
theorem dX6_until_65 : decode cX6_until 65 = .ok (.if_icmp .lt 6, 3) := by decide +kernel
theorem dX6_until_68 : decode cX6_until 68 = .ok (.iload 4, 2) := by decide +kernel
theorem dX6_until_70 : decode cX6_until 70 = .ok (.ireturn, 1) := by decide +kernel
theorem dX6_until_71 : decode cX6_until 71 = .ok (.iinc 4 1, 3) := by decide +kernel
theorem dX6_until_74 : decode cX6_until 74 = .ok (.goto (-32), 3) := by decide +kernel
theorem dX6_until_77 : decode cX6_until 77 = .ok (.iconst (-1), 1) := by decide +kernel
theorem dX6_until_78 : decode cX6_until 78 = .ok (.ireturn, 1) := by decide +kernel
theorem dX6_sameAs_0 : decode cX6_sameAs 0 = .ok (.aload_n 0, 1) := by decide +kernel
theorem dX6_sameAs_1 : decode cX6_sameAs 1 = .ok (.getfield 10, 3) := by decide +kernel
theorem dX6_sameAs_4 : decode cX6_sameAs 4 = .ok (.getfield 81, 3) := by decide +kernel
theorem dX6_sameAs_7 : decode cX6_sameAs 7 = .ok (.iload_n 1, 1) := by decide +kernel
theorem dX6_sameAs_8 : decode cX6_sameAs 8 = .ok (.invokevirtual 85, 3) := by decide +kernel
theorem dX6_sameAs_11 : decode cX6_sameAs 11 = .ok (.ifCond .ne 10, 3) := by decide +kernel
theorem dX6_sameAs_14 : decode cX6_sameAs 14 = .ok (.aload_n 0, 1) := by decide +kernel
theorem dX6_sameAs_15 : decode cX6_sameAs 15 = .ok (.bipush (-2), 2) := by decide +kernel
theorem dX6_sameAs_17 : decode cX6_sameAs 17 = .ok (.invokevirtual 45, 3) := by decide +kernel
theorem dX6_sameAs_20 : decode cX6_sameAs 20 = .ok (.ireturn, 1) := by decide +kernel
theorem dX6_sameAs_21 : decode cX6_sameAs 21 = .ok (.aload_n 0, 1) := by decide +kernel
theorem dX6_sameAs_22 : decode cX6_sameAs 22 = .ok (.getfield 10, 3) := by decide +kernel
theorem dX6_sameAs_25 : decode cX6_sameAs 25 = .ok (.iload_n 1, 1) := by decide +kernel
theorem dX6_sameAs_26 : decode cX6_sameAs 26 = .ok (.aload_n 0, 1) := by decide +kernel
theorem dX6_sameAs_27 : decode cX6_sameAs 27 = .ok (.getfield 10, 3) := by decide +kernel
theorem dX6_sameAs_30 : decode cX6_sameAs 30 = .ok (.getfield 120, 3) := by decide +kernel
theorem dX6_sameAs_33 : decode cX6_sameAs 33 = .ok (.invokevirtual 238, 3) := by decide +kernel
theorem dX6_sameAs_36 : decode cX6_sameAs 36 = .ok (.lstore_n 2, 1) := by decide +kernel
theorem dX6_sameAs_37 : decode cX6_sameAs 37 = .ok (.iconst 0, 1) := by decide +kernel
theorem dX6_sameAs_38 : decode cX6_sameAs 38 = .ok (.istore 4, 2) := by decide +kernel
theorem dX6_sameAs_40 : decode cX6_sameAs 40 = .ok (.iconst 0, 1) := by decide +kernel
theorem dX6_sameAs_41 : decode cX6_sameAs 41 = .ok (.istore 5, 2) := by decide +kernel
theorem dX6_sameAs_43 : decode cX6_sameAs 43 = .ok (.iload 5, 2) := by decide +kernel
theorem dX6_sameAs_45 : decode cX6_sameAs 45 = .ok (.aload_n 0, 1) := by decide +kernel
theorem dX6_sameAs_46 : decode cX6_sameAs 46 = .ok (.getfield 10, 3) := by decide +kernel
theorem dX6_sameAs_49 : decode cX6_sameAs 49 = .ok (.getfield 81, 3) := by decide +kernel
theorem dX6_sameAs_52 : decode cX6_sameAs 52 = .ok (.getfield 194, 3) := by decide +kernel
theorem dX6_sameAs_55 : decode cX6_sameAs 55 = .ok (.if_icmp .ge 39, 3) := by decide +kernel
theorem dX6_sameAs_58 : decode cX6_sameAs 58 = .ok (.aload_n 0, 1) := by decide +kernel
theorem dX6_sameAs_59 : decode cX6_sameAs 59 = .ok (.getfield 10, 3) := by decide +kernel
theorem dX6_sameAs_62 : decode cX6_sameAs 62 = .ok (.iload 5, 2) := by decide +kernel
theorem dX6_sameAs_64 : decode cX6_sameAs 64 = .ok (.aload_n 0, 1) := by decide +kernel
theorem dX6_sameAs_65 : decode cX6_sameAs 65 = .ok (.getfield 10, 3) := by decide +kernel
theorem dX6_sameAs_68 : decode cX6_sameAs 68 = .ok (.getfield 120, 3) := by decide +kernel
theorem dX6_sameAs_71 : decode cX6_sameAs 71 = .ok (.invokevirtual 238, 3) := by decide +kernel
theorem dX6_sameAs_74 : decode cX6_sameAs 74 = .ok (.lload_n 2, 1) := by decide +kernel
theorem dX6_sameAs_75 : decode cX6_sameAs 75 = .ok (.lcmp, 1) := by decide +kernel
theorem dX6_sameAs_76 : decode cX6_sameAs 76 = .ok (.ifCond .ne 12, 3) := by decide +kernel
theorem dX6_sameAs_79 : decode cX6_sameAs 79 = .ok (.iload 4, 2) := by decide +kernel
theorem dX6_sameAs_81 : decode cX6_sameAs 81 = .ok (.iconst 1, 1) := by decide +kernel
theorem dX6_sameAs_82 : decode cX6_sameAs 82 = .ok (.iload 5, 2) := by decide +kernel
theorem dX6_sameAs_84 : decode cX6_sameAs 84 = .ok (.ishl, 1) := by decide +kernel
theorem dX6_sameAs_85 : decode cX6_sameAs 85 = .ok (.ior, 1) := by decide +kernel
theorem dX6_sameAs_86 : decode cX6_sameAs 86 = .ok (.istore 4, 2) := by decide +kernel
theorem dX6_sameAs_88 : decode cX6_sameAs 88 = .ok (.iinc 5 1, 3) := by decide +kernel
theorem dX6_sameAs_91 : decode cX6_sameAs 91 = .ok (.goto (-48), 3) := by decide +kernel
theorem dX6_sameAs_94 : decode cX6_sameAs 94 = .ok (.iload 4, 2) := by decide +kernel
theorem dX6_sameAs_96 : decode cX6_sameAs 96 = .ok (.ireturn, 1) := by decide +kernel
theorem dX6_apart_0 : decode cX6_apart 0 = .ok (.aload_n 0, 1) := by decide +kernel
theorem dX6_apart_1 : decode cX6_apart 1 = .ok (.iload_n 1, 1) := by decide +kernel
theorem dX6_apart_2 : decode cX6_apart 2 = .ok (.iload_n 2, 1) := by decide +kernel
theorem dX6_apart_3 : decode cX6_apart 3 = .ok (.invokevirtual 242, 3) := by decide +kernel
theorem dX6_apart_6 : decode cX6_apart 6 = .ok (.ifCond .ne 10, 3) := by decide +kernel
theorem dX6_apart_9 : decode cX6_apart 9 = .ok (.aload_n 0, 1) := by decide +kernel
theorem dX6_apart_10 : decode cX6_apart 10 = .ok (.bipush (-2), 2) := by decide +kernel
theorem dX6_apart_12 : decode cX6_apart 12 = .ok (.invokevirtual 45, 3) := by decide +kernel
theorem dX6_apart_15 : decode cX6_apart 15 = .ok (.ireturn, 1) := by decide +kernel
theorem dX6_apart_16 : decode cX6_apart 16 = .ok (.aload_n 0, 1) := by decide +kernel
theorem dX6_apart_17 : decode cX6_apart 17 = .ok (.getfield 10, 3) := by decide +kernel
theorem dX6_apart_20 : decode cX6_apart 20 = .ok (.iload_n 1, 1) := by decide +kernel
theorem dX6_apart_21 : decode cX6_apart 21 = .ok (.aload_n 0, 1) := by decide +kernel
theorem dX6_apart_22 : decode cX6_apart 22 = .ok (.getfield 10, 3) := by decide +kernel
theorem dX6_apart_25 : decode cX6_apart 25 = .ok (.getfield 120, 3) := by decide +kernel
theorem dX6_apart_28 : decode cX6_apart 28 = .ok (.invokevirtual 238, 3) := by decide +kernel
theorem dX6_apart_31 : decode cX6_apart 31 = .ok (.aload_n 0, 1) := by decide +kernel
theorem dX6_apart_32 : decode cX6_apart 32 = .ok (.getfield 10, 3) := by decide +kernel
theorem dX6_apart_35 : decode cX6_apart 35 = .ok (.iload_n 2, 1) := by decide +kernel
theorem dX6_apart_36 : decode cX6_apart 36 = .ok (.aload_n 0, 1) := by decide +kernel
theorem dX6_apart_37 : decode cX6_apart 37 = .ok (.getfield 10, 3) := by decide +kernel
theorem dX6_apart_40 : decode cX6_apart 40 = .ok (.getfield 120, 3) := by decide +kernel
theorem dX6_apart_43 : decode cX6_apart 43 = .ok (.invokevirtual 238, 3) := by decide +kernel
theorem dX6_apart_46 : decode cX6_apart 46 = .ok (.lxor, 1) := by decide +kernel
theorem dX6_apart_47 : decode cX6_apart 47 = .ok (.iconst 0, 1) := by decide +kernel
theorem dX6_apart_48 : decode cX6_apart 48 = .ok (.aload_n 0, 1) := by decide +kernel
theorem dX6_apart_49 : decode cX6_apart 49 = .ok (.getfield 10, 3) := by decide +kernel
theorem dX6_apart_52 : decode cX6_apart 52 = .ok (.getfield 200, 3) := by decide +kernel
theorem dX6_apart_55 : decode cX6_apart 55 = .ok (.invokestatic 217, 3) := by decide +kernel
theorem dX6_apart_58 : decode cX6_apart 58 = .ok (.ireturn, 1) := by decide +kernel
theorem dX6_parts_0 : decode cX6_parts 0 = .ok (.aload_n 0, 1) := by decide +kernel
theorem dX6_parts_1 : decode cX6_parts 1 = .ok (.iload_n 1, 1) := by decide +kernel
theorem dX6_parts_2 : decode cX6_parts 2 = .ok (.iload_n 2, 1) := by decide +kernel
theorem dX6_parts_3 : decode cX6_parts 3 = .ok (.invokevirtual 242, 3) := by decide +kernel
theorem dX6_parts_6 : decode cX6_parts 6 = .ok (.ifCond .eq 12, 3) := by decide +kernel
theorem dX6_parts_9 : decode cX6_parts 9 = .ok (.iload_n 3, 1) := by decide +kernel
theorem dX6_parts_10 : decode cX6_parts 10 = .ok (.iconst 0, 1) := by decide +kernel
theorem dX6_parts_11 : decode cX6_parts 11 = .ok (.iconst 1, 1) := by decide +kernel
theorem dX6_parts_12 : decode cX6_parts 12 = .ok (.invokestatic 41, 3) := by decide +kernel
theorem dX6_parts_15 : decode cX6_parts 15 = .ok (.ifCond .ne 10, 3) := by decide +kernel
theorem dX6_parts_18 : decode cX6_parts 18 = .ok (.aload_n 0, 1) := by decide +kernel
theorem dX6_parts_19 : decode cX6_parts 19 = .ok (.bipush (-2), 2) := by decide +kernel
theorem dX6_parts_21 : decode cX6_parts 21 = .ok (.invokevirtual 45, 3) := by decide +kernel
theorem dX6_parts_24 : decode cX6_parts 24 = .ok (.ireturn, 1) := by decide +kernel
theorem dX6_parts_25 : decode cX6_parts 25 = .ok (.iconst 1, 1) := by decide +kernel
theorem dX6_parts_26 : decode cX6_parts 26 = .ok (.istore 4, 2) := by decide +kernel
theorem dX6_parts_28 : decode cX6_parts 28 = .ok (.iload 4, 2) := by decide +kernel
theorem dX6_parts_30 : decode cX6_parts 30 = .ok (.bipush 12, 2) := by decide +kernel
theorem dX6_parts_32 : decode cX6_parts 32 = .ok (.if_icmp .gt 43, 3) := by decide +kernel
theorem dX6_parts_35 : decode cX6_parts 35 = .ok (.aload_n 0, 1) := by decide +kernel
theorem dX6_parts_36 : decode cX6_parts 36 = .ok (.getfield 10, 3) := by decide +kernel
theorem dX6_parts_39 : decode cX6_parts 39 = .ok (.getfield 81, 3) := by decide +kernel
theorem dX6_parts_42 : decode cX6_parts 42 = .ok (.iload_n 1, 1) := by decide +kernel
theorem dX6_parts_43 : decode cX6_parts 43 = .ok (.iload_n 2, 1) := by decide +kernel
theorem dX6_parts_44 : decode cX6_parts 44 = .ok (.iload 4, 2) := by decide +kernel
theorem dX6_parts_46 : decode cX6_parts 46 = .ok (.invokevirtual 245, 3) := by decide +kernel
theorem dX6_parts_49 : decode cX6_parts 49 = .ok (.istore 5, 2) := by decide +kernel
theorem dX6_parts_51 : decode cX6_parts 51 = .ok (.iload 5, 2) := by decide +kernel
theorem dX6_parts_53 : decode cX6_parts 53 = .ok (.iconst (-1), 1) := by decide +kernel
theorem dX6_parts_54 : decode cX6_parts 54 = .ok (.if_icmp .eq 15, 3) := by decide +kernel
theorem dX6_parts_57 : decode cX6_parts 57 = .ok (.iload_n 3, 1) := by decide +kernel
theorem dX6_parts_58 : decode cX6_parts 58 = .ok (.ifCond .ne 8, 3) := by decide +kernel
theorem dX6_parts_61 : decode cX6_parts 61 = .ok (.iload 4, 2) := by decide +kernel
theorem dX6_parts_63 : decode cX6_parts 63 = .ok (.goto 5, 3) := by decide +kernel
theorem dX6_parts_66 : decode cX6_parts 66 = .ok (.iload 5, 2) := by decide +kernel
theorem dX6_parts_68 : decode cX6_parts 68 = .ok (.ireturn, 1) := by decide +kernel
theorem dX6_parts_69 : decode cX6_parts 69 = .ok (.iinc 4 1, 3) := by decide +kernel
theorem dX6_parts_72 : decode cX6_parts 72 = .ok (.goto (-44), 3) := by decide +kernel
theorem dX6_parts_75 : decode cX6_parts 75 = .ok (.iconst (-1), 1) := by decide +kernel
theorem dX6_parts_76 : decode cX6_parts 76 = .ok (.ireturn, 1) := by decide +kernel
theorem dX6_common_0 : decode cX6_common 0 = .ok (.iload_n 1, 1) := by decide +kernel
theorem dX6_common_1 : decode cX6_common 1 = .ok (.aload_n 0, 1) := by decide +kernel
theorem dX6_common_2 : decode cX6_common 2 = .ok (.getfield 10, 3) := by decide +kernel
theorem dX6_common_5 : decode cX6_common 5 = .ok (.getfield 81, 3) := by decide +kernel
theorem dX6_common_8 : decode cX6_common 8 = .ok (.getfield 194, 3) := by decide +kernel
theorem dX6_common_11 : decode cX6_common 11 = .ok (.invokestatic 249, 3) := by decide +kernel
theorem dX6_common_14 : decode cX6_common 14 = .ok (.ifCond .ne 10, 3) := by decide +kernel
theorem dX6_common_17 : decode cX6_common 17 = .ok (.aload_n 0, 1) := by decide +kernel
theorem dX6_common_18 : decode cX6_common 18 = .ok (.bipush (-2), 2) := by decide +kernel
theorem dX6_common_20 : decode cX6_common 20 = .ok (.invokevirtual 45, 3) := by decide +kernel
theorem dX6_common_23 : decode cX6_common 23 = .ok (.ireturn, 1) := by decide +kernel
theorem dX6_common_24 : decode cX6_common 24 = .ok (.aload_n 0, 1) := by decide +kernel
theorem dX6_common_25 : decode cX6_common 25 = .ok (.getfield 10, 3) := by decide +kernel
theorem dX6_common_28 : decode cX6_common 28 = .ok (.getfield 200, 3) := by decide +kernel
theorem dX6_common_31 : decode cX6_common 31 = .ok (.invokestatic 231, 3) := by decide +kernel
theorem dX6_common_34 : decode cX6_common 34 = .ok (.lstore_n 2, 1) := by decide +kernel
theorem dX6_common_35 : decode cX6_common 35 = .ok (.iconst 0, 1) := by decide +kernel
theorem dX6_common_36 : decode cX6_common 36 = .ok (.istore 4, 2) := by decide +kernel
theorem dX6_common_38 : decode cX6_common 38 = .ok (.iload 4, 2) := by decide +kernel
theorem dX6_common_40 : decode cX6_common 40 = .ok (.aload_n 0, 1) := by decide +kernel
theorem dX6_common_41 : decode cX6_common 41 = .ok (.getfield 10, 3) := by decide +kernel
theorem dX6_common_44 : decode cX6_common 44 = .ok (.getfield 81, 3) := by decide +kernel
theorem dX6_common_47 : decode cX6_common 47 = .ok (.getfield 194, 3) := by decide +kernel
theorem dX6_common_50 : decode cX6_common 50 = .ok (.if_icmp .ge 38, 3) := by decide +kernel
theorem dX6_common_53 : decode cX6_common 53 = .ok (.iload_n 1, 1) := by decide +kernel
theorem dX6_common_54 : decode cX6_common 54 = .ok (.i2l, 1) := by decide +kernel
theorem dX6_common_55 : decode cX6_common 55 = .ok (.iload 4, 2) := by decide +kernel
theorem dX6_common_57 : decode cX6_common 57 = .ok (.invokestatic 186, 3) := by decide +kernel
theorem dX6_common_60 : decode cX6_common 60 = .ok (.ifCond .eq 22, 3) := by decide +kernel
theorem dX6_common_63 : decode cX6_common 63 = .ok (.lload_n 2, 1) := by decide +kernel
theorem dX6_common_64 : decode cX6_common 64 = .ok (.aload_n 0, 1) := by decide +kernel
theorem dX6_common_65 : decode cX6_common 65 = .ok (.getfield 10, 3) := by decide +kernel
theorem dX6_common_68 : decode cX6_common 68 = .ok (.iload 4, 2) := by decide +kernel
theorem dX6_common_70 : decode cX6_common 70 = .ok (.aload_n 0, 1) := by decide +kernel
theorem dX6_common_71 : decode cX6_common 71 = .ok (.getfield 10, 3) := by decide +kernel
theorem dX6_common_74 : decode cX6_common 74 = .ok (.getfield 120, 3) := by decide +kernel
theorem dX6_common_77 : decode cX6_common 77 = .ok (.invokevirtual 238, 3) := by decide +kernel
theorem dX6_common_80 : decode cX6_common 80 = .ok (.land, 1) := by decide +kernel
theorem dX6_common_81 : decode cX6_common 81 = .ok (.lstore_n 2, 1) := by decide +kernel
theorem dX6_common_82 : decode cX6_common 82 = .ok (.iinc 4 1, 3) := by decide +kernel
theorem dX6_common_85 : decode cX6_common 85 = .ok (.goto (-47), 3) := by decide +kernel
theorem dX6_common_88 : decode cX6_common 88 = .ok (.lload_n 2, 1) := by decide +kernel
theorem dX6_common_89 : decode cX6_common 89 = .ok (.invokestatic 211, 3) := by decide +kernel
theorem dX6_common_92 : decode cX6_common 92 = .ok (.ireturn, 1) := by decide +kernel
theorem dX6_alone_0 : decode cX6_alone 0 = .ok (.aload_n 0, 1) := by decide +kernel
theorem dX6_alone_1 : decode cX6_alone 1 = .ok (.getfield 10, 3) := by decide +kernel
theorem dX6_alone_4 : decode cX6_alone 4 = .ok (.getfield 81, 3) := by decide +kernel
theorem dX6_alone_7 : decode cX6_alone 7 = .ok (.iload_n 1, 1) := by decide +kernel
theorem dX6_alone_8 : decode cX6_alone 8 = .ok (.invokevirtual 85, 3) := by decide +kernel
theorem dX6_alone_11 : decode cX6_alone 11 = .ok (.ifCond .ne 10, 3) := by decide +kernel
theorem dX6_alone_14 : decode cX6_alone 14 = .ok (.aload_n 0, 1) := by decide +kernel
theorem dX6_alone_15 : decode cX6_alone 15 = .ok (.bipush (-2), 2) := by decide +kernel
theorem dX6_alone_17 : decode cX6_alone 17 = .ok (.invokevirtual 45, 3) := by decide +kernel
theorem dX6_alone_20 : decode cX6_alone 20 = .ok (.ireturn, 1) := by decide +kernel
theorem dX6_alone_21 : decode cX6_alone 21 = .ok (.aload_n 0, 1) := by decide +kernel
theorem dX6_alone_22 : decode cX6_alone 22 = .ok (.getfield 10, 3) := by decide +kernel
theorem dX6_alone_25 : decode cX6_alone 25 = .ok (.iload_n 1, 1) := by decide +kernel
theorem dX6_alone_26 : decode cX6_alone 26 = .ok (.aload_n 0, 1) := by decide +kernel
theorem dX6_alone_27 : decode cX6_alone 27 = .ok (.getfield 10, 3) := by decide +kernel
theorem dX6_alone_30 : decode cX6_alone 30 = .ok (.getfield 120, 3) := by decide +kernel
theorem dX6_alone_33 : decode cX6_alone 33 = .ok (.invokevirtual 238, 3) := by decide +kernel
theorem dX6_alone_36 : decode cX6_alone 36 = .ok (.lstore_n 2, 1) := by decide +kernel
theorem dX6_alone_37 : decode cX6_alone 37 = .ok (.iconst 0, 1) := by decide +kernel
theorem dX6_alone_38 : decode cX6_alone 38 = .ok (.istore 4, 2) := by decide +kernel
theorem dX6_alone_40 : decode cX6_alone 40 = .ok (.iload 4, 2) := by decide +kernel
theorem dX6_alone_42 : decode cX6_alone 42 = .ok (.aload_n 0, 1) := by decide +kernel
theorem dX6_alone_43 : decode cX6_alone 43 = .ok (.getfield 10, 3) := by decide +kernel
theorem dX6_alone_46 : decode cX6_alone 46 = .ok (.getfield 81, 3) := by decide +kernel
theorem dX6_alone_49 : decode cX6_alone 49 = .ok (.getfield 194, 3) := by decide +kernel
theorem dX6_alone_52 : decode cX6_alone 52 = .ok (.if_icmp .ge 38, 3) := by decide +kernel
theorem dX6_alone_55 : decode cX6_alone 55 = .ok (.iload 4, 2) := by decide +kernel
theorem dX6_alone_57 : decode cX6_alone 57 = .ok (.iload_n 1, 1) := by decide +kernel
theorem dX6_alone_58 : decode cX6_alone 58 = .ok (.if_icmp .eq 26, 3) := by decide +kernel
theorem dX6_alone_61 : decode cX6_alone 61 = .ok (.lload_n 2, 1) := by decide +kernel
theorem dX6_alone_62 : decode cX6_alone 62 = .ok (.aload_n 0, 1) := by decide +kernel
theorem dX6_alone_63 : decode cX6_alone 63 = .ok (.getfield 10, 3) := by decide +kernel
theorem dX6_alone_66 : decode cX6_alone 66 = .ok (.iload 4, 2) := by decide +kernel
theorem dX6_alone_68 : decode cX6_alone 68 = .ok (.aload_n 0, 1) := by decide +kernel
theorem dX6_alone_69 : decode cX6_alone 69 = .ok (.getfield 10, 3) := by decide +kernel
theorem dX6_alone_72 : decode cX6_alone 72 = .ok (.getfield 120, 3) := by decide +kernel
theorem dX6_alone_75 : decode cX6_alone 75 = .ok (.invokevirtual 238, 3) := by decide +kernel
theorem dX6_alone_78 : decode cX6_alone 78 = .ok (.ldc2_w 225, 3) := by decide +kernel
theorem dX6_alone_81 : decode cX6_alone 81 = .ok (.lxor, 1) := by decide +kernel
theorem dX6_alone_82 : decode cX6_alone 82 = .ok (.land, 1) := by decide +kernel
theorem dX6_alone_83 : decode cX6_alone 83 = .ok (.lstore_n 2, 1) := by decide +kernel
theorem dX6_alone_84 : decode cX6_alone 84 = .ok (.iinc 4 1, 3) := by decide +kernel
theorem dX6_alone_87 : decode cX6_alone 87 = .ok (.goto (-47), 3) := by decide +kernel
theorem dX6_alone_90 : decode cX6_alone 90 = .ok (.lload_n 2, 1) := by decide +kernel
theorem dX6_alone_91 : decode cX6_alone 91 = .ok (.invokestatic 211, 3) := by decide +kernel
theorem dX6_alone_94 : decode cX6_alone 94 = .ok (.ireturn, 1) := by decide +kernel
theorem dX6_busiest_0 : decode cX6_busiest 0 = .ok (.aload_n 0, 1) := by decide +kernel
theorem dX6_busiest_1 : decode cX6_busiest 1 = .ok (.getfield 10, 3) := by decide +kernel
theorem dX6_busiest_4 : decode cX6_busiest 4 = .ok (.getfield 81, 3) := by decide +kernel
theorem dX6_busiest_7 : decode cX6_busiest 7 = .ok (.getfield 194, 3) := by decide +kernel
theorem dX6_busiest_10 : decode cX6_busiest 10 = .ok (.ifCond .ne 10, 3) := by decide +kernel
theorem dX6_busiest_13 : decode cX6_busiest 13 = .ok (.aload_n 0, 1) := by decide +kernel
theorem dX6_busiest_14 : decode cX6_busiest 14 = .ok (.bipush (-5), 2) := by decide +kernel
theorem dX6_busiest_16 : decode cX6_busiest 16 = .ok (.invokevirtual 45, 3) := by decide +kernel
theorem dX6_busiest_19 : decode cX6_busiest 19 = .ok (.ireturn, 1) := by decide +kernel
theorem dX6_busiest_20 : decode cX6_busiest 20 = .ok (.iconst 0, 1) := by decide +kernel
theorem dX6_busiest_21 : decode cX6_busiest 21 = .ok (.istore_n 1, 1) := by decide +kernel
theorem dX6_busiest_22 : decode cX6_busiest 22 = .ok (.iconst 1, 1) := by decide +kernel
theorem dX6_busiest_23 : decode cX6_busiest 23 = .ok (.istore_n 2, 1) := by decide +kernel
theorem dX6_busiest_24 : decode cX6_busiest 24 = .ok (.iload_n 2, 1) := by decide +kernel
theorem dX6_busiest_25 : decode cX6_busiest 25 = .ok (.aload_n 0, 1) := by decide +kernel
theorem dX6_busiest_26 : decode cX6_busiest 26 = .ok (.getfield 10, 3) := by decide +kernel
theorem dX6_busiest_29 : decode cX6_busiest 29 = .ok (.getfield 81, 3) := by decide +kernel
theorem dX6_busiest_32 : decode cX6_busiest 32 = .ok (.getfield 194, 3) := by decide +kernel
theorem dX6_busiest_35 : decode cX6_busiest 35 = .ok (.if_icmp .ge 44, 3) := by decide +kernel
theorem dX6_busiest_38 : decode cX6_busiest 38 = .ok (.aload_n 0, 1) := by decide +kernel
theorem dX6_busiest_39 : decode cX6_busiest 39 = .ok (.getfield 10, 3) := by decide +kernel
theorem dX6_busiest_42 : decode cX6_busiest 42 = .ok (.iload_n 2, 1) := by decide +kernel
theorem dX6_busiest_43 : decode cX6_busiest 43 = .ok (.aload_n 0, 1) := by decide +kernel
theorem dX6_busiest_44 : decode cX6_busiest 44 = .ok (.getfield 10, 3) := by decide +kernel
theorem dX6_busiest_47 : decode cX6_busiest 47 = .ok (.getfield 120, 3) := by decide +kernel
theorem dX6_busiest_50 : decode cX6_busiest 50 = .ok (.invokevirtual 124, 3) := by decide +kernel
theorem dX6_busiest_53 : decode cX6_busiest 53 = .ok (.aload_n 0, 1) := by decide +kernel
theorem dX6_busiest_54 : decode cX6_busiest 54 = .ok (.getfield 10, 3) := by decide +kernel
theorem dX6_busiest_57 : decode cX6_busiest 57 = .ok (.iload_n 1, 1) := by decide +kernel
theorem dX6_busiest_58 : decode cX6_busiest 58 = .ok (.aload_n 0, 1) := by decide +kernel
theorem dX6_busiest_59 : decode cX6_busiest 59 = .ok (.getfield 10, 3) := by decide +kernel
theorem dX6_busiest_62 : decode cX6_busiest 62 = .ok (.getfield 120, 3) := by decide +kernel
theorem dX6_busiest_65 : decode cX6_busiest 65 = .ok (.invokevirtual 124, 3) := by decide +kernel
theorem dX6_busiest_68 : decode cX6_busiest 68 = .ok (.if_icmp .le 5, 3) := by decide +kernel
theorem dX6_busiest_71 : decode cX6_busiest 71 = .ok (.iload_n 2, 1) := by decide +kernel
theorem dX6_busiest_72 : decode cX6_busiest 72 = .ok (.istore_n 1, 1) := by decide +kernel
theorem dX6_busiest_73 : decode cX6_busiest 73 = .ok (.iinc 2 1, 3) := by decide +kernel
theorem dX6_busiest_76 : decode cX6_busiest 76 = .ok (.goto (-52), 3) := by decide +kernel
theorem dX6_busiest_79 : decode cX6_busiest 79 = .ok (.iload_n 1, 1) := by decide +kernel
theorem dX6_busiest_80 : decode cX6_busiest 80 = .ok (.ireturn, 1) := by decide +kernel
theorem dX6_lawFor_0 : decode cX6_lawFor 0 = .ok (.iload_n 1, 1) := by decide +kernel
theorem dX6_lawFor_1 : decode cX6_lawFor 1 = .ok (.iload_n 2, 1) := by decide +kernel
theorem dX6_lawFor_2 : decode cX6_lawFor 2 = .ok (.invokestatic 252, 3) := by decide +kernel
theorem dX6_lawFor_5 : decode cX6_lawFor 5 = .ok (.ifCond .ne 10, 3) := by decide +kernel
theorem dX6_lawFor_8 : decode cX6_lawFor 8 = .ok (.aload_n 0, 1) := by decide +kernel
theorem dX6_lawFor_9 : decode cX6_lawFor 9 = .ok (.bipush (-2), 2) := by decide +kernel
theorem dX6_lawFor_11 : decode cX6_lawFor 11 = .ok (.invokevirtual 45, 3) := by decide +kernel
theorem dX6_lawFor_14 : decode cX6_lawFor 14 = .ok (.ireturn, 1) := by decide +kernel
theorem dX6_lawFor_15 : decode cX6_lawFor 15 = .ok (.iconst (-1), 1) := by decide +kernel
theorem dX6_lawFor_16 : decode cX6_lawFor 16 = .ok (.istore_n 3, 1) := by decide +kernel
theorem dX6_lawFor_17 : decode cX6_lawFor 17 = .ok (.iload_n 1, 1) := by decide +kernel
theorem dX6_lawFor_18 : decode cX6_lawFor 18 = .ok (.iconst 1, 1) := by decide +kernel
theorem dX6_lawFor_19 : decode cX6_lawFor 19 = .ok (.iadd, 1) := by decide +kernel
theorem dX6_lawFor_20 : decode cX6_lawFor 20 = .ok (.istore 4, 2) := by decide +kernel
theorem dX6_lawFor_22 : decode cX6_lawFor 22 = .ok (.iconst 0, 1) := by decide +kernel
theorem dX6_lawFor_23 : decode cX6_lawFor 23 = .ok (.istore 5, 2) := by decide +kernel
theorem dX6_lawFor_25 : decode cX6_lawFor 25 = .ok (.iload 5, 2) := by decide +kernel
theorem dX6_lawFor_27 : decode cX6_lawFor 27 = .ok (.aload_n 0, 1) := by decide +kernel
theorem dX6_lawFor_28 : decode cX6_lawFor 28 = .ok (.getfield 10, 3) := by decide +kernel
theorem dX6_lawFor_31 : decode cX6_lawFor 31 = .ok (.getfield 81, 3) := by decide +kernel
theorem dX6_lawFor_34 : decode cX6_lawFor 34 = .ok (.getfield 194, 3) := by decide +kernel
theorem dX6_lawFor_37 : decode cX6_lawFor 37 = .ok (.if_icmp .ge 51, 3) := by decide +kernel
theorem dX6_lawFor_40 : decode cX6_lawFor 40 = .ok (.aload_n 0, 1) := by decide +kernel
theorem dX6_lawFor_41 : decode cX6_lawFor 41 = .ok (.getfield 10, 3) := by decide +kernel
theorem dX6_lawFor_44 : decode cX6_lawFor 44 = .ok (.getfield 81, 3) := by decide +kernel
theorem dX6_lawFor_47 : decode cX6_lawFor 47 = .ok (.iload 5, 2) := by decide +kernel
theorem dX6_lawFor_49 : decode cX6_lawFor 49 = .ok (.iload_n 1, 1) := by decide +kernel
theorem dX6_lawFor_50 : decode cX6_lawFor 50 = .ok (.iload_n 2, 1) := by decide +kernel
theorem dX6_lawFor_51 : decode cX6_lawFor 51 = .ok (.invokevirtual 255, 3) := by decide +kernel
theorem dX6_lawFor_54 : decode cX6_lawFor 54 = .ok (.istore 6, 2) := by decide +kernel
theorem dX6_lawFor_56 : decode cX6_lawFor 56 = .ok (.iload 6, 2) := by decide +kernel
theorem dX6_lawFor_58 : decode cX6_lawFor 58 = .ok (.iconst (-1), 1) := by decide +kernel
theorem dX6_lawFor_59 : decode cX6_lawFor 59 = .ok (.if_icmp .eq 23, 3) := by decide +kernel
theorem dX6_lawFor_62 : decode cX6_lawFor 62 = .ok (.iload 6, 2) := by decide +kernel
theorem dX6_lawFor_64 : decode cX6_lawFor 64 = .ok (.invokestatic 258, 3) := by decide +kernel
theorem dX6_lawFor_67 : decode cX6_lawFor 67 = .ok (.iload 4, 2) := by decide +kernel
theorem dX6_lawFor_69 : decode cX6_lawFor 69 = .ok (.if_icmp .ge 13, 3) := by decide +kernel
theorem dX6_lawFor_72 : decode cX6_lawFor 72 = .ok (.iload 5, 2) := by decide +kernel
theorem dX6_lawFor_74 : decode cX6_lawFor 74 = .ok (.istore_n 3, 1) := by decide +kernel
theorem dX6_lawFor_75 : decode cX6_lawFor 75 = .ok (.iload 6, 2) := by decide +kernel
theorem dX6_lawFor_77 : decode cX6_lawFor 77 = .ok (.invokestatic 258, 3) := by decide +kernel
theorem dX6_lawFor_80 : decode cX6_lawFor 80 = .ok (.istore 4, 2) := by decide +kernel
theorem dX6_lawFor_82 : decode cX6_lawFor 82 = .ok (.iinc 5 1, 3) := by decide +kernel
theorem dX6_lawFor_85 : decode cX6_lawFor 85 = .ok (.goto (-60), 3) := by decide +kernel
theorem dX6_lawFor_88 : decode cX6_lawFor 88 = .ok (.iload_n 3, 1) := by decide +kernel
theorem dX6_lawFor_89 : decode cX6_lawFor 89 = .ok (.ireturn, 1) := by decide +kernel
theorem dX6_depths_0 : decode cX6_depths 0 = .ok (.aload_n 0, 1) := by decide +kernel
theorem dX6_depths_1 : decode cX6_depths 1 = .ok (.iload_n 1, 1) := by decide +kernel
theorem dX6_depths_2 : decode cX6_depths 2 = .ok (.invokevirtual 262, 3) := by decide +kernel
theorem dX6_depths_5 : decode cX6_depths 5 = .ok (.istore_n 2, 1) := by decide +kernel
theorem dX6_depths_6 : decode cX6_depths 6 = .ok (.iload_n 2, 1) := by decide +kernel
theorem dX6_depths_7 : decode cX6_depths 7 = .ok (.ifCond .eq 9, 3) := by decide +kernel
theorem dX6_depths_10 : decode cX6_depths 10 = .ok (.aload_n 0, 1) := by decide +kernel
theorem dX6_depths_11 : decode cX6_depths 11 = .ok (.iload_n 2, 1) := by decide +kernel
theorem dX6_depths_12 : decode cX6_depths 12 = .ok (.invokevirtual 45, 3) := by decide +kernel
theorem dX6_depths_15 : decode cX6_depths 15 = .ok (.ireturn, 1) := by decide +kernel
theorem dX6_depths_16 : decode cX6_depths 16 = .ok (.aload_n 0, 1) := by decide +kernel
theorem dX6_depths_17 : decode cX6_depths 17 = .ok (.getfield 29, 3) := by decide +kernel
theorem dX6_depths_20 : decode cX6_depths 20 = .ok (.iload_n 1, 1) := by decide +kernel
theorem dX6_depths_21 : decode cX6_depths 21 = .ok (.aload_n 0, 1) := by decide +kernel
theorem dX6_depths_22 : decode cX6_depths 22 = .ok (.getfield 10, 3) := by decide +kernel
theorem dX6_depths_25 : decode cX6_depths 25 = .ok (.getfield 200, 3) := by decide +kernel
theorem dX6_depths_28 : decode cX6_depths 28 = .ok (.invokevirtual 265, 3) := by decide +kernel
theorem dX6_depths_31 : decode cX6_depths 31 = .ok (.lstore_n 3, 1) := by decide +kernel
theorem dX6_depths_32 : decode cX6_depths 32 = .ok (.iconst 0, 1) := by decide +kernel
theorem dX6_depths_33 : decode cX6_depths 33 = .ok (.istore 5, 2) := by decide +kernel
theorem dX6_depths_35 : decode cX6_depths 35 = .ok (.iconst 0, 1) := by decide +kernel
theorem dX6_depths_36 : decode cX6_depths 36 = .ok (.istore 6, 2) := by decide +kernel
theorem dX6_depths_38 : decode cX6_depths 38 = .ok (.iload 6, 2) := by decide +kernel
theorem dX6_depths_40 : decode cX6_depths 40 = .ok (.bipush 9, 2) := by decide +kernel
theorem dX6_depths_42 : decode cX6_depths 42 = .ok (.if_icmp .gt 47, 3) := by decide +kernel
theorem dX6_depths_45 : decode cX6_depths 45 = .ok (.aload_n 0, 1) := by decide +kernel
theorem dX6_depths_46 : decode cX6_depths 46 = .ok (.getfield 10, 3) := by decide +kernel
theorem dX6_depths_49 : decode cX6_depths 49 = .ok (.getfield 120, 3) := by decide +kernel
theorem dX6_depths_52 : decode cX6_depths 52 = .ok (.aload_n 0, 1) := by decide +kernel
theorem dX6_depths_53 : decode cX6_depths 53 = .ok (.getfield 10, 3) := by decide +kernel
theorem dX6_depths_56 : decode cX6_depths 56 = .ok (.aload_n 0, 1) := by decide +kernel
theorem dX6_depths_57 : decode cX6_depths 57 = .ok (.getfield 10, 3) := by decide +kernel
theorem dX6_depths_60 : decode cX6_depths 60 = .ok (.getfield 135, 3) := by decide +kernel
theorem dX6_depths_63 : decode cX6_depths 63 = .ok (.iload 6, 2) := by decide +kernel
theorem dX6_depths_65 : decode cX6_depths 65 = .ok (.invokevirtual 268, 3) := by decide +kernel
theorem dX6_depths_68 : decode cX6_depths 68 = .ok (.lor, 1) := by decide +kernel
theorem dX6_depths_69 : decode cX6_depths 69 = .ok (.lload_n 3, 1) := by decide +kernel
theorem dX6_depths_70 : decode cX6_depths 70 = .ok (.lcmp, 1) := by decide +kernel
theorem dX6_depths_71 : decode cX6_depths 71 = .ok (.ifCond .ne 12, 3) := by decide +kernel
theorem dX6_depths_74 : decode cX6_depths 74 = .ok (.iload 5, 2) := by decide +kernel
theorem dX6_depths_76 : decode cX6_depths 76 = .ok (.iconst 1, 1) := by decide +kernel
theorem dX6_depths_77 : decode cX6_depths 77 = .ok (.iload 6, 2) := by decide +kernel
theorem dX6_depths_79 : decode cX6_depths 79 = .ok (.ishl, 1) := by decide +kernel
theorem dX6_depths_80 : decode cX6_depths 80 = .ok (.ior, 1) := by decide +kernel
theorem dX6_depths_81 : decode cX6_depths 81 = .ok (.istore 5, 2) := by decide +kernel
theorem dX6_depths_83 : decode cX6_depths 83 = .ok (.iinc 6 1, 3) := by decide +kernel
theorem dX6_depths_86 : decode cX6_depths 86 = .ok (.goto (-48), 3) := by decide +kernel
theorem dX6_depths_89 : decode cX6_depths 89 = .ok (.iload 5, 2) := by decide +kernel
theorem dX6_depths_91 : decode cX6_depths 91 = .ok (.ireturn, 1) := by decide +kernel
theorem dX6_differs_0 : decode cX6_differs 0 = .ok (.aload_n 0, 1) := by decide +kernel
theorem dX6_differs_1 : decode cX6_differs 1 = .ok (.iload_n 1, 1) := by decide +kernel
theorem dX6_differs_2 : decode cX6_differs 2 = .ok (.invokevirtual 262, 3) := by decide +kernel
theorem dX6_differs_5 : decode cX6_differs 5 = .ok (.istore_n 2, 1) := by decide +kernel
theorem dX6_differs_6 : decode cX6_differs 6 = .ok (.iload_n 2, 1) := by decide +kernel
theorem dX6_differs_7 : decode cX6_differs 7 = .ok (.ifCond .eq 9, 3) := by decide +kernel
theorem dX6_differs_10 : decode cX6_differs 10 = .ok (.aload_n 0, 1) := by decide +kernel
theorem dX6_differs_11 : decode cX6_differs 11 = .ok (.iload_n 2, 1) := by decide +kernel
theorem dX6_differs_12 : decode cX6_differs 12 = .ok (.invokevirtual 45, 3) := by decide +kernel
theorem dX6_differs_15 : decode cX6_differs 15 = .ok (.ireturn, 1) := by decide +kernel
theorem dX6_differs_16 : decode cX6_differs 16 = .ok (.aload_n 0, 1) := by decide +kernel
theorem dX6_differs_17 : decode cX6_differs 17 = .ok (.getfield 29, 3) := by decide +kernel
theorem dX6_differs_20 : decode cX6_differs 20 = .ok (.iload_n 1, 1) := by decide +kernel
theorem dX6_differs_21 : decode cX6_differs 21 = .ok (.aload_n 0, 1) := by decide +kernel
theorem dX6_differs_22 : decode cX6_differs 22 = .ok (.getfield 10, 3) := by decide +kernel
theorem dX6_differs_25 : decode cX6_differs 25 = .ok (.getfield 200, 3) := by decide +kernel
theorem dX6_differs_28 : decode cX6_differs 28 = .ok (.invokevirtual 265, 3) := by decide +kernel
theorem dX6_differs_31 : decode cX6_differs 31 = .ok (.lstore_n 3, 1) := by decide +kernel
theorem dX6_differs_32 : decode cX6_differs 32 = .ok (.aload_n 0, 1) := by decide +kernel
theorem dX6_differs_33 : decode cX6_differs 33 = .ok (.getfield 10, 3) := by decide +kernel
theorem dX6_differs_36 : decode cX6_differs 36 = .ok (.aload_n 0, 1) := by decide +kernel
theorem dX6_differs_37 : decode cX6_differs 37 = .ok (.getfield 10, 3) := by decide +kernel
theorem dX6_differs_40 : decode cX6_differs 40 = .ok (.getfield 120, 3) := by decide +kernel
theorem dX6_differs_43 : decode cX6_differs 43 = .ok (.aload_n 0, 1) := by decide +kernel
theorem dX6_differs_44 : decode cX6_differs 44 = .ok (.getfield 10, 3) := by decide +kernel
theorem dX6_differs_47 : decode cX6_differs 47 = .ok (.getfield 200, 3) := by decide +kernel
theorem dX6_differs_50 : decode cX6_differs 50 = .ok (.iconst 0, 1) := by decide +kernel
theorem dX6_differs_51 : decode cX6_differs 51 = .ok (.invokevirtual 207, 3) := by decide +kernel
theorem dX6_differs_54 : decode cX6_differs 54 = .ok (.lload_n 3, 1) := by decide +kernel
theorem dX6_differs_55 : decode cX6_differs 55 = .ok (.lxor, 1) := by decide +kernel
theorem dX6_differs_56 : decode cX6_differs 56 = .ok (.invokestatic 211, 3) := by decide +kernel
theorem dX6_differs_59 : decode cX6_differs 59 = .ok (.ireturn, 1) := by decide +kernel
theorem dX6_together_0 : decode cX6_together 0 = .ok (.iconst 0, 1) := by decide +kernel
theorem dX6_together_1 : decode cX6_together 1 = .ok (.istore_n 1, 1) := by decide +kernel
theorem dX6_together_2 : decode cX6_together 2 = .ok (.iconst (-1), 1) := by decide +kernel
theorem dX6_together_3 : decode cX6_together 3 = .ok (.istore_n 2, 1) := by decide +kernel
theorem dX6_together_4 : decode cX6_together 4 = .ok (.iconst 0, 1) := by decide +kernel
theorem dX6_together_5 : decode cX6_together 5 = .ok (.istore_n 3, 1) := by decide +kernel
theorem dX6_together_6 : decode cX6_together 6 = .ok (.iload_n 3, 1) := by decide +kernel
theorem dX6_together_7 : decode cX6_together 7 = .ok (.bipush 9, 2) := by decide +kernel
theorem dX6_together_9 : decode cX6_together 9 = .ok (.if_icmp .gt 48, 3) := by decide +kernel
theorem dX6_together_12 : decode cX6_together 12 = .ok (.aload_n 0, 1) := by decide +kernel
theorem dX6_together_13 : decode cX6_together 13 = .ok (.getfield 10, 3) := by decide +kernel
theorem dX6_together_16 : decode cX6_together 16 = .ok (.getfield 120, 3) := by decide +kernel
theorem dX6_together_19 : decode cX6_together 19 = .ok (.aload_n 0, 1) := by decide +kernel
theorem dX6_together_20 : decode cX6_together 20 = .ok (.getfield 10, 3) := by decide +kernel
theorem dX6_together_23 : decode cX6_together 23 = .ok (.aload_n 0, 1) := by decide +kernel
theorem dX6_together_24 : decode cX6_together 24 = .ok (.getfield 10, 3) := by decide +kernel
theorem dX6_together_27 : decode cX6_together 27 = .ok (.getfield 135, 3) := by decide +kernel
theorem dX6_together_30 : decode cX6_together 30 = .ok (.iload_n 3, 1) := by decide +kernel
theorem dX6_together_31 : decode cX6_together 31 = .ok (.invokevirtual 268, 3) := by decide +kernel
theorem dX6_together_34 : decode cX6_together 34 = .ok (.land, 1) := by decide +kernel
theorem dX6_together_35 : decode cX6_together 35 = .ok (.invokestatic 211, 3) := by decide +kernel
theorem dX6_together_38 : decode cX6_together 38 = .ok (.istore 4, 2) := by decide +kernel
theorem dX6_together_40 : decode cX6_together 40 = .ok (.iload 4, 2) := by decide +kernel
theorem dX6_together_42 : decode cX6_together 42 = .ok (.iload_n 2, 1) := by decide +kernel
theorem dX6_together_43 : decode cX6_together 43 = .ok (.if_icmp .le 8, 3) := by decide +kernel
theorem dX6_together_46 : decode cX6_together 46 = .ok (.iload_n 3, 1) := by decide +kernel
theorem dX6_together_47 : decode cX6_together 47 = .ok (.istore_n 1, 1) := by decide +kernel
theorem dX6_together_48 : decode cX6_together 48 = .ok (.iload 4, 2) := by decide +kernel
theorem dX6_together_50 : decode cX6_together 50 = .ok (.istore_n 2, 1) := by decide +kernel
theorem dX6_together_51 : decode cX6_together 51 = .ok (.iinc 3 1, 3) := by decide +kernel
theorem dX6_together_54 : decode cX6_together 54 = .ok (.goto (-48), 3) := by decide +kernel
theorem dX6_together_57 : decode cX6_together 57 = .ok (.iload_n 1, 1) := by decide +kernel
theorem dX6_together_58 : decode cX6_together 58 = .ok (.ireturn, 1) := by decide +kernel
theorem dX6_odds_0 : decode cX6_odds 0 = .ok (.aload_n 0, 1) := by decide +kernel
theorem dX6_odds_1 : decode cX6_odds 1 = .ok (.getfield 10, 3) := by decide +kernel
theorem dX6_odds_4 : decode cX6_odds 4 = .ok (.aload_n 0, 1) := by decide +kernel
theorem dX6_odds_5 : decode cX6_odds 5 = .ok (.getfield 10, 3) := by decide +kernel
theorem dX6_odds_8 : decode cX6_odds 8 = .ok (.getfield 135, 3) := by decide +kernel
theorem dX6_odds_11 : decode cX6_odds 11 = .ok (.aload_n 0, 1) := by decide +kernel
theorem dX6_odds_12 : decode cX6_odds 12 = .ok (.getfield 10, 3) := by decide +kernel
theorem dX6_odds_15 : decode cX6_odds 15 = .ok (.getfield 120, 3) := by decide +kernel
theorem dX6_odds_18 : decode cX6_odds 18 = .ok (.invokevirtual 124, 3) := by decide +kernel
theorem dX6_odds_21 : decode cX6_odds 21 = .ok (.istore_n 1, 1) := by decide +kernel
theorem dX6_odds_22 : decode cX6_odds 22 = .ok (.ldc_w 271, 3) := by decide +kernel
theorem dX6_odds_25 : decode cX6_odds 25 = .ok (.istore_n 2, 1) := by decide +kernel
theorem dX6_odds_26 : decode cX6_odds 26 = .ok (.iconst 0, 1) := by decide +kernel
theorem dX6_odds_27 : decode cX6_odds 27 = .ok (.istore_n 3, 1) := by decide +kernel
theorem dX6_odds_28 : decode cX6_odds 28 = .ok (.iload_n 3, 1) := by decide +kernel
theorem dX6_odds_29 : decode cX6_odds 29 = .ok (.iload_n 1, 1) := by decide +kernel
theorem dX6_odds_30 : decode cX6_odds 30 = .ok (.if_icmp .ge 25, 3) := by decide +kernel
theorem dX6_odds_33 : decode cX6_odds 33 = .ok (.iload_n 2, 1) := by decide +kernel
theorem dX6_odds_34 : decode cX6_odds 34 = .ok (.bipush 100, 2) := by decide +kernel
theorem dX6_odds_36 : decode cX6_odds 36 = .ok (.aload_n 0, 1) := by decide +kernel
theorem dX6_odds_37 : decode cX6_odds 37 = .ok (.getfield 10, 3) := by decide +kernel
theorem dX6_odds_40 : decode cX6_odds 40 = .ok (.getfield 142, 3) := by decide +kernel
theorem dX6_odds_43 : decode cX6_odds 43 = .ok (.isub, 1) := by decide +kernel
theorem dX6_odds_44 : decode cX6_odds 44 = .ok (.imul, 1) := by decide +kernel
theorem dX6_odds_45 : decode cX6_odds 45 = .ok (.bipush 100, 2) := by decide +kernel
theorem dX6_odds_47 : decode cX6_odds 47 = .ok (.idiv, 1) := by decide +kernel
theorem dX6_odds_48 : decode cX6_odds 48 = .ok (.istore_n 2, 1) := by decide +kernel
theorem dX6_odds_49 : decode cX6_odds 49 = .ok (.iinc 3 1, 3) := by decide +kernel
theorem dX6_odds_52 : decode cX6_odds 52 = .ok (.goto (-24), 3) := by decide +kernel
theorem dX6_odds_55 : decode cX6_odds 55 = .ok (.iload_n 2, 1) := by decide +kernel
theorem dX6_odds_56 : decode cX6_odds 56 = .ok (.ireturn, 1) := by decide +kernel
theorem dX6_expected_0 : decode cX6_expected 0 = .ok (.sipush 1000, 3) := by decide +kernel
theorem dX6_expected_3 : decode cX6_expected 3 = .ok (.aload_n 0, 1) := by decide +kernel
theorem dX6_expected_4 : decode cX6_expected 4 = .ok (.getfield 10, 3) := by decide +kernel
theorem dX6_expected_7 : decode cX6_expected 7 = .ok (.aload_n 0, 1) := by decide +kernel
theorem dX6_expected_8 : decode cX6_expected 8 = .ok (.getfield 10, 3) := by decide +kernel
theorem dX6_expected_11 : decode cX6_expected 11 = .ok (.getfield 135, 3) := by decide +kernel
theorem dX6_expected_14 : decode cX6_expected 14 = .ok (.aload_n 0, 1) := by decide +kernel
theorem dX6_expected_15 : decode cX6_expected 15 = .ok (.getfield 10, 3) := by decide +kernel
theorem dX6_expected_18 : decode cX6_expected 18 = .ok (.getfield 120, 3) := by decide +kernel
theorem dX6_expected_21 : decode cX6_expected 21 = .ok (.invokevirtual 124, 3) := by decide +kernel
theorem dX6_expected_24 : decode cX6_expected 24 = .ok (.imul, 1) := by decide +kernel
theorem dX6_expected_25 : decode cX6_expected 25 = .ok (.bipush 100, 2) := by decide +kernel
theorem dX6_expected_27 : decode cX6_expected 27 = .ok (.aload_n 0, 1) := by decide +kernel
theorem dX6_expected_28 : decode cX6_expected 28 = .ok (.getfield 10, 3) := by decide +kernel
theorem dX6_expected_31 : decode cX6_expected 31 = .ok (.getfield 142, 3) := by decide +kernel
theorem dX6_expected_34 : decode cX6_expected 34 = .ok (.isub, 1) := by decide +kernel
theorem dX6_expected_35 : decode cX6_expected 35 = .ok (.imul, 1) := by decide +kernel
theorem dX6_expected_36 : decode cX6_expected 36 = .ok (.bipush 100, 2) := by decide +kernel
theorem dX6_expected_38 : decode cX6_expected 38 = .ok (.idiv, 1) := by decide +kernel
theorem dX6_expected_39 : decode cX6_expected 39 = .ok (.ireturn, 1) := by decide +kernel
theorem dX6_fits_0 : decode cX6_fits 0 = .ok (.aload_n 0, 1) := by decide +kernel
theorem dX6_fits_1 : decode cX6_fits 1 = .ok (.iload_n 1, 1) := by decide +kernel
theorem dX6_fits_2 : decode cX6_fits 2 = .ok (.invokevirtual 262, 3) := by decide +kernel
theorem dX6_fits_5 : decode cX6_fits 5 = .ok (.istore_n 2, 1) := by decide +kernel
theorem dX6_fits_6 : decode cX6_fits 6 = .ok (.iload_n 2, 1) := by decide +kernel
theorem dX6_fits_7 : decode cX6_fits 7 = .ok (.ifCond .eq 9, 3) := by decide +kernel
theorem dX6_fits_10 : decode cX6_fits 10 = .ok (.aload_n 0, 1) := by decide +kernel
theorem dX6_fits_11 : decode cX6_fits 11 = .ok (.iload_n 2, 1) := by decide +kernel
theorem dX6_fits_12 : decode cX6_fits 12 = .ok (.invokevirtual 45, 3) := by decide +kernel
theorem dX6_fits_15 : decode cX6_fits 15 = .ok (.ireturn, 1) := by decide +kernel
theorem dX6_fits_16 : decode cX6_fits 16 = .ok (.aload_n 0, 1) := by decide +kernel
theorem dX6_fits_17 : decode cX6_fits 17 = .ok (.getfield 29, 3) := by decide +kernel
theorem dX6_fits_20 : decode cX6_fits 20 = .ok (.iload_n 1, 1) := by decide +kernel
theorem dX6_fits_21 : decode cX6_fits 21 = .ok (.aload_n 0, 1) := by decide +kernel
theorem dX6_fits_22 : decode cX6_fits 22 = .ok (.getfield 10, 3) := by decide +kernel
theorem dX6_fits_25 : decode cX6_fits 25 = .ok (.getfield 200, 3) := by decide +kernel
theorem dX6_fits_28 : decode cX6_fits 28 = .ok (.invokevirtual 265, 3) := by decide +kernel
theorem dX6_fits_31 : decode cX6_fits 31 = .ok (.lstore_n 3, 1) := by decide +kernel
theorem dX6_fits_32 : decode cX6_fits 32 = .ok (.iconst 0, 1) := by decide +kernel
theorem dX6_fits_33 : decode cX6_fits 33 = .ok (.istore 5, 2) := by decide +kernel
theorem dX6_fits_35 : decode cX6_fits 35 = .ok (.iconst 0, 1) := by decide +kernel
theorem dX6_fits_36 : decode cX6_fits 36 = .ok (.istore 6, 2) := by decide +kernel
theorem dX6_fits_38 : decode cX6_fits 38 = .ok (.iload 6, 2) := by decide +kernel
theorem dX6_fits_40 : decode cX6_fits 40 = .ok (.aload_n 0, 1) := by decide +kernel
theorem dX6_fits_41 : decode cX6_fits 41 = .ok (.getfield 10, 3) := by decide +kernel
theorem dX6_fits_44 : decode cX6_fits 44 = .ok (.getfield 81, 3) := by decide +kernel
theorem dX6_fits_47 : decode cX6_fits 47 = .ok (.getfield 194, 3) := by decide +kernel
theorem dX6_fits_50 : decode cX6_fits 50 = .ok (.if_icmp .ge 47, 3) := by decide +kernel
theorem dX6_fits_53 : decode cX6_fits 53 = .ok (.aload_n 0, 1) := by decide +kernel
theorem dX6_fits_54 : decode cX6_fits 54 = .ok (.getfield 10, 3) := by decide +kernel
theorem dX6_fits_57 : decode cX6_fits 57 = .ok (.getfield 120, 3) := by decide +kernel
theorem dX6_fits_60 : decode cX6_fits 60 = .ok (.aload_n 0, 1) := by decide +kernel
theorem dX6_fits_61 : decode cX6_fits 61 = .ok (.getfield 10, 3) := by decide +kernel
theorem dX6_fits_64 : decode cX6_fits 64 = .ok (.iload 6, 2) := by decide +kernel
theorem dX6_fits_66 : decode cX6_fits 66 = .ok (.aload_n 0, 1) := by decide +kernel
theorem dX6_fits_67 : decode cX6_fits 67 = .ok (.getfield 10, 3) := by decide +kernel
theorem dX6_fits_70 : decode cX6_fits 70 = .ok (.getfield 139, 3) := by decide +kernel
theorem dX6_fits_73 : decode cX6_fits 73 = .ok (.invokevirtual 268, 3) := by decide +kernel
theorem dX6_fits_76 : decode cX6_fits 76 = .ok (.lor, 1) := by decide +kernel
theorem dX6_fits_77 : decode cX6_fits 77 = .ok (.lload_n 3, 1) := by decide +kernel
theorem dX6_fits_78 : decode cX6_fits 78 = .ok (.lcmp, 1) := by decide +kernel
theorem dX6_fits_79 : decode cX6_fits 79 = .ok (.ifCond .ne 12, 3) := by decide +kernel
theorem dX6_fits_82 : decode cX6_fits 82 = .ok (.iload 5, 2) := by decide +kernel
theorem dX6_fits_84 : decode cX6_fits 84 = .ok (.iconst 1, 1) := by decide +kernel
theorem dX6_fits_85 : decode cX6_fits 85 = .ok (.iload 6, 2) := by decide +kernel
theorem dX6_fits_87 : decode cX6_fits 87 = .ok (.ishl, 1) := by decide +kernel
theorem dX6_fits_88 : decode cX6_fits 88 = .ok (.ior, 1) := by decide +kernel
theorem dX6_fits_89 : decode cX6_fits 89 = .ok (.istore 5, 2) := by decide +kernel
theorem dX6_fits_91 : decode cX6_fits 91 = .ok (.iinc 6 1, 3) := by decide +kernel
theorem dX6_fits_94 : decode cX6_fits 94 = .ok (.goto (-56), 3) := by decide +kernel
theorem dX6_fits_97 : decode cX6_fits 97 = .ok (.iload 5, 2) := by decide +kernel
theorem dX6_fits_99 : decode cX6_fits 99 = .ok (.ireturn, 1) := by decide +kernel
theorem dX6_next_0 : decode cX6_next 0 = .ok (.iload_n 1, 1) := by decide +kernel
theorem dX6_next_1 : decode cX6_next 1 = .ok (.aload_n 0, 1) := by decide +kernel
theorem dX6_next_2 : decode cX6_next 2 = .ok (.getfield 10, 3) := by decide +kernel
theorem dX6_next_5 : decode cX6_next 5 = .ok (.getfield 81, 3) := by decide +kernel
theorem dX6_next_8 : decode cX6_next 8 = .ok (.getfield 194, 3) := by decide +kernel
theorem dX6_next_11 : decode cX6_next 11 = .ok (.invokestatic 249, 3) := by decide +kernel
theorem dX6_next_14 : decode cX6_next 14 = .ok (.ifCond .eq 12, 3) := by decide +kernel
theorem dX6_next_17 : decode cX6_next 17 = .ok (.iload_n 2, 1) := by decide +kernel
theorem dX6_next_18 : decode cX6_next 18 = .ok (.iconst 0, 1) := by decide +kernel
theorem dX6_next_19 : decode cX6_next 19 = .ok (.iconst 1, 1) := by decide +kernel
theorem dX6_next_20 : decode cX6_next 20 = .ok (.invokestatic 41, 3) := by decide +kernel
theorem dX6_next_23 : decode cX6_next 23 = .ok (.ifCond .ne 10, 3) := by decide +kernel
theorem dX6_next_26 : decode cX6_next 26 = .ok (.aload_n 0, 1) := by decide +kernel
theorem dX6_next_27 : decode cX6_next 27 = .ok (.bipush (-2), 2) := by decide +kernel
theorem dX6_next_29 : decode cX6_next 29 = .ok (.invokevirtual 45, 3) := by decide +kernel
theorem dX6_next_32 : decode cX6_next 32 = .ok (.ireturn, 1) := by decide +kernel
theorem dX6_next_33 : decode cX6_next 33 = .ok (.aload_n 0, 1) := by decide +kernel
theorem dX6_next_34 : decode cX6_next 34 = .ok (.getfield 10, 3) := by decide +kernel
theorem dX6_next_37 : decode cX6_next 37 = .ok (.invokevirtual 272, 3) := by decide +kernel
theorem dX6_next_40 : decode cX6_next 40 = .ok (.ifCond .ne 10, 3) := by decide +kernel
theorem dX6_next_43 : decode cX6_next 43 = .ok (.aload_n 0, 1) := by decide +kernel
theorem dX6_next_44 : decode cX6_next 44 = .ok (.bipush (-6), 2) := by decide +kernel
theorem dX6_next_46 : decode cX6_next 46 = .ok (.invokevirtual 45, 3) := by decide +kernel
theorem dX6_next_49 : decode cX6_next 49 = .ok (.ireturn, 1) := by decide +kernel
theorem dX6_next_50 : decode cX6_next 50 = .ok (.aload_n 0, 1) := by decide +kernel
theorem dX6_next_51 : decode cX6_next 51 = .ok (.getfield 10, 3) := by decide +kernel
theorem dX6_next_54 : decode cX6_next 54 = .ok (.iload_n 1, 1) := by decide +kernel
theorem dX6_next_55 : decode cX6_next 55 = .ok (.iconst 0, 1) := by decide +kernel
theorem dX6_next_56 : decode cX6_next 56 = .ok (.invokevirtual 273, 3) := by decide +kernel
theorem dX6_next_59 : decode cX6_next 59 = .ok (.istore_n 3, 1) := by decide +kernel
theorem dX6_next_60 : decode cX6_next 60 = .ok (.aload_n 0, 1) := by decide +kernel
theorem dX6_next_61 : decode cX6_next 61 = .ok (.getfield 10, 3) := by decide +kernel
theorem dX6_next_64 : decode cX6_next 64 = .ok (.iload_n 1, 1) := by decide +kernel
theorem dX6_next_65 : decode cX6_next 65 = .ok (.iconst 1, 1) := by decide +kernel
theorem dX6_next_66 : decode cX6_next 66 = .ok (.invokevirtual 273, 3) := by decide +kernel
theorem dX6_next_69 : decode cX6_next 69 = .ok (.istore 4, 2) := by decide +kernel
theorem dX6_next_71 : decode cX6_next 71 = .ok (.iload_n 2, 1) := by decide +kernel
theorem dX6_next_72 : decode cX6_next 72 = .ok (.iconst 1, 1) := by decide +kernel
theorem dX6_next_73 : decode cX6_next 73 = .ok (.if_icmp .ne 10, 3) := by decide +kernel
theorem dX6_next_76 : decode cX6_next 76 = .ok (.iload_n 3, 1) := by decide +kernel
theorem dX6_next_77 : decode cX6_next 77 = .ok (.iload 4, 2) := by decide +kernel
theorem dX6_next_79 : decode cX6_next 79 = .ok (.invokestatic 277, 3) := by decide +kernel
theorem dX6_next_82 : decode cX6_next 82 = .ok (.ireturn, 1) := by decide +kernel
theorem dX6_next_83 : decode cX6_next 83 = .ok (.iload 4, 2) := by decide +kernel
theorem dX6_next_85 : decode cX6_next 85 = .ok (.iload_n 3, 1) := by decide +kernel
theorem dX6_next_86 : decode cX6_next 86 = .ok (.if_icmp .le 7, 3) := by decide +kernel
theorem dX6_next_89 : decode cX6_next 89 = .ok (.iconst 1, 1) := by decide +kernel
theorem dX6_next_90 : decode cX6_next 90 = .ok (.goto 4, 3) := by decide +kernel
theorem dX6_next_93 : decode cX6_next 93 = .ok (.iconst 0, 1) := by decide +kernel
theorem dX6_next_94 : decode cX6_next 94 = .ok (.invokestatic 190, 3) := by decide +kernel
theorem dX6_next_97 : decode cX6_next 97 = .ok (.ireturn, 1) := by decide +kernel
theorem dX6_loudest_0 : decode cX6_loudest 0 = .ok (.iload_n 1, 1) := by decide +kernel
theorem dX6_loudest_1 : decode cX6_loudest 1 = .ok (.iconst 1, 1) := by decide +kernel
theorem dX6_loudest_2 : decode cX6_loudest 2 = .ok (.bipush 12, 2) := by decide +kernel
theorem dX6_loudest_4 : decode cX6_loudest 4 = .ok (.invokestatic 41, 3) := by decide +kernel
theorem dX6_loudest_7 : decode cX6_loudest 7 = .ok (.ifCond .eq 12, 3) := by decide +kernel
theorem dX6_loudest_10 : decode cX6_loudest 10 = .ok (.iload_n 2, 1) := by decide +kernel
theorem dX6_loudest_11 : decode cX6_loudest 11 = .ok (.iconst 0, 1) := by decide +kernel
theorem dX6_loudest_12 : decode cX6_loudest 12 = .ok (.iload_n 1, 1) := by decide +kernel
theorem dX6_loudest_13 : decode cX6_loudest 13 = .ok (.invokestatic 41, 3) := by decide +kernel
theorem dX6_loudest_16 : decode cX6_loudest 16 = .ok (.ifCond .ne 10, 3) := by decide +kernel
theorem dX6_loudest_19 : decode cX6_loudest 19 = .ok (.aload_n 0, 1) := by decide +kernel
theorem dX6_loudest_20 : decode cX6_loudest 20 = .ok (.bipush (-2), 2) := by decide +kernel
theorem dX6_loudest_22 : decode cX6_loudest 22 = .ok (.invokevirtual 45, 3) := by decide +kernel
theorem dX6_loudest_25 : decode cX6_loudest 25 = .ok (.ireturn, 1) := by decide +kernel
theorem dX6_loudest_26 : decode cX6_loudest 26 = .ok (.aload_n 0, 1) := by decide +kernel
theorem dX6_loudest_27 : decode cX6_loudest 27 = .ok (.getfield 10, 3) := by decide +kernel
theorem dX6_loudest_30 : decode cX6_loudest 30 = .ok (.getfield 81, 3) := by decide +kernel
theorem dX6_loudest_33 : decode cX6_loudest 33 = .ok (.getfield 194, 3) := by decide +kernel
theorem dX6_loudest_36 : decode cX6_loudest 36 = .ok (.ifCond .ne 10, 3) := by decide +kernel
theorem dX6_loudest_39 : decode cX6_loudest 39 = .ok (.aload_n 0, 1) := by decide +kernel
theorem dX6_loudest_40 : decode cX6_loudest 40 = .ok (.bipush (-5), 2) := by decide +kernel
theorem dX6_loudest_42 : decode cX6_loudest 42 = .ok (.invokevirtual 45, 3) := by decide +kernel
theorem dX6_loudest_45 : decode cX6_loudest 45 = .ok (.ireturn, 1) := by decide +kernel
theorem dX6_loudest_46 : decode cX6_loudest 46 = .ok (.aload_n 0, 1) := by decide +kernel
theorem dX6_loudest_47 : decode cX6_loudest 47 = .ok (.getfield 10, 3) := by decide +kernel
theorem dX6_loudest_50 : decode cX6_loudest 50 = .ok (.iload_n 1, 1) := by decide +kernel
theorem dX6_loudest_51 : decode cX6_loudest 51 = .ok (.iload_n 2, 1) := by decide +kernel
theorem dX6_loudest_52 : decode cX6_loudest 52 = .ok (.invokevirtual 282, 3) := by decide +kernel
theorem dX6_loudest_55 : decode cX6_loudest 55 = .ok (.ireturn, 1) := by decide +kernel
theorem dX6_plan_0 : decode cX6_plan 0 = .ok (.iload_n 1, 1) := by decide +kernel
theorem dX6_plan_1 : decode cX6_plan 1 = .ok (.iload_n 2, 1) := by decide +kernel
theorem dX6_plan_2 : decode cX6_plan 2 = .ok (.invokestatic 252, 3) := by decide +kernel
theorem dX6_plan_5 : decode cX6_plan 5 = .ok (.ifCond .ne 10, 3) := by decide +kernel
theorem dX6_plan_8 : decode cX6_plan 8 = .ok (.aload_n 0, 1) := by decide +kernel
theorem dX6_plan_9 : decode cX6_plan 9 = .ok (.bipush (-2), 2) := by decide +kernel
theorem dX6_plan_11 : decode cX6_plan 11 = .ok (.invokevirtual 45, 3) := by decide +kernel
theorem dX6_plan_14 : decode cX6_plan 14 = .ok (.ireturn, 1) := by decide +kernel
theorem dX6_plan_15 : decode cX6_plan 15 = .ok (.aload_n 0, 1) := by decide +kernel
theorem dX6_plan_16 : decode cX6_plan 16 = .ok (.getfield 10, 3) := by decide +kernel
theorem dX6_plan_19 : decode cX6_plan 19 = .ok (.getfield 81, 3) := by decide +kernel
theorem dX6_plan_22 : decode cX6_plan 22 = .ok (.getfield 194, 3) := by decide +kernel
theorem dX6_plan_25 : decode cX6_plan 25 = .ok (.ifCond .ne 10, 3) := by decide +kernel
theorem dX6_plan_28 : decode cX6_plan 28 = .ok (.aload_n 0, 1) := by decide +kernel
theorem dX6_plan_29 : decode cX6_plan 29 = .ok (.bipush (-5), 2) := by decide +kernel
