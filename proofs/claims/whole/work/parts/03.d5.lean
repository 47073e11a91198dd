theorem dX7_fill_25 : decode cX7_fill 25 = .ok (.invokevirtual 69, 3) := by decide +kernel
theorem dX7_fill_28 : decode cX7_fill 28 = .ok (.ireturn, 1) := by decide +kernel
theorem dX7_fill_29 : decode cX7_fill 29 = .ok (.iconst (-1), 1) := by decide +kernel
theorem dX7_fill_30 : decode cX7_fill 30 = .ok (.istore_n 3, 1) := by decide +kernel
theorem dX7_fill_31 : decode cX7_fill 31 = .ok (.iconst 0, 1) := by decide +kernel
theorem dX7_fill_32 : decode cX7_fill 32 = .ok (.istore 4, 2) := by decide +kernel
theorem dX7_fill_34 : decode cX7_fill 34 = .ok (.iload 4, 2) := by decide +kernel
theorem dX7_fill_36 : decode cX7_fill 36 = .ok (.iconst 1, 1) := by decide +kernel
theorem dX7_fill_37 : decode cX7_fill 37 = .ok (.iload_n 1, 1) := by decide +kernel
theorem dX7_fill_38 : decode cX7_fill 38 = .ok (.ishl, 1) := by decide +kernel
theorem dX7_fill_39 : decode cX7_fill 39 = .ok (.if_icmp .ge 43, 3) := by decide +kernel
theorem dX7_fill_42 : decode cX7_fill 42 = .ok (.iload_n 3, 1) := by decide +kernel
theorem dX7_fill_43 : decode cX7_fill 43 = .ok (.iconst (-1), 1) := by decide +kernel
theorem dX7_fill_44 : decode cX7_fill 44 = .ok (.if_icmp .eq 15, 3) := by decide +kernel
theorem dX7_fill_47 : decode cX7_fill 47 = .ok (.iload 4, 2) := by decide +kernel
theorem dX7_fill_49 : decode cX7_fill 49 = .ok (.invokestatic 259, 3) := by decide +kernel
theorem dX7_fill_52 : decode cX7_fill 52 = .ok (.iload_n 3, 1) := by decide +kernel
theorem dX7_fill_53 : decode cX7_fill 53 = .ok (.invokestatic 259, 3) := by decide +kernel
theorem dX7_fill_56 : decode cX7_fill 56 = .ok (.if_icmp .ge 20, 3) := by decide +kernel
theorem dX7_fill_59 : decode cX7_fill 59 = .ok (.aload_n 0, 1) := by decide +kernel
theorem dX7_fill_60 : decode cX7_fill 60 = .ok (.iload 4, 2) := by decide +kernel
theorem dX7_fill_62 : decode cX7_fill 62 = .ok (.i2l, 1) := by decide +kernel
theorem dX7_fill_63 : decode cX7_fill 63 = .ok (.iload_n 1, 1) := by decide +kernel
theorem dX7_fill_64 : decode cX7_fill 64 = .ok (.invokevirtual 270, 3) := by decide +kernel
theorem dX7_fill_67 : decode cX7_fill 67 = .ok (.iload_n 2, 1) := by decide +kernel
theorem dX7_fill_68 : decode cX7_fill 68 = .ok (.i2l, 1) := by decide +kernel
theorem dX7_fill_69 : decode cX7_fill 69 = .ok (.lcmp, 1) := by decide +kernel
theorem dX7_fill_70 : decode cX7_fill 70 = .ok (.ifCond .ne 6, 3) := by decide +kernel
theorem dX7_fill_73 : decode cX7_fill 73 = .ok (.iload 4, 2) := by decide +kernel
theorem dX7_fill_75 : decode cX7_fill 75 = .ok (.istore_n 3, 1) := by decide +kernel
theorem dX7_fill_76 : decode cX7_fill 76 = .ok (.iinc 4 1, 3) := by decide +kernel
theorem dX7_fill_79 : decode cX7_fill 79 = .ok (.goto (-45), 3) := by decide +kernel
theorem dX7_fill_82 : decode cX7_fill 82 = .ok (.iload_n 3, 1) := by decide +kernel
theorem dX7_fill_83 : decode cX7_fill 83 = .ok (.ireturn, 1) := by decide +kernel
theorem dX7_loudest_0 : decode cX7_loudest 0 = .ok (.iload_n 1, 1) := by decide +kernel
theorem dX7_loudest_1 : decode cX7_loudest 1 = .ok (.iconst 1, 1) := by decide +kernel
theorem dX7_loudest_2 : decode cX7_loudest 2 = .ok (.bipush 12, 2) := by decide +kernel
theorem dX7_loudest_4 : decode cX7_loudest 4 = .ok (.invokestatic 55, 3) := by decide +kernel
theorem dX7_loudest_7 : decode cX7_loudest 7 = .ok (.ifCond .eq 12, 3) := by decide +kernel
theorem dX7_loudest_10 : decode cX7_loudest 10 = .ok (.iload_n 2, 1) := by decide +kernel
theorem dX7_loudest_11 : decode cX7_loudest 11 = .ok (.iconst 0, 1) := by decide +kernel
theorem dX7_loudest_12 : decode cX7_loudest 12 = .ok (.iload_n 1, 1) := by decide +kernel
theorem dX7_loudest_13 : decode cX7_loudest 13 = .ok (.invokestatic 55, 3) := by decide +kernel
theorem dX7_loudest_16 : decode cX7_loudest 16 = .ok (.ifCond .ne 10, 3) := by decide +kernel
theorem dX7_loudest_19 : decode cX7_loudest 19 = .ok (.aload_n 0, 1) := by decide +kernel
theorem dX7_loudest_20 : decode cX7_loudest 20 = .ok (.bipush (-2), 2) := by decide +kernel
theorem dX7_loudest_22 : decode cX7_loudest 22 = .ok (.invokevirtual 69, 3) := by decide +kernel
theorem dX7_loudest_25 : decode cX7_loudest 25 = .ok (.ireturn, 1) := by decide +kernel
theorem dX7_loudest_26 : decode cX7_loudest 26 = .ok (.aload_n 0, 1) := by decide +kernel
theorem dX7_loudest_27 : decode cX7_loudest 27 = .ok (.getfield 52, 3) := by decide +kernel
theorem dX7_loudest_30 : decode cX7_loudest 30 = .ok (.ifCond .ne 10, 3) := by decide +kernel
theorem dX7_loudest_33 : decode cX7_loudest 33 = .ok (.aload_n 0, 1) := by decide +kernel
theorem dX7_loudest_34 : decode cX7_loudest 34 = .ok (.bipush (-5), 2) := by decide +kernel
theorem dX7_loudest_36 : decode cX7_loudest 36 = .ok (.invokevirtual 69, 3) := by decide +kernel
theorem dX7_loudest_39 : decode cX7_loudest 39 = .ok (.ireturn, 1) := by decide +kernel
theorem dX7_loudest_40 : decode cX7_loudest 40 = .ok (.iconst (-1), 1) := by decide +kernel
theorem dX7_loudest_41 : decode cX7_loudest 41 = .ok (.istore_n 3, 1) := by decide +kernel
theorem dX7_loudest_42 : decode cX7_loudest 42 = .ok (.iconst (-1), 1) := by decide +kernel
theorem dX7_loudest_43 : decode cX7_loudest 43 = .ok (.istore 4, 2) := by decide +kernel
theorem dX7_loudest_45 : decode cX7_loudest 45 = .ok (.iconst 0, 1) := by decide +kernel
theorem dX7_loudest_46 : decode cX7_loudest 46 = .ok (.istore 5, 2) := by decide +kernel
theorem dX7_loudest_48 : decode cX7_loudest 48 = .ok (.iload 5, 2) := by decide +kernel
theorem dX7_loudest_50 : decode cX7_loudest 50 = .ok (.iconst 1, 1) := by decide +kernel
theorem dX7_loudest_51 : decode cX7_loudest 51 = .ok (.iload_n 1, 1) := by decide +kernel
theorem dX7_loudest_52 : decode cX7_loudest 52 = .ok (.ishl, 1) := by decide +kernel
theorem dX7_loudest_53 : decode cX7_loudest 53 = .ok (.if_icmp .ge 49, 3) := by decide +kernel
theorem dX7_loudest_56 : decode cX7_loudest 56 = .ok (.iload 5, 2) := by decide +kernel
theorem dX7_loudest_58 : decode cX7_loudest 58 = .ok (.invokestatic 259, 3) := by decide +kernel
theorem dX7_loudest_61 : decode cX7_loudest 61 = .ok (.iload_n 2, 1) := by decide +kernel
theorem dX7_loudest_62 : decode cX7_loudest 62 = .ok (.if_icmp .eq 6, 3) := by decide +kernel
theorem dX7_loudest_65 : decode cX7_loudest 65 = .ok (.goto 31, 3) := by decide +kernel
theorem dX7_loudest_68 : decode cX7_loudest 68 = .ok (.aload_n 0, 1) := by decide +kernel
theorem dX7_loudest_69 : decode cX7_loudest 69 = .ok (.iload 5, 2) := by decide +kernel
theorem dX7_loudest_71 : decode cX7_loudest 71 = .ok (.i2l, 1) := by decide +kernel
theorem dX7_loudest_72 : decode cX7_loudest 72 = .ok (.iload_n 1, 1) := by decide +kernel
theorem dX7_loudest_73 : decode cX7_loudest 73 = .ok (.iconst 0, 1) := by decide +kernel
theorem dX7_loudest_74 : decode cX7_loudest 74 = .ok (.invokevirtual 225, 3) := by decide +kernel
theorem dX7_loudest_77 : decode cX7_loudest 77 = .ok (.istore 6, 2) := by decide +kernel
theorem dX7_loudest_79 : decode cX7_loudest 79 = .ok (.iload 6, 2) := by decide +kernel
theorem dX7_loudest_81 : decode cX7_loudest 81 = .ok (.iload 4, 2) := by decide +kernel
theorem dX7_loudest_83 : decode cX7_loudest 83 = .ok (.if_icmp .gt 6, 3) := by decide +kernel
theorem dX7_loudest_86 : decode cX7_loudest 86 = .ok (.goto 10, 3) := by decide +kernel
theorem dX7_loudest_89 : decode cX7_loudest 89 = .ok (.iload 6, 2) := by decide +kernel
theorem dX7_loudest_91 : decode cX7_loudest 91 = .ok (.istore 4, 2) := by decide +kernel
theorem dX7_loudest_93 : decode cX7_loudest 93 = .ok (.iload 5, 2) := by decide +kernel
theorem dX7_loudest_95 : decode cX7_loudest 95 = .ok (.istore_n 3, 1) := by decide +kernel
theorem dX7_loudest_96 : decode cX7_loudest 96 = .ok (.iinc 5 1, 3) := by decide +kernel
theorem dX7_loudest_99 : decode cX7_loudest 99 = .ok (.goto (-51), 3) := by decide +kernel
theorem dX7_loudest_102 : decode cX7_loudest 102 = .ok (.iload_n 3, 1) := by decide +kernel
theorem dX7_loudest_103 : decode cX7_loudest 103 = .ok (.ireturn, 1) := by decide +kernel
theorem dX7_noHeard_0 : decode cX7_noHeard 0 = .ok (.iload_n 1, 1) := by decide +kernel
theorem dX7_noHeard_1 : decode cX7_noHeard 1 = .ok (.invokestatic 65, 3) := by decide +kernel
theorem dX7_noHeard_4 : decode cX7_noHeard 4 = .ok (.ifCond .ne 6, 3) := by decide +kernel
theorem dX7_noHeard_7 : decode cX7_noHeard 7 = .ok (.bipush (-2), 2) := by decide +kernel
theorem dX7_noHeard_9 : decode cX7_noHeard 9 = .ok (.ireturn, 1) := by decide +kernel
theorem dX7_noHeard_10 : decode cX7_noHeard 10 = .ok (.aload_n 0, 1) := by decide +kernel
theorem dX7_noHeard_11 : decode cX7_noHeard 11 = .ok (.iload_n 1, 1) := by decide +kernel
theorem dX7_noHeard_12 : decode cX7_noHeard 12 = .ok (.invokevirtual 73, 3) := by decide +kernel
theorem dX7_noHeard_15 : decode cX7_noHeard 15 = .ok (.ifCond .ne 11, 3) := by decide +kernel
theorem dX7_noHeard_18 : decode cX7_noHeard 18 = .ok (.aload_n 0, 1) := by decide +kernel
theorem dX7_noHeard_19 : decode cX7_noHeard 19 = .ok (.iload_n 1, 1) := by decide +kernel
theorem dX7_noHeard_20 : decode cX7_noHeard 20 = .ok (.invokevirtual 76, 3) := by decide +kernel
theorem dX7_noHeard_23 : decode cX7_noHeard 23 = .ok (.goto 22, 3) := by decide +kernel
theorem dX7_noHeard_26 : decode cX7_noHeard 26 = .ok (.aload_n 0, 1) := by decide +kernel
theorem dX7_noHeard_27 : decode cX7_noHeard 27 = .ok (.getfield 25, 3) := by decide +kernel
theorem dX7_noHeard_30 : decode cX7_noHeard 30 = .ok (.iload_n 1, 1) := by decide +kernel
theorem dX7_noHeard_31 : decode cX7_noHeard 31 = .ok (.iaload, 1) := by decide +kernel
theorem dX7_noHeard_32 : decode cX7_noHeard 32 = .ok (.aload_n 0, 1) := by decide +kernel
theorem dX7_noHeard_33 : decode cX7_noHeard 33 = .ok (.getfield 62, 3) := by decide +kernel
theorem dX7_noHeard_36 : decode cX7_noHeard 36 = .ok (.if_icmp .ge 8, 3) := by decide +kernel
theorem dX7_noHeard_39 : decode cX7_noHeard 39 = .ok (.bipush (-2), 2) := by decide +kernel
theorem dX7_noHeard_41 : decode cX7_noHeard 41 = .ok (.goto 4, 3) := by decide +kernel
theorem dX7_noHeard_44 : decode cX7_noHeard 44 = .ok (.iconst 0, 1) := by decide +kernel
theorem dX7_noHeard_45 : decode cX7_noHeard 45 = .ok (.ireturn, 1) := by decide +kernel
theorem dX7_differsNow_0 : decode cX7_differsNow 0 = .ok (.iconst 0, 1) := by decide +kernel
theorem dX7_differsNow_1 : decode cX7_differsNow 1 = .ok (.istore_n 2, 1) := by decide +kernel
theorem dX7_differsNow_2 : decode cX7_differsNow 2 = .ok (.iconst 0, 1) := by decide +kernel
theorem dX7_differsNow_3 : decode cX7_differsNow 3 = .ok (.istore_n 3, 1) := by decide +kernel
theorem dX7_differsNow_4 : decode cX7_differsNow 4 = .ok (.iload_n 3, 1) := by decide +kernel
theorem dX7_differsNow_5 : decode cX7_differsNow 5 = .ok (.aload_n 0, 1) := by decide +kernel
theorem dX7_differsNow_6 : decode cX7_differsNow 6 = .ok (.getfield 62, 3) := by decide +kernel
theorem dX7_differsNow_9 : decode cX7_differsNow 9 = .ok (.if_icmp .ge 49, 3) := by decide +kernel
theorem dX7_differsNow_12 : decode cX7_differsNow 12 = .ok (.aload_n 0, 1) := by decide +kernel
theorem dX7_differsNow_13 : decode cX7_differsNow 13 = .ok (.aload_n 0, 1) := by decide +kernel
theorem dX7_differsNow_14 : decode cX7_differsNow 14 = .ok (.getfield 90, 3) := by decide +kernel
theorem dX7_differsNow_17 : decode cX7_differsNow 17 = .ok (.aload_n 0, 1) := by decide +kernel
theorem dX7_differsNow_18 : decode cX7_differsNow 18 = .ok (.getfield 62, 3) := by decide +kernel
theorem dX7_differsNow_21 : decode cX7_differsNow 21 = .ok (.iload_n 3, 1) := by decide +kernel
theorem dX7_differsNow_22 : decode cX7_differsNow 22 = .ok (.invokevirtual 215, 3) := by decide +kernel
theorem dX7_differsNow_25 : decode cX7_differsNow 25 = .ok (.aload_n 0, 1) := by decide +kernel
theorem dX7_differsNow_26 : decode cX7_differsNow 26 = .ok (.getfield 28, 3) := by decide +kernel
theorem dX7_differsNow_29 : decode cX7_differsNow 29 = .ok (.bipush 40, 2) := by decide +kernel
theorem dX7_differsNow_31 : decode cX7_differsNow 31 = .ok (.iload_n 1, 1) := by decide +kernel
theorem dX7_differsNow_32 : decode cX7_differsNow 32 = .ok (.imul, 1) := by decide +kernel
theorem dX7_differsNow_33 : decode cX7_differsNow 33 = .ok (.iload_n 3, 1) := by decide +kernel
theorem dX7_differsNow_34 : decode cX7_differsNow 34 = .ok (.iadd, 1) := by decide +kernel
theorem dX7_differsNow_35 : decode cX7_differsNow 35 = .ok (.laload, 1) := by decide +kernel
theorem dX7_differsNow_36 : decode cX7_differsNow 36 = .ok (.lconst 0, 1) := by decide +kernel
theorem dX7_differsNow_37 : decode cX7_differsNow 37 = .ok (.lcmp, 1) := by decide +kernel
theorem dX7_differsNow_38 : decode cX7_differsNow 38 = .ok (.ifCond .eq 7, 3) := by decide +kernel
theorem dX7_differsNow_41 : decode cX7_differsNow 41 = .ok (.iconst 1, 1) := by decide +kernel
theorem dX7_differsNow_42 : decode cX7_differsNow 42 = .ok (.goto 4, 3) := by decide +kernel
theorem dX7_differsNow_45 : decode cX7_differsNow 45 = .ok (.iconst 0, 1) := by decide +kernel
theorem dX7_differsNow_46 : decode cX7_differsNow 46 = .ok (.if_icmp .eq 6, 3) := by decide +kernel
theorem dX7_differsNow_49 : decode cX7_differsNow 49 = .ok (.iinc 2 1, 3) := by decide +kernel
theorem dX7_differsNow_52 : decode cX7_differsNow 52 = .ok (.iinc 3 1, 3) := by decide +kernel
theorem dX7_differsNow_55 : decode cX7_differsNow 55 = .ok (.goto (-51), 3) := by decide +kernel
theorem dX7_differsNow_58 : decode cX7_differsNow 58 = .ok (.iload_n 2, 1) := by decide +kernel
theorem dX7_differsNow_59 : decode cX7_differsNow 59 = .ok (.ireturn, 1) := by decide +kernel
theorem dX7_depths_0 : decode cX7_depths 0 = .ok (.aload_n 0, 1) := by decide +kernel
theorem dX7_depths_1 : decode cX7_depths 1 = .ok (.iload_n 1, 1) := by decide +kernel
theorem dX7_depths_2 : decode cX7_depths 2 = .ok (.invokevirtual 274, 3) := by decide +kernel
theorem dX7_depths_5 : decode cX7_depths 5 = .ok (.istore_n 2, 1) := by decide +kernel
theorem dX7_depths_6 : decode cX7_depths 6 = .ok (.iload_n 2, 1) := by decide +kernel
theorem dX7_depths_7 : decode cX7_depths 7 = .ok (.ifCond .ge 9, 3) := by decide +kernel
theorem dX7_depths_10 : decode cX7_depths 10 = .ok (.aload_n 0, 1) := by decide +kernel
theorem dX7_depths_11 : decode cX7_depths 11 = .ok (.iload_n 2, 1) := by decide +kernel
theorem dX7_depths_12 : decode cX7_depths 12 = .ok (.invokevirtual 69, 3) := by decide +kernel
theorem dX7_depths_15 : decode cX7_depths 15 = .ok (.ireturn, 1) := by decide +kernel
theorem dX7_depths_16 : decode cX7_depths 16 = .ok (.aload_n 0, 1) := by decide +kernel
theorem dX7_depths_17 : decode cX7_depths 17 = .ok (.getfield 45, 3) := by decide +kernel
theorem dX7_depths_20 : decode cX7_depths 20 = .ok (.istore_n 3, 1) := by decide +kernel
theorem dX7_depths_21 : decode cX7_depths 21 = .ok (.iconst 0, 1) := by decide +kernel
theorem dX7_depths_22 : decode cX7_depths 22 = .ok (.istore 4, 2) := by decide +kernel
theorem dX7_depths_24 : decode cX7_depths 24 = .ok (.aload_n 0, 1) := by decide +kernel
theorem dX7_depths_25 : decode cX7_depths 25 = .ok (.iconst 0, 1) := by decide +kernel
theorem dX7_depths_26 : decode cX7_depths 26 = .ok (.putfield 45, 3) := by decide +kernel
theorem dX7_depths_29 : decode cX7_depths 29 = .ok (.aload_n 0, 1) := by decide +kernel
theorem dX7_depths_30 : decode cX7_depths 30 = .ok (.getfield 45, 3) := by decide +kernel
theorem dX7_depths_33 : decode cX7_depths 33 = .ok (.bipush 10, 2) := by decide +kernel
theorem dX7_depths_35 : decode cX7_depths 35 = .ok (.if_icmp .ge 35, 3) := by decide +kernel
theorem dX7_depths_38 : decode cX7_depths 38 = .ok (.aload_n 0, 1) := by decide +kernel
theorem dX7_depths_39 : decode cX7_depths 39 = .ok (.iload_n 1, 1) := by decide +kernel
theorem dX7_depths_40 : decode cX7_depths 40 = .ok (.invokevirtual 277, 3) := by decide +kernel
theorem dX7_depths_43 : decode cX7_depths 43 = .ok (.ifCond .ne 14, 3) := by decide +kernel
theorem dX7_depths_46 : decode cX7_depths 46 = .ok (.iload 4, 2) := by decide +kernel
theorem dX7_depths_48 : decode cX7_depths 48 = .ok (.iconst 1, 1) := by decide +kernel
theorem dX7_depths_49 : decode cX7_depths 49 = .ok (.aload_n 0, 1) := by decide +kernel
theorem dX7_depths_50 : decode cX7_depths 50 = .ok (.getfield 45, 3) := by decide +kernel
theorem dX7_depths_53 : decode cX7_depths 53 = .ok (.ishl, 1) := by decide +kernel
theorem dX7_depths_54 : decode cX7_depths 54 = .ok (.ior, 1) := by decide +kernel
theorem dX7_depths_55 : decode cX7_depths 55 = .ok (.istore 4, 2) := by decide +kernel
theorem dX7_depths_57 : decode cX7_depths 57 = .ok (.aload_n 0, 1) := by decide +kernel
theorem dX7_depths_58 : decode cX7_depths 58 = .ok (.dup, 1) := by decide +kernel
theorem dX7_depths_59 : decode cX7_depths 59 = .ok (.getfield 45, 3) := by decide +kernel
theorem dX7_depths_62 : decode cX7_depths 62 = .ok (.iconst 1, 1) := by decide +kernel
theorem dX7_depths_63 : decode cX7_depths 63 = .ok (.iadd, 1) := by decide +kernel
theorem dX7_depths_64 : decode cX7_depths 64 = .ok (.putfield 45, 3) := by decide +kernel
theorem dX7_depths_67 : decode cX7_depths 67 = .ok (.goto (-38), 3) := by decide +kernel
theorem dX7_depths_70 : decode cX7_depths 70 = .ok (.aload_n 0, 1) := by decide +kernel
theorem dX7_depths_71 : decode cX7_depths 71 = .ok (.iload_n 3, 1) := by decide +kernel
theorem dX7_depths_72 : decode cX7_depths 72 = .ok (.putfield 45, 3) := by decide +kernel
theorem dX7_depths_75 : decode cX7_depths 75 = .ok (.iload 4, 2) := by decide +kernel
theorem dX7_depths_77 : decode cX7_depths 77 = .ok (.ireturn, 1) := by decide +kernel
theorem dX7_differs_0 : decode cX7_differs 0 = .ok (.aload_n 0, 1) := by decide +kernel
theorem dX7_differs_1 : decode cX7_differs 1 = .ok (.iload_n 1, 1) := by decide +kernel
theorem dX7_differs_2 : decode cX7_differs 2 = .ok (.invokevirtual 274, 3) := by decide +kernel
theorem dX7_differs_5 : decode cX7_differs 5 = .ok (.istore_n 2, 1) := by decide +kernel
theorem dX7_differs_6 : decode cX7_differs 6 = .ok (.iload_n 2, 1) := by decide +kernel
theorem dX7_differs_7 : decode cX7_differs 7 = .ok (.ifCond .ge 11, 3) := by decide +kernel
theorem dX7_differs_10 : decode cX7_differs 10 = .ok (.aload_n 0, 1) := by decide +kernel
theorem dX7_differs_11 : decode cX7_differs 11 = .ok (.iload_n 2, 1) := by decide +kernel
theorem dX7_differs_12 : decode cX7_differs 12 = .ok (.invokevirtual 69, 3) := by decide +kernel
theorem dX7_differs_15 : decode cX7_differs 15 = .ok (.goto 8, 3) := by decide +kernel
theorem dX7_differs_18 : decode cX7_differs 18 = .ok (.aload_n 0, 1) := by decide +kernel
theorem dX7_differs_19 : decode cX7_differs 19 = .ok (.iload_n 1, 1) := by decide +kernel
theorem dX7_differs_20 : decode cX7_differs 20 = .ok (.invokevirtual 277, 3) := by decide +kernel
theorem dX7_differs_23 : decode cX7_differs 23 = .ok (.ireturn, 1) := by decide +kernel
theorem dX7_fits_0 : decode cX7_fits 0 = .ok (.aload_n 0, 1) := by decide +kernel
theorem dX7_fits_1 : decode cX7_fits 1 = .ok (.iload_n 1, 1) := by decide +kernel
theorem dX7_fits_2 : decode cX7_fits 2 = .ok (.invokevirtual 274, 3) := by decide +kernel
theorem dX7_fits_5 : decode cX7_fits 5 = .ok (.istore_n 2, 1) := by decide +kernel
theorem dX7_fits_6 : decode cX7_fits 6 = .ok (.iload_n 2, 1) := by decide +kernel
theorem dX7_fits_7 : decode cX7_fits 7 = .ok (.ifCond .ge 9, 3) := by decide +kernel
theorem dX7_fits_10 : decode cX7_fits 10 = .ok (.aload_n 0, 1) := by decide +kernel
theorem dX7_fits_11 : decode cX7_fits 11 = .ok (.iload_n 2, 1) := by decide +kernel
theorem dX7_fits_12 : decode cX7_fits 12 = .ok (.invokevirtual 69, 3) := by decide +kernel
theorem dX7_fits_15 : decode cX7_fits 15 = .ok (.ireturn, 1) := by decide +kernel
theorem dX7_fits_16 : decode cX7_fits 16 = .ok (.aload_n 0, 1) := by decide +kernel
theorem dX7_fits_17 : decode cX7_fits 17 = .ok (.getfield 102, 3) := by decide +kernel
theorem dX7_fits_20 : decode cX7_fits 20 = .ok (.istore_n 3, 1) := by decide +kernel
theorem dX7_fits_21 : decode cX7_fits 21 = .ok (.iconst 0, 1) := by decide +kernel
theorem dX7_fits_22 : decode cX7_fits 22 = .ok (.istore 4, 2) := by decide +kernel
theorem dX7_fits_24 : decode cX7_fits 24 = .ok (.aload_n 0, 1) := by decide +kernel
theorem dX7_fits_25 : decode cX7_fits 25 = .ok (.iconst 0, 1) := by decide +kernel
theorem dX7_fits_26 : decode cX7_fits 26 = .ok (.putfield 102, 3) := by decide +kernel
theorem dX7_fits_29 : decode cX7_fits 29 = .ok (.aload_n 0, 1) := by decide +kernel
theorem dX7_fits_30 : decode cX7_fits 30 = .ok (.getfield 102, 3) := by decide +kernel
theorem dX7_fits_33 : decode cX7_fits 33 = .ok (.aload_n 0, 1) := by decide +kernel
theorem dX7_fits_34 : decode cX7_fits 34 = .ok (.getfield 52, 3) := by decide +kernel
theorem dX7_fits_37 : decode cX7_fits 37 = .ok (.if_icmp .ge 35, 3) := by decide +kernel
theorem dX7_fits_40 : decode cX7_fits 40 = .ok (.aload_n 0, 1) := by decide +kernel
theorem dX7_fits_41 : decode cX7_fits 41 = .ok (.iload_n 1, 1) := by decide +kernel
theorem dX7_fits_42 : decode cX7_fits 42 = .ok (.invokevirtual 277, 3) := by decide +kernel
theorem dX7_fits_45 : decode cX7_fits 45 = .ok (.ifCond .ne 14, 3) := by decide +kernel
theorem dX7_fits_48 : decode cX7_fits 48 = .ok (.iload 4, 2) := by decide +kernel
theorem dX7_fits_50 : decode cX7_fits 50 = .ok (.iconst 1, 1) := by decide +kernel
theorem dX7_fits_51 : decode cX7_fits 51 = .ok (.aload_n 0, 1) := by decide +kernel
theorem dX7_fits_52 : decode cX7_fits 52 = .ok (.getfield 102, 3) := by decide +kernel
theorem dX7_fits_55 : decode cX7_fits 55 = .ok (.ishl, 1) := by decide +kernel
theorem dX7_fits_56 : decode cX7_fits 56 = .ok (.ior, 1) := by decide +kernel
theorem dX7_fits_57 : decode cX7_fits 57 = .ok (.istore 4, 2) := by decide +kernel
theorem dX7_fits_59 : decode cX7_fits 59 = .ok (.aload_n 0, 1) := by decide +kernel
theorem dX7_fits_60 : decode cX7_fits 60 = .ok (.dup, 1) := by decide +kernel
theorem dX7_fits_61 : decode cX7_fits 61 = .ok (.getfield 102, 3) := by decide +kernel
theorem dX7_fits_64 : decode cX7_fits 64 = .ok (.iconst 1, 1) := by decide +kernel
theorem dX7_fits_65 : decode cX7_fits 65 = .ok (.iadd, 1) := by decide +kernel
theorem dX7_fits_66 : decode cX7_fits 66 = .ok (.putfield 102, 3) := by decide +kernel
theorem dX7_fits_69 : decode cX7_fits 69 = .ok (.goto (-40), 3) := by decide +kernel
theorem dX7_fits_72 : decode cX7_fits 72 = .ok (.aload_n 0, 1) := by decide +kernel
theorem dX7_fits_73 : decode cX7_fits 73 = .ok (.iload_n 3, 1) := by decide +kernel
theorem dX7_fits_74 : decode cX7_fits 74 = .ok (.putfield 102, 3) := by decide +kernel
theorem dX7_fits_77 : decode cX7_fits 77 = .ok (.iload 4, 2) := by decide +kernel
theorem dX7_fits_79 : decode cX7_fits 79 = .ok (.ireturn, 1) := by decide +kernel
theorem dX7_together_0 : decode cX7_together 0 = .ok (.aload_n 0, 1) := by decide +kernel
theorem dX7_together_1 : decode cX7_together 1 = .ok (.getfield 45, 3) := by decide +kernel
theorem dX7_together_4 : decode cX7_together 4 = .ok (.istore_n 1, 1) := by decide +kernel
theorem dX7_together_5 : decode cX7_together 5 = .ok (.iconst 0, 1) := by decide +kernel
theorem dX7_together_6 : decode cX7_together 6 = .ok (.istore_n 2, 1) := by decide +kernel
theorem dX7_together_7 : decode cX7_together 7 = .ok (.iconst (-1), 1) := by decide +kernel
theorem dX7_together_8 : decode cX7_together 8 = .ok (.istore_n 3, 1) := by decide +kernel
theorem dX7_together_9 : decode cX7_together 9 = .ok (.aload_n 0, 1) := by decide +kernel
theorem dX7_together_10 : decode cX7_together 10 = .ok (.iconst 0, 1) := by decide +kernel
theorem dX7_together_11 : decode cX7_together 11 = .ok (.putfield 45, 3) := by decide +kernel
theorem dX7_together_14 : decode cX7_together 14 = .ok (.aload_n 0, 1) := by decide +kernel
theorem dX7_together_15 : decode cX7_together 15 = .ok (.getfield 45, 3) := by decide +kernel
theorem dX7_together_18 : decode cX7_together 18 = .ok (.bipush 10, 2) := by decide +kernel
theorem dX7_together_20 : decode cX7_together 20 = .ok (.if_icmp .ge 48, 3) := by decide +kernel
theorem dX7_together_23 : decode cX7_together 23 = .ok (.aload_n 0, 1) := by decide +kernel
theorem dX7_together_24 : decode cX7_together 24 = .ok (.aload_n 0, 1) := by decide +kernel
theorem dX7_together_25 : decode cX7_together 25 = .ok (.getfield 90, 3) := by decide +kernel
theorem dX7_together_28 : decode cX7_together 28 = .ok (.aload_n 0, 1) := by decide +kernel
theorem dX7_together_29 : decode cX7_together 29 = .ok (.getfield 62, 3) := by decide +kernel
theorem dX7_together_32 : decode cX7_together 32 = .ok (.iconst 1, 1) := by decide +kernel
theorem dX7_together_33 : decode cX7_together 33 = .ok (.invokevirtual 225, 3) := by decide +kernel
theorem dX7_together_36 : decode cX7_together 36 = .ok (.istore 4, 2) := by decide +kernel
theorem dX7_together_38 : decode cX7_together 38 = .ok (.iload 4, 2) := by decide +kernel
theorem dX7_together_40 : decode cX7_together 40 = .ok (.iload_n 3, 1) := by decide +kernel
theorem dX7_together_41 : decode cX7_together 41 = .ok (.if_icmp .gt 6, 3) := by decide +kernel
theorem dX7_together_44 : decode cX7_together 44 = .ok (.goto 11, 3) := by decide +kernel
theorem dX7_together_47 : decode cX7_together 47 = .ok (.iload 4, 2) := by decide +kernel
theorem dX7_together_49 : decode cX7_together 49 = .ok (.istore_n 3, 1) := by decide +kernel
theorem dX7_together_50 : decode cX7_together 50 = .ok (.aload_n 0, 1) := by decide +kernel
theorem dX7_together_51 : decode cX7_together 51 = .ok (.getfield 45, 3) := by decide +kernel
theorem dX7_together_54 : decode cX7_together 54 = .ok (.istore_n 2, 1) := by decide +kernel
theorem dX7_together_55 : decode cX7_together 55 = .ok (.aload_n 0, 1) := by decide +kernel
theorem dX7_together_56 : decode cX7_together 56 = .ok (.dup, 1) := by decide +kernel
theorem dX7_together_57 : decode cX7_together 57 = .ok (.getfield 45, 3) := by decide +kernel
theorem dX7_together_60 : decode cX7_together 60 = .ok (.iconst 1, 1) := by decide +kernel
theorem dX7_together_61 : decode cX7_together 61 = .ok (.iadd, 1) := by decide +kernel
theorem dX7_together_62 : decode cX7_together 62 = .ok (.putfield 45, 3) := by decide +kernel
theorem dX7_together_65 : decode cX7_together 65 = .ok (.goto (-51), 3) := by decide +kernel
theorem dX7_together_68 : decode cX7_together 68 = .ok (.aload_n 0, 1) := by decide +kernel
theorem dX7_together_69 : decode cX7_together 69 = .ok (.iload_n 1, 1) := by decide +kernel
theorem dX7_together_70 : decode cX7_together 70 = .ok (.putfield 45, 3) := by decide +kernel
theorem dX7_together_73 : decode cX7_together 73 = .ok (.iload_n 2, 1) := by decide +kernel
theorem dX7_together_74 : decode cX7_together 74 = .ok (.ireturn, 1) := by decide +kernel
theorem dX7_odds_0 : decode cX7_odds 0 = .ok (.ldc_w 280, 3) := by decide +kernel
theorem dX7_odds_3 : decode cX7_odds 3 = .ok (.istore_n 1, 1) := by decide +kernel
theorem dX7_odds_4 : decode cX7_odds 4 = .ok (.aload_n 0, 1) := by decide +kernel
theorem dX7_odds_5 : decode cX7_odds 5 = .ok (.aload_n 0, 1) := by decide +kernel
theorem dX7_odds_6 : decode cX7_odds 6 = .ok (.getfield 90, 3) := by decide +kernel
theorem dX7_odds_9 : decode cX7_odds 9 = .ok (.aload_n 0, 1) := by decide +kernel
theorem dX7_odds_10 : decode cX7_odds 10 = .ok (.getfield 62, 3) := by decide +kernel
theorem dX7_odds_13 : decode cX7_odds 13 = .ok (.invokevirtual 240, 3) := by decide +kernel
theorem dX7_odds_16 : decode cX7_odds 16 = .ok (.istore_n 2, 1) := by decide +kernel
theorem dX7_odds_17 : decode cX7_odds 17 = .ok (.iload_n 2, 1) := by decide +kernel
theorem dX7_odds_18 : decode cX7_odds 18 = .ok (.ifCond .le 22, 3) := by decide +kernel
theorem dX7_odds_21 : decode cX7_odds 21 = .ok (.iload_n 1, 1) := by decide +kernel
theorem dX7_odds_22 : decode cX7_odds 22 = .ok (.bipush 100, 2) := by decide +kernel
theorem dX7_odds_24 : decode cX7_odds 24 = .ok (.aload_n 0, 1) := by decide +kernel
theorem dX7_odds_25 : decode cX7_odds 25 = .ok (.getfield 105, 3) := by decide +kernel
theorem dX7_odds_28 : decode cX7_odds 28 = .ok (.isub, 1) := by decide +kernel
theorem dX7_odds_29 : decode cX7_odds 29 = .ok (.imul, 1) := by decide +kernel
theorem dX7_odds_30 : decode cX7_odds 30 = .ok (.bipush 100, 2) := by decide +kernel
theorem dX7_odds_32 : decode cX7_odds 32 = .ok (.idiv, 1) := by decide +kernel
theorem dX7_odds_33 : decode cX7_odds 33 = .ok (.istore_n 1, 1) := by decide +kernel
theorem dX7_odds_34 : decode cX7_odds 34 = .ok (.iinc 2 (-1), 3) := by decide +kernel
theorem dX7_odds_37 : decode cX7_odds 37 = .ok (.goto (-20), 3) := by decide +kernel
theorem dX7_odds_40 : decode cX7_odds 40 = .ok (.iload_n 1, 1) := by decide +kernel
theorem dX7_odds_41 : decode cX7_odds 41 = .ok (.ireturn, 1) := by decide +kernel
theorem dX7_expected_0 : decode cX7_expected 0 = .ok (.sipush 1000, 3) := by decide +kernel
theorem dX7_expected_3 : decode cX7_expected 3 = .ok (.aload_n 0, 1) := by decide +kernel
theorem dX7_expected_4 : decode cX7_expected 4 = .ok (.aload_n 0, 1) := by decide +kernel
theorem dX7_expected_5 : decode cX7_expected 5 = .ok (.getfield 90, 3) := by decide +kernel
theorem dX7_expected_8 : decode cX7_expected 8 = .ok (.aload_n 0, 1) := by decide +kernel
theorem dX7_expected_9 : decode cX7_expected 9 = .ok (.getfield 62, 3) := by decide +kernel
theorem dX7_expected_12 : decode cX7_expected 12 = .ok (.invokevirtual 240, 3) := by decide +kernel
theorem dX7_expected_15 : decode cX7_expected 15 = .ok (.imul, 1) := by decide +kernel
theorem dX7_expected_16 : decode cX7_expected 16 = .ok (.bipush 100, 2) := by decide +kernel
theorem dX7_expected_18 : decode cX7_expected 18 = .ok (.aload_n 0, 1) := by decide +kernel
theorem dX7_expected_19 : decode cX7_expected 19 = .ok (.getfield 105, 3) := by decide +kernel
theorem dX7_expected_22 : decode cX7_expected 22 = .ok (.isub, 1) := by decide +kernel
theorem dX7_expected_23 : decode cX7_expected 23 = .ok (.imul, 1) := by decide +kernel
theorem dX7_expected_24 : decode cX7_expected 24 = .ok (.bipush 100, 2) := by decide +kernel
theorem dX7_expected_26 : decode cX7_expected 26 = .ok (.idiv, 1) := by decide +kernel
theorem dX7_expected_27 : decode cX7_expected 27 = .ok (.ireturn, 1) := by decide +kernel
theorem dX7_parted_0 : decode cX7_parted 0 = .ok (.iload_n 2, 1) := by decide +kernel
theorem dX7_parted_1 : decode cX7_parted 1 = .ok (.ifCond .eq 17, 3) := by decide +kernel
theorem dX7_parted_4 : decode cX7_parted 4 = .ok (.aload_n 0, 1) := by decide +kernel
theorem dX7_parted_5 : decode cX7_parted 5 = .ok (.getfield 90, 3) := by decide +kernel
theorem dX7_parted_8 : decode cX7_parted 8 = .ok (.lconst 1, 1) := by decide +kernel
theorem dX7_parted_9 : decode cX7_parted 9 = .ok (.aload_n 0, 1) := by decide +kernel
theorem dX7_parted_10 : decode cX7_parted 10 = .ok (.getfield 62, 3) := by decide +kernel
theorem dX7_parted_13 : decode cX7_parted 13 = .ok (.lshl, 1) := by decide +kernel
theorem dX7_parted_14 : decode cX7_parted 14 = .ok (.lor, 1) := by decide +kernel
theorem dX7_parted_15 : decode cX7_parted 15 = .ok (.goto 7, 3) := by decide +kernel
theorem dX7_parted_18 : decode cX7_parted 18 = .ok (.aload_n 0, 1) := by decide +kernel
theorem dX7_parted_19 : decode cX7_parted 19 = .ok (.getfield 90, 3) := by decide +kernel
theorem dX7_parted_22 : decode cX7_parted 22 = .ok (.lstore_n 3, 1) := by decide +kernel
theorem dX7_parted_23 : decode cX7_parted 23 = .ok (.iconst 0, 1) := by decide +kernel
theorem dX7_parted_24 : decode cX7_parted 24 = .ok (.istore 5, 2) := by decide +kernel
theorem dX7_parted_26 : decode cX7_parted 26 = .ok (.iconst 0, 1) := by decide +kernel
theorem dX7_parted_27 : decode cX7_parted 27 = .ok (.istore 6, 2) := by decide +kernel
theorem dX7_parted_29 : decode cX7_parted 29 = .ok (.iconst 0, 1) := by decide +kernel
theorem dX7_parted_30 : decode cX7_parted 30 = .ok (.istore 7, 2) := by decide +kernel
theorem dX7_parted_32 : decode cX7_parted 32 = .ok (.iload 7, 2) := by decide +kernel
theorem dX7_parted_34 : decode cX7_parted 34 = .ok (.aload_n 0, 1) := by decide +kernel
theorem dX7_parted_35 : decode cX7_parted 35 = .ok (.getfield 52, 3) := by decide +kernel
theorem dX7_parted_38 : decode cX7_parted 38 = .ok (.if_icmp .ge 51, 3) := by decide +kernel
theorem dX7_parted_41 : decode cX7_parted 41 = .ok (.iload_n 1, 1) := by decide +kernel
theorem dX7_parted_42 : decode cX7_parted 42 = .ok (.i2l, 1) := by decide +kernel
theorem dX7_parted_43 : decode cX7_parted 43 = .ok (.iload 7, 2) := by decide +kernel
theorem dX7_parted_45 : decode cX7_parted 45 = .ok (.invokestatic 190, 3) := by decide +kernel
theorem dX7_parted_48 : decode cX7_parted 48 = .ok (.ifCond .ne 6, 3) := by decide +kernel
theorem dX7_parted_51 : decode cX7_parted 51 = .ok (.goto 32, 3) := by decide +kernel
theorem dX7_parted_54 : decode cX7_parted 54 = .ok (.aload_n 0, 1) := by decide +kernel
theorem dX7_parted_55 : decode cX7_parted 55 = .ok (.iload 7, 2) := by decide +kernel
theorem dX7_parted_57 : decode cX7_parted 57 = .ok (.lload_n 3, 1) := by decide +kernel
theorem dX7_parted_58 : decode cX7_parted 58 = .ok (.aload_n 0, 1) := by decide +kernel
theorem dX7_parted_59 : decode cX7_parted 59 = .ok (.getfield 62, 3) := by decide +kernel
theorem dX7_parted_62 : decode cX7_parted 62 = .ok (.iconst 1, 1) := by decide +kernel
theorem dX7_parted_63 : decode cX7_parted 63 = .ok (.iadd, 1) := by decide +kernel
theorem dX7_parted_64 : decode cX7_parted 64 = .ok (.aload_n 0, 1) := by decide +kernel
theorem dX7_parted_65 : decode cX7_parted 65 = .ok (.getfield 62, 3) := by decide +kernel
theorem dX7_parted_68 : decode cX7_parted 68 = .ok (.invokevirtual 208, 3) := by decide +kernel
theorem dX7_parted_71 : decode cX7_parted 71 = .ok (.ifCond .eq 9, 3) := by decide +kernel
theorem dX7_parted_74 : decode cX7_parted 74 = .ok (.iinc 5 1, 3) := by decide +kernel
theorem dX7_parted_77 : decode cX7_parted 77 = .ok (.goto 6, 3) := by decide +kernel
theorem dX7_parted_80 : decode cX7_parted 80 = .ok (.iinc 6 1, 3) := by decide +kernel
theorem dX7_parted_83 : decode cX7_parted 83 = .ok (.iinc 7 1, 3) := by decide +kernel
theorem dX7_parted_86 : decode cX7_parted 86 = .ok (.goto (-54), 3) := by decide +kernel
theorem dX7_parted_89 : decode cX7_parted 89 = .ok (.iload 5, 2) := by decide +kernel
theorem dX7_parted_91 : decode cX7_parted 91 = .ok (.iload 6, 2) := by decide +kernel
theorem dX7_parted_93 : decode cX7_parted 93 = .ok (.invokestatic 281, 3) := by decide +kernel
theorem dX7_parted_96 : decode cX7_parted 96 = .ok (.ireturn, 1) := by decide +kernel
theorem dX7_next__0 : decode cX7_next_ 0 = .ok (.aload_n 0, 1) := by decide +kernel
theorem dX7_next__1 : decode cX7_next_ 1 = .ok (.iload_n 1, 1) := by decide +kernel
theorem dX7_next__2 : decode cX7_next_ 2 = .ok (.invokevirtual 254, 3) := by decide +kernel
theorem dX7_next__5 : decode cX7_next_ 5 = .ok (.ifCond .eq 12, 3) := by decide +kernel
theorem dX7_next__8 : decode cX7_next_ 8 = .ok (.iload_n 2, 1) := by decide +kernel
theorem dX7_next__9 : decode cX7_next_ 9 = .ok (.iconst 0, 1) := by decide +kernel
theorem dX7_next__10 : decode cX7_next_ 10 = .ok (.iconst 1, 1) := by decide +kernel
theorem dX7_next__11 : decode cX7_next_ 11 = .ok (.invokestatic 55, 3) := by decide +kernel
theorem dX7_next__14 : decode cX7_next_ 14 = .ok (.ifCond .ne 10, 3) := by decide +kernel
theorem dX7_next__17 : decode cX7_next_ 17 = .ok (.aload_n 0, 1) := by decide +kernel
theorem dX7_next__18 : decode cX7_next_ 18 = .ok (.bipush (-2), 2) := by decide +kernel
theorem dX7_next__20 : decode cX7_next_ 20 = .ok (.invokevirtual 69, 3) := by decide +kernel
theorem dX7_next__23 : decode cX7_next_ 23 = .ok (.ireturn, 1) := by decide +kernel
theorem dX7_next__24 : decode cX7_next_ 24 = .ok (.aload_n 0, 1) := by decide +kernel
theorem dX7_next__25 : decode cX7_next_ 25 = .ok (.getfield 62, 3) := by decide +kernel
theorem dX7_next__28 : decode cX7_next_ 28 = .ok (.bipush 40, 2) := by decide +kernel
theorem dX7_next__30 : decode cX7_next_ 30 = .ok (.if_icmp .ne 10, 3) := by decide +kernel
theorem dX7_next__33 : decode cX7_next_ 33 = .ok (.aload_n 0, 1) := by decide +kernel
theorem dX7_next__34 : decode cX7_next_ 34 = .ok (.bipush (-6), 2) := by decide +kernel
theorem dX7_next__36 : decode cX7_next_ 36 = .ok (.invokevirtual 69, 3) := by decide +kernel
theorem dX7_next__39 : decode cX7_next_ 39 = .ok (.ireturn, 1) := by decide +kernel
theorem dX7_next__40 : decode cX7_next_ 40 = .ok (.aload_n 0, 1) := by decide +kernel
theorem dX7_next__41 : decode cX7_next_ 41 = .ok (.iload_n 1, 1) := by decide +kernel
theorem dX7_next__42 : decode cX7_next_ 42 = .ok (.iconst 0, 1) := by decide +kernel
theorem dX7_next__43 : decode cX7_next_ 43 = .ok (.invokevirtual 284, 3) := by decide +kernel
theorem dX7_next__46 : decode cX7_next_ 46 = .ok (.istore_n 3, 1) := by decide +kernel
theorem dX7_next__47 : decode cX7_next_ 47 = .ok (.aload_n 0, 1) := by decide +kernel
theorem dX7_next__48 : decode cX7_next_ 48 = .ok (.iload_n 1, 1) := by decide +kernel
theorem dX7_next__49 : decode cX7_next_ 49 = .ok (.iconst 1, 1) := by decide +kernel
theorem dX7_next__50 : decode cX7_next_ 50 = .ok (.invokevirtual 284, 3) := by decide +kernel
theorem dX7_next__53 : decode cX7_next_ 53 = .ok (.istore 4, 2) := by decide +kernel
theorem dX7_next__55 : decode cX7_next_ 55 = .ok (.iload_n 2, 1) := by decide +kernel
theorem dX7_next__56 : decode cX7_next_ 56 = .ok (.iconst 1, 1) := by decide +kernel
theorem dX7_next__57 : decode cX7_next_ 57 = .ok (.if_icmp .ne 12, 3) := by decide +kernel
theorem dX7_next__60 : decode cX7_next_ 60 = .ok (.iload_n 3, 1) := by decide +kernel
theorem dX7_next__61 : decode cX7_next_ 61 = .ok (.iload 4, 2) := by decide +kernel
theorem dX7_next__63 : decode cX7_next_ 63 = .ok (.invokestatic 228, 3) := by decide +kernel
theorem dX7_next__66 : decode cX7_next_ 66 = .ok (.goto 14, 3) := by decide +kernel
theorem dX7_next__69 : decode cX7_next_ 69 = .ok (.iload 4, 2) := by decide +kernel
theorem dX7_next__71 : decode cX7_next_ 71 = .ok (.iload_n 3, 1) := by decide +kernel
theorem dX7_next__72 : decode cX7_next_ 72 = .ok (.if_icmp .le 7, 3) := by decide +kernel
theorem dX7_next__75 : decode cX7_next_ 75 = .ok (.iconst 1, 1) := by decide +kernel
theorem dX7_next__76 : decode cX7_next_ 76 = .ok (.goto 4, 3) := by decide +kernel
theorem dX7_next__79 : decode cX7_next_ 79 = .ok (.iconst 0, 1) := by decide +kernel
theorem dX7_next__80 : decode cX7_next_ 80 = .ok (.ireturn, 1) := by decide +kernel
theorem dX7_day_0 : decode cX7_day 0 = .ok (.iload_n 1, 1) := by decide +kernel
theorem dX7_day_1 : decode cX7_day 1 = .ok (.iconst 1, 1) := by decide +kernel
theorem dX7_day_2 : decode cX7_day 2 = .ok (.bipush 99, 2) := by decide +kernel
theorem dX7_day_4 : decode cX7_day 4 = .ok (.invokestatic 55, 3) := by decide +kernel
theorem dX7_day_7 : decode cX7_day 7 = .ok (.ifCond .eq 36, 3) := by decide +kernel
theorem dX7_day_10 : decode cX7_day 10 = .ok (.iload_n 3, 1) := by decide +kernel
theorem dX7_day_11 : decode cX7_day 11 = .ok (.iconst 1, 1) := by decide +kernel
theorem dX7_day_12 : decode cX7_day 12 = .ok (.bipush 99, 2) := by decide +kernel
theorem dX7_day_14 : decode cX7_day 14 = .ok (.invokestatic 55, 3) := by decide +kernel
theorem dX7_day_17 : decode cX7_day 17 = .ok (.ifCond .eq 26, 3) := by decide +kernel
theorem dX7_day_20 : decode cX7_day 20 = .ok (.iload_n 2, 1) := by decide +kernel
theorem dX7_day_21 : decode cX7_day 21 = .ok (.iconst 0, 1) := by decide +kernel
theorem dX7_day_22 : decode cX7_day 22 = .ok (.iload_n 1, 1) := by decide +kernel
theorem dX7_day_23 : decode cX7_day 23 = .ok (.iconst 1, 1) := by decide +kernel
theorem dX7_day_24 : decode cX7_day 24 = .ok (.isub, 1) := by decide +kernel
theorem dX7_day_25 : decode cX7_day 25 = .ok (.invokestatic 55, 3) := by decide +kernel
theorem dX7_day_28 : decode cX7_day 28 = .ok (.ifCond .eq 15, 3) := by decide +kernel
theorem dX7_day_31 : decode cX7_day 31 = .ok (.iload 4, 2) := by decide +kernel
theorem dX7_day_33 : decode cX7_day 33 = .ok (.iconst 0, 1) := by decide +kernel
theorem dX7_day_34 : decode cX7_day 34 = .ok (.iload_n 3, 1) := by decide +kernel
theorem dX7_day_35 : decode cX7_day 35 = .ok (.iconst 1, 1) := by decide +kernel
theorem dX7_day_36 : decode cX7_day 36 = .ok (.isub, 1) := by decide +kernel
theorem dX7_day_37 : decode cX7_day 37 = .ok (.invokestatic 55, 3) := by decide +kernel
theorem dX7_day_40 : decode cX7_day 40 = .ok (.ifCond .ne 10, 3) := by decide +kernel
theorem dX7_day_43 : decode cX7_day 43 = .ok (.aload_n 0, 1) := by decide +kernel
theorem dX7_day_44 : decode cX7_day 44 = .ok (.bipush (-2), 2) := by decide +kernel
theorem dX7_day_46 : decode cX7_day 46 = .ok (.invokevirtual 69, 3) := by decide +kernel
theorem dX7_day_49 : decode cX7_day 49 = .ok (.ireturn, 1) := by decide +kernel
theorem dX7_day_50 : decode cX7_day 50 = .ok (.iload_n 2, 1) := by decide +kernel
theorem dX7_day_51 : decode cX7_day 51 = .ok (.istore 5, 2) := by decide +kernel
theorem dX7_day_53 : decode cX7_day 53 = .ok (.iload 5, 2) := by decide +kernel
theorem dX7_day_55 : decode cX7_day 55 = .ok (.sipush 10000, 3) := by decide +kernel
theorem dX7_day_58 : decode cX7_day 58 = .ok (.if_icmp .ge 24, 3) := by decide +kernel
theorem dX7_day_61 : decode cX7_day 61 = .ok (.iload 5, 2) := by decide +kernel
theorem dX7_day_63 : decode cX7_day 63 = .ok (.iload_n 3, 1) := by decide +kernel
theorem dX7_day_64 : decode cX7_day 64 = .ok (.irem, 1) := by decide +kernel
theorem dX7_day_65 : decode cX7_day 65 = .ok (.iload 4, 2) := by decide +kernel
theorem dX7_day_67 : decode cX7_day 67 = .ok (.if_icmp .ne 6, 3) := by decide +kernel
theorem dX7_day_70 : decode cX7_day 70 = .ok (.iload 5, 2) := by decide +kernel
theorem dX7_day_72 : decode cX7_day 72 = .ok (.ireturn, 1) := by decide +kernel
theorem dX7_day_73 : decode cX7_day 73 = .ok (.iload 5, 2) := by decide +kernel
theorem dX7_day_75 : decode cX7_day 75 = .ok (.iload_n 1, 1) := by decide +kernel
theorem dX7_day_76 : decode cX7_day 76 = .ok (.iadd, 1) := by decide +kernel
theorem dX7_day_77 : decode cX7_day 77 = .ok (.istore 5, 2) := by decide +kernel
theorem dX7_day_79 : decode cX7_day 79 = .ok (.goto (-26), 3) := by decide +kernel
theorem dX7_day_82 : decode cX7_day 82 = .ok (.iconst (-1), 1) := by decide +kernel
theorem dX7_day_83 : decode cX7_day 83 = .ok (.ireturn, 1) := by decide +kernel
theorem dX7_ageOf_0 : decode cX7_ageOf 0 = .ok (.iconst 0, 1) := by decide +kernel
theorem dX7_ageOf_1 : decode cX7_ageOf 1 = .ok (.istore_n 2, 1) := by decide +kernel
theorem dX7_ageOf_2 : decode cX7_ageOf 2 = .ok (.iconst 0, 1) := by decide +kernel
theorem dX7_ageOf_3 : decode cX7_ageOf 3 = .ok (.istore_n 3, 1) := by decide +kernel
theorem dX7_ageOf_4 : decode cX7_ageOf 4 = .ok (.iload_n 3, 1) := by decide +kernel
theorem dX7_ageOf_5 : decode cX7_ageOf 5 = .ok (.aload_n 0, 1) := by decide +kernel
theorem dX7_ageOf_6 : decode cX7_ageOf 6 = .ok (.getfield 59, 3) := by decide +kernel
theorem dX7_ageOf_9 : decode cX7_ageOf 9 = .ok (.if_icmp .ge 27, 3) := by decide +kernel
theorem dX7_ageOf_12 : decode cX7_ageOf 12 = .ok (.iload_n 1, 1) := by decide +kernel
theorem dX7_ageOf_13 : decode cX7_ageOf 13 = .ok (.i2l, 1) := by decide +kernel
theorem dX7_ageOf_14 : decode cX7_ageOf 14 = .ok (.iload_n 3, 1) := by decide +kernel
theorem dX7_ageOf_15 : decode cX7_ageOf 15 = .ok (.invokestatic 190, 3) := by decide +kernel
theorem dX7_ageOf_18 : decode cX7_ageOf 18 = .ok (.ifCond .eq 12, 3) := by decide +kernel
theorem dX7_ageOf_21 : decode cX7_ageOf 21 = .ok (.iload_n 2, 1) := by decide +kernel
theorem dX7_ageOf_22 : decode cX7_ageOf 22 = .ok (.aload_n 0, 1) := by decide +kernel
theorem dX7_ageOf_23 : decode cX7_ageOf 23 = .ok (.getfield 16, 3) := by decide +kernel
theorem dX7_ageOf_26 : decode cX7_ageOf 26 = .ok (.iload_n 3, 1) := by decide +kernel
theorem dX7_ageOf_27 : decode cX7_ageOf 27 = .ok (.iaload, 1) := by decide +kernel
theorem dX7_ageOf_28 : decode cX7_ageOf 28 = .ok (.iadd, 1) := by decide +kernel
theorem dX7_ageOf_29 : decode cX7_ageOf 29 = .ok (.istore_n 2, 1) := by decide +kernel
theorem dX7_ageOf_30 : decode cX7_ageOf 30 = .ok (.iinc 3 1, 3) := by decide +kernel
theorem dX7_ageOf_33 : decode cX7_ageOf 33 = .ok (.goto (-29), 3) := by decide +kernel
theorem dX7_ageOf_36 : decode cX7_ageOf 36 = .ok (.iload_n 2, 1) := by decide +kernel
theorem dX7_ageOf_37 : decode cX7_ageOf 37 = .ok (.ireturn, 1) := by decide +kernel
theorem dX7_tolls_0 : decode cX7_tolls 0 = .ok (.iload_n 1, 1) := by decide +kernel
theorem dX7_tolls_1 : decode cX7_tolls 1 = .ok (.iconst 0, 1) := by decide +kernel
theorem dX7_tolls_2 : decode cX7_tolls 2 = .ok (.sipush 999, 3) := by decide +kernel
theorem dX7_tolls_5 : decode cX7_tolls 5 = .ok (.invokestatic 55, 3) := by decide +kernel
theorem dX7_tolls_8 : decode cX7_tolls 8 = .ok (.ifCond .eq 12, 3) := by decide +kernel
theorem dX7_tolls_11 : decode cX7_tolls 11 = .ok (.iload_n 2, 1) := by decide +kernel
theorem dX7_tolls_12 : decode cX7_tolls 12 = .ok (.iconst 0, 1) := by decide +kernel
theorem dX7_tolls_13 : decode cX7_tolls 13 = .ok (.iconst 1, 1) := by decide +kernel
theorem dX7_tolls_14 : decode cX7_tolls 14 = .ok (.invokestatic 55, 3) := by decide +kernel
theorem dX7_tolls_17 : decode cX7_tolls 17 = .ok (.ifCond .ne 10, 3) := by decide +kernel
theorem dX7_tolls_20 : decode cX7_tolls 20 = .ok (.aload_n 0, 1) := by decide +kernel
theorem dX7_tolls_21 : decode cX7_tolls 21 = .ok (.bipush (-2), 2) := by decide +kernel
theorem dX7_tolls_23 : decode cX7_tolls 23 = .ok (.invokevirtual 69, 3) := by decide +kernel
theorem dX7_tolls_26 : decode cX7_tolls 26 = .ok (.ireturn, 1) := by decide +kernel
theorem dX7_tolls_27 : decode cX7_tolls 27 = .ok (.iconst 0, 1) := by decide +kernel
theorem dX7_tolls_28 : decode cX7_tolls 28 = .ok (.istore_n 3, 1) := by decide +kernel
theorem dX7_tolls_29 : decode cX7_tolls 29 = .ok (.iconst (-1), 1) := by decide +kernel
theorem dX7_tolls_30 : decode cX7_tolls 30 = .ok (.istore 4, 2) := by decide +kernel
theorem dX7_tolls_32 : decode cX7_tolls 32 = .ok (.iconst 0, 1) := by decide +kernel
theorem dX7_tolls_33 : decode cX7_tolls 33 = .ok (.istore 5, 2) := by decide +kernel
theorem dX7_tolls_35 : decode cX7_tolls 35 = .ok (.iload 5, 2) := by decide +kernel
theorem dX7_tolls_37 : decode cX7_tolls 37 = .ok (.iconst 1, 1) := by decide +kernel
theorem dX7_tolls_38 : decode cX7_tolls 38 = .ok (.aload_n 0, 1) := by decide +kernel
theorem dX7_tolls_39 : decode cX7_tolls 39 = .ok (.getfield 59, 3) := by decide +kernel
theorem dX7_tolls_42 : decode cX7_tolls 42 = .ok (.ishl, 1) := by decide +kernel
theorem dX7_tolls_43 : decode cX7_tolls 43 = .ok (.if_icmp .ge 48, 3) := by decide +kernel
theorem dX7_tolls_46 : decode cX7_tolls 46 = .ok (.aload_n 0, 1) := by decide +kernel
theorem dX7_tolls_47 : decode cX7_tolls 47 = .ok (.iload 5, 2) := by decide +kernel
theorem dX7_tolls_49 : decode cX7_tolls 49 = .ok (.invokevirtual 288, 3) := by decide +kernel
theorem dX7_tolls_52 : decode cX7_tolls 52 = .ok (.iload_n 1, 1) := by decide +kernel
theorem dX7_tolls_53 : decode cX7_tolls 53 = .ok (.if_icmp .eq 6, 3) := by decide +kernel
theorem dX7_tolls_56 : decode cX7_tolls 56 = .ok (.goto 29, 3) := by decide +kernel
theorem dX7_tolls_59 : decode cX7_tolls 59 = .ok (.iinc 3 1, 3) := by decide +kernel
theorem dX7_tolls_62 : decode cX7_tolls 62 = .ok (.iload 4, 2) := by decide +kernel
theorem dX7_tolls_64 : decode cX7_tolls 64 = .ok (.iconst (-1), 1) := by decide +kernel
theorem dX7_tolls_65 : decode cX7_tolls 65 = .ok (.if_icmp .eq 16, 3) := by decide +kernel
theorem dX7_tolls_68 : decode cX7_tolls 68 = .ok (.iload 5, 2) := by decide +kernel
theorem dX7_tolls_70 : decode cX7_tolls 70 = .ok (.invokestatic 259, 3) := by decide +kernel
theorem dX7_tolls_73 : decode cX7_tolls 73 = .ok (.iload 4, 2) := by decide +kernel
theorem dX7_tolls_75 : decode cX7_tolls 75 = .ok (.invokestatic 259, 3) := by decide +kernel
theorem dX7_tolls_78 : decode cX7_tolls 78 = .ok (.if_icmp .ge 7, 3) := by decide +kernel
theorem dX7_tolls_81 : decode cX7_tolls 81 = .ok (.iload 5, 2) := by decide +kernel
theorem dX7_tolls_83 : decode cX7_tolls 83 = .ok (.istore 4, 2) := by decide +kernel
theorem dX7_tolls_85 : decode cX7_tolls 85 = .ok (.iinc 5 1, 3) := by decide +kernel
theorem dX7_tolls_88 : decode cX7_tolls 88 = .ok (.goto (-53), 3) := by decide +kernel
theorem dX7_tolls_91 : decode cX7_tolls 91 = .ok (.iload_n 2, 1) := by decide +kernel
theorem dX7_tolls_92 : decode cX7_tolls 92 = .ok (.ifCond .ne 7, 3) := by decide +kernel
theorem dX7_tolls_95 : decode cX7_tolls 95 = .ok (.iload_n 3, 1) := by decide +kernel
theorem dX7_tolls_96 : decode cX7_tolls 96 = .ok (.goto 5, 3) := by decide +kernel
theorem dX7_tolls_99 : decode cX7_tolls 99 = .ok (.iload 4, 2) := by decide +kernel
theorem dX7_tolls_101 : decode cX7_tolls 101 = .ok (.ireturn, 1) := by decide +kernel
theorem dX7_meet_0 : decode cX7_meet 0 = .ok (.iload_n 1, 1) := by decide +kernel
theorem dX7_meet_1 : decode cX7_meet 1 = .ok (.iconst 1, 1) := by decide +kernel
theorem dX7_meet_2 : decode cX7_meet 2 = .ok (.bipush 99, 2) := by decide +kernel
theorem dX7_meet_4 : decode cX7_meet 4 = .ok (.invokestatic 55, 3) := by decide +kernel
theorem dX7_meet_7 : decode cX7_meet 7 = .ok (.ifCond .eq 13, 3) := by decide +kernel
theorem dX7_meet_10 : decode cX7_meet 10 = .ok (.iload_n 2, 1) := by decide +kernel
theorem dX7_meet_11 : decode cX7_meet 11 = .ok (.iconst 1, 1) := by decide +kernel
theorem dX7_meet_12 : decode cX7_meet 12 = .ok (.bipush 99, 2) := by decide +kernel
theorem dX7_meet_14 : decode cX7_meet 14 = .ok (.invokestatic 55, 3) := by decide +kernel
theorem dX7_meet_17 : decode cX7_meet 17 = .ok (.ifCond .ne 10, 3) := by decide +kernel
theorem dX7_meet_20 : decode cX7_meet 20 = .ok (.aload_n 0, 1) := by decide +kernel
theorem dX7_meet_21 : decode cX7_meet 21 = .ok (.bipush (-2), 2) := by decide +kernel
theorem dX7_meet_23 : decode cX7_meet 23 = .ok (.invokevirtual 69, 3) := by decide +kernel
theorem dX7_meet_26 : decode cX7_meet 26 = .ok (.ireturn, 1) := by decide +kernel
theorem dX7_meet_27 : decode cX7_meet 27 = .ok (.iload_n 1, 1) := by decide +kernel
theorem dX7_meet_28 : decode cX7_meet 28 = .ok (.istore_n 3, 1) := by decide +kernel
theorem dX7_meet_29 : decode cX7_meet 29 = .ok (.iload_n 3, 1) := by decide +kernel
theorem dX7_meet_30 : decode cX7_meet 30 = .ok (.iload_n 2, 1) := by decide +kernel
theorem dX7_meet_31 : decode cX7_meet 31 = .ok (.irem, 1) := by decide +kernel
theorem dX7_meet_32 : decode cX7_meet 32 = .ok (.ifCond .eq 10, 3) := by decide +kernel
theorem dX7_meet_35 : decode cX7_meet 35 = .ok (.iload_n 3, 1) := by decide +kernel
theorem dX7_meet_36 : decode cX7_meet 36 = .ok (.iload_n 1, 1) := by decide +kernel
theorem dX7_meet_37 : decode cX7_meet 37 = .ok (.iadd, 1) := by decide +kernel
theorem dX7_meet_38 : decode cX7_meet 38 = .ok (.istore_n 3, 1) := by decide +kernel
theorem dX7_meet_39 : decode cX7_meet 39 = .ok (.goto (-10), 3) := by decide +kernel
theorem dX7_meet_42 : decode cX7_meet 42 = .ok (.iload_n 3, 1) := by decide +kernel
theorem dX7_meet_43 : decode cX7_meet 43 = .ok (.ireturn, 1) := by decide +kernel
theorem dX7_sum_0 : decode cX7_sum 0 = .ok (.iload_n 1, 1) := by decide +kernel
theorem dX7_sum_1 : decode cX7_sum 1 = .ok (.ifCond .lt 21, 3) := by decide +kernel
theorem dX7_sum_4 : decode cX7_sum 4 = .ok (.iload_n 1, 1) := by decide +kernel
theorem dX7_sum_5 : decode cX7_sum 5 = .ok (.iconst 1, 1) := by decide +kernel
theorem dX7_sum_6 : decode cX7_sum 6 = .ok (.aload_n 0, 1) := by decide +kernel
theorem dX7_sum_7 : decode cX7_sum 7 = .ok (.getfield 59, 3) := by decide +kernel
theorem dX7_sum_10 : decode cX7_sum 10 = .ok (.ishl, 1) := by decide +kernel
theorem dX7_sum_11 : decode cX7_sum 11 = .ok (.if_icmp .ge 11, 3) := by decide +kernel
theorem dX7_sum_14 : decode cX7_sum 14 = .ok (.aload_n 0, 1) := by decide +kernel
theorem dX7_sum_15 : decode cX7_sum 15 = .ok (.iload_n 1, 1) := by decide +kernel
theorem dX7_sum_16 : decode cX7_sum 16 = .ok (.invokevirtual 288, 3) := by decide +kernel
theorem dX7_sum_19 : decode cX7_sum 19 = .ok (.goto 9, 3) := by decide +kernel
theorem dX7_sum_22 : decode cX7_sum 22 = .ok (.aload_n 0, 1) := by decide +kernel
theorem dX7_sum_23 : decode cX7_sum 23 = .ok (.bipush (-2), 2) := by decide +kernel
theorem dX7_sum_25 : decode cX7_sum 25 = .ok (.invokevirtual 69, 3) := by decide +kernel
theorem dX7_sum_28 : decode cX7_sum 28 = .ok (.ireturn, 1) := by decide +kernel
theorem dX7_reached_0 : decode cX7_reached 0 = .ok (.iload_n 1, 1) := by decide +kernel
theorem dX7_reached_1 : decode cX7_reached 1 = .ok (.iconst 0, 1) := by decide +kernel
theorem dX7_reached_2 : decode cX7_reached 2 = .ok (.sipush 999, 3) := by decide +kernel
theorem dX7_reached_5 : decode cX7_reached 5 = .ok (.invokestatic 55, 3) := by decide +kernel
theorem dX7_reached_8 : decode cX7_reached 8 = .ok (.ifCond .ne 10, 3) := by decide +kernel
theorem dX7_reached_11 : decode cX7_reached 11 = .ok (.aload_n 0, 1) := by decide +kernel
theorem dX7_reached_12 : decode cX7_reached 12 = .ok (.bipush (-2), 2) := by decide +kernel
theorem dX7_reached_14 : decode cX7_reached 14 = .ok (.invokevirtual 69, 3) := by decide +kernel
theorem dX7_reached_17 : decode cX7_reached 17 = .ok (.ireturn, 1) := by decide +kernel
theorem dX7_reached_18 : decode cX7_reached 18 = .ok (.iconst 0, 1) := by decide +kernel
theorem dX7_reached_19 : decode cX7_reached 19 = .ok (.istore_n 2, 1) := by decide +kernel
theorem dX7_reached_20 : decode cX7_reached 20 = .ok (.iload_n 2, 1) := by decide +kernel
theorem dX7_reached_21 : decode cX7_reached 21 = .ok (.sipush 1000, 3) := by decide +kernel
theorem dX7_reached_24 : decode cX7_reached 24 = .ok (.if_icmp .ge 16, 3) := by decide +kernel
theorem dX7_reached_27 : decode cX7_reached 27 = .ok (.aload_n 0, 1) := by decide +kernel
theorem dX7_reached_28 : decode cX7_reached 28 = .ok (.getfield 41, 3) := by decide +kernel
theorem dX7_reached_31 : decode cX7_reached 31 = .ok (.iload_n 2, 1) := by decide +kernel
theorem dX7_reached_32 : decode cX7_reached 32 = .ok (.iconst 0, 1) := by decide +kernel
theorem dX7_reached_33 : decode cX7_reached 33 = .ok (.bastore, 1) := by decide +kernel
theorem dX7_reached_34 : decode cX7_reached 34 = .ok (.iinc 2 1, 3) := by decide +kernel
theorem dX7_reached_37 : decode cX7_reached 37 = .ok (.goto (-17), 3) := by decide +kernel
theorem dX7_reached_40 : decode cX7_reached 40 = .ok (.iconst 0, 1) := by decide +kernel
theorem dX7_reached_41 : decode cX7_reached 41 = .ok (.istore_n 2, 1) := by decide +kernel
theorem dX7_reached_42 : decode cX7_reached 42 = .ok (.iload_n 2, 1) := by decide +kernel
theorem dX7_reached_43 : decode cX7_reached 43 = .ok (.iconst 1, 1) := by decide +kernel
theorem dX7_reached_44 : decode cX7_reached 44 = .ok (.aload_n 0, 1) := by decide +kernel
theorem dX7_reached_45 : decode cX7_reached 45 = .ok (.getfield 59, 3) := by decide +kernel
theorem dX7_reached_48 : decode cX7_reached 48 = .ok (.ishl, 1) := by decide +kernel
theorem dX7_reached_49 : decode cX7_reached 49 = .ok (.if_icmp .ge 20, 3) := by decide +kernel
theorem dX7_reached_52 : decode cX7_reached 52 = .ok (.aload_n 0, 1) := by decide +kernel
theorem dX7_reached_53 : decode cX7_reached 53 = .ok (.getfield 41, 3) := by decide +kernel
theorem dX7_reached_56 : decode cX7_reached 56 = .ok (.aload_n 0, 1) := by decide +kernel
theorem dX7_reached_57 : decode cX7_reached 57 = .ok (.iload_n 2, 1) := by decide +kernel
theorem dX7_reached_58 : decode cX7_reached 58 = .ok (.invokevirtual 288, 3) := by decide +kernel
theorem dX7_reached_61 : decode cX7_reached 61 = .ok (.iconst 1, 1) := by decide +kernel
theorem dX7_reached_62 : decode cX7_reached 62 = .ok (.bastore, 1) := by decide +kernel
theorem dX7_reached_63 : decode cX7_reached 63 = .ok (.iinc 2 1, 3) := by decide +kernel
theorem dX7_reached_66 : decode cX7_reached 66 = .ok (.goto (-24), 3) := by decide +kernel
theorem dX7_reached_69 : decode cX7_reached 69 = .ok (.iconst 0, 1) := by decide +kernel
theorem dX7_reached_70 : decode cX7_reached 70 = .ok (.istore_n 2, 1) := by decide +kernel
theorem dX7_reached_71 : decode cX7_reached 71 = .ok (.iconst 0, 1) := by decide +kernel
theorem dX7_reached_72 : decode cX7_reached 72 = .ok (.istore_n 3, 1) := by decide +kernel
theorem dX7_reached_73 : decode cX7_reached 73 = .ok (.iload_n 3, 1) := by decide +kernel
theorem dX7_reached_74 : decode cX7_reached 74 = .ok (.iload_n 1, 1) := by decide +kernel
theorem dX7_reached_75 : decode cX7_reached 75 = .ok (.if_icmp .gt 21, 3) := by decide +kernel
theorem dX7_reached_78 : decode cX7_reached 78 = .ok (.aload_n 0, 1) := by decide +kernel
theorem dX7_reached_79 : decode cX7_reached 79 = .ok (.getfield 41, 3) := by decide +kernel
theorem dX7_reached_82 : decode cX7_reached 82 = .ok (.iload_n 3, 1) := by decide +kernel
theorem dX7_reached_83 : decode cX7_reached 83 = .ok (.baload, 1) := by decide +kernel
theorem dX7_reached_84 : decode cX7_reached 84 = .ok (.ifCond .eq 6, 3) := by decide +kernel
theorem dX7_reached_87 : decode cX7_reached 87 = .ok (.iinc 2 1, 3) := by decide +kernel
theorem dX7_reached_90 : decode cX7_reached 90 = .ok (.iinc 3 1, 3) := by decide +kernel
theorem dX7_reached_93 : decode cX7_reached 93 = .ok (.goto (-20), 3) := by decide +kernel
theorem dX7_reached_96 : decode cX7_reached 96 = .ok (.iload_n 2, 1) := by decide +kernel
theorem dX7_reached_97 : decode cX7_reached 97 = .ok (.ireturn, 1) := by decide +kernel
theorem dX7_halves_0 : decode cX7_halves 0 = .ok (.aload_n 0, 1) := by decide +kernel
theorem dX7_halves_1 : decode cX7_halves 1 = .ok (.iconst 1, 1) := by decide +kernel
theorem dX7_halves_2 : decode cX7_halves 2 = .ok (.aload_n 0, 1) := by decide +kernel
theorem dX7_halves_3 : decode cX7_halves 3 = .ok (.getfield 59, 3) := by decide +kernel
theorem dX7_halves_6 : decode cX7_halves 6 = .ok (.ishl, 1) := by decide +kernel
theorem dX7_halves_7 : decode cX7_halves 7 = .ok (.iconst 1, 1) := by decide +kernel
theorem dX7_halves_8 : decode cX7_halves 8 = .ok (.isub, 1) := by decide +kernel
theorem dX7_halves_9 : decode cX7_halves 9 = .ok (.invokevirtual 288, 3) := by decide +kernel
theorem dX7_halves_12 : decode cX7_halves 12 = .ok (.istore_n 1, 1) := by decide +kernel
theorem dX7_halves_13 : decode cX7_halves 13 = .ok (.iconst 0, 1) := by decide +kernel
theorem dX7_halves_14 : decode cX7_halves 14 = .ok (.istore_n 2, 1) := by decide +kernel
theorem dX7_halves_15 : decode cX7_halves 15 = .ok (.iconst 1, 1) := by decide +kernel
theorem dX7_halves_16 : decode cX7_halves 16 = .ok (.istore_n 3, 1) := by decide +kernel
theorem dX7_halves_17 : decode cX7_halves 17 = .ok (.iload_n 3, 1) := by decide +kernel
theorem dX7_halves_18 : decode cX7_halves 18 = .ok (.iconst 1, 1) := by decide +kernel
theorem dX7_halves_19 : decode cX7_halves 19 = .ok (.aload_n 0, 1) := by decide +kernel
theorem dX7_halves_20 : decode cX7_halves 20 = .ok (.getfield 59, 3) := by decide +kernel
theorem dX7_halves_23 : decode cX7_halves 23 = .ok (.ishl, 1) := by decide +kernel
theorem dX7_halves_24 : decode cX7_halves 24 = .ok (.if_icmp .ge 38, 3) := by decide +kernel
theorem dX7_halves_27 : decode cX7_halves 27 = .ok (.iconst 2, 1) := by decide +kernel
theorem dX7_halves_28 : decode cX7_halves 28 = .ok (.aload_n 0, 1) := by decide +kernel
theorem dX7_halves_29 : decode cX7_halves 29 = .ok (.iload_n 3, 1) := by decide +kernel
theorem dX7_halves_30 : decode cX7_halves 30 = .ok (.invokevirtual 288, 3) := by decide +kernel
theorem dX7_halves_33 : decode cX7_halves 33 = .ok (.imul, 1) := by decide +kernel
theorem dX7_halves_34 : decode cX7_halves 34 = .ok (.iload_n 1, 1) := by decide +kernel
theorem dX7_halves_35 : decode cX7_halves 35 = .ok (.isub, 1) := by decide +kernel
theorem dX7_halves_36 : decode cX7_halves 36 = .ok (.invokestatic 291, 3) := by decide +kernel
theorem dX7_halves_39 : decode cX7_halves 39 = .ok (.iconst 2, 1) := by decide +kernel
theorem dX7_halves_40 : decode cX7_halves 40 = .ok (.aload_n 0, 1) := by decide +kernel
theorem dX7_halves_41 : decode cX7_halves 41 = .ok (.iload_n 2, 1) := by decide +kernel
theorem dX7_halves_42 : decode cX7_halves 42 = .ok (.invokevirtual 288, 3) := by decide +kernel
theorem dX7_halves_45 : decode cX7_halves 45 = .ok (.imul, 1) := by decide +kernel
theorem dX7_halves_46 : decode cX7_halves 46 = .ok (.iload_n 1, 1) := by decide +kernel
theorem dX7_halves_47 : decode cX7_halves 47 = .ok (.isub, 1) := by decide +kernel
theorem dX7_halves_48 : decode cX7_halves 48 = .ok (.invokestatic 291, 3) := by decide +kernel
theorem dX7_halves_51 : decode cX7_halves 51 = .ok (.if_icmp .ge 5, 3) := by decide +kernel
theorem dX7_halves_54 : decode cX7_halves 54 = .ok (.iload_n 3, 1) := by decide +kernel
theorem dX7_halves_55 : decode cX7_halves 55 = .ok (.istore_n 2, 1) := by decide +kernel
theorem dX7_halves_56 : decode cX7_halves 56 = .ok (.iinc 3 1, 3) := by decide +kernel
theorem dX7_halves_59 : decode cX7_halves 59 = .ok (.goto (-42), 3) := by decide +kernel
theorem dX7_halves_62 : decode cX7_halves 62 = .ok (.iload_n 2, 1) := by decide +kernel
theorem dX7_halves_63 : decode cX7_halves 63 = .ok (.ireturn, 1) := by decide +kernel
theorem dX7_ranked_0 : decode cX7_ranked 0 = .ok (.aload_n 0, 1) := by decide +kernel
theorem dX7_ranked_1 : decode cX7_ranked 1 = .ok (.iload_n 1, 1) := by decide +kernel
theorem dX7_ranked_2 : decode cX7_ranked 2 = .ok (.invokevirtual 184, 3) := by decide +kernel
theorem dX7_ranked_5 : decode cX7_ranked 5 = .ok (.ifCond .ne 10, 3) := by decide +kernel
theorem dX7_ranked_8 : decode cX7_ranked 8 = .ok (.aload_n 0, 1) := by decide +kernel
theorem dX7_ranked_9 : decode cX7_ranked 9 = .ok (.bipush (-2), 2) := by decide +kernel
theorem dX7_ranked_11 : decode cX7_ranked 11 = .ok (.invokevirtual 69, 3) := by decide +kernel
theorem dX7_ranked_14 : decode cX7_ranked 14 = .ok (.ireturn, 1) := by decide +kernel
theorem dX7_ranked_15 : decode cX7_ranked 15 = .ok (.iconst 0, 1) := by decide +kernel
theorem dX7_ranked_16 : decode cX7_ranked 16 = .ok (.istore_n 2, 1) := by decide +kernel
theorem dX7_ranked_17 : decode cX7_ranked 17 = .ok (.iload_n 2, 1) := by decide +kernel
theorem dX7_ranked_18 : decode cX7_ranked 18 = .ok (.aload_n 0, 1) := by decide +kernel
theorem dX7_ranked_19 : decode cX7_ranked 19 = .ok (.getfield 59, 3) := by decide +kernel
theorem dX7_ranked_22 : decode cX7_ranked 22 = .ok (.if_icmp .ge 77, 3) := by decide +kernel
theorem dX7_ranked_25 : decode cX7_ranked 25 = .ok (.iconst 0, 1) := by decide +kernel
theorem dX7_ranked_26 : decode cX7_ranked 26 = .ok (.istore_n 3, 1) := by decide +kernel
theorem dX7_ranked_27 : decode cX7_ranked 27 = .ok (.iconst 0, 1) := by decide +kernel
theorem dX7_ranked_28 : decode cX7_ranked 28 = .ok (.istore 4, 2) := by decide +kernel
theorem dX7_ranked_30 : decode cX7_ranked 30 = .ok (.iload 4, 2) := by decide +kernel
theorem dX7_ranked_32 : decode cX7_ranked 32 = .ok (.aload_n 0, 1) := by decide +kernel
theorem dX7_ranked_33 : decode cX7_ranked 33 = .ok (.getfield 59, 3) := by decide +kernel
theorem dX7_ranked_36 : decode cX7_ranked 36 = .ok (.if_icmp .ge 50, 3) := by decide +kernel
theorem dX7_ranked_39 : decode cX7_ranked 39 = .ok (.aload_n 0, 1) := by decide +kernel
theorem dX7_ranked_40 : decode cX7_ranked 40 = .ok (.getfield 16, 3) := by decide +kernel
theorem dX7_ranked_43 : decode cX7_ranked 43 = .ok (.iload 4, 2) := by decide +kernel
theorem dX7_ranked_45 : decode cX7_ranked 45 = .ok (.iaload, 1) := by decide +kernel
theorem dX7_ranked_46 : decode cX7_ranked 46 = .ok (.aload_n 0, 1) := by decide +kernel
theorem dX7_ranked_47 : decode cX7_ranked 47 = .ok (.getfield 16, 3) := by decide +kernel
theorem dX7_ranked_50 : decode cX7_ranked 50 = .ok (.iload_n 2, 1) := by decide +kernel
theorem dX7_ranked_51 : decode cX7_ranked 51 = .ok (.iaload, 1) := by decide +kernel
theorem dX7_ranked_52 : decode cX7_ranked 52 = .ok (.if_icmp .lt 25, 3) := by decide +kernel
theorem dX7_ranked_55 : decode cX7_ranked 55 = .ok (.aload_n 0, 1) := by decide +kernel
theorem dX7_ranked_56 : decode cX7_ranked 56 = .ok (.getfield 16, 3) := by decide +kernel
theorem dX7_ranked_59 : decode cX7_ranked 59 = .ok (.iload 4, 2) := by decide +kernel
theorem dX7_ranked_61 : decode cX7_ranked 61 = .ok (.iaload, 1) := by decide +kernel
theorem dX7_ranked_62 : decode cX7_ranked 62 = .ok (.aload_n 0, 1) := by decide +kernel
theorem dX7_ranked_63 : decode cX7_ranked 63 = .ok (.getfield 16, 3) := by decide +kernel
theorem dX7_ranked_66 : decode cX7_ranked 66 = .ok (.iload_n 2, 1) := by decide +kernel
theorem dX7_ranked_67 : decode cX7_ranked 67 = .ok (.iaload, 1) := by decide +kernel
theorem dX7_ranked_68 : decode cX7_ranked 68 = .ok (.if_icmp .ne 12, 3) := by decide +kernel
theorem dX7_ranked_71 : decode cX7_ranked 71 = .ok (.iload 4, 2) := by decide +kernel
theorem dX7_ranked_73 : decode cX7_ranked 73 = .ok (.iload_n 2, 1) := by decide +kernel
theorem dX7_ranked_74 : decode cX7_ranked 74 = .ok (.if_icmp .ge 6, 3) := by decide +kernel
theorem dX7_ranked_77 : decode cX7_ranked 77 = .ok (.iinc 3 1, 3) := by decide +kernel
theorem dX7_ranked_80 : decode cX7_ranked 80 = .ok (.iinc 4 1, 3) := by decide +kernel
theorem dX7_ranked_83 : decode cX7_ranked 83 = .ok (.goto (-53), 3) := by decide +kernel
theorem dX7_ranked_86 : decode cX7_ranked 86 = .ok (.iload_n 3, 1) := by decide +kernel
theorem dX7_ranked_87 : decode cX7_ranked 87 = .ok (.iload_n 1, 1) := by decide +kernel
theorem dX7_ranked_88 : decode cX7_ranked 88 = .ok (.if_icmp .ne 5, 3) := by decide +kernel
theorem dX7_ranked_91 : decode cX7_ranked 91 = .ok (.iload_n 2, 1) := by decide +kernel
theorem dX7_ranked_92 : decode cX7_ranked 92 = .ok (.ireturn, 1) := by decide +kernel
theorem dX7_ranked_93 : decode cX7_ranked 93 = .ok (.iinc 2 1, 3) := by decide +kernel
theorem dX7_ranked_96 : decode cX7_ranked 96 = .ok (.goto (-79), 3) := by decide +kernel
theorem dX7_ranked_99 : decode cX7_ranked 99 = .ok (.iconst (-1), 1) := by decide +kernel
theorem dX7_ranked_100 : decode cX7_ranked 100 = .ok (.ireturn, 1) := by decide +kernel
theorem dX7_oldest_0 : decode cX7_oldest 0 = .ok (.aload_n 0, 1) := by decide +kernel
theorem dX7_oldest_1 : decode cX7_oldest 1 = .ok (.getfield 59, 3) := by decide +kernel
theorem dX7_oldest_4 : decode cX7_oldest 4 = .ok (.ifCond .ne 10, 3) := by decide +kernel
theorem dX7_oldest_7 : decode cX7_oldest 7 = .ok (.aload_n 0, 1) := by decide +kernel
theorem dX7_oldest_8 : decode cX7_oldest 8 = .ok (.bipush (-5), 2) := by decide +kernel
theorem dX7_oldest_10 : decode cX7_oldest 10 = .ok (.invokevirtual 69, 3) := by decide +kernel
theorem dX7_oldest_13 : decode cX7_oldest 13 = .ok (.ireturn, 1) := by decide +kernel
theorem dX7_oldest_14 : decode cX7_oldest 14 = .ok (.iconst 0, 1) := by decide +kernel
theorem dX7_oldest_15 : decode cX7_oldest 15 = .ok (.istore_n 1, 1) := by decide +kernel
theorem dX7_oldest_16 : decode cX7_oldest 16 = .ok (.iconst 1, 1) := by decide +kernel
theorem dX7_oldest_17 : decode cX7_oldest 17 = .ok (.istore_n 2, 1) := by decide +kernel
theorem dX7_oldest_18 : decode cX7_oldest 18 = .ok (.iload_n 2, 1) := by decide +kernel
theorem dX7_oldest_19 : decode cX7_oldest 19 = .ok (.aload_n 0, 1) := by decide +kernel
theorem dX7_oldest_20 : decode cX7_oldest 20 = .ok (.getfield 59, 3) := by decide +kernel
theorem dX7_oldest_23 : decode cX7_oldest 23 = .ok (.if_icmp .ge 26, 3) := by decide +kernel
theorem dX7_oldest_26 : decode cX7_oldest 26 = .ok (.aload_n 0, 1) := by decide +kernel
theorem dX7_oldest_27 : decode cX7_oldest 27 = .ok (.getfield 16, 3) := by decide +kernel
theorem dX7_oldest_30 : decode cX7_oldest 30 = .ok (.iload_n 2, 1) := by decide +kernel
theorem dX7_oldest_31 : decode cX7_oldest 31 = .ok (.iaload, 1) := by decide +kernel
theorem dX7_oldest_32 : decode cX7_oldest 32 = .ok (.aload_n 0, 1) := by decide +kernel
theorem dX7_oldest_33 : decode cX7_oldest 33 = .ok (.getfield 16, 3) := by decide +kernel
theorem dX7_oldest_36 : decode cX7_oldest 36 = .ok (.iload_n 1, 1) := by decide +kernel
theorem dX7_oldest_37 : decode cX7_oldest 37 = .ok (.iaload, 1) := by decide +kernel
theorem dX7_oldest_38 : decode cX7_oldest 38 = .ok (.if_icmp .le 5, 3) := by decide +kernel
theorem dX7_oldest_41 : decode cX7_oldest 41 = .ok (.iload_n 2, 1) := by decide +kernel
theorem dX7_oldest_42 : decode cX7_oldest 42 = .ok (.istore_n 1, 1) := by decide +kernel
theorem dX7_oldest_43 : decode cX7_oldest 43 = .ok (.iinc 2 1, 3) := by decide +kernel
theorem dX7_oldest_46 : decode cX7_oldest 46 = .ok (.goto (-28), 3) := by decide +kernel
theorem dX7_oldest_49 : decode cX7_oldest 49 = .ok (.iload_n 1, 1) := by decide +kernel
theorem dX7_oldest_50 : decode cX7_oldest 50 = .ok (.ireturn, 1) := by decide +kernel
theorem dX7_toldAt_0 : decode cX7_toldAt 0 = .ok (.aload_n 0, 1) := by decide +kernel
theorem dX7_toldAt_1 : decode cX7_toldAt 1 = .ok (.getfield 28, 3) := by decide +kernel
theorem dX7_toldAt_4 : decode cX7_toldAt 4 = .ok (.bipush 40, 2) := by decide +kernel
theorem dX7_toldAt_6 : decode cX7_toldAt 6 = .ok (.iload_n 1, 1) := by decide +kernel
theorem dX7_toldAt_7 : decode cX7_toldAt 7 = .ok (.imul, 1) := by decide +kernel
theorem dX7_toldAt_8 : decode cX7_toldAt 8 = .ok (.iload_n 2, 1) := by decide +kernel
theorem dX7_toldAt_9 : decode cX7_toldAt 9 = .ok (.iadd, 1) := by decide +kernel
theorem dX7_toldAt_10 : decode cX7_toldAt 10 = .ok (.laload, 1) := by decide +kernel
theorem dX7_toldAt_11 : decode cX7_toldAt 11 = .ok (.lreturn, 1) := by decide +kernel
theorem dX7_noRing_0 : decode cX7_noRing 0 = .ok (.iload_n 1, 1) := by decide +kernel
theorem dX7_noRing_1 : decode cX7_noRing 1 = .ok (.invokestatic 65, 3) := by decide +kernel
theorem dX7_noRing_4 : decode cX7_noRing 4 = .ok (.ifCond .eq 13, 3) := by decide +kernel
theorem dX7_noRing_7 : decode cX7_noRing 7 = .ok (.iload_n 2, 1) := by decide +kernel
theorem dX7_noRing_8 : decode cX7_noRing 8 = .ok (.iconst 0, 1) := by decide +kernel
theorem dX7_noRing_9 : decode cX7_noRing 9 = .ok (.bipush 40, 2) := by decide +kernel
theorem dX7_noRing_11 : decode cX7_noRing 11 = .ok (.invokestatic 55, 3) := by decide +kernel
theorem dX7_noRing_14 : decode cX7_noRing 14 = .ok (.ifCond .ne 6, 3) := by decide +kernel
theorem dX7_noRing_17 : decode cX7_noRing 17 = .ok (.bipush (-2), 2) := by decide +kernel
theorem dX7_noRing_19 : decode cX7_noRing 19 = .ok (.ireturn, 1) := by decide +kernel
theorem dX7_noRing_20 : decode cX7_noRing 20 = .ok (.aload_n 0, 1) := by decide +kernel
theorem dX7_noRing_21 : decode cX7_noRing 21 = .ok (.iload_n 1, 1) := by decide +kernel
theorem dX7_noRing_22 : decode cX7_noRing 22 = .ok (.invokevirtual 73, 3) := by decide +kernel
theorem dX7_noRing_25 : decode cX7_noRing 25 = .ok (.ifCond .ne 11, 3) := by decide +kernel
theorem dX7_noRing_28 : decode cX7_noRing 28 = .ok (.aload_n 0, 1) := by decide +kernel
theorem dX7_noRing_29 : decode cX7_noRing 29 = .ok (.iload_n 1, 1) := by decide +kernel
theorem dX7_noRing_30 : decode cX7_noRing 30 = .ok (.invokevirtual 76, 3) := by decide +kernel
theorem dX7_noRing_33 : decode cX7_noRing 33 = .ok (.goto 19, 3) := by decide +kernel
theorem dX7_noRing_36 : decode cX7_noRing 36 = .ok (.iload_n 2, 1) := by decide +kernel
theorem dX7_noRing_37 : decode cX7_noRing 37 = .ok (.aload_n 0, 1) := by decide +kernel
theorem dX7_noRing_38 : decode cX7_noRing 38 = .ok (.getfield 25, 3) := by decide +kernel
theorem dX7_noRing_41 : decode cX7_noRing 41 = .ok (.iload_n 1, 1) := by decide +kernel
theorem dX7_noRing_42 : decode cX7_noRing 42 = .ok (.iaload, 1) := by decide +kernel
theorem dX7_noRing_43 : decode cX7_noRing 43 = .ok (.if_icmp .le 8, 3) := by decide +kernel
theorem dX7_noRing_46 : decode cX7_noRing 46 = .ok (.bipush (-2), 2) := by decide +kernel
theorem dX7_noRing_48 : decode cX7_noRing 48 = .ok (.goto 4, 3) := by decide +kernel
theorem dX7_noRing_51 : decode cX7_noRing 51 = .ok (.iconst 0, 1) := by decide +kernel
theorem dX7_noRing_52 : decode cX7_noRing 52 = .ok (.ireturn, 1) := by decide +kernel
theorem dX7_wrong_0 : decode cX7_wrong 0 = .ok (.iconst 0, 1) := by decide +kernel
theorem dX7_wrong_1 : decode cX7_wrong 1 = .ok (.istore_n 3, 1) := by decide +kernel
theorem dX7_wrong_2 : decode cX7_wrong 2 = .ok (.iload_n 3, 1) := by decide +kernel
theorem dX7_wrong_3 : decode cX7_wrong 3 = .ok (.iload_n 2, 1) := by decide +kernel
theorem dX7_wrong_4 : decode cX7_wrong 4 = .ok (.if_icmp .ge 33, 3) := by decide +kernel
theorem dX7_wrong_7 : decode cX7_wrong 7 = .ok (.aload_n 0, 1) := by decide +kernel
theorem dX7_wrong_8 : decode cX7_wrong 8 = .ok (.iload_n 1, 1) := by decide +kernel
theorem dX7_wrong_9 : decode cX7_wrong 9 = .ok (.iload_n 3, 1) := by decide +kernel
theorem dX7_wrong_10 : decode cX7_wrong 10 = .ok (.invokevirtual 294, 3) := by decide +kernel
theorem dX7_wrong_13 : decode cX7_wrong 13 = .ok (.lconst 0, 1) := by decide +kernel
theorem dX7_wrong_14 : decode cX7_wrong 14 = .ok (.lcmp, 1) := by decide +kernel
theorem dX7_wrong_15 : decode cX7_wrong 15 = .ok (.ifCond .eq 16, 3) := by decide +kernel
theorem dX7_wrong_18 : decode cX7_wrong 18 = .ok (.aload_n 0, 1) := by decide +kernel
theorem dX7_wrong_19 : decode cX7_wrong 19 = .ok (.iload_n 1, 1) := by decide +kernel
theorem dX7_wrong_20 : decode cX7_wrong 20 = .ok (.iload_n 3, 1) := by decide +kernel
theorem dX7_wrong_21 : decode cX7_wrong 21 = .ok (.invokevirtual 294, 3) := by decide +kernel
theorem dX7_wrong_24 : decode cX7_wrong 24 = .ok (.lconst 1, 1) := by decide +kernel
theorem dX7_wrong_25 : decode cX7_wrong 25 = .ok (.lcmp, 1) := by decide +kernel
theorem dX7_wrong_26 : decode cX7_wrong 26 = .ok (.ifCond .eq 5, 3) := by decide +kernel
theorem dX7_wrong_29 : decode cX7_wrong 29 = .ok (.iload_n 3, 1) := by decide +kernel
theorem dX7_wrong_30 : decode cX7_wrong 30 = .ok (.ireturn, 1) := by decide +kernel
theorem dX7_wrong_31 : decode cX7_wrong 31 = .ok (.iinc 3 1, 3) := by decide +kernel
theorem dX7_wrong_34 : decode cX7_wrong 34 = .ok (.goto (-32), 3) := by decide +kernel
theorem dX7_wrong_37 : decode cX7_wrong 37 = .ok (.iconst (-1), 1) := by decide +kernel
theorem dX7_wrong_38 : decode cX7_wrong 38 = .ok (.ireturn, 1) := by decide +kernel
theorem dX7_told_0 : decode cX7_told 0 = .ok (.lconst 0, 1) := by decide +kernel
theorem dX7_told_1 : decode cX7_told 1 = .ok (.lstore_n 3, 1) := by decide +kernel
theorem dX7_told_2 : decode cX7_told 2 = .ok (.iconst 0, 1) := by decide +kernel
theorem dX7_told_3 : decode cX7_told 3 = .ok (.istore 5, 2) := by decide +kernel
theorem dX7_told_5 : decode cX7_told 5 = .ok (.iload 5, 2) := by decide +kernel
theorem dX7_told_7 : decode cX7_told 7 = .ok (.iload_n 2, 1) := by decide +kernel
theorem dX7_told_8 : decode cX7_told 8 = .ok (.if_icmp .ge 28, 3) := by decide +kernel
theorem dX7_told_11 : decode cX7_told 11 = .ok (.aload_n 0, 1) := by decide +kernel
theorem dX7_told_12 : decode cX7_told 12 = .ok (.iload_n 1, 1) := by decide +kernel
theorem dX7_told_13 : decode cX7_told 13 = .ok (.iload 5, 2) := by decide +kernel
theorem dX7_told_15 : decode cX7_told 15 = .ok (.invokevirtual 294, 3) := by decide +kernel
theorem dX7_told_18 : decode cX7_told 18 = .ok (.lconst 1, 1) := by decide +kernel
theorem dX7_told_19 : decode cX7_told 19 = .ok (.lcmp, 1) := by decide +kernel
theorem dX7_told_20 : decode cX7_told 20 = .ok (.ifCond .ne 10, 3) := by decide +kernel
theorem dX7_told_23 : decode cX7_told 23 = .ok (.lload_n 3, 1) := by decide +kernel
theorem dX7_told_24 : decode cX7_told 24 = .ok (.lconst 1, 1) := by decide +kernel
theorem dX7_told_25 : decode cX7_told 25 = .ok (.iload 5, 2) := by decide +kernel
theorem dX7_told_27 : decode cX7_told 27 = .ok (.lshl, 1) := by decide +kernel
theorem dX7_told_28 : decode cX7_told 28 = .ok (.lor, 1) := by decide +kernel
theorem dX7_told_29 : decode cX7_told 29 = .ok (.lstore_n 3, 1) := by decide +kernel
theorem dX7_told_30 : decode cX7_told 30 = .ok (.iinc 5 1, 3) := by decide +kernel
theorem dX7_told_33 : decode cX7_told 33 = .ok (.goto (-28), 3) := by decide +kernel
theorem dX7_told_36 : decode cX7_told 36 = .ok (.lload_n 3, 1) := by decide +kernel
theorem dX7_told_37 : decode cX7_told 37 = .ok (.lreturn, 1) := by decide +kernel
theorem dX7_judge_0 : decode cX7_judge 0 = .ok (.aload_n 0, 1) := by decide +kernel
theorem dX7_judge_1 : decode cX7_judge 1 = .ok (.iload_n 1, 1) := by decide +kernel
theorem dX7_judge_2 : decode cX7_judge 2 = .ok (.iload_n 2, 1) := by decide +kernel
theorem dX7_judge_3 : decode cX7_judge 3 = .ok (.invokevirtual 298, 3) := by decide +kernel
theorem dX7_judge_6 : decode cX7_judge 6 = .ok (.istore_n 3, 1) := by decide +kernel
theorem dX7_judge_7 : decode cX7_judge 7 = .ok (.iload_n 3, 1) := by decide +kernel
theorem dX7_judge_8 : decode cX7_judge 8 = .ok (.ifCond .ge 11, 3) := by decide +kernel
theorem dX7_judge_11 : decode cX7_judge 11 = .ok (.aload_n 0, 1) := by decide +kernel
theorem dX7_judge_12 : decode cX7_judge 12 = .ok (.iload_n 3, 1) := by decide +kernel
theorem dX7_judge_13 : decode cX7_judge 13 = .ok (.invokevirtual 69, 3) := by decide +kernel
theorem dX7_judge_16 : decode cX7_judge 16 = .ok (.goto 9, 3) := by decide +kernel
theorem dX7_judge_19 : decode cX7_judge 19 = .ok (.aload_n 0, 1) := by decide +kernel
theorem dX7_judge_20 : decode cX7_judge 20 = .ok (.iload_n 1, 1) := by decide +kernel
theorem dX7_judge_21 : decode cX7_judge 21 = .ok (.iload_n 2, 1) := by decide +kernel
theorem dX7_judge_22 : decode cX7_judge 22 = .ok (.invokevirtual 301, 3) := by decide +kernel
theorem dX7_judge_25 : decode cX7_judge 25 = .ok (.ireturn, 1) := by decide +kernel
theorem dX7_answers_0 : decode cX7_answers 0 = .ok (.iload_n 3, 1) := by decide +kernel
theorem dX7_answers_1 : decode cX7_answers 1 = .ok (.iconst 0, 1) := by decide +kernel
theorem dX7_answers_2 : decode cX7_answers 2 = .ok (.iconst 2, 1) := by decide +kernel
theorem dX7_answers_3 : decode cX7_answers 3 = .ok (.invokestatic 55, 3) := by decide +kernel
theorem dX7_answers_6 : decode cX7_answers 6 = .ok (.ifCond .ne 10, 3) := by decide +kernel
theorem dX7_answers_9 : decode cX7_answers 9 = .ok (.aload_n 0, 1) := by decide +kernel
theorem dX7_answers_10 : decode cX7_answers 10 = .ok (.bipush (-2), 2) := by decide +kernel
theorem dX7_answers_12 : decode cX7_answers 12 = .ok (.invokevirtual 69, 3) := by decide +kernel
theorem dX7_answers_15 : decode cX7_answers 15 = .ok (.ireturn, 1) := by decide +kernel
theorem dX7_answers_16 : decode cX7_answers 16 = .ok (.aload_n 0, 1) := by decide +kernel
theorem dX7_answers_17 : decode cX7_answers 17 = .ok (.iload_n 1, 1) := by decide +kernel
theorem dX7_answers_18 : decode cX7_answers 18 = .ok (.iload_n 2, 1) := by decide +kernel
theorem dX7_answers_19 : decode cX7_answers 19 = .ok (.invokevirtual 298, 3) := by decide +kernel
theorem dX7_answers_22 : decode cX7_answers 22 = .ok (.istore 4, 2) := by decide +kernel
theorem dX7_answers_24 : decode cX7_answers 24 = .ok (.iload 4, 2) := by decide +kernel
theorem dX7_answers_26 : decode cX7_answers 26 = .ok (.ifCond .ge 10, 3) := by decide +kernel
theorem dX7_answers_29 : decode cX7_answers 29 = .ok (.aload_n 0, 1) := by decide +kernel
theorem dX7_answers_30 : decode cX7_answers 30 = .ok (.iload 4, 2) := by decide +kernel
theorem dX7_answers_32 : decode cX7_answers 32 = .ok (.invokevirtual 69, 3) := by decide +kernel
theorem dX7_answers_35 : decode cX7_answers 35 = .ok (.ireturn, 1) := by decide +kernel
theorem dX7_answers_36 : decode cX7_answers 36 = .ok (.aload_n 0, 1) := by decide +kernel
theorem dX7_answers_37 : decode cX7_answers 37 = .ok (.iload_n 1, 1) := by decide +kernel
theorem dX7_answers_38 : decode cX7_answers 38 = .ok (.iload_n 2, 1) := by decide +kernel
theorem dX7_answers_39 : decode cX7_answers 39 = .ok (.invokevirtual 301, 3) := by decide +kernel
theorem dX7_answers_42 : decode cX7_answers 42 = .ok (.iconst (-1), 1) := by decide +kernel
theorem dX7_answers_43 : decode cX7_answers 43 = .ok (.if_icmp .eq 10, 3) := by decide +kernel
theorem dX7_answers_46 : decode cX7_answers 46 = .ok (.aload_n 0, 1) := by decide +kernel
theorem dX7_answers_47 : decode cX7_answers 47 = .ok (.bipush (-5), 2) := by decide +kernel
theorem dX7_answers_49 : decode cX7_answers 49 = .ok (.invokevirtual 69, 3) := by decide +kernel
theorem dX7_answers_52 : decode cX7_answers 52 = .ok (.ireturn, 1) := by decide +kernel
theorem dX7_answers_53 : decode cX7_answers 53 = .ok (.aload_n 0, 1) := by decide +kernel
theorem dX7_answers_54 : decode cX7_answers 54 = .ok (.iload_n 1, 1) := by decide +kernel
theorem dX7_answers_55 : decode cX7_answers 55 = .ok (.iload_n 2, 1) := by decide +kernel
theorem dX7_answers_56 : decode cX7_answers 56 = .ok (.invokevirtual 304, 3) := by decide +kernel
theorem dX7_answers_59 : decode cX7_answers 59 = .ok (.lstore 5, 2) := by decide +kernel
theorem dX7_answers_61 : decode cX7_answers 61 = .ok (.iload_n 3, 1) := by decide +kernel
theorem dX7_answers_62 : decode cX7_answers 62 = .ok (.ifCond .ne 13, 3) := by decide +kernel
theorem dX7_answers_65 : decode cX7_answers 65 = .ok (.aload_n 0, 1) := by decide +kernel
theorem dX7_answers_66 : decode cX7_answers 66 = .ok (.lload 5, 2) := by decide +kernel
theorem dX7_answers_68 : decode cX7_answers 68 = .ok (.iload_n 2, 1) := by decide +kernel
theorem dX7_answers_69 : decode cX7_answers 69 = .ok (.invokevirtual 240, 3) := by decide +kernel
theorem dX7_answers_72 : decode cX7_answers 72 = .ok (.goto 11, 3) := by decide +kernel
theorem dX7_answers_75 : decode cX7_answers 75 = .ok (.aload_n 0, 1) := by decide +kernel
theorem dX7_answers_76 : decode cX7_answers 76 = .ok (.lload 5, 2) := by decide +kernel
theorem dX7_answers_78 : decode cX7_answers 78 = .ok (.iload_n 2, 1) := by decide +kernel
theorem dX7_answers_79 : decode cX7_answers 79 = .ok (.iload_n 3, 1) := by decide +kernel
theorem dX7_answers_80 : decode cX7_answers 80 = .ok (.invokevirtual 225, 3) := by decide +kernel
theorem dX7_answers_83 : decode cX7_answers 83 = .ok (.ireturn, 1) := by decide +kernel
theorem dX7_rings_0 : decode cX7_rings 0 = .ok (.aload_n 0, 1) := by decide +kernel
theorem dX7_rings_1 : decode cX7_rings 1 = .ok (.iload_n 1, 1) := by decide +kernel
theorem dX7_rings_2 : decode cX7_rings 2 = .ok (.iload_n 2, 1) := by decide +kernel
theorem dX7_rings_3 : decode cX7_rings 3 = .ok (.invokevirtual 298, 3) := by decide +kernel
theorem dX7_rings_6 : decode cX7_rings 6 = .ok (.istore_n 3, 1) := by decide +kernel
theorem dX7_rings_7 : decode cX7_rings 7 = .ok (.iload_n 3, 1) := by decide +kernel
theorem dX7_rings_8 : decode cX7_rings 8 = .ok (.ifCond .ge 9, 3) := by decide +kernel
theorem dX7_rings_11 : decode cX7_rings 11 = .ok (.aload_n 0, 1) := by decide +kernel
theorem dX7_rings_12 : decode cX7_rings 12 = .ok (.iload_n 3, 1) := by decide +kernel
theorem dX7_rings_13 : decode cX7_rings 13 = .ok (.invokevirtual 69, 3) := by decide +kernel
theorem dX7_rings_16 : decode cX7_rings 16 = .ok (.ireturn, 1) := by decide +kernel
theorem dX7_rings_17 : decode cX7_rings 17 = .ok (.aload_n 0, 1) := by decide +kernel
theorem dX7_rings_18 : decode cX7_rings 18 = .ok (.iload_n 1, 1) := by decide +kernel
theorem dX7_rings_19 : decode cX7_rings 19 = .ok (.iload_n 2, 1) := by decide +kernel
theorem dX7_rings_20 : decode cX7_rings 20 = .ok (.invokevirtual 301, 3) := by decide +kernel
theorem dX7_rings_23 : decode cX7_rings 23 = .ok (.iconst (-1), 1) := by decide +kernel
theorem dX7_rings_24 : decode cX7_rings 24 = .ok (.if_icmp .eq 10, 3) := by decide +kernel
theorem dX7_rings_27 : decode cX7_rings 27 = .ok (.aload_n 0, 1) := by decide +kernel
theorem dX7_rings_28 : decode cX7_rings 28 = .ok (.bipush (-5), 2) := by decide +kernel
theorem dX7_rings_30 : decode cX7_rings 30 = .ok (.invokevirtual 69, 3) := by decide +kernel
theorem dX7_rings_33 : decode cX7_rings 33 = .ok (.ireturn, 1) := by decide +kernel
theorem dX7_rings_34 : decode cX7_rings 34 = .ok (.aload_n 0, 1) := by decide +kernel
theorem dX7_rings_35 : decode cX7_rings 35 = .ok (.aload_n 0, 1) := by decide +kernel
theorem dX7_rings_36 : decode cX7_rings 36 = .ok (.iload_n 1, 1) := by decide +kernel
theorem dX7_rings_37 : decode cX7_rings 37 = .ok (.iload_n 2, 1) := by decide +kernel
theorem dX7_rings_38 : decode cX7_rings 38 = .ok (.invokevirtual 304, 3) := by decide +kernel
theorem dX7_rings_41 : decode cX7_rings 41 = .ok (.putfield 90, 3) := by decide +kernel
theorem dX7_rings_44 : decode cX7_rings 44 = .ok (.aload_n 0, 1) := by decide +kernel
theorem dX7_rings_45 : decode cX7_rings 45 = .ok (.iload_n 2, 1) := by decide +kernel
theorem dX7_rings_46 : decode cX7_rings 46 = .ok (.putfield 62, 3) := by decide +kernel
theorem dX7_rings_49 : decode cX7_rings 49 = .ok (.iload_n 2, 1) := by decide +kernel
theorem dX7_rings_50 : decode cX7_rings 50 = .ok (.ireturn, 1) := by decide +kernel
theorem dX7_draw_0 : decode cX7_draw 0 = .ok (.aload_n 0, 1) := by decide +kernel
theorem dX7_draw_1 : decode cX7_draw 1 = .ok (.aload_n 0, 1) := by decide +kernel
theorem dX7_draw_2 : decode cX7_draw 2 = .ok (.getfield 49, 3) := by decide +kernel
theorem dX7_draw_5 : decode cX7_draw 5 = .ok (.ldc_w 307, 3) := by decide +kernel
theorem dX7_draw_8 : decode cX7_draw 8 = .ok (.imul, 1) := by decide +kernel
theorem dX7_draw_9 : decode cX7_draw 9 = .ok (.sipush 12345, 3) := by decide +kernel
theorem dX7_draw_12 : decode cX7_draw 12 = .ok (.iadd, 1) := by decide +kernel
theorem dX7_draw_13 : decode cX7_draw 13 = .ok (.putfield 49, 3) := by decide +kernel
theorem dX7_draw_16 : decode cX7_draw 16 = .ok (.aload_n 0, 1) := by decide +kernel
theorem dX7_draw_17 : decode cX7_draw 17 = .ok (.getfield 49, 3) := by decide +kernel
theorem dX7_draw_20 : decode cX7_draw 20 = .ok (.bipush 16, 2) := by decide +kernel
theorem dX7_draw_22 : decode cX7_draw 22 = .ok (.iushr, 1) := by decide +kernel
theorem dX7_draw_23 : decode cX7_draw 23 = .ok (.iload_n 1, 1) := by decide +kernel
theorem dX7_draw_24 : decode cX7_draw 24 = .ok (.irem, 1) := by decide +kernel
theorem dX7_draw_25 : decode cX7_draw 25 = .ok (.ireturn, 1) := by decide +kernel
theorem dX7_rung_0 : decode cX7_rung 0 = .ok (.aload_n 0, 1) := by decide +kernel
theorem dX7_rung_1 : decode cX7_rung 1 = .ok (.iload_n 1, 1) := by decide +kernel
theorem dX7_rung_2 : decode cX7_rung 2 = .ok (.invokevirtual 163, 3) := by decide +kernel
theorem dX7_rung_5 : decode cX7_rung 5 = .ok (.aload_n 0, 1) := by decide +kernel
theorem dX7_rung_6 : decode cX7_rung 6 = .ok (.aload_n 0, 1) := by decide +kernel
theorem dX7_rung_7 : decode cX7_rung 7 = .ok (.getfield 90, 3) := by decide +kernel
theorem dX7_rung_10 : decode cX7_rung 10 = .ok (.aload_n 0, 1) := by decide +kernel
theorem dX7_rung_11 : decode cX7_rung 11 = .ok (.getfield 62, 3) := by decide +kernel
theorem dX7_rung_14 : decode cX7_rung 14 = .ok (.aload_n 0, 1) := by decide +kernel
theorem dX7_rung_15 : decode cX7_rung 15 = .ok (.getfield 62, 3) := by decide +kernel
theorem dX7_rung_18 : decode cX7_rung 18 = .ok (.iconst 1, 1) := by decide +kernel
theorem dX7_rung_19 : decode cX7_rung 19 = .ok (.isub, 1) := by decide +kernel
theorem dX7_rung_20 : decode cX7_rung 20 = .ok (.invokevirtual 212, 3) := by decide +kernel
theorem dX7_rung_23 : decode cX7_rung 23 = .ok (.ifCond .eq 20, 3) := by decide +kernel
theorem dX7_rung_26 : decode cX7_rung 26 = .ok (.aload_n 0, 1) := by decide +kernel
theorem dX7_rung_27 : decode cX7_rung 27 = .ok (.bipush 100, 2) := by decide +kernel
theorem dX7_rung_29 : decode cX7_rung 29 = .ok (.invokevirtual 308, 3) := by decide +kernel
theorem dX7_rung_32 : decode cX7_rung 32 = .ok (.aload_n 0, 1) := by decide +kernel
theorem dX7_rung_33 : decode cX7_rung 33 = .ok (.getfield 105, 3) := by decide +kernel
theorem dX7_rung_36 : decode cX7_rung 36 = .ok (.if_icmp .lt 7, 3) := by decide +kernel
theorem dX7_rung_39 : decode cX7_rung 39 = .ok (.iconst 1, 1) := by decide +kernel
theorem dX7_rung_40 : decode cX7_rung 40 = .ok (.goto 4, 3) := by decide +kernel
theorem dX7_rung_43 : decode cX7_rung 43 = .ok (.iconst 0, 1) := by decide +kernel
theorem dX7_rung_44 : decode cX7_rung 44 = .ok (.ireturn, 1) := by decide +kernel
theorem dX7_ring_0 : decode cX7_ring 0 = .ok (.aload_n 0, 1) := by decide +kernel
theorem dX7_ring_1 : decode cX7_ring 1 = .ok (.getfield 62, 3) := by decide +kernel
theorem dX7_ring_4 : decode cX7_ring 4 = .ok (.bipush 40, 2) := by decide +kernel
theorem dX7_ring_6 : decode cX7_ring 6 = .ok (.if_icmp .ne 12, 3) := by decide +kernel
theorem dX7_ring_9 : decode cX7_ring 9 = .ok (.aload_n 0, 1) := by decide +kernel
theorem dX7_ring_10 : decode cX7_ring 10 = .ok (.bipush (-6), 2) := by decide +kernel
theorem dX7_ring_12 : decode cX7_ring 12 = .ok (.invokevirtual 69, 3) := by decide +kernel
theorem dX7_ring_15 : decode cX7_ring 15 = .ok (.goto 8, 3) := by decide +kernel
theorem dX7_ring_18 : decode cX7_ring 18 = .ok (.aload_n 0, 1) := by decide +kernel
theorem dX7_ring_19 : decode cX7_ring 19 = .ok (.iload_n 1, 1) := by decide +kernel
theorem dX7_ring_20 : decode cX7_ring 20 = .ok (.invokevirtual 311, 3) := by decide +kernel
theorem dX7_ring_23 : decode cX7_ring 23 = .ok (.ireturn, 1) := by decide +kernel
theorem dX7_days_0 : decode cX7_days 0 = .ok (.iload_n 1, 1) := by decide +kernel
theorem dX7_days_1 : decode cX7_days 1 = .ok (.iconst 1, 1) := by decide +kernel
theorem dX7_days_2 : decode cX7_days 2 = .ok (.bipush 40, 2) := by decide +kernel
theorem dX7_days_4 : decode cX7_days 4 = .ok (.invokestatic 55, 3) := by decide +kernel
theorem dX7_days_7 : decode cX7_days 7 = .ok (.ifCond .ne 10, 3) := by decide +kernel
theorem dX7_days_10 : decode cX7_days 10 = .ok (.aload_n 0, 1) := by decide +kernel
theorem dX7_days_11 : decode cX7_days 11 = .ok (.bipush (-2), 2) := by decide +kernel
theorem dX7_days_13 : decode cX7_days 13 = .ok (.invokevirtual 69, 3) := by decide +kernel
theorem dX7_days_16 : decode cX7_days 16 = .ok (.ireturn, 1) := by decide +kernel
theorem dX7_days_17 : decode cX7_days 17 = .ok (.iconst 0, 1) := by decide +kernel
theorem dX7_days_18 : decode cX7_days 18 = .ok (.istore_n 2, 1) := by decide +kernel
theorem dX7_days_19 : decode cX7_days 19 = .ok (.iconst 0, 1) := by decide +kernel
theorem dX7_days_20 : decode cX7_days 20 = .ok (.istore_n 3, 1) := by decide +kernel
theorem dX7_days_21 : decode cX7_days 21 = .ok (.iload_n 3, 1) := by decide +kernel
theorem dX7_days_22 : decode cX7_days 22 = .ok (.iload_n 1, 1) := by decide +kernel
theorem dX7_days_23 : decode cX7_days 23 = .ok (.if_icmp .ge 39, 3) := by decide +kernel
theorem dX7_days_26 : decode cX7_days 26 = .ok (.aload_n 0, 1) := by decide +kernel
theorem dX7_days_27 : decode cX7_days 27 = .ok (.getfield 62, 3) := by decide +kernel
theorem dX7_days_30 : decode cX7_days 30 = .ok (.bipush 40, 2) := by decide +kernel
theorem dX7_days_32 : decode cX7_days 32 = .ok (.if_icmp .ge 30, 3) := by decide +kernel
theorem dX7_days_35 : decode cX7_days 35 = .ok (.iload_n 2, 1) := by decide +kernel
theorem dX7_days_36 : decode cX7_days 36 = .ok (.aload_n 0, 1) := by decide +kernel
theorem dX7_days_37 : decode cX7_days 37 = .ok (.aload_n 0, 1) := by decide +kernel
theorem dX7_days_38 : decode cX7_days 38 = .ok (.iconst 2, 1) := by decide +kernel
theorem dX7_days_39 : decode cX7_days 39 = .ok (.invokevirtual 308, 3) := by decide +kernel
theorem dX7_days_42 : decode cX7_days 42 = .ok (.iconst 1, 1) := by decide +kernel
theorem dX7_days_43 : decode cX7_days 43 = .ok (.if_icmp .ne 7, 3) := by decide +kernel
theorem dX7_days_46 : decode cX7_days 46 = .ok (.iconst 1, 1) := by decide +kernel
theorem dX7_days_47 : decode cX7_days 47 = .ok (.goto 4, 3) := by decide +kernel
theorem dX7_days_50 : decode cX7_days 50 = .ok (.iconst 0, 1) := by decide +kernel
theorem dX7_days_51 : decode cX7_days 51 = .ok (.invokevirtual 311, 3) := by decide +kernel
theorem dX7_days_54 : decode cX7_days 54 = .ok (.iadd, 1) := by decide +kernel
theorem dX7_days_55 : decode cX7_days 55 = .ok (.istore_n 2, 1) := by decide +kernel
theorem dX7_days_56 : decode cX7_days 56 = .ok (.iinc 3 1, 3) := by decide +kernel
theorem dX7_days_59 : decode cX7_days 59 = .ok (.goto (-38), 3) := by decide +kernel
theorem dX7_days_62 : decode cX7_days 62 = .ok (.iload_n 2, 1) := by decide +kernel
theorem dX7_days_63 : decode cX7_days 63 = .ok (.ireturn, 1) := by decide +kernel
theorem dX7_turn_0 : decode cX7_turn 0 = .ok (.aload_n 0, 1) := by decide +kernel
theorem dX7_turn_1 : decode cX7_turn 1 = .ok (.aload_n 0, 1) := by decide +kernel
theorem dX7_turn_2 : decode cX7_turn 2 = .ok (.invokevirtual 236, 3) := by decide +kernel
theorem dX7_turn_5 : decode cX7_turn 5 = .ok (.putfield 90, 3) := by decide +kernel
theorem dX7_turn_8 : decode cX7_turn 8 = .ok (.aload_n 0, 1) := by decide +kernel
theorem dX7_turn_9 : decode cX7_turn 9 = .ok (.aload_n 0, 1) := by decide +kernel
theorem dX7_turn_10 : decode cX7_turn 10 = .ok (.getfield 90, 3) := by decide +kernel
theorem dX7_turn_13 : decode cX7_turn 13 = .ok (.aload_n 0, 1) := by decide +kernel
theorem dX7_turn_14 : decode cX7_turn 14 = .ok (.getfield 62, 3) := by decide +kernel
theorem dX7_turn_17 : decode cX7_turn 17 = .ok (.invokevirtual 240, 3) := by decide +kernel
theorem dX7_turn_20 : decode cX7_turn 20 = .ok (.ireturn, 1) := by decide +kernel
theorem dX7_change_0 : decode cX7_change 0 = .ok (.aload_n 0, 1) := by decide +kernel
theorem dX7_change_1 : decode cX7_change 1 = .ok (.iload_n 1, 1) := by decide +kernel
theorem dX7_change_2 : decode cX7_change 2 = .ok (.invokevirtual 187, 3) := by decide +kernel
theorem dX7_change_5 : decode cX7_change 5 = .ok (.ifCond .ne 10, 3) := by decide +kernel
theorem dX7_change_8 : decode cX7_change 8 = .ok (.aload_n 0, 1) := by decide +kernel
theorem dX7_change_9 : decode cX7_change 9 = .ok (.bipush (-2), 2) := by decide +kernel
theorem dX7_change_11 : decode cX7_change 11 = .ok (.invokevirtual 69, 3) := by decide +kernel
theorem dX7_change_14 : decode cX7_change 14 = .ok (.ireturn, 1) := by decide +kernel
theorem dX7_change_15 : decode cX7_change 15 = .ok (.aload_n 0, 1) := by decide +kernel
theorem dX7_change_16 : decode cX7_change 16 = .ok (.dup, 1) := by decide +kernel
theorem dX7_change_17 : decode cX7_change 17 = .ok (.getfield 90, 3) := by decide +kernel
theorem dX7_change_20 : decode cX7_change 20 = .ok (.lconst 1, 1) := by decide +kernel
theorem dX7_change_21 : decode cX7_change 21 = .ok (.iload_n 1, 1) := by decide +kernel
theorem dX7_change_22 : decode cX7_change 22 = .ok (.lshl, 1) := by decide +kernel
theorem dX7_change_23 : decode cX7_change 23 = .ok (.lxor, 1) := by decide +kernel
theorem dX7_change_24 : decode cX7_change 24 = .ok (.putfield 90, 3) := by decide +kernel
theorem dX7_change_27 : decode cX7_change 27 = .ok (.aload_n 0, 1) := by decide +kernel
theorem dX7_change_28 : decode cX7_change 28 = .ok (.getfield 90, 3) := by decide +kernel
theorem dX7_change_31 : decode cX7_change 31 = .ok (.iload_n 1, 1) := by decide +kernel
theorem dX7_change_32 : decode cX7_change 32 = .ok (.invokestatic 190, 3) := by decide +kernel
theorem dX7_change_35 : decode cX7_change 35 = .ok (.ifCond .eq 7, 3) := by decide +kernel
theorem dX7_change_38 : decode cX7_change 38 = .ok (.iconst 1, 1) := by decide +kernel
theorem dX7_change_39 : decode cX7_change 39 = .ok (.goto 4, 3) := by decide +kernel
theorem dX7_change_42 : decode cX7_change 42 = .ok (.iconst 0, 1) := by decide +kernel
theorem dX7_change_43 : decode cX7_change 43 = .ok (.ireturn, 1) := by decide +kernel
theorem dX7_cut_0 : decode cX7_cut 0 = .ok (.iload_n 1, 1) := by decide +kernel
theorem dX7_cut_1 : decode cX7_cut 1 = .ok (.iconst 1, 1) := by decide +kernel
theorem dX7_cut_2 : decode cX7_cut 2 = .ok (.bipush 40, 2) := by decide +kernel
theorem dX7_cut_4 : decode cX7_cut 4 = .ok (.invokestatic 55, 3) := by decide +kernel
theorem dX7_cut_7 : decode cX7_cut 7 = .ok (.ifCond .ne 10, 3) := by decide +kernel
theorem dX7_cut_10 : decode cX7_cut 10 = .ok (.aload_n 0, 1) := by decide +kernel
theorem dX7_cut_11 : decode cX7_cut 11 = .ok (.bipush (-2), 2) := by decide +kernel
theorem dX7_cut_13 : decode cX7_cut 13 = .ok (.invokevirtual 69, 3) := by decide +kernel
theorem dX7_cut_16 : decode cX7_cut 16 = .ok (.ireturn, 1) := by decide +kernel
theorem dX7_cut_17 : decode cX7_cut 17 = .ok (.aload_n 0, 1) := by decide +kernel
theorem dX7_cut_18 : decode cX7_cut 18 = .ok (.getfield 62, 3) := by decide +kernel
theorem dX7_cut_21 : decode cX7_cut 21 = .ok (.iload_n 1, 1) := by decide +kernel
theorem dX7_cut_22 : decode cX7_cut 22 = .ok (.if_icmp .ge 10, 3) := by decide +kernel
theorem dX7_cut_25 : decode cX7_cut 25 = .ok (.aload_n 0, 1) := by decide +kernel
theorem dX7_cut_26 : decode cX7_cut 26 = .ok (.bipush (-5), 2) := by decide +kernel
theorem dX7_cut_28 : decode cX7_cut 28 = .ok (.invokevirtual 69, 3) := by decide +kernel
theorem dX7_cut_31 : decode cX7_cut 31 = .ok (.ireturn, 1) := by decide +kernel
theorem dX7_cut_32 : decode cX7_cut 32 = .ok (.aload_n 0, 1) := by decide +kernel
theorem dX7_cut_33 : decode cX7_cut 33 = .ok (.dup, 1) := by decide +kernel
theorem dX7_cut_34 : decode cX7_cut 34 = .ok (.getfield 62, 3) := by decide +kernel
theorem dX7_cut_37 : decode cX7_cut 37 = .ok (.iload_n 1, 1) := by decide +kernel
theorem dX7_cut_38 : decode cX7_cut 38 = .ok (.isub, 1) := by decide +kernel
theorem dX7_cut_39 : decode cX7_cut 39 = .ok (.putfield 62, 3) := by decide +kernel
theorem dX7_cut_42 : decode cX7_cut 42 = .ok (.aload_n 0, 1) := by decide +kernel
theorem dX7_cut_43 : decode cX7_cut 43 = .ok (.dup, 1) := by decide +kernel
theorem dX7_cut_44 : decode cX7_cut 44 = .ok (.getfield 90, 3) := by decide +kernel
theorem dX7_cut_47 : decode cX7_cut 47 = .ok (.lconst 1, 1) := by decide +kernel
theorem dX7_cut_48 : decode cX7_cut 48 = .ok (.aload_n 0, 1) := by decide +kernel
theorem dX7_cut_49 : decode cX7_cut 49 = .ok (.getfield 62, 3) := by decide +kernel
theorem dX7_cut_52 : decode cX7_cut 52 = .ok (.lshl, 1) := by decide +kernel
theorem dX7_cut_53 : decode cX7_cut 53 = .ok (.lconst 1, 1) := by decide +kernel
theorem dX7_cut_54 : decode cX7_cut 54 = .ok (.lsub, 1) := by decide +kernel
theorem dX7_cut_55 : decode cX7_cut 55 = .ok (.land, 1) := by decide +kernel
theorem dX7_cut_56 : decode cX7_cut 56 = .ok (.putfield 90, 3) := by decide +kernel
theorem dX7_cut_59 : decode cX7_cut 59 = .ok (.aload_n 0, 1) := by decide +kernel
theorem dX7_cut_60 : decode cX7_cut 60 = .ok (.getfield 62, 3) := by decide +kernel
theorem dX7_cut_63 : decode cX7_cut 63 = .ok (.ireturn, 1) := by decide +kernel
theorem dX7_still_0 : decode cX7_still 0 = .ok (.aload_n 0, 1) := by decide +kernel
theorem dX7_still_1 : decode cX7_still 1 = .ok (.getfield 62, 3) := by decide +kernel
theorem dX7_still_4 : decode cX7_still 4 = .ok (.istore_n 1, 1) := by decide +kernel
theorem dX7_still_5 : decode cX7_still 5 = .ok (.aload_n 0, 1) := by decide +kernel
theorem dX7_still_6 : decode cX7_still 6 = .ok (.iconst 0, 1) := by decide +kernel
theorem dX7_still_7 : decode cX7_still 7 = .ok (.putfield 62, 3) := by decide +kernel
theorem dX7_still_10 : decode cX7_still 10 = .ok (.aload_n 0, 1) := by decide +kernel
theorem dX7_still_11 : decode cX7_still 11 = .ok (.lconst 0, 1) := by decide +kernel
theorem dX7_still_12 : decode cX7_still 12 = .ok (.putfield 90, 3) := by decide +kernel
theorem dX7_still_15 : decode cX7_still 15 = .ok (.iload_n 1, 1) := by decide +kernel
theorem dX7_still_16 : decode cX7_still 16 = .ok (.ireturn, 1) := by decide +kernel
theorem dX7_seed_0 : decode cX7_seed 0 = .ok (.aload_n 0, 1) := by decide +kernel
theorem dX7_seed_1 : decode cX7_seed 1 = .ok (.getfield 49, 3) := by decide +kernel
theorem dX7_seed_4 : decode cX7_seed 4 = .ok (.istore_n 2, 1) := by decide +kernel
theorem dX7_seed_5 : decode cX7_seed 5 = .ok (.aload_n 0, 1) := by decide +kernel
theorem dX7_seed_6 : decode cX7_seed 6 = .ok (.iload_n 1, 1) := by decide +kernel
theorem dX7_seed_7 : decode cX7_seed 7 = .ok (.putfield 49, 3) := by decide +kernel
theorem dX7_seed_10 : decode cX7_seed 10 = .ok (.iload_n 2, 1) := by decide +kernel
theorem dX7_seed_11 : decode cX7_seed 11 = .ok (.ireturn, 1) := by decide +kernel
theorem dX7_keep_0 : decode cX7_keep 0 = .ok (.iconst 0, 1) := by decide +kernel
theorem dX7_keep_1 : decode cX7_keep 1 = .ok (.istore_n 2, 1) := by decide +kernel
theorem dX7_keep_2 : decode cX7_keep 2 = .ok (.iload_n 2, 1) := by decide +kernel
theorem dX7_keep_3 : decode cX7_keep 3 = .ok (.bipush 6, 2) := by decide +kernel
theorem dX7_keep_5 : decode cX7_keep 5 = .ok (.if_icmp .ge 30, 3) := by decide +kernel
theorem dX7_keep_8 : decode cX7_keep 8 = .ok (.aload_n 1, 1) := by decide +kernel
theorem dX7_keep_9 : decode cX7_keep 9 = .ok (.iload_n 2, 1) := by decide +kernel
theorem dX7_keep_10 : decode cX7_keep 10 = .ok (.aload_n 0, 1) := by decide +kernel
theorem dX7_keep_11 : decode cX7_keep 11 = .ok (.getfield 7, 3) := by decide +kernel
theorem dX7_keep_14 : decode cX7_keep 14 = .ok (.iload_n 2, 1) := by decide +kernel
theorem dX7_keep_15 : decode cX7_keep 15 = .ok (.iaload, 1) := by decide +kernel
theorem dX7_keep_16 : decode cX7_keep 16 = .ok (.iastore, 1) := by decide +kernel
theorem dX7_keep_17 : decode cX7_keep 17 = .ok (.aload_n 1, 1) := by decide +kernel
theorem dX7_keep_18 : decode cX7_keep 18 = .ok (.bipush 6, 2) := by decide +kernel
theorem dX7_keep_20 : decode cX7_keep 20 = .ok (.iload_n 2, 1) := by decide +kernel
theorem dX7_keep_21 : decode cX7_keep 21 = .ok (.iadd, 1) := by decide +kernel
theorem dX7_keep_22 : decode cX7_keep 22 = .ok (.aload_n 0, 1) := by decide +kernel
theorem dX7_keep_23 : decode cX7_keep 23 = .ok (.getfield 13, 3) := by decide +kernel
theorem dX7_keep_26 : decode cX7_keep 26 = .ok (.iload_n 2, 1) := by decide +kernel
theorem dX7_keep_27 : decode cX7_keep 27 = .ok (.iaload, 1) := by decide +kernel
theorem dX7_keep_28 : decode cX7_keep 28 = .ok (.iastore, 1) := by decide +kernel
theorem dX7_keep_29 : decode cX7_keep 29 = .ok (.iinc 2 1, 3) := by decide +kernel
theorem dX7_keep_32 : decode cX7_keep 32 = .ok (.goto (-30), 3) := by decide +kernel
theorem dX7_keep_35 : decode cX7_keep 35 = .ok (.iconst 0, 1) := by decide +kernel
theorem dX7_keep_36 : decode cX7_keep 36 = .ok (.istore_n 2, 1) := by decide +kernel
theorem dX7_keep_37 : decode cX7_keep 37 = .ok (.iload_n 2, 1) := by decide +kernel
theorem dX7_keep_38 : decode cX7_keep 38 = .ok (.bipush 10, 2) := by decide +kernel
theorem dX7_keep_40 : decode cX7_keep 40 = .ok (.if_icmp .ge 21, 3) := by decide +kernel
theorem dX7_keep_43 : decode cX7_keep 43 = .ok (.aload_n 1, 1) := by decide +kernel
theorem dX7_keep_44 : decode cX7_keep 44 = .ok (.bipush 12, 2) := by decide +kernel
theorem dX7_keep_46 : decode cX7_keep 46 = .ok (.iload_n 2, 1) := by decide +kernel
theorem dX7_keep_47 : decode cX7_keep 47 = .ok (.iadd, 1) := by decide +kernel
theorem dX7_keep_48 : decode cX7_keep 48 = .ok (.aload_n 0, 1) := by decide +kernel
theorem dX7_keep_49 : decode cX7_keep 49 = .ok (.getfield 16, 3) := by decide +kernel
theorem dX7_keep_52 : decode cX7_keep 52 = .ok (.iload_n 2, 1) := by decide +kernel
theorem dX7_keep_53 : decode cX7_keep 53 = .ok (.iaload, 1) := by decide +kernel
theorem dX7_keep_54 : decode cX7_keep 54 = .ok (.iastore, 1) := by decide +kernel
theorem dX7_keep_55 : decode cX7_keep 55 = .ok (.iinc 2 1, 3) := by decide +kernel
theorem dX7_keep_58 : decode cX7_keep 58 = .ok (.goto (-21), 3) := by decide +kernel
theorem dX7_keep_61 : decode cX7_keep 61 = .ok (.aload_n 1, 1) := by decide +kernel
theorem dX7_keep_62 : decode cX7_keep 62 = .ok (.bipush 22, 2) := by decide +kernel
theorem dX7_keep_64 : decode cX7_keep 64 = .ok (.aload_n 0, 1) := by decide +kernel
theorem dX7_keep_65 : decode cX7_keep 65 = .ok (.getfield 52, 3) := by decide +kernel
theorem dX7_keep_68 : decode cX7_keep 68 = .ok (.iastore, 1) := by decide +kernel
theorem dX7_keep_69 : decode cX7_keep 69 = .ok (.aload_n 1, 1) := by decide +kernel
theorem dX7_keep_70 : decode cX7_keep 70 = .ok (.bipush 23, 2) := by decide +kernel
theorem dX7_keep_72 : decode cX7_keep 72 = .ok (.aload_n 0, 1) := by decide +kernel
theorem dX7_keep_73 : decode cX7_keep 73 = .ok (.getfield 102, 3) := by decide +kernel
theorem dX7_keep_76 : decode cX7_keep 76 = .ok (.iastore, 1) := by decide +kernel
theorem dX7_keep_77 : decode cX7_keep 77 = .ok (.aload_n 1, 1) := by decide +kernel
theorem dX7_keep_78 : decode cX7_keep 78 = .ok (.bipush 24, 2) := by decide +kernel
theorem dX7_keep_80 : decode cX7_keep 80 = .ok (.aload_n 0, 1) := by decide +kernel
theorem dX7_keep_81 : decode cX7_keep 81 = .ok (.getfield 45, 3) := by decide +kernel
theorem dX7_keep_84 : decode cX7_keep 84 = .ok (.iastore, 1) := by decide +kernel
theorem dX7_keep_85 : decode cX7_keep 85 = .ok (.aload_n 1, 1) := by decide +kernel
theorem dX7_keep_86 : decode cX7_keep 86 = .ok (.bipush 25, 2) := by decide +kernel
theorem dX7_keep_88 : decode cX7_keep 88 = .ok (.aload_n 0, 1) := by decide +kernel
theorem dX7_keep_89 : decode cX7_keep 89 = .ok (.getfield 105, 3) := by decide +kernel
theorem dX7_keep_92 : decode cX7_keep 92 = .ok (.iastore, 1) := by decide +kernel
theorem dX7_keep_93 : decode cX7_keep 93 = .ok (.aload_n 1, 1) := by decide +kernel
theorem dX7_keep_94 : decode cX7_keep 94 = .ok (.bipush 26, 2) := by decide +kernel
theorem dX7_keep_96 : decode cX7_keep 96 = .ok (.aload_n 0, 1) := by decide +kernel
theorem dX7_keep_97 : decode cX7_keep 97 = .ok (.getfield 62, 3) := by decide +kernel
theorem dX7_keep_100 : decode cX7_keep 100 = .ok (.iastore, 1) := by decide +kernel
theorem dX7_keep_101 : decode cX7_keep 101 = .ok (.aload_n 1, 1) := by decide +kernel
theorem dX7_keep_102 : decode cX7_keep 102 = .ok (.bipush 27, 2) := by decide +kernel
theorem dX7_keep_104 : decode cX7_keep 104 = .ok (.aload_n 0, 1) := by decide +kernel
theorem dX7_keep_105 : decode cX7_keep 105 = .ok (.getfield 59, 3) := by decide +kernel
theorem dX7_keep_108 : decode cX7_keep 108 = .ok (.iastore, 1) := by decide +kernel
theorem dX7_keep_109 : decode cX7_keep 109 = .ok (.aload_n 1, 1) := by decide +kernel
theorem dX7_keep_110 : decode cX7_keep 110 = .ok (.bipush 28, 2) := by decide +kernel
theorem dX7_keep_112 : decode cX7_keep 112 = .ok (.aload_n 0, 1) := by decide +kernel
theorem dX7_keep_113 : decode cX7_keep 113 = .ok (.getfield 49, 3) := by decide +kernel
theorem dX7_keep_116 : decode cX7_keep 116 = .ok (.iastore, 1) := by decide +kernel
theorem dX7_keep_117 : decode cX7_keep 117 = .ok (.return_, 1) := by decide +kernel
theorem dX7_again_0 : decode cX7_again 0 = .ok (.iconst 0, 1) := by decide +kernel
theorem dX7_again_1 : decode cX7_again 1 = .ok (.istore_n 2, 1) := by decide +kernel
theorem dX7_again_2 : decode cX7_again 2 = .ok (.iload_n 2, 1) := by decide +kernel
theorem dX7_again_3 : decode cX7_again 3 = .ok (.bipush 6, 2) := by decide +kernel
theorem dX7_again_5 : decode cX7_again 5 = .ok (.if_icmp .ge 30, 3) := by decide +kernel
theorem dX7_again_8 : decode cX7_again 8 = .ok (.aload_n 0, 1) := by decide +kernel
theorem dX7_again_9 : decode cX7_again 9 = .ok (.getfield 7, 3) := by decide +kernel
theorem dX7_again_12 : decode cX7_again 12 = .ok (.iload_n 2, 1) := by decide +kernel
theorem dX7_again_13 : decode cX7_again 13 = .ok (.aload_n 1, 1) := by decide +kernel
theorem dX7_again_14 : decode cX7_again 14 = .ok (.iload_n 2, 1) := by decide +kernel
theorem dX7_again_15 : decode cX7_again 15 = .ok (.iaload, 1) := by decide +kernel
theorem dX7_again_16 : decode cX7_again 16 = .ok (.iastore, 1) := by decide +kernel
theorem dX7_again_17 : decode cX7_again 17 = .ok (.aload_n 0, 1) := by decide +kernel
theorem dX7_again_18 : decode cX7_again 18 = .ok (.getfield 13, 3) := by decide +kernel
theorem dX7_again_21 : decode cX7_again 21 = .ok (.iload_n 2, 1) := by decide +kernel
theorem dX7_again_22 : decode cX7_again 22 = .ok (.aload_n 1, 1) := by decide +kernel
theorem dX7_again_23 : decode cX7_again 23 = .ok (.bipush 6, 2) := by decide +kernel
theorem dX7_again_25 : decode cX7_again 25 = .ok (.iload_n 2, 1) := by decide +kernel
theorem dX7_again_26 : decode cX7_again 26 = .ok (.iadd, 1) := by decide +kernel
theorem dX7_again_27 : decode cX7_again 27 = .ok (.iaload, 1) := by decide +kernel
theorem dX7_again_28 : decode cX7_again 28 = .ok (.iastore, 1) := by decide +kernel
theorem dX7_again_29 : decode cX7_again 29 = .ok (.iinc 2 1, 3) := by decide +kernel
theorem dX7_again_32 : decode cX7_again 32 = .ok (.goto (-30), 3) := by decide +kernel
theorem dX7_again_35 : decode cX7_again 35 = .ok (.iconst 0, 1) := by decide +kernel
theorem dX7_again_36 : decode cX7_again 36 = .ok (.istore_n 2, 1) := by decide +kernel
theorem dX7_again_37 : decode cX7_again 37 = .ok (.iload_n 2, 1) := by decide +kernel
theorem dX7_again_38 : decode cX7_again 38 = .ok (.bipush 10, 2) := by decide +kernel
theorem dX7_again_40 : decode cX7_again 40 = .ok (.if_icmp .ge 21, 3) := by decide +kernel
theorem dX7_again_43 : decode cX7_again 43 = .ok (.aload_n 0, 1) := by decide +kernel
theorem dX7_again_44 : decode cX7_again 44 = .ok (.getfield 16, 3) := by decide +kernel
theorem dX7_again_47 : decode cX7_again 47 = .ok (.iload_n 2, 1) := by decide +kernel
theorem dX7_again_48 : decode cX7_again 48 = .ok (.aload_n 1, 1) := by decide +kernel
theorem dX7_again_49 : decode cX7_again 49 = .ok (.bipush 12, 2) := by decide +kernel
theorem dX7_again_51 : decode cX7_again 51 = .ok (.iload_n 2, 1) := by decide +kernel
theorem dX7_again_52 : decode cX7_again 52 = .ok (.iadd, 1) := by decide +kernel
theorem dX7_again_53 : decode cX7_again 53 = .ok (.iaload, 1) := by decide +kernel
theorem dX7_again_54 : decode cX7_again 54 = .ok (.iastore, 1) := by decide +kernel
theorem dX7_again_55 : decode cX7_again 55 = .ok (.iinc 2 1, 3) := by decide +kernel
theorem dX7_again_58 : decode cX7_again 58 = .ok (.goto (-21), 3) := by decide +kernel
theorem dX7_again_61 : decode cX7_again 61 = .ok (.aload_n 0, 1) := by decide +kernel
theorem dX7_again_62 : decode cX7_again 62 = .ok (.aload_n 1, 1) := by decide +kernel
theorem dX7_again_63 : decode cX7_again 63 = .ok (.bipush 22, 2) := by decide +kernel
theorem dX7_again_65 : decode cX7_again 65 = .ok (.iaload, 1) := by decide +kernel
theorem dX7_again_66 : decode cX7_again 66 = .ok (.putfield 52, 3) := by decide +kernel
theorem dX7_again_69 : decode cX7_again 69 = .ok (.aload_n 0, 1) := by decide +kernel
theorem dX7_again_70 : decode cX7_again 70 = .ok (.aload_n 1, 1) := by decide +kernel
theorem dX7_again_71 : decode cX7_again 71 = .ok (.bipush 23, 2) := by decide +kernel
theorem dX7_again_73 : decode cX7_again 73 = .ok (.iaload, 1) := by decide +kernel
theorem dX7_again_74 : decode cX7_again 74 = .ok (.putfield 102, 3) := by decide +kernel
theorem dX7_again_77 : decode cX7_again 77 = .ok (.aload_n 0, 1) := by decide +kernel
theorem dX7_again_78 : decode cX7_again 78 = .ok (.aload_n 1, 1) := by decide +kernel
theorem dX7_again_79 : decode cX7_again 79 = .ok (.bipush 24, 2) := by decide +kernel
theorem dX7_again_81 : decode cX7_again 81 = .ok (.iaload, 1) := by decide +kernel
theorem dX7_again_82 : decode cX7_again 82 = .ok (.putfield 45, 3) := by decide +kernel
theorem dX7_again_85 : decode cX7_again 85 = .ok (.aload_n 0, 1) := by decide +kernel
theorem dX7_again_86 : decode cX7_again 86 = .ok (.aload_n 1, 1) := by decide +kernel
theorem dX7_again_87 : decode cX7_again 87 = .ok (.bipush 25, 2) := by decide +kernel
theorem dX7_again_89 : decode cX7_again 89 = .ok (.iaload, 1) := by decide +kernel
theorem dX7_again_90 : decode cX7_again 90 = .ok (.putfield 105, 3) := by decide +kernel
theorem dX7_again_93 : decode cX7_again 93 = .ok (.aload_n 0, 1) := by decide +kernel
theorem dX7_again_94 : decode cX7_again 94 = .ok (.aload_n 1, 1) := by decide +kernel
theorem dX7_again_95 : decode cX7_again 95 = .ok (.bipush 26, 2) := by decide +kernel
theorem dX7_again_97 : decode cX7_again 97 = .ok (.iaload, 1) := by decide +kernel
theorem dX7_again_98 : decode cX7_again 98 = .ok (.putfield 62, 3) := by decide +kernel
theorem dX7_again_101 : decode cX7_again 101 = .ok (.aload_n 0, 1) := by decide +kernel
theorem dX7_again_102 : decode cX7_again 102 = .ok (.aload_n 1, 1) := by decide +kernel
theorem dX7_again_103 : decode cX7_again 103 = .ok (.bipush 27, 2) := by decide +kernel
theorem dX7_again_105 : decode cX7_again 105 = .ok (.iaload, 1) := by decide +kernel
theorem dX7_again_106 : decode cX7_again 106 = .ok (.putfield 59, 3) := by decide +kernel
theorem dX7_again_109 : decode cX7_again 109 = .ok (.aload_n 0, 1) := by decide +kernel
theorem dX7_again_110 : decode cX7_again 110 = .ok (.aload_n 1, 1) := by decide +kernel
theorem dX7_again_111 : decode cX7_again 111 = .ok (.bipush 28, 2) := by decide +kernel
theorem dX7_again_113 : decode cX7_again 113 = .ok (.iaload, 1) := by decide +kernel
theorem dX7_again_114 : decode cX7_again 114 = .ok (.putfield 49, 3) := by decide +kernel
theorem dX7_again_117 : decode cX7_again 117 = .ok (.return_, 1) := by decide +kernel
theorem dX7_image_0 : decode cX7_image 0 = .ok (.aload_n 0, 1) := by decide +kernel
theorem dX7_image_1 : decode cX7_image 1 = .ok (.iconst 1, 1) := by decide +kernel
theorem dX7_image_2 : decode cX7_image 2 = .ok (.putfield 315, 3) := by decide +kernel
theorem dX7_image_5 : decode cX7_image 5 = .ok (.aload_n 0, 1) := by decide +kernel
theorem dX7_image_6 : decode cX7_image 6 = .ok (.aload_n 0, 1) := by decide +kernel
theorem dX7_image_7 : decode cX7_image 7 = .ok (.getfield 35, 3) := by decide +kernel
theorem dX7_image_10 : decode cX7_image 10 = .ok (.invokevirtual 171, 3) := by decide +kernel
theorem dX7_image_13 : decode cX7_image 13 = .ok (.aload_n 0, 1) := by decide +kernel
theorem dX7_image_14 : decode cX7_image 14 = .ok (.aload_n 0, 1) := by decide +kernel
theorem dX7_image_15 : decode cX7_image 15 = .ok (.getfield 90, 3) := by decide +kernel
theorem dX7_image_18 : decode cX7_image 18 = .ok (.putfield 319, 3) := by decide +kernel
theorem dX7_image_21 : decode cX7_image 21 = .ok (.iconst 1, 1) := by decide +kernel
theorem dX7_image_22 : decode cX7_image 22 = .ok (.ireturn, 1) := by decide +kernel
theorem dX7_back_0 : decode cX7_back 0 = .ok (.aload_n 0, 1) := by decide +kernel
theorem dX7_back_1 : decode cX7_back 1 = .ok (.getfield 315, 3) := by decide +kernel
theorem dX7_back_4 : decode cX7_back 4 = .ok (.ifCond .ne 10, 3) := by decide +kernel
theorem dX7_back_7 : decode cX7_back 7 = .ok (.aload_n 0, 1) := by decide +kernel
theorem dX7_back_8 : decode cX7_back 8 = .ok (.bipush (-5), 2) := by decide +kernel
theorem dX7_back_10 : decode cX7_back 10 = .ok (.invokevirtual 69, 3) := by decide +kernel
theorem dX7_back_13 : decode cX7_back 13 = .ok (.ireturn, 1) := by decide +kernel
theorem dX7_back_14 : decode cX7_back 14 = .ok (.aload_n 0, 1) := by decide +kernel
theorem dX7_back_15 : decode cX7_back 15 = .ok (.aload_n 0, 1) := by decide +kernel
theorem dX7_back_16 : decode cX7_back 16 = .ok (.getfield 35, 3) := by decide +kernel
theorem dX7_back_19 : decode cX7_back 19 = .ok (.invokevirtual 181, 3) := by decide +kernel
theorem dX7_back_22 : decode cX7_back 22 = .ok (.aload_n 0, 1) := by decide +kernel
theorem dX7_back_23 : decode cX7_back 23 = .ok (.aload_n 0, 1) := by decide +kernel
theorem dX7_back_24 : decode cX7_back 24 = .ok (.getfield 319, 3) := by decide +kernel
theorem dX7_back_27 : decode cX7_back 27 = .ok (.putfield 90, 3) := by decide +kernel
theorem dX7_back_30 : decode cX7_back 30 = .ok (.iconst 0, 1) := by decide +kernel
theorem dX7_back_31 : decode cX7_back 31 = .ok (.istore_n 1, 1) := by decide +kernel
theorem dX7_back_32 : decode cX7_back 32 = .ok (.iload_n 1, 1) := by decide +kernel
theorem dX7_back_33 : decode cX7_back 33 = .ok (.bipush 8, 2) := by decide +kernel
theorem dX7_back_35 : decode cX7_back 35 = .ok (.if_icmp .ge 32, 3) := by decide +kernel
theorem dX7_back_38 : decode cX7_back 38 = .ok (.aload_n 0, 1) := by decide +kernel
theorem dX7_back_39 : decode cX7_back 39 = .ok (.getfield 22, 3) := by decide +kernel
theorem dX7_back_42 : decode cX7_back 42 = .ok (.iload_n 1, 1) := by decide +kernel
theorem dX7_back_43 : decode cX7_back 43 = .ok (.iaload, 1) := by decide +kernel
theorem dX7_back_44 : decode cX7_back 44 = .ok (.bipush 10, 2) := by decide +kernel
theorem dX7_back_46 : decode cX7_back 46 = .ok (.aload_n 0, 1) := by decide +kernel
theorem dX7_back_47 : decode cX7_back 47 = .ok (.getfield 52, 3) := by decide +kernel
theorem dX7_back_50 : decode cX7_back 50 = .ok (.iadd, 1) := by decide +kernel
theorem dX7_back_51 : decode cX7_back 51 = .ok (.if_icmp .lt 10, 3) := by decide +kernel
theorem dX7_back_54 : decode cX7_back 54 = .ok (.aload_n 0, 1) := by decide +kernel
theorem dX7_back_55 : decode cX7_back 55 = .ok (.getfield 22, 3) := by decide +kernel
theorem dX7_back_58 : decode cX7_back 58 = .ok (.iload_n 1, 1) := by decide +kernel
theorem dX7_back_59 : decode cX7_back 59 = .ok (.iconst (-1), 1) := by decide +kernel
theorem dX7_back_60 : decode cX7_back 60 = .ok (.iastore, 1) := by decide +kernel
theorem dX7_back_61 : decode cX7_back 61 = .ok (.iinc 1 1, 3) := by decide +kernel
theorem dX7_back_64 : decode cX7_back 64 = .ok (.goto (-32), 3) := by decide +kernel
theorem dX7_back_67 : decode cX7_back 67 = .ok (.iconst 1, 1) := by decide +kernel
theorem dX7_back_68 : decode cX7_back 68 = .ok (.ireturn, 1) := by decide +kernel
theorem dX7_status_0 : decode cX7_status 0 = .ok (.iconst 0, 1) := by decide +kernel
theorem dX7_status_1 : decode cX7_status 1 = .ok (.istore_n 2, 1) := by decide +kernel
theorem dX7_status_2 : decode cX7_status 2 = .ok (.iload_n 1, 1) := by decide +kernel
theorem dX7_status_3 : decode cX7_status 3 = .ok (.tableswitch 147 0 10 #[57, 62, 67, 72, 77, 82, 90, 95, 108, 113, 118], 57) := by decide +kernel
theorem dX7_status_60 : decode cX7_status 60 = .ok (.aload_n 0, 1) := by decide +kernel
theorem dX7_status_61 : decode cX7_status 61 = .ok (.getfield 52, 3) := by decide +kernel
theorem dX7_status_64 : decode cX7_status 64 = .ok (.ireturn, 1) := by decide +kernel
theorem dX7_status_65 : decode cX7_status 65 = .ok (.aload_n 0, 1) := by decide +kernel
theorem dX7_status_66 : decode cX7_status 66 = .ok (.getfield 102, 3) := by decide +kernel
theorem dX7_status_69 : decode cX7_status 69 = .ok (.ireturn, 1) := by decide +kernel
theorem dX7_status_70 : decode cX7_status 70 = .ok (.aload_n 0, 1) := by decide +kernel
theorem dX7_status_71 : decode cX7_status 71 = .ok (.getfield 45, 3) := by decide +kernel
theorem dX7_status_74 : decode cX7_status 74 = .ok (.ireturn, 1) := by decide +kernel
theorem dX7_status_75 : decode cX7_status 75 = .ok (.aload_n 0, 1) := by decide +kernel
theorem dX7_status_76 : decode cX7_status 76 = .ok (.getfield 105, 3) := by decide +kernel
theorem dX7_status_79 : decode cX7_status 79 = .ok (.ireturn, 1) := by decide +kernel
theorem dX7_status_80 : decode cX7_status 80 = .ok (.aload_n 0, 1) := by decide +kernel
theorem dX7_status_81 : decode cX7_status 81 = .ok (.getfield 62, 3) := by decide +kernel
theorem dX7_status_84 : decode cX7_status 84 = .ok (.ireturn, 1) := by decide +kernel
theorem dX7_status_85 : decode cX7_status 85 = .ok (.aload_n 0, 1) := by decide +kernel
theorem dX7_status_86 : decode cX7_status 86 = .ok (.getfield 90, 3) := by decide +kernel
theorem dX7_status_89 : decode cX7_status 89 = .ok (.invokestatic 194, 3) := by decide +kernel
theorem dX7_status_92 : decode cX7_status 92 = .ok (.ireturn, 1) := by decide +kernel
theorem dX7_status_93 : decode cX7_status 93 = .ok (.aload_n 0, 1) := by decide +kernel
theorem dX7_status_94 : decode cX7_status 94 = .ok (.getfield 59, 3) := by decide +kernel
theorem dX7_status_97 : decode cX7_status 97 = .ok (.ireturn, 1) := by decide +kernel
theorem dX7_status_98 : decode cX7_status 98 = .ok (.aload_n 0, 1) := by decide +kernel
theorem dX7_status_99 : decode cX7_status 99 = .ok (.iconst 1, 1) := by decide +kernel
theorem dX7_status_100 : decode cX7_status 100 = .ok (.aload_n 0, 1) := by decide +kernel
theorem dX7_status_101 : decode cX7_status 101 = .ok (.getfield 59, 3) := by decide +kernel
theorem dX7_status_104 : decode cX7_status 104 = .ok (.ishl, 1) := by decide +kernel
theorem dX7_status_105 : decode cX7_status 105 = .ok (.iconst 1, 1) := by decide +kernel
theorem dX7_status_106 : decode cX7_status 106 = .ok (.isub, 1) := by decide +kernel
theorem dX7_status_107 : decode cX7_status 107 = .ok (.invokevirtual 288, 3) := by decide +kernel
theorem dX7_status_110 : decode cX7_status 110 = .ok (.ireturn, 1) := by decide +kernel
theorem dX7_status_111 : decode cX7_status 111 = .ok (.aload_n 0, 1) := by decide +kernel
theorem dX7_status_112 : decode cX7_status 112 = .ok (.getfield 111, 3) := by decide +kernel
theorem dX7_status_115 : decode cX7_status 115 = .ok (.ireturn, 1) := by decide +kernel
theorem dX7_status_116 : decode cX7_status 116 = .ok (.aload_n 0, 1) := by decide +kernel
theorem dX7_status_117 : decode cX7_status 117 = .ok (.getfield 49, 3) := by decide +kernel
theorem dX7_status_120 : decode cX7_status 120 = .ok (.ireturn, 1) := by decide +kernel
theorem dX7_status_121 : decode cX7_status 121 = .ok (.iconst 0, 1) := by decide +kernel
theorem dX7_status_122 : decode cX7_status 122 = .ok (.istore_n 3, 1) := by decide +kernel
theorem dX7_status_123 : decode cX7_status 123 = .ok (.iload_n 3, 1) := by decide +kernel
theorem dX7_status_124 : decode cX7_status 124 = .ok (.bipush 8, 2) := by decide +kernel
theorem dX7_status_126 : decode cX7_status 126 = .ok (.if_icmp .ge 22, 3) := by decide +kernel
theorem dX7_status_129 : decode cX7_status 129 = .ok (.aload_n 0, 1) := by decide +kernel
theorem dX7_status_130 : decode cX7_status 130 = .ok (.getfield 22, 3) := by decide +kernel
theorem dX7_status_133 : decode cX7_status 133 = .ok (.iload_n 3, 1) := by decide +kernel
theorem dX7_status_134 : decode cX7_status 134 = .ok (.iaload, 1) := by decide +kernel
theorem dX7_status_135 : decode cX7_status 135 = .ok (.iconst (-1), 1) := by decide +kernel
theorem dX7_status_136 : decode cX7_status 136 = .ok (.if_icmp .eq 6, 3) := by decide +kernel
theorem dX7_status_139 : decode cX7_status 139 = .ok (.iinc 2 1, 3) := by decide +kernel
theorem dX7_status_142 : decode cX7_status 142 = .ok (.iinc 3 1, 3) := by decide +kernel
theorem dX7_status_145 : decode cX7_status 145 = .ok (.goto (-22), 3) := by decide +kernel
theorem dX7_status_148 : decode cX7_status 148 = .ok (.iload_n 2, 1) := by decide +kernel
theorem dX7_status_149 : decode cX7_status 149 = .ok (.ireturn, 1) := by decide +kernel
theorem dX7_status_150 : decode cX7_status 150 = .ok (.iload_n 1, 1) := by decide +kernel
theorem dX7_status_151 : decode cX7_status 151 = .ok (.bipush 12, 2) := by decide +kernel
theorem dX7_status_153 : decode cX7_status 153 = .ok (.bipush 16, 2) := by decide +kernel
theorem dX7_status_155 : decode cX7_status 155 = .ok (.invokestatic 55, 3) := by decide +kernel
theorem dX7_status_158 : decode cX7_status 158 = .ok (.ifCond .eq 15, 3) := by decide +kernel
theorem dX7_status_161 : decode cX7_status 161 = .ok (.aload_n 0, 1) := by decide +kernel
theorem dX7_status_162 : decode cX7_status 162 = .ok (.getfield 32, 3) := by decide +kernel
theorem dX7_status_165 : decode cX7_status 165 = .ok (.iload_n 1, 1) := by decide +kernel
theorem dX7_status_166 : decode cX7_status 166 = .ok (.bipush 10, 2) := by decide +kernel
theorem dX7_status_168 : decode cX7_status 168 = .ok (.isub, 1) := by decide +kernel
theorem dX7_status_169 : decode cX7_status 169 = .ok (.iaload, 1) := by decide +kernel
theorem dX7_status_170 : decode cX7_status 170 = .ok (.goto 4, 3) := by decide +kernel
theorem dX7_status_173 : decode cX7_status 173 = .ok (.iconst (-1), 1) := by decide +kernel
theorem dX7_status_174 : decode cX7_status 174 = .ok (.ireturn, 1) := by decide +kernel
theorem dJ6_numberOfTrailingZeros_0f7a4_0 : decode cJ6_numberOfTrailingZeros_0f7a4 0 = .ok (.iload_n 0, 1) := by decide +kernel
theorem dJ6_numberOfTrailingZeros_0f7a4_1 : decode cJ6_numberOfTrailingZeros_0f7a4 1 = .ok (.iconst (-1), 1) := by decide +kernel
theorem dJ6_numberOfTrailingZeros_0f7a4_2 : decode cJ6_numberOfTrailingZeros_0f7a4 2 = .ok (.ixor, 1) := by decide +kernel
theorem dJ6_numberOfTrailingZeros_0f7a4_3 : decode cJ6_numberOfTrailingZeros_0f7a4 3 = .ok (.iload_n 0, 1) := by decide +kernel
theorem dJ6_numberOfTrailingZeros_0f7a4_4 : decode cJ6_numberOfTrailingZeros_0f7a4 4 = .ok (.iconst 1, 1) := by decide +kernel
theorem dJ6_numberOfTrailingZeros_0f7a4_5 : decode cJ6_numberOfTrailingZeros_0f7a4 5 = .ok (.isub, 1) := by decide +kernel
theorem dJ6_numberOfTrailingZeros_0f7a4_6 : decode cJ6_numberOfTrailingZeros_0f7a4 6 = .ok (.iand, 1) := by decide +kernel
theorem dJ6_numberOfTrailingZeros_0f7a4_7 : decode cJ6_numberOfTrailingZeros_0f7a4 7 = .ok (.istore_n 0, 1) := by decide +kernel
theorem dJ6_numberOfTrailingZeros_0f7a4_8 : decode cJ6_numberOfTrailingZeros_0f7a4 8 = .ok (.iload_n 0, 1) := by decide +kernel
theorem dJ6_numberOfTrailingZeros_0f7a4_9 : decode cJ6_numberOfTrailingZeros_0f7a4 9 = .ok (.ifCond .gt 8, 3) := by decide +kernel
theorem dJ6_numberOfTrailingZeros_0f7a4_12 : decode cJ6_numberOfTrailingZeros_0f7a4 12 = .ok (.iload_n 0, 1) := by decide +kernel
theorem dJ6_numberOfTrailingZeros_0f7a4_13 : decode cJ6_numberOfTrailingZeros_0f7a4 13 = .ok (.bipush 32, 2) := by decide +kernel
theorem dJ6_numberOfTrailingZeros_0f7a4_15 : decode cJ6_numberOfTrailingZeros_0f7a4 15 = .ok (.iand, 1) := by decide +kernel
theorem dJ6_numberOfTrailingZeros_0f7a4_16 : decode cJ6_numberOfTrailingZeros_0f7a4 16 = .ok (.ireturn, 1) := by decide +kernel
theorem dJ6_numberOfTrailingZeros_0f7a4_17 : decode cJ6_numberOfTrailingZeros_0f7a4 17 = .ok (.iconst 1, 1) := by decide +kernel
theorem dJ6_numberOfTrailingZeros_0f7a4_18 : decode cJ6_numberOfTrailingZeros_0f7a4 18 = .ok (.istore_n 1, 1) := by decide +kernel
theorem dJ6_numberOfTrailingZeros_0f7a4_19 : decode cJ6_numberOfTrailingZeros_0f7a4 19 = .ok (.iload_n 0, 1) := by decide +kernel
theorem dJ6_numberOfTrailingZeros_0f7a4_20 : decode cJ6_numberOfTrailingZeros_0f7a4 20 = .ok (.ldc_w 264, 3) := by decide +kernel
theorem dJ6_numberOfTrailingZeros_0f7a4_23 : decode cJ6_numberOfTrailingZeros_0f7a4 23 = .ok (.if_icmp .le 11, 3) := by decide +kernel
theorem dJ6_numberOfTrailingZeros_0f7a4_26 : decode cJ6_numberOfTrailingZeros_0f7a4 26 = .ok (.iinc 1 16, 3) := by decide +kernel
theorem dJ6_numberOfTrailingZeros_0f7a4_29 : decode cJ6_numberOfTrailingZeros_0f7a4 29 = .ok (.iload_n 0, 1) := by decide +kernel
theorem dJ6_numberOfTrailingZeros_0f7a4_30 : decode cJ6_numberOfTrailingZeros_0f7a4 30 = .ok (.bipush 16, 2) := by decide +kernel
theorem dJ6_numberOfTrailingZeros_0f7a4_32 : decode cJ6_numberOfTrailingZeros_0f7a4 32 = .ok (.iushr, 1) := by decide +kernel
theorem dJ6_numberOfTrailingZeros_0f7a4_33 : decode cJ6_numberOfTrailingZeros_0f7a4 33 = .ok (.istore_n 0, 1) := by decide +kernel
theorem dJ6_numberOfTrailingZeros_0f7a4_34 : decode cJ6_numberOfTrailingZeros_0f7a4 34 = .ok (.iload_n 0, 1) := by decide +kernel
theorem dJ6_numberOfTrailingZeros_0f7a4_35 : decode cJ6_numberOfTrailingZeros_0f7a4 35 = .ok (.sipush 256, 3) := by decide +kernel
theorem dJ6_numberOfTrailingZeros_0f7a4_38 : decode cJ6_numberOfTrailingZeros_0f7a4 38 = .ok (.if_icmp .le 11, 3) := by decide +kernel
theorem dJ6_numberOfTrailingZeros_0f7a4_41 : decode cJ6_numberOfTrailingZeros_0f7a4 41 = .ok (.iinc 1 8, 3) := by decide +kernel
theorem dJ6_numberOfTrailingZeros_0f7a4_44 : decode cJ6_numberOfTrailingZeros_0f7a4 44 = .ok (.iload_n 0, 1) := by decide +kernel
theorem dJ6_numberOfTrailingZeros_0f7a4_45 : decode cJ6_numberOfTrailingZeros_0f7a4 45 = .ok (.bipush 8, 2) := by decide +kernel
theorem dJ6_numberOfTrailingZeros_0f7a4_47 : decode cJ6_numberOfTrailingZeros_0f7a4 47 = .ok (.iushr, 1) := by decide +kernel
theorem dJ6_numberOfTrailingZeros_0f7a4_48 : decode cJ6_numberOfTrailingZeros_0f7a4 48 = .ok (.istore_n 0, 1) := by decide +kernel
theorem dJ6_numberOfTrailingZeros_0f7a4_49 : decode cJ6_numberOfTrailingZeros_0f7a4 49 = .ok (.iload_n 0, 1) := by decide +kernel
theorem dJ6_numberOfTrailingZeros_0f7a4_50 : decode cJ6_numberOfTrailingZeros_0f7a4 50 = .ok (.bipush 16, 2) := by decide +kernel
theorem dJ6_numberOfTrailingZeros_0f7a4_52 : decode cJ6_numberOfTrailingZeros_0f7a4 52 = .ok (.if_icmp .le 10, 3) := by decide +kernel
theorem dJ6_numberOfTrailingZeros_0f7a4_55 : decode cJ6_numberOfTrailingZeros_0f7a4 55 = .ok (.iinc 1 4, 3) := by decide +kernel
theorem dJ6_numberOfTrailingZeros_0f7a4_58 : decode cJ6_numberOfTrailingZeros_0f7a4 58 = .ok (.iload_n 0, 1) := by decide +kernel
theorem dJ6_numberOfTrailingZeros_0f7a4_59 : decode cJ6_numberOfTrailingZeros_0f7a4 59 = .ok (.iconst 4, 1) := by decide +kernel
theorem dJ6_numberOfTrailingZeros_0f7a4_60 : decode cJ6_numberOfTrailingZeros_0f7a4 60 = .ok (.iushr, 1) := by decide +kernel
theorem dJ6_numberOfTrailingZeros_0f7a4_61 : decode cJ6_numberOfTrailingZeros_0f7a4 61 = .ok (.istore_n 0, 1) := by decide +kernel
theorem dJ6_numberOfTrailingZeros_0f7a4_62 : decode cJ6_numberOfTrailingZeros_0f7a4 62 = .ok (.iload_n 0, 1) := by decide +kernel
theorem dJ6_numberOfTrailingZeros_0f7a4_63 : decode cJ6_numberOfTrailingZeros_0f7a4 63 = .ok (.iconst 4, 1) := by decide +kernel
theorem dJ6_numberOfTrailingZeros_0f7a4_64 : decode cJ6_numberOfTrailingZeros_0f7a4 64 = .ok (.if_icmp .le 10, 3) := by decide +kernel
theorem dJ6_numberOfTrailingZeros_0f7a4_67 : decode cJ6_numberOfTrailingZeros_0f7a4 67 = .ok (.iinc 1 2, 3) := by decide +kernel
theorem dJ6_numberOfTrailingZeros_0f7a4_70 : decode cJ6_numberOfTrailingZeros_0f7a4 70 = .ok (.iload_n 0, 1) := by decide +kernel
theorem dJ6_numberOfTrailingZeros_0f7a4_71 : decode cJ6_numberOfTrailingZeros_0f7a4 71 = .ok (.iconst 2, 1) := by decide +kernel
theorem dJ6_numberOfTrailingZeros_0f7a4_72 : decode cJ6_numberOfTrailingZeros_0f7a4 72 = .ok (.iushr, 1) := by decide +kernel
theorem dJ6_numberOfTrailingZeros_0f7a4_73 : decode cJ6_numberOfTrailingZeros_0f7a4 73 = .ok (.istore_n 0, 1) := by decide +kernel
theorem dJ6_numberOfTrailingZeros_0f7a4_74 : decode cJ6_numberOfTrailingZeros_0f7a4 74 = .ok (.iload_n 1, 1) := by decide +kernel
theorem dJ6_numberOfTrailingZeros_0f7a4_75 : decode cJ6_numberOfTrailingZeros_0f7a4 75 = .ok (.iload_n 0, 1) := by decide +kernel
theorem dJ6_numberOfTrailingZeros_0f7a4_76 : decode cJ6_numberOfTrailingZeros_0f7a4 76 = .ok (.iconst 1, 1) := by decide +kernel
theorem dJ6_numberOfTrailingZeros_0f7a4_77 : decode cJ6_numberOfTrailingZeros_0f7a4 77 = .ok (.iushr, 1) := by decide +kernel
theorem dJ6_numberOfTrailingZeros_0f7a4_78 : decode cJ6_numberOfTrailingZeros_0f7a4 78 = .ok (.iadd, 1) := by decide +kernel
theorem dJ6_numberOfTrailingZeros_0f7a4_79 : decode cJ6_numberOfTrailingZeros_0f7a4 79 = .ok (.ireturn, 1) := by decide +kernel
theorem dJ6_bitCount_0f7a4_0 : decode cJ6_bitCount_0f7a4 0 = .ok (.iload_n 0, 1) := by decide +kernel
theorem dJ6_bitCount_0f7a4_1 : decode cJ6_bitCount_0f7a4 1 = .ok (.iload_n 0, 1) := by decide +kernel
theorem dJ6_bitCount_0f7a4_2 : decode cJ6_bitCount_0f7a4 2 = .ok (.iconst 1, 1) := by decide +kernel
theorem dJ6_bitCount_0f7a4_3 : decode cJ6_bitCount_0f7a4 3 = .ok (.iushr, 1) := by decide +kernel
theorem dJ6_bitCount_0f7a4_4 : decode cJ6_bitCount_0f7a4 4 = .ok (.ldc_w 265, 3) := by decide +kernel
theorem dJ6_bitCount_0f7a4_7 : decode cJ6_bitCount_0f7a4 7 = .ok (.iand, 1) := by decide +kernel
theorem dJ6_bitCount_0f7a4_8 : decode cJ6_bitCount_0f7a4 8 = .ok (.isub, 1) := by decide +kernel
theorem dJ6_bitCount_0f7a4_9 : decode cJ6_bitCount_0f7a4 9 = .ok (.istore_n 0, 1) := by decide +kernel
theorem dJ6_bitCount_0f7a4_10 : decode cJ6_bitCount_0f7a4 10 = .ok (.iload_n 0, 1) := by decide +kernel
theorem dJ6_bitCount_0f7a4_11 : decode cJ6_bitCount_0f7a4 11 = .ok (.ldc_w 266, 3) := by decide +kernel
theorem dJ6_bitCount_0f7a4_14 : decode cJ6_bitCount_0f7a4 14 = .ok (.iand, 1) := by decide +kernel
theorem dJ6_bitCount_0f7a4_15 : decode cJ6_bitCount_0f7a4 15 = .ok (.iload_n 0, 1) := by decide +kernel
theorem dJ6_bitCount_0f7a4_16 : decode cJ6_bitCount_0f7a4 16 = .ok (.iconst 2, 1) := by decide +kernel
theorem dJ6_bitCount_0f7a4_17 : decode cJ6_bitCount_0f7a4 17 = .ok (.iushr, 1) := by decide +kernel
theorem dJ6_bitCount_0f7a4_18 : decode cJ6_bitCount_0f7a4 18 = .ok (.ldc_w 266, 3) := by decide +kernel
theorem dJ6_bitCount_0f7a4_21 : decode cJ6_bitCount_0f7a4 21 = .ok (.iand, 1) := by decide +kernel
theorem dJ6_bitCount_0f7a4_22 : decode cJ6_bitCount_0f7a4 22 = .ok (.iadd, 1) := by decide +kernel
theorem dJ6_bitCount_0f7a4_23 : decode cJ6_bitCount_0f7a4 23 = .ok (.istore_n 0, 1) := by decide +kernel
theorem dJ6_bitCount_0f7a4_24 : decode cJ6_bitCount_0f7a4 24 = .ok (.iload_n 0, 1) := by decide +kernel
theorem dJ6_bitCount_0f7a4_25 : decode cJ6_bitCount_0f7a4 25 = .ok (.iload_n 0, 1) := by decide +kernel
theorem dJ6_bitCount_0f7a4_26 : decode cJ6_bitCount_0f7a4 26 = .ok (.iconst 4, 1) := by decide +kernel
theorem dJ6_bitCount_0f7a4_27 : decode cJ6_bitCount_0f7a4 27 = .ok (.iushr, 1) := by decide +kernel
theorem dJ6_bitCount_0f7a4_28 : decode cJ6_bitCount_0f7a4 28 = .ok (.iadd, 1) := by decide +kernel
theorem dJ6_bitCount_0f7a4_29 : decode cJ6_bitCount_0f7a4 29 = .ok (.ldc_w 267, 3) := by decide +kernel
theorem dJ6_bitCount_0f7a4_32 : decode cJ6_bitCount_0f7a4 32 = .ok (.iand, 1) := by decide +kernel
theorem dJ6_bitCount_0f7a4_33 : decode cJ6_bitCount_0f7a4 33 = .ok (.istore_n 0, 1) := by decide +kernel
theorem dJ6_bitCount_0f7a4_34 : decode cJ6_bitCount_0f7a4 34 = .ok (.iload_n 0, 1) := by decide +kernel
theorem dJ6_bitCount_0f7a4_35 : decode cJ6_bitCount_0f7a4 35 = .ok (.iload_n 0, 1) := by decide +kernel
theorem dJ6_bitCount_0f7a4_36 : decode cJ6_bitCount_0f7a4 36 = .ok (.bipush 8, 2) := by decide +kernel
theorem dJ6_bitCount_0f7a4_38 : decode cJ6_bitCount_0f7a4 38 = .ok (.iushr, 1) := by decide +kernel
theorem dJ6_bitCount_0f7a4_39 : decode cJ6_bitCount_0f7a4 39 = .ok (.iadd, 1) := by decide +kernel
theorem dJ6_bitCount_0f7a4_40 : decode cJ6_bitCount_0f7a4 40 = .ok (.istore_n 0, 1) := by decide +kernel
theorem dJ6_bitCount_0f7a4_41 : decode cJ6_bitCount_0f7a4 41 = .ok (.iload_n 0, 1) := by decide +kernel
theorem dJ6_bitCount_0f7a4_42 : decode cJ6_bitCount_0f7a4 42 = .ok (.iload_n 0, 1) := by decide +kernel
theorem dJ6_bitCount_0f7a4_43 : decode cJ6_bitCount_0f7a4 43 = .ok (.bipush 16, 2) := by decide +kernel
theorem dJ6_bitCount_0f7a4_45 : decode cJ6_bitCount_0f7a4 45 = .ok (.iushr, 1) := by decide +kernel
theorem dJ6_bitCount_0f7a4_46 : decode cJ6_bitCount_0f7a4 46 = .ok (.iadd, 1) := by decide +kernel
theorem dJ6_bitCount_0f7a4_47 : decode cJ6_bitCount_0f7a4 47 = .ok (.istore_n 0, 1) := by decide +kernel
theorem dJ6_bitCount_0f7a4_48 : decode cJ6_bitCount_0f7a4 48 = .ok (.iload_n 0, 1) := by decide +kernel
theorem dJ6_bitCount_0f7a4_49 : decode cJ6_bitCount_0f7a4 49 = .ok (.bipush 63, 2) := by decide +kernel
theorem dJ6_bitCount_0f7a4_51 : decode cJ6_bitCount_0f7a4 51 = .ok (.iand, 1) := by decide +kernel
theorem dJ6_bitCount_0f7a4_52 : decode cJ6_bitCount_0f7a4 52 = .ok (.ireturn, 1) := by decide +kernel
theorem dJ13_numberOfTrailingZeros_95d88_0 : decode cJ13_numberOfTrailingZeros_95d88 0 = .ok (.lload_n 0, 1) := by decide +kernel
theorem dJ13_numberOfTrailingZeros_95d88_1 : decode cJ13_numberOfTrailingZeros_95d88 1 = .ok (.l2i, 1) := by decide +kernel
theorem dJ13_numberOfTrailingZeros_95d88_2 : decode cJ13_numberOfTrailingZeros_95d88 2 = .ok (.istore_n 2, 1) := by decide +kernel
theorem dJ13_numberOfTrailingZeros_95d88_3 : decode cJ13_numberOfTrailingZeros_95d88 3 = .ok (.iload_n 2, 1) := by decide +kernel
theorem dJ13_numberOfTrailingZeros_95d88_4 : decode cJ13_numberOfTrailingZeros_95d88 4 = .ok (.ifCond .ne 17, 3) := by decide +kernel
theorem dJ13_numberOfTrailingZeros_95d88_7 : decode cJ13_numberOfTrailingZeros_95d88 7 = .ok (.bipush 32, 2) := by decide +kernel
theorem dJ13_numberOfTrailingZeros_95d88_9 : decode cJ13_numberOfTrailingZeros_95d88 9 = .ok (.lload_n 0, 1) := by decide +kernel
theorem dJ13_numberOfTrailingZeros_95d88_10 : decode cJ13_numberOfTrailingZeros_95d88 10 = .ok (.bipush 32, 2) := by decide +kernel
theorem dJ13_numberOfTrailingZeros_95d88_12 : decode cJ13_numberOfTrailingZeros_95d88 12 = .ok (.lushr, 1) := by decide +kernel
theorem dJ13_numberOfTrailingZeros_95d88_13 : decode cJ13_numberOfTrailingZeros_95d88 13 = .ok (.l2i, 1) := by decide +kernel
theorem dJ13_numberOfTrailingZeros_95d88_14 : decode cJ13_numberOfTrailingZeros_95d88 14 = .ok (.invokestatic 311, 3) := by decide +kernel
theorem dJ13_numberOfTrailingZeros_95d88_17 : decode cJ13_numberOfTrailingZeros_95d88 17 = .ok (.iadd, 1) := by decide +kernel
theorem dJ13_numberOfTrailingZeros_95d88_18 : decode cJ13_numberOfTrailingZeros_95d88 18 = .ok (.goto 7, 3) := by decide +kernel
theorem dJ13_numberOfTrailingZeros_95d88_21 : decode cJ13_numberOfTrailingZeros_95d88 21 = .ok (.iload_n 2, 1) := by decide +kernel
theorem dJ13_numberOfTrailingZeros_95d88_22 : decode cJ13_numberOfTrailingZeros_95d88 22 = .ok (.invokestatic 311, 3) := by decide +kernel
theorem dJ13_numberOfTrailingZeros_95d88_25 : decode cJ13_numberOfTrailingZeros_95d88 25 = .ok (.ireturn, 1) := by decide +kernel
theorem dJ13_bitCount_95d88_0 : decode cJ13_bitCount_95d88 0 = .ok (.lload_n 0, 1) := by decide +kernel
theorem dJ13_bitCount_95d88_1 : decode cJ13_bitCount_95d88 1 = .ok (.lload_n 0, 1) := by decide +kernel
theorem dJ13_bitCount_95d88_2 : decode cJ13_bitCount_95d88 2 = .ok (.iconst 1, 1) := by decide +kernel
theorem dJ13_bitCount_95d88_3 : decode cJ13_bitCount_95d88 3 = .ok (.lushr, 1) := by decide +kernel
theorem dJ13_bitCount_95d88_4 : decode cJ13_bitCount_95d88 4 = .ok (.ldc2_w 314, 3) := by decide +kernel
theorem dJ13_bitCount_95d88_7 : decode cJ13_bitCount_95d88 7 = .ok (.land, 1) := by decide +kernel
theorem dJ13_bitCount_95d88_8 : decode cJ13_bitCount_95d88 8 = .ok (.lsub, 1) := by decide +kernel
theorem dJ13_bitCount_95d88_9 : decode cJ13_bitCount_95d88 9 = .ok (.lstore_n 0, 1) := by decide +kernel
theorem dJ13_bitCount_95d88_10 : decode cJ13_bitCount_95d88 10 = .ok (.lload_n 0, 1) := by decide +kernel
theorem dJ13_bitCount_95d88_11 : decode cJ13_bitCount_95d88 11 = .ok (.ldc2_w 316, 3) := by decide +kernel
theorem dJ13_bitCount_95d88_14 : decode cJ13_bitCount_95d88 14 = .ok (.land, 1) := by decide +kernel
theorem dJ13_bitCount_95d88_15 : decode cJ13_bitCount_95d88 15 = .ok (.lload_n 0, 1) := by decide +kernel
theorem dJ13_bitCount_95d88_16 : decode cJ13_bitCount_95d88 16 = .ok (.iconst 2, 1) := by decide +kernel
theorem dJ13_bitCount_95d88_17 : decode cJ13_bitCount_95d88 17 = .ok (.lushr, 1) := by decide +kernel
theorem dJ13_bitCount_95d88_18 : decode cJ13_bitCount_95d88 18 = .ok (.ldc2_w 316, 3) := by decide +kernel
theorem dJ13_bitCount_95d88_21 : decode cJ13_bitCount_95d88 21 = .ok (.land, 1) := by decide +kernel
theorem dJ13_bitCount_95d88_22 : decode cJ13_bitCount_95d88 22 = .ok (.ladd, 1) := by decide +kernel
theorem dJ13_bitCount_95d88_23 : decode cJ13_bitCount_95d88 23 = .ok (.lstore_n 0, 1) := by decide +kernel
theorem dJ13_bitCount_95d88_24 : decode cJ13_bitCount_95d88 24 = .ok (.lload_n 0, 1) := by decide +kernel
theorem dJ13_bitCount_95d88_25 : decode cJ13_bitCount_95d88 25 = .ok (.lload_n 0, 1) := by decide +kernel
theorem dJ13_bitCount_95d88_26 : decode cJ13_bitCount_95d88 26 = .ok (.iconst 4, 1) := by decide +kernel
theorem dJ13_bitCount_95d88_27 : decode cJ13_bitCount_95d88 27 = .ok (.lushr, 1) := by decide +kernel
theorem dJ13_bitCount_95d88_28 : decode cJ13_bitCount_95d88 28 = .ok (.ladd, 1) := by decide +kernel
theorem dJ13_bitCount_95d88_29 : decode cJ13_bitCount_95d88 29 = .ok (.ldc2_w 318, 3) := by decide +kernel
theorem dJ13_bitCount_95d88_32 : decode cJ13_bitCount_95d88 32 = .ok (.land, 1) := by decide +kernel
theorem dJ13_bitCount_95d88_33 : decode cJ13_bitCount_95d88 33 = .ok (.lstore_n 0, 1) := by decide +kernel
theorem dJ13_bitCount_95d88_34 : decode cJ13_bitCount_95d88 34 = .ok (.lload_n 0, 1) := by decide +kernel
theorem dJ13_bitCount_95d88_35 : decode cJ13_bitCount_95d88 35 = .ok (.lload_n 0, 1) := by decide +kernel
theorem dJ13_bitCount_95d88_36 : decode cJ13_bitCount_95d88 36 = .ok (.bipush 8, 2) := by decide +kernel
theorem dJ13_bitCount_95d88_38 : decode cJ13_bitCount_95d88 38 = .ok (.lushr, 1) := by decide +kernel
theorem dJ13_bitCount_95d88_39 : decode cJ13_bitCount_95d88 39 = .ok (.ladd, 1) := by decide +kernel
theorem dJ13_bitCount_95d88_40 : decode cJ13_bitCount_95d88 40 = .ok (.lstore_n 0, 1) := by decide +kernel
theorem dJ13_bitCount_95d88_41 : decode cJ13_bitCount_95d88 41 = .ok (.lload_n 0, 1) := by decide +kernel
theorem dJ13_bitCount_95d88_42 : decode cJ13_bitCount_95d88 42 = .ok (.lload_n 0, 1) := by decide +kernel
theorem dJ13_bitCount_95d88_43 : decode cJ13_bitCount_95d88 43 = .ok (.bipush 16, 2) := by decide +kernel
theorem dJ13_bitCount_95d88_45 : decode cJ13_bitCount_95d88 45 = .ok (.lushr, 1) := by decide +kernel
theorem dJ13_bitCount_95d88_46 : decode cJ13_bitCount_95d88 46 = .ok (.ladd, 1) := by decide +kernel
theorem dJ13_bitCount_95d88_47 : decode cJ13_bitCount_95d88 47 = .ok (.lstore_n 0, 1) := by decide +kernel
theorem dJ13_bitCount_95d88_48 : decode cJ13_bitCount_95d88 48 = .ok (.lload_n 0, 1) := by decide +kernel
theorem dJ13_bitCount_95d88_49 : decode cJ13_bitCount_95d88 49 = .ok (.lload_n 0, 1) := by decide +kernel
theorem dJ13_bitCount_95d88_50 : decode cJ13_bitCount_95d88 50 = .ok (.bipush 32, 2) := by decide +kernel
theorem dJ13_bitCount_95d88_52 : decode cJ13_bitCount_95d88 52 = .ok (.lushr, 1) := by decide +kernel
theorem dJ13_bitCount_95d88_53 : decode cJ13_bitCount_95d88 53 = .ok (.ladd, 1) := by decide +kernel
theorem dJ13_bitCount_95d88_54 : decode cJ13_bitCount_95d88 54 = .ok (.lstore_n 0, 1) := by decide +kernel
theorem dJ13_bitCount_95d88_55 : decode cJ13_bitCount_95d88 55 = .ok (.lload_n 0, 1) := by decide +kernel
theorem dJ13_bitCount_95d88_56 : decode cJ13_bitCount_95d88 56 = .ok (.l2i, 1) := by decide +kernel
theorem dJ13_bitCount_95d88_57 : decode cJ13_bitCount_95d88 57 = .ok (.bipush 127, 2) := by decide +kernel
theorem dJ13_bitCount_95d88_59 : decode cJ13_bitCount_95d88 59 = .ok (.iand, 1) := by decide +kernel
theorem dJ13_bitCount_95d88_60 : decode cJ13_bitCount_95d88 60 = .ok (.ireturn, 1) := by decide +kernel
theorem dJ9_abs_0f7a4_0 : decode cJ9_abs_0f7a4 0 = .ok (.iload_n 0, 1) := by decide +kernel
theorem dJ9_abs_0f7a4_1 : decode cJ9_abs_0f7a4 1 = .ok (.ifCond .ge 8, 3) := by decide +kernel
theorem dJ9_abs_0f7a4_4 : decode cJ9_abs_0f7a4 4 = .ok (.iload_n 0, 1) := by decide +kernel
theorem dJ9_abs_0f7a4_5 : decode cJ9_abs_0f7a4 5 = .ok (.ineg, 1) := by decide +kernel
theorem dJ9_abs_0f7a4_6 : decode cJ9_abs_0f7a4 6 = .ok (.goto 4, 3) := by decide +kernel
theorem dJ9_abs_0f7a4_9 : decode cJ9_abs_0f7a4 9 = .ok (.iload_n 0, 1) := by decide +kernel
theorem dJ9_abs_0f7a4_10 : decode cJ9_abs_0f7a4 10 = .ok (.ireturn, 1) := by decide +kernel
theorem dJ9_max_7cf53_0 : decode cJ9_max_7cf53 0 = .ok (.iload_n 0, 1) := by decide +kernel
theorem dJ9_max_7cf53_1 : decode cJ9_max_7cf53 1 = .ok (.iload_n 1, 1) := by decide +kernel
theorem dJ9_max_7cf53_2 : decode cJ9_max_7cf53 2 = .ok (.if_icmp .lt 7, 3) := by decide +kernel
theorem dJ9_max_7cf53_5 : decode cJ9_max_7cf53 5 = .ok (.iload_n 0, 1) := by decide +kernel
theorem dJ9_max_7cf53_6 : decode cJ9_max_7cf53 6 = .ok (.goto 4, 3) := by decide +kernel
theorem dJ9_max_7cf53_9 : decode cJ9_max_7cf53 9 = .ok (.iload_n 1, 1) := by decide +kernel
theorem dJ9_max_7cf53_10 : decode cJ9_max_7cf53 10 = .ok (.ireturn, 1) := by decide +kernel
theorem dJ9_min_7cf53_0 : decode cJ9_min_7cf53 0 = .ok (.iload_n 0, 1) := by decide +kernel
theorem dJ9_min_7cf53_1 : decode cJ9_min_7cf53 1 = .ok (.iload_n 1, 1) := by decide +kernel
theorem dJ9_min_7cf53_2 : decode cJ9_min_7cf53 2 = .ok (.if_icmp .gt 7, 3) := by decide +kernel
theorem dJ9_min_7cf53_5 : decode cJ9_min_7cf53 5 = .ok (.iload_n 0, 1) := by decide +kernel
theorem dJ9_min_7cf53_6 : decode cJ9_min_7cf53 6 = .ok (.goto 4, 3) := by decide +kernel
theorem dJ9_min_7cf53_9 : decode cJ9_min_7cf53 9 = .ok (.iload_n 1, 1) := by decide +kernel
theorem dJ9_min_7cf53_10 : decode cJ9_min_7cf53 10 = .ok (.ireturn, 1) := by decide +kernel
theorem dJ0_length_8abf5_0 : decode cJ0_length_8abf5 0 = .ok (.aload_n 0, 1) := by decide +kernel
theorem dJ0_length_8abf5_1 : decode cJ0_length_8abf5 1 = .ok (.getfield 9, 3) := by decide +kernel
theorem dJ0_length_8abf5_4 : decode cJ0_length_8abf5 4 = .ok (.arraylength, 1) := by decide +kernel
theorem dJ0_length_8abf5_5 : decode cJ0_length_8abf5 5 = .ok (.aload_n 0, 1) := by decide +kernel
theorem dJ0_length_8abf5_6 : decode cJ0_length_8abf5 6 = .ok (.invokevirtual 335, 3) := by decide +kernel
theorem dJ0_length_8abf5_9 : decode cJ0_length_8abf5 9 = .ok (.ishr, 1) := by decide +kernel
theorem dJ0_length_8abf5_10 : decode cJ0_length_8abf5 10 = .ok (.ireturn, 1) := by decide +kernel
theorem dJ0_charAt_5068e_0 : decode cJ0_charAt_5068e 0 = .ok (.aload_n 0, 1) := by decide +kernel
theorem dJ0_charAt_5068e_1 : decode cJ0_charAt_5068e 1 = .ok (.invokevirtual 492, 3) := by decide +kernel
theorem dJ0_charAt_5068e_4 : decode cJ0_charAt_5068e 4 = .ok (.ifCond .eq 12, 3) := by decide +kernel
theorem dJ0_charAt_5068e_7 : decode cJ0_charAt_5068e 7 = .ok (.aload_n 0, 1) := by decide +kernel
theorem dJ0_charAt_5068e_8 : decode cJ0_charAt_5068e 8 = .ok (.getfield 9, 3) := by decide +kernel
theorem dJ0_charAt_5068e_11 : decode cJ0_charAt_5068e 11 = .ok (.iload_n 1, 1) := by decide +kernel
theorem dJ0_charAt_5068e_12 : decode cJ0_charAt_5068e 12 = .ok (.invokestatic 495, 3) := by decide +kernel
theorem dJ0_charAt_5068e_15 : decode cJ0_charAt_5068e 15 = .ok (.ireturn, 1) := by decide +kernel
theorem dJ0_charAt_5068e_16 : decode cJ0_charAt_5068e 16 = .ok (.aload_n 0, 1) := by decide +kernel
theorem dJ0_charAt_5068e_17 : decode cJ0_charAt_5068e 17 = .ok (.getfield 9, 3) := by decide +kernel
theorem dJ0_charAt_5068e_20 : decode cJ0_charAt_5068e 20 = .ok (.iload_n 1, 1) := by decide +kernel
theorem dJ0_charAt_5068e_21 : decode cJ0_charAt_5068e 21 = .ok (.invokestatic 498, 3) := by decide +kernel
theorem dJ0_charAt_5068e_24 : decode cJ0_charAt_5068e 24 = .ok (.ireturn, 1) := by decide +kernel
theorem dJ0_coder_7d493_0 : decode cJ0_coder_7d493 0 = .ok (.getstatic 38, 3) := by decide +kernel
theorem dJ0_coder_7d493_3 : decode cJ0_coder_7d493 3 = .ok (.ifCond .eq 10, 3) := by decide +kernel
theorem dJ0_coder_7d493_6 : decode cJ0_coder_7d493 6 = .ok (.aload_n 0, 1) := by decide +kernel
theorem dJ0_coder_7d493_7 : decode cJ0_coder_7d493 7 = .ok (.getfield 15, 3) := by decide +kernel
theorem dJ0_coder_7d493_10 : decode cJ0_coder_7d493 10 = .ok (.goto 4, 3) := by decide +kernel
theorem dJ0_coder_7d493_13 : decode cJ0_coder_7d493 13 = .ok (.iconst 1, 1) := by decide +kernel
theorem dJ0_coder_7d493_14 : decode cJ0_coder_7d493 14 = .ok (.ireturn, 1) := by decide +kernel
theorem dJ0_isLatin1_aae02_0 : decode cJ0_isLatin1_aae02 0 = .ok (.getstatic 38, 3) := by decide +kernel
theorem dJ0_isLatin1_aae02_3 : decode cJ0_isLatin1_aae02 3 = .ok (.ifCond .eq 14, 3) := by decide +kernel
theorem dJ0_isLatin1_aae02_6 : decode cJ0_isLatin1_aae02 6 = .ok (.aload_n 0, 1) := by decide +kernel
theorem dJ0_isLatin1_aae02_7 : decode cJ0_isLatin1_aae02 7 = .ok (.getfield 15, 3) := by decide +kernel
theorem dJ0_isLatin1_aae02_10 : decode cJ0_isLatin1_aae02 10 = .ok (.ifCond .ne 7, 3) := by decide +kernel
theorem dJ0_isLatin1_aae02_13 : decode cJ0_isLatin1_aae02 13 = .ok (.iconst 1, 1) := by decide +kernel
theorem dJ0_isLatin1_aae02_14 : decode cJ0_isLatin1_aae02 14 = .ok (.goto 4, 3) := by decide +kernel
theorem dJ0_isLatin1_aae02_17 : decode cJ0_isLatin1_aae02 17 = .ok (.iconst 0, 1) := by decide +kernel
theorem dJ0_isLatin1_aae02_18 : decode cJ0_isLatin1_aae02 18 = .ok (.ireturn, 1) := by decide +kernel
theorem dJ0_checkIndex_df160_0 : decode cJ0_checkIndex_df160 0 = .ok (.iload_n 0, 1) := by decide +kernel
theorem dJ0_checkIndex_df160_1 : decode cJ0_checkIndex_df160 1 = .ok (.iload_n 1, 1) := by decide +kernel
theorem dJ0_checkIndex_df160_2 : decode cJ0_checkIndex_df160 2 = .ok (.getstatic 1053, 3) := by decide +kernel
theorem dJ0_checkIndex_df160_5 : decode cJ0_checkIndex_df160 5 = .ok (.invokestatic 1059, 3) := by decide +kernel
theorem dJ0_checkIndex_df160_8 : decode cJ0_checkIndex_df160 8 = .ok (.pop, 1) := by decide +kernel
theorem dJ0_checkIndex_df160_9 : decode cJ0_checkIndex_df160 9 = .ok (.return_, 1) := by decide +kernel
theorem dJ1_charAt_3b067_0 : decode cJ1_charAt_3b067 0 = .ok (.iload_n 1, 1) := by decide +kernel
theorem dJ1_charAt_3b067_1 : decode cJ1_charAt_3b067 1 = .ok (.aload_n 0, 1) := by decide +kernel
theorem dJ1_charAt_3b067_2 : decode cJ1_charAt_3b067 2 = .ok (.arraylength, 1) := by decide +kernel
theorem dJ1_charAt_3b067_3 : decode cJ1_charAt_3b067 3 = .ok (.invokestatic 9, 3) := by decide +kernel
theorem dJ1_charAt_3b067_6 : decode cJ1_charAt_3b067 6 = .ok (.aload_n 0, 1) := by decide +kernel
theorem dJ1_charAt_3b067_7 : decode cJ1_charAt_3b067 7 = .ok (.iload_n 1, 1) := by decide +kernel
theorem dJ1_charAt_3b067_8 : decode cJ1_charAt_3b067 8 = .ok (.baload, 1) := by decide +kernel
theorem dJ1_charAt_3b067_9 : decode cJ1_charAt_3b067 9 = .ok (.sipush 255, 3) := by decide +kernel
theorem dJ1_charAt_3b067_12 : decode cJ1_charAt_3b067 12 = .ok (.iand, 1) := by decide +kernel
theorem dJ1_charAt_3b067_13 : decode cJ1_charAt_3b067 13 = .ok (.i2c, 1) := by decide +kernel
theorem dJ1_charAt_3b067_14 : decode cJ1_charAt_3b067 14 = .ok (.ireturn, 1) := by decide +kernel
theorem dJ2_getChar_3b067_0 : decode cJ2_getChar_3b067 0 = .ok (.getstatic 44, 3) := by decide +kernel
theorem dJ2_getChar_3b067_3 : decode cJ2_getChar_3b067 3 = .ok (.ifCond .ne 25, 3) := by decide +kernel
theorem dJ2_getChar_3b067_6 : decode cJ2_getChar_3b067 6 = .ok (.iload_n 1, 1) := by decide +kernel
theorem dJ2_getChar_3b067_7 : decode cJ2_getChar_3b067 7 = .ok (.ifCond .lt 11, 3) := by decide +kernel
theorem dJ2_getChar_3b067_10 : decode cJ2_getChar_3b067 10 = .ok (.iload_n 1, 1) := by decide +kernel
theorem dJ2_getChar_3b067_11 : decode cJ2_getChar_3b067 11 = .ok (.aload_n 0, 1) := by decide +kernel
theorem dJ2_getChar_3b067_12 : decode cJ2_getChar_3b067 12 = .ok (.invokestatic 48, 3) := by decide +kernel
theorem dJ2_getChar_3b067_15 : decode cJ2_getChar_3b067 15 = .ok (.if_icmp .lt 13, 3) := by decide +kernel
theorem dJ2_getChar_3b067_18 : decode cJ2_getChar_3b067 18 = .ok (.new 52, 3) := by decide +kernel
theorem dJ2_getChar_3b067_21 : decode cJ2_getChar_3b067 21 = .ok (.dup, 1) := by decide +kernel
theorem dJ2_getChar_3b067_22 : decode cJ2_getChar_3b067 22 = .ok (.ldc 54, 2) := by decide +kernel
theorem dJ2_getChar_3b067_24 : decode cJ2_getChar_3b067 24 = .ok (.invokespecial 56, 3) := by decide +kernel
theorem dJ2_getChar_3b067_27 : decode cJ2_getChar_3b067 27 = .ok (.athrow, 1) := by decide +kernel
theorem dJ2_getChar_3b067_28 : decode cJ2_getChar_3b067 28 = .ok (.iload_n 1, 1) := by decide +kernel
theorem dJ2_getChar_3b067_29 : decode cJ2_getChar_3b067 29 = .ok (.iconst 1, 1) := by decide +kernel
theorem dJ2_getChar_3b067_30 : decode cJ2_getChar_3b067 30 = .ok (.ishl, 1) := by decide +kernel
theorem dJ2_getChar_3b067_31 : decode cJ2_getChar_3b067 31 = .ok (.istore_n 1, 1) := by decide +kernel
theorem dJ2_getChar_3b067_32 : decode cJ2_getChar_3b067 32 = .ok (.aload_n 0, 1) := by decide +kernel
theorem dJ2_getChar_3b067_33 : decode cJ2_getChar_3b067 33 = .ok (.iload_n 1, 1) := by decide +kernel
theorem dJ2_getChar_3b067_34 : decode cJ2_getChar_3b067 34 = .ok (.iinc 1 1, 3) := by decide +kernel
theorem dJ2_getChar_3b067_37 : decode cJ2_getChar_3b067 37 = .ok (.baload, 1) := by decide +kernel
theorem dJ2_getChar_3b067_38 : decode cJ2_getChar_3b067 38 = .ok (.sipush 255, 3) := by decide +kernel
theorem dJ2_getChar_3b067_41 : decode cJ2_getChar_3b067 41 = .ok (.iand, 1) := by decide +kernel
theorem dJ2_getChar_3b067_42 : decode cJ2_getChar_3b067 42 = .ok (.getstatic 59, 3) := by decide +kernel
theorem dJ2_getChar_3b067_45 : decode cJ2_getChar_3b067 45 = .ok (.ishl, 1) := by decide +kernel
theorem dJ2_getChar_3b067_46 : decode cJ2_getChar_3b067 46 = .ok (.aload_n 0, 1) := by decide +kernel
theorem dJ2_getChar_3b067_47 : decode cJ2_getChar_3b067 47 = .ok (.iload_n 1, 1) := by decide +kernel
theorem dJ2_getChar_3b067_48 : decode cJ2_getChar_3b067 48 = .ok (.baload, 1) := by decide +kernel
theorem dJ2_getChar_3b067_49 : decode cJ2_getChar_3b067 49 = .ok (.sipush 255, 3) := by decide +kernel
theorem dJ2_getChar_3b067_52 : decode cJ2_getChar_3b067 52 = .ok (.iand, 1) := by decide +kernel
theorem dJ2_getChar_3b067_53 : decode cJ2_getChar_3b067 53 = .ok (.getstatic 63, 3) := by decide +kernel
theorem dJ2_getChar_3b067_56 : decode cJ2_getChar_3b067 56 = .ok (.ishl, 1) := by decide +kernel
theorem dJ2_getChar_3b067_57 : decode cJ2_getChar_3b067 57 = .ok (.ior, 1) := by decide +kernel
theorem dJ2_getChar_3b067_58 : decode cJ2_getChar_3b067 58 = .ok (.i2c, 1) := by decide +kernel
theorem dJ2_getChar_3b067_59 : decode cJ2_getChar_3b067 59 = .ok (.ireturn, 1) := by decide +kernel
theorem dJ2_length_9d52b_0 : decode cJ2_length_9d52b 0 = .ok (.aload_n 0, 1) := by decide +kernel
theorem dJ2_length_9d52b_1 : decode cJ2_length_9d52b 1 = .ok (.arraylength, 1) := by decide +kernel
theorem dJ2_length_9d52b_2 : decode cJ2_length_9d52b 2 = .ok (.iconst 1, 1) := by decide +kernel
theorem dJ2_length_9d52b_3 : decode cJ2_length_9d52b 3 = .ok (.ishr, 1) := by decide +kernel
theorem dJ2_length_9d52b_4 : decode cJ2_length_9d52b 4 = .ok (.ireturn, 1) := by decide +kernel
theorem dJ2_charAt_3b067_0 : decode cJ2_charAt_3b067 0 = .ok (.iload_n 1, 1) := by decide +kernel
theorem dJ2_charAt_3b067_1 : decode cJ2_charAt_3b067 1 = .ok (.aload_n 0, 1) := by decide +kernel
theorem dJ2_charAt_3b067_2 : decode cJ2_charAt_3b067 2 = .ok (.invokestatic 67, 3) := by decide +kernel
theorem dJ2_charAt_3b067_5 : decode cJ2_charAt_3b067 5 = .ok (.aload_n 0, 1) := by decide +kernel
theorem dJ2_charAt_3b067_6 : decode cJ2_charAt_3b067 6 = .ok (.iload_n 1, 1) := by decide +kernel
theorem dJ2_charAt_3b067_7 : decode cJ2_charAt_3b067 7 = .ok (.invokestatic 71, 3) := by decide +kernel
theorem dJ2_charAt_3b067_10 : decode cJ2_charAt_3b067 10 = .ok (.ireturn, 1) := by decide +kernel
theorem dJ2_checkIndex_2214a_0 : decode cJ2_checkIndex_2214a 0 = .ok (.iload_n 0, 1) := by decide +kernel
theorem dJ2_checkIndex_2214a_1 : decode cJ2_checkIndex_2214a 1 = .ok (.aload_n 1, 1) := by decide +kernel
theorem dJ2_checkIndex_2214a_2 : decode cJ2_checkIndex_2214a 2 = .ok (.invokestatic 48, 3) := by decide +kernel
theorem dJ2_checkIndex_2214a_5 : decode cJ2_checkIndex_2214a 5 = .ok (.invokestatic 414, 3) := by decide +kernel
theorem dJ2_checkIndex_2214a_8 : decode cJ2_checkIndex_2214a 8 = .ok (.return_, 1) := by decide +kernel
theorem dJ3_checkIndex_8e157_0 : decode cJ3_checkIndex_8e157 0 = .ok (.iload_n 0, 1) := by decide +kernel
theorem dJ3_checkIndex_8e157_1 : decode cJ3_checkIndex_8e157 1 = .ok (.ifCond .lt 8, 3) := by decide +kernel
theorem dJ3_checkIndex_8e157_4 : decode cJ3_checkIndex_8e157 4 = .ok (.iload_n 0, 1) := by decide +kernel
theorem dJ3_checkIndex_8e157_5 : decode cJ3_checkIndex_8e157 5 = .ok (.iload_n 1, 1) := by decide +kernel
theorem dJ3_checkIndex_8e157_6 : decode cJ3_checkIndex_8e157 6 = .ok (.if_icmp .lt 10, 3) := by decide +kernel
theorem dJ3_checkIndex_8e157_9 : decode cJ3_checkIndex_8e157 9 = .ok (.aload_n 2, 1) := by decide +kernel
theorem dJ3_checkIndex_8e157_10 : decode cJ3_checkIndex_8e157 10 = .ok (.iload_n 0, 1) := by decide +kernel
theorem dJ3_checkIndex_8e157_11 : decode cJ3_checkIndex_8e157 11 = .ok (.iload_n 1, 1) := by decide +kernel
theorem dJ3_checkIndex_8e157_12 : decode cJ3_checkIndex_8e157 12 = .ok (.invokestatic 95, 3) := by decide +kernel
theorem dJ3_checkIndex_8e157_15 : decode cJ3_checkIndex_8e157 15 = .ok (.athrow, 1) := by decide +kernel
theorem dJ3_checkIndex_8e157_16 : decode cJ3_checkIndex_8e157 16 = .ok (.iload_n 0, 1) := by decide +kernel
theorem dJ3_checkIndex_8e157_17 : decode cJ3_checkIndex_8e157 17 = .ok (.ireturn, 1) := by decide +kernel
