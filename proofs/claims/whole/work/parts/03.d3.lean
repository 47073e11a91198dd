theorem dX6_plan_31 : decode cX6_plan 31 = .ok (.invokevirtual 45, 3) := by decide +kernel
theorem dX6_plan_34 : decode cX6_plan 34 = .ok (.ireturn, 1) := by decide +kernel
theorem dX6_plan_35 : decode cX6_plan 35 = .ok (.aload_n 0, 1) := by decide +kernel
theorem dX6_plan_36 : decode cX6_plan 36 = .ok (.getfield 10, 3) := by decide +kernel
theorem dX6_plan_39 : decode cX6_plan 39 = .ok (.getfield 81, 3) := by decide +kernel
theorem dX6_plan_42 : decode cX6_plan 42 = .ok (.aload_n 0, 1) := by decide +kernel
theorem dX6_plan_43 : decode cX6_plan 43 = .ok (.getfield 10, 3) := by decide +kernel
theorem dX6_plan_46 : decode cX6_plan 46 = .ok (.getfield 135, 3) := by decide +kernel
theorem dX6_plan_49 : decode cX6_plan 49 = .ok (.iload_n 1, 1) := by decide +kernel
theorem dX6_plan_50 : decode cX6_plan 50 = .ok (.iload_n 2, 1) := by decide +kernel
theorem dX6_plan_51 : decode cX6_plan 51 = .ok (.invokevirtual 255, 3) := by decide +kernel
theorem dX6_plan_54 : decode cX6_plan 54 = .ok (.ireturn, 1) := by decide +kernel
theorem dX6_fill_0 : decode cX6_fill 0 = .ok (.iload_n 1, 1) := by decide +kernel
theorem dX6_fill_1 : decode cX6_fill 1 = .ok (.iload_n 2, 1) := by decide +kernel
theorem dX6_fill_2 : decode cX6_fill 2 = .ok (.invokestatic 252, 3) := by decide +kernel
theorem dX6_fill_5 : decode cX6_fill 5 = .ok (.ifCond .ne 10, 3) := by decide +kernel
theorem dX6_fill_8 : decode cX6_fill 8 = .ok (.aload_n 0, 1) := by decide +kernel
theorem dX6_fill_9 : decode cX6_fill 9 = .ok (.bipush (-2), 2) := by decide +kernel
theorem dX6_fill_11 : decode cX6_fill 11 = .ok (.invokevirtual 45, 3) := by decide +kernel
theorem dX6_fill_14 : decode cX6_fill 14 = .ok (.ireturn, 1) := by decide +kernel
theorem dX6_fill_15 : decode cX6_fill 15 = .ok (.aload_n 0, 1) := by decide +kernel
theorem dX6_fill_16 : decode cX6_fill 16 = .ok (.getfield 10, 3) := by decide +kernel
theorem dX6_fill_19 : decode cX6_fill 19 = .ok (.getfield 81, 3) := by decide +kernel
theorem dX6_fill_22 : decode cX6_fill 22 = .ok (.getfield 194, 3) := by decide +kernel
theorem dX6_fill_25 : decode cX6_fill 25 = .ok (.ifCond .ne 10, 3) := by decide +kernel
theorem dX6_fill_28 : decode cX6_fill 28 = .ok (.aload_n 0, 1) := by decide +kernel
theorem dX6_fill_29 : decode cX6_fill 29 = .ok (.bipush (-5), 2) := by decide +kernel
theorem dX6_fill_31 : decode cX6_fill 31 = .ok (.invokevirtual 45, 3) := by decide +kernel
theorem dX6_fill_34 : decode cX6_fill 34 = .ok (.ireturn, 1) := by decide +kernel
theorem dX6_fill_35 : decode cX6_fill 35 = .ok (.aload_n 0, 1) := by decide +kernel
theorem dX6_fill_36 : decode cX6_fill 36 = .ok (.getfield 10, 3) := by decide +kernel
theorem dX6_fill_39 : decode cX6_fill 39 = .ok (.iload_n 1, 1) := by decide +kernel
theorem dX6_fill_40 : decode cX6_fill 40 = .ok (.iload_n 2, 1) := by decide +kernel
theorem dX6_fill_41 : decode cX6_fill 41 = .ok (.invokevirtual 285, 3) := by decide +kernel
theorem dX6_fill_44 : decode cX6_fill 44 = .ok (.ireturn, 1) := by decide +kernel
theorem dX6_round_0 : decode cX6_round 0 = .ok (.aload_n 0, 1) := by decide +kernel
theorem dX6_round_1 : decode cX6_round 1 = .ok (.getfield 10, 3) := by decide +kernel
theorem dX6_round_4 : decode cX6_round 4 = .ok (.getfield 81, 3) := by decide +kernel
theorem dX6_round_7 : decode cX6_round 7 = .ok (.getfield 194, 3) := by decide +kernel
theorem dX6_round_10 : decode cX6_round 10 = .ok (.ifCond .eq 13, 3) := by decide +kernel
theorem dX6_round_13 : decode cX6_round 13 = .ok (.aload_n 0, 1) := by decide +kernel
theorem dX6_round_14 : decode cX6_round 14 = .ok (.getfield 10, 3) := by decide +kernel
theorem dX6_round_17 : decode cX6_round 17 = .ok (.getfield 200, 3) := by decide +kernel
theorem dX6_round_20 : decode cX6_round 20 = .ok (.ifCond .ne 10, 3) := by decide +kernel
theorem dX6_round_23 : decode cX6_round 23 = .ok (.aload_n 0, 1) := by decide +kernel
theorem dX6_round_24 : decode cX6_round 24 = .ok (.bipush (-5), 2) := by decide +kernel
theorem dX6_round_26 : decode cX6_round 26 = .ok (.invokevirtual 45, 3) := by decide +kernel
theorem dX6_round_29 : decode cX6_round 29 = .ok (.ireturn, 1) := by decide +kernel
theorem dX6_round_30 : decode cX6_round 30 = .ok (.aload_n 0, 1) := by decide +kernel
theorem dX6_round_31 : decode cX6_round 31 = .ok (.getfield 10, 3) := by decide +kernel
theorem dX6_round_34 : decode cX6_round 34 = .ok (.iconst 0, 1) := by decide +kernel
theorem dX6_round_35 : decode cX6_round 35 = .ok (.invokevirtual 227, 3) := by decide +kernel
theorem dX6_round_38 : decode cX6_round 38 = .ok (.lstore_n 1, 1) := by decide +kernel
theorem dX6_round_39 : decode cX6_round 39 = .ok (.iconst 1, 1) := by decide +kernel
theorem dX6_round_40 : decode cX6_round 40 = .ok (.istore_n 3, 1) := by decide +kernel
theorem dX6_round_41 : decode cX6_round 41 = .ok (.iload_n 3, 1) := by decide +kernel
theorem dX6_round_42 : decode cX6_round 42 = .ok (.bipush 60, 2) := by decide +kernel
theorem dX6_round_44 : decode cX6_round 44 = .ok (.if_icmp .gt 31, 3) := by decide +kernel
theorem dX6_round_47 : decode cX6_round 47 = .ok (.aload_n 0, 1) := by decide +kernel
theorem dX6_round_48 : decode cX6_round 48 = .ok (.getfield 10, 3) := by decide +kernel
theorem dX6_round_51 : decode cX6_round 51 = .ok (.iload_n 3, 1) := by decide +kernel
theorem dX6_round_52 : decode cX6_round 52 = .ok (.invokevirtual 227, 3) := by decide +kernel
theorem dX6_round_55 : decode cX6_round 55 = .ok (.lstore 4, 2) := by decide +kernel
theorem dX6_round_57 : decode cX6_round 57 = .ok (.lload 4, 2) := by decide +kernel
theorem dX6_round_59 : decode cX6_round 59 = .ok (.lload_n 1, 1) := by decide +kernel
theorem dX6_round_60 : decode cX6_round 60 = .ok (.lcmp, 1) := by decide +kernel
theorem dX6_round_61 : decode cX6_round 61 = .ok (.ifCond .ne 5, 3) := by decide +kernel
theorem dX6_round_64 : decode cX6_round 64 = .ok (.iload_n 3, 1) := by decide +kernel
theorem dX6_round_65 : decode cX6_round 65 = .ok (.ireturn, 1) := by decide +kernel
theorem dX6_round_66 : decode cX6_round 66 = .ok (.lload 4, 2) := by decide +kernel
theorem dX6_round_68 : decode cX6_round 68 = .ok (.lstore_n 1, 1) := by decide +kernel
theorem dX6_round_69 : decode cX6_round 69 = .ok (.iinc 3 1, 3) := by decide +kernel
theorem dX6_round_72 : decode cX6_round 72 = .ok (.goto (-31), 3) := by decide +kernel
theorem dX6_round_75 : decode cX6_round 75 = .ok (.iconst (-1), 1) := by decide +kernel
theorem dX6_round_76 : decode cX6_round 76 = .ok (.ireturn, 1) := by decide +kernel
theorem dX6_day_0 : decode cX6_day 0 = .ok (.iload_n 1, 1) := by decide +kernel
theorem dX6_day_1 : decode cX6_day 1 = .ok (.iload_n 3, 1) := by decide +kernel
theorem dX6_day_2 : decode cX6_day 2 = .ok (.invokestatic 288, 3) := by decide +kernel
theorem dX6_day_5 : decode cX6_day 5 = .ok (.ifCond .eq 26, 3) := by decide +kernel
theorem dX6_day_8 : decode cX6_day 8 = .ok (.iload_n 2, 1) := by decide +kernel
theorem dX6_day_9 : decode cX6_day 9 = .ok (.iconst 0, 1) := by decide +kernel
theorem dX6_day_10 : decode cX6_day 10 = .ok (.iload_n 1, 1) := by decide +kernel
theorem dX6_day_11 : decode cX6_day 11 = .ok (.iconst 1, 1) := by decide +kernel
theorem dX6_day_12 : decode cX6_day 12 = .ok (.isub, 1) := by decide +kernel
theorem dX6_day_13 : decode cX6_day 13 = .ok (.invokestatic 41, 3) := by decide +kernel
theorem dX6_day_16 : decode cX6_day 16 = .ok (.ifCond .eq 15, 3) := by decide +kernel
theorem dX6_day_19 : decode cX6_day 19 = .ok (.iload 4, 2) := by decide +kernel
theorem dX6_day_21 : decode cX6_day 21 = .ok (.iconst 0, 1) := by decide +kernel
theorem dX6_day_22 : decode cX6_day 22 = .ok (.iload_n 3, 1) := by decide +kernel
theorem dX6_day_23 : decode cX6_day 23 = .ok (.iconst 1, 1) := by decide +kernel
theorem dX6_day_24 : decode cX6_day 24 = .ok (.isub, 1) := by decide +kernel
theorem dX6_day_25 : decode cX6_day 25 = .ok (.invokestatic 41, 3) := by decide +kernel
theorem dX6_day_28 : decode cX6_day 28 = .ok (.ifCond .ne 10, 3) := by decide +kernel
theorem dX6_day_31 : decode cX6_day 31 = .ok (.aload_n 0, 1) := by decide +kernel
theorem dX6_day_32 : decode cX6_day 32 = .ok (.bipush (-2), 2) := by decide +kernel
theorem dX6_day_34 : decode cX6_day 34 = .ok (.invokevirtual 45, 3) := by decide +kernel
theorem dX6_day_37 : decode cX6_day 37 = .ok (.ireturn, 1) := by decide +kernel
theorem dX6_day_38 : decode cX6_day 38 = .ok (.iconst 0, 1) := by decide +kernel
theorem dX6_day_39 : decode cX6_day 39 = .ok (.iload_n 1, 1) := by decide +kernel
theorem dX6_day_40 : decode cX6_day 40 = .ok (.iload_n 2, 1) := by decide +kernel
theorem dX6_day_41 : decode cX6_day 41 = .ok (.iload_n 3, 1) := by decide +kernel
theorem dX6_day_42 : decode cX6_day 42 = .ok (.iload 4, 2) := by decide +kernel
theorem dX6_day_44 : decode cX6_day 44 = .ok (.invokestatic 291, 3) := by decide +kernel
theorem dX6_day_47 : decode cX6_day 47 = .ok (.ireturn, 1) := by decide +kernel
theorem dX6_tolls_0 : decode cX6_tolls 0 = .ok (.iload_n 1, 1) := by decide +kernel
theorem dX6_tolls_1 : decode cX6_tolls 1 = .ok (.iconst 0, 1) := by decide +kernel
theorem dX6_tolls_2 : decode cX6_tolls 2 = .ok (.sipush 999, 3) := by decide +kernel
theorem dX6_tolls_5 : decode cX6_tolls 5 = .ok (.invokestatic 41, 3) := by decide +kernel
theorem dX6_tolls_8 : decode cX6_tolls 8 = .ok (.ifCond .eq 12, 3) := by decide +kernel
theorem dX6_tolls_11 : decode cX6_tolls 11 = .ok (.iload_n 2, 1) := by decide +kernel
theorem dX6_tolls_12 : decode cX6_tolls 12 = .ok (.iconst 0, 1) := by decide +kernel
theorem dX6_tolls_13 : decode cX6_tolls 13 = .ok (.iconst 1, 1) := by decide +kernel
theorem dX6_tolls_14 : decode cX6_tolls 14 = .ok (.invokestatic 41, 3) := by decide +kernel
theorem dX6_tolls_17 : decode cX6_tolls 17 = .ok (.ifCond .ne 10, 3) := by decide +kernel
theorem dX6_tolls_20 : decode cX6_tolls 20 = .ok (.aload_n 0, 1) := by decide +kernel
theorem dX6_tolls_21 : decode cX6_tolls 21 = .ok (.bipush (-2), 2) := by decide +kernel
theorem dX6_tolls_23 : decode cX6_tolls 23 = .ok (.invokevirtual 45, 3) := by decide +kernel
theorem dX6_tolls_26 : decode cX6_tolls 26 = .ok (.ireturn, 1) := by decide +kernel
theorem dX6_tolls_27 : decode cX6_tolls 27 = .ok (.iload_n 2, 1) := by decide +kernel
theorem dX6_tolls_28 : decode cX6_tolls 28 = .ok (.ifCond .ne 17, 3) := by decide +kernel
theorem dX6_tolls_31 : decode cX6_tolls 31 = .ok (.aload_n 0, 1) := by decide +kernel
theorem dX6_tolls_32 : decode cX6_tolls 32 = .ok (.getfield 10, 3) := by decide +kernel
theorem dX6_tolls_35 : decode cX6_tolls 35 = .ok (.getfield 145, 3) := by decide +kernel
theorem dX6_tolls_38 : decode cX6_tolls 38 = .ok (.iload_n 1, 1) := by decide +kernel
theorem dX6_tolls_39 : decode cX6_tolls 39 = .ok (.invokevirtual 295, 3) := by decide +kernel
theorem dX6_tolls_42 : decode cX6_tolls 42 = .ok (.goto 14, 3) := by decide +kernel
theorem dX6_tolls_45 : decode cX6_tolls 45 = .ok (.aload_n 0, 1) := by decide +kernel
theorem dX6_tolls_46 : decode cX6_tolls 46 = .ok (.getfield 10, 3) := by decide +kernel
theorem dX6_tolls_49 : decode cX6_tolls 49 = .ok (.getfield 145, 3) := by decide +kernel
theorem dX6_tolls_52 : decode cX6_tolls 52 = .ok (.iload_n 1, 1) := by decide +kernel
theorem dX6_tolls_53 : decode cX6_tolls 53 = .ok (.invokevirtual 298, 3) := by decide +kernel
theorem dX6_tolls_56 : decode cX6_tolls 56 = .ok (.ireturn, 1) := by decide +kernel
theorem dX6_meet_0 : decode cX6_meet 0 = .ok (.iload_n 1, 1) := by decide +kernel
theorem dX6_meet_1 : decode cX6_meet 1 = .ok (.iload_n 2, 1) := by decide +kernel
theorem dX6_meet_2 : decode cX6_meet 2 = .ok (.invokestatic 288, 3) := by decide +kernel
theorem dX6_meet_5 : decode cX6_meet 5 = .ok (.ifCond .eq 14, 3) := by decide +kernel
theorem dX6_meet_8 : decode cX6_meet 8 = .ok (.iconst 1, 1) := by decide +kernel
theorem dX6_meet_9 : decode cX6_meet 9 = .ok (.iload_n 1, 1) := by decide +kernel
theorem dX6_meet_10 : decode cX6_meet 10 = .ok (.iconst 0, 1) := by decide +kernel
theorem dX6_meet_11 : decode cX6_meet 11 = .ok (.iload_n 2, 1) := by decide +kernel
theorem dX6_meet_12 : decode cX6_meet 12 = .ok (.iconst 0, 1) := by decide +kernel
theorem dX6_meet_13 : decode cX6_meet 13 = .ok (.invokestatic 291, 3) := by decide +kernel
theorem dX6_meet_16 : decode cX6_meet 16 = .ok (.goto 9, 3) := by decide +kernel
theorem dX6_meet_19 : decode cX6_meet 19 = .ok (.aload_n 0, 1) := by decide +kernel
theorem dX6_meet_20 : decode cX6_meet 20 = .ok (.bipush (-2), 2) := by decide +kernel
theorem dX6_meet_22 : decode cX6_meet 22 = .ok (.invokevirtual 45, 3) := by decide +kernel
theorem dX6_meet_25 : decode cX6_meet 25 = .ok (.ireturn, 1) := by decide +kernel
theorem dX6_sum_0 : decode cX6_sum 0 = .ok (.iload_n 1, 1) := by decide +kernel
theorem dX6_sum_1 : decode cX6_sum 1 = .ok (.aload_n 0, 1) := by decide +kernel
theorem dX6_sum_2 : decode cX6_sum 2 = .ok (.getfield 10, 3) := by decide +kernel
theorem dX6_sum_5 : decode cX6_sum 5 = .ok (.getfield 145, 3) := by decide +kernel
theorem dX6_sum_8 : decode cX6_sum 8 = .ok (.getfield 301, 3) := by decide +kernel
theorem dX6_sum_11 : decode cX6_sum 11 = .ok (.invokestatic 249, 3) := by decide +kernel
theorem dX6_sum_14 : decode cX6_sum 14 = .ok (.ifCond .eq 17, 3) := by decide +kernel
theorem dX6_sum_17 : decode cX6_sum 17 = .ok (.aload_n 0, 1) := by decide +kernel
theorem dX6_sum_18 : decode cX6_sum 18 = .ok (.getfield 10, 3) := by decide +kernel
theorem dX6_sum_21 : decode cX6_sum 21 = .ok (.getfield 145, 3) := by decide +kernel
theorem dX6_sum_24 : decode cX6_sum 24 = .ok (.iload_n 1, 1) := by decide +kernel
theorem dX6_sum_25 : decode cX6_sum 25 = .ok (.invokevirtual 302, 3) := by decide +kernel
theorem dX6_sum_28 : decode cX6_sum 28 = .ok (.goto 9, 3) := by decide +kernel
theorem dX6_sum_31 : decode cX6_sum 31 = .ok (.aload_n 0, 1) := by decide +kernel
theorem dX6_sum_32 : decode cX6_sum 32 = .ok (.bipush (-2), 2) := by decide +kernel
theorem dX6_sum_34 : decode cX6_sum 34 = .ok (.invokevirtual 45, 3) := by decide +kernel
theorem dX6_sum_37 : decode cX6_sum 37 = .ok (.ireturn, 1) := by decide +kernel
theorem dX6_reached_0 : decode cX6_reached 0 = .ok (.iload_n 1, 1) := by decide +kernel
theorem dX6_reached_1 : decode cX6_reached 1 = .ok (.iconst 0, 1) := by decide +kernel
theorem dX6_reached_2 : decode cX6_reached 2 = .ok (.sipush 999, 3) := by decide +kernel
theorem dX6_reached_5 : decode cX6_reached 5 = .ok (.invokestatic 41, 3) := by decide +kernel
theorem dX6_reached_8 : decode cX6_reached 8 = .ok (.ifCond .eq 17, 3) := by decide +kernel
theorem dX6_reached_11 : decode cX6_reached 11 = .ok (.aload_n 0, 1) := by decide +kernel
theorem dX6_reached_12 : decode cX6_reached 12 = .ok (.getfield 10, 3) := by decide +kernel
theorem dX6_reached_15 : decode cX6_reached 15 = .ok (.getfield 145, 3) := by decide +kernel
theorem dX6_reached_18 : decode cX6_reached 18 = .ok (.iload_n 1, 1) := by decide +kernel
theorem dX6_reached_19 : decode cX6_reached 19 = .ok (.invokevirtual 305, 3) := by decide +kernel
theorem dX6_reached_22 : decode cX6_reached 22 = .ok (.goto 9, 3) := by decide +kernel
theorem dX6_reached_25 : decode cX6_reached 25 = .ok (.aload_n 0, 1) := by decide +kernel
theorem dX6_reached_26 : decode cX6_reached 26 = .ok (.bipush (-2), 2) := by decide +kernel
theorem dX6_reached_28 : decode cX6_reached 28 = .ok (.invokevirtual 45, 3) := by decide +kernel
theorem dX6_reached_31 : decode cX6_reached 31 = .ok (.ireturn, 1) := by decide +kernel
theorem dX6_halves_0 : decode cX6_halves 0 = .ok (.aload_n 0, 1) := by decide +kernel
theorem dX6_halves_1 : decode cX6_halves 1 = .ok (.getfield 10, 3) := by decide +kernel
theorem dX6_halves_4 : decode cX6_halves 4 = .ok (.getfield 145, 3) := by decide +kernel
theorem dX6_halves_7 : decode cX6_halves 7 = .ok (.invokevirtual 308, 3) := by decide +kernel
theorem dX6_halves_10 : decode cX6_halves 10 = .ok (.ireturn, 1) := by decide +kernel
theorem dX6_ranked_0 : decode cX6_ranked 0 = .ok (.aload_n 0, 1) := by decide +kernel
theorem dX6_ranked_1 : decode cX6_ranked 1 = .ok (.getfield 10, 3) := by decide +kernel
theorem dX6_ranked_4 : decode cX6_ranked 4 = .ok (.getfield 145, 3) := by decide +kernel
theorem dX6_ranked_7 : decode cX6_ranked 7 = .ok (.iload_n 1, 1) := by decide +kernel
theorem dX6_ranked_8 : decode cX6_ranked 8 = .ok (.invokevirtual 179, 3) := by decide +kernel
theorem dX6_ranked_11 : decode cX6_ranked 11 = .ok (.ifCond .eq 17, 3) := by decide +kernel
theorem dX6_ranked_14 : decode cX6_ranked 14 = .ok (.aload_n 0, 1) := by decide +kernel
theorem dX6_ranked_15 : decode cX6_ranked 15 = .ok (.getfield 10, 3) := by decide +kernel
theorem dX6_ranked_18 : decode cX6_ranked 18 = .ok (.getfield 145, 3) := by decide +kernel
theorem dX6_ranked_21 : decode cX6_ranked 21 = .ok (.iload_n 1, 1) := by decide +kernel
theorem dX6_ranked_22 : decode cX6_ranked 22 = .ok (.invokevirtual 311, 3) := by decide +kernel
theorem dX6_ranked_25 : decode cX6_ranked 25 = .ok (.goto 9, 3) := by decide +kernel
theorem dX6_ranked_28 : decode cX6_ranked 28 = .ok (.aload_n 0, 1) := by decide +kernel
theorem dX6_ranked_29 : decode cX6_ranked 29 = .ok (.bipush (-2), 2) := by decide +kernel
theorem dX6_ranked_31 : decode cX6_ranked 31 = .ok (.invokevirtual 45, 3) := by decide +kernel
theorem dX6_ranked_34 : decode cX6_ranked 34 = .ok (.ireturn, 1) := by decide +kernel
theorem dX6_oldest_0 : decode cX6_oldest 0 = .ok (.aload_n 0, 1) := by decide +kernel
theorem dX6_oldest_1 : decode cX6_oldest 1 = .ok (.getfield 10, 3) := by decide +kernel
theorem dX6_oldest_4 : decode cX6_oldest 4 = .ok (.getfield 145, 3) := by decide +kernel
theorem dX6_oldest_7 : decode cX6_oldest 7 = .ok (.getfield 301, 3) := by decide +kernel
theorem dX6_oldest_10 : decode cX6_oldest 10 = .ok (.ifCond .le 16, 3) := by decide +kernel
theorem dX6_oldest_13 : decode cX6_oldest 13 = .ok (.aload_n 0, 1) := by decide +kernel
theorem dX6_oldest_14 : decode cX6_oldest 14 = .ok (.getfield 10, 3) := by decide +kernel
theorem dX6_oldest_17 : decode cX6_oldest 17 = .ok (.getfield 145, 3) := by decide +kernel
theorem dX6_oldest_20 : decode cX6_oldest 20 = .ok (.invokevirtual 314, 3) := by decide +kernel
theorem dX6_oldest_23 : decode cX6_oldest 23 = .ok (.goto 9, 3) := by decide +kernel
theorem dX6_oldest_26 : decode cX6_oldest 26 = .ok (.aload_n 0, 1) := by decide +kernel
theorem dX6_oldest_27 : decode cX6_oldest 27 = .ok (.bipush (-5), 2) := by decide +kernel
theorem dX6_oldest_29 : decode cX6_oldest 29 = .ok (.invokevirtual 45, 3) := by decide +kernel
theorem dX6_oldest_32 : decode cX6_oldest 32 = .ok (.ireturn, 1) := by decide +kernel
theorem dX6_judge_0 : decode cX6_judge 0 = .ok (.aload_n 0, 1) := by decide +kernel
theorem dX6_judge_1 : decode cX6_judge 1 = .ok (.iload_n 1, 1) := by decide +kernel
theorem dX6_judge_2 : decode cX6_judge 2 = .ok (.iload_n 2, 1) := by decide +kernel
theorem dX6_judge_3 : decode cX6_judge 3 = .ok (.invokevirtual 317, 3) := by decide +kernel
theorem dX6_judge_6 : decode cX6_judge 6 = .ok (.istore_n 3, 1) := by decide +kernel
theorem dX6_judge_7 : decode cX6_judge 7 = .ok (.iload_n 3, 1) := by decide +kernel
theorem dX6_judge_8 : decode cX6_judge 8 = .ok (.ifCond .ne 15, 3) := by decide +kernel
theorem dX6_judge_11 : decode cX6_judge 11 = .ok (.aload_n 0, 1) := by decide +kernel
theorem dX6_judge_12 : decode cX6_judge 12 = .ok (.getfield 29, 3) := by decide +kernel
theorem dX6_judge_15 : decode cX6_judge 15 = .ok (.iload_n 1, 1) := by decide +kernel
theorem dX6_judge_16 : decode cX6_judge 16 = .ok (.iload_n 2, 1) := by decide +kernel
theorem dX6_judge_17 : decode cX6_judge 17 = .ok (.invokevirtual 320, 3) := by decide +kernel
theorem dX6_judge_20 : decode cX6_judge 20 = .ok (.goto 8, 3) := by decide +kernel
theorem dX6_judge_23 : decode cX6_judge 23 = .ok (.aload_n 0, 1) := by decide +kernel
theorem dX6_judge_24 : decode cX6_judge 24 = .ok (.iload_n 3, 1) := by decide +kernel
theorem dX6_judge_25 : decode cX6_judge 25 = .ok (.invokevirtual 45, 3) := by decide +kernel
theorem dX6_judge_28 : decode cX6_judge 28 = .ok (.ireturn, 1) := by decide +kernel
theorem dX6_answers_0 : decode cX6_answers 0 = .ok (.iload_n 3, 1) := by decide +kernel
theorem dX6_answers_1 : decode cX6_answers 1 = .ok (.iconst 0, 1) := by decide +kernel
theorem dX6_answers_2 : decode cX6_answers 2 = .ok (.iconst 2, 1) := by decide +kernel
theorem dX6_answers_3 : decode cX6_answers 3 = .ok (.invokestatic 41, 3) := by decide +kernel
theorem dX6_answers_6 : decode cX6_answers 6 = .ok (.ifCond .eq 12, 3) := by decide +kernel
theorem dX6_answers_9 : decode cX6_answers 9 = .ok (.aload_n 0, 1) := by decide +kernel
theorem dX6_answers_10 : decode cX6_answers 10 = .ok (.iload_n 1, 1) := by decide +kernel
theorem dX6_answers_11 : decode cX6_answers 11 = .ok (.iload_n 2, 1) := by decide +kernel
theorem dX6_answers_12 : decode cX6_answers 12 = .ok (.invokevirtual 323, 3) := by decide +kernel
theorem dX6_answers_15 : decode cX6_answers 15 = .ok (.goto 5, 3) := by decide +kernel
theorem dX6_answers_18 : decode cX6_answers 18 = .ok (.bipush (-2), 2) := by decide +kernel
theorem dX6_answers_20 : decode cX6_answers 20 = .ok (.istore 4, 2) := by decide +kernel
theorem dX6_answers_22 : decode cX6_answers 22 = .ok (.iload 4, 2) := by decide +kernel
theorem dX6_answers_24 : decode cX6_answers 24 = .ok (.ifCond .eq 10, 3) := by decide +kernel
theorem dX6_answers_27 : decode cX6_answers 27 = .ok (.aload_n 0, 1) := by decide +kernel
theorem dX6_answers_28 : decode cX6_answers 28 = .ok (.iload 4, 2) := by decide +kernel
theorem dX6_answers_30 : decode cX6_answers 30 = .ok (.invokevirtual 45, 3) := by decide +kernel
theorem dX6_answers_33 : decode cX6_answers 33 = .ok (.ireturn, 1) := by decide +kernel
theorem dX6_answers_34 : decode cX6_answers 34 = .ok (.aload_n 0, 1) := by decide +kernel
theorem dX6_answers_35 : decode cX6_answers 35 = .ok (.getfield 29, 3) := by decide +kernel
theorem dX6_answers_38 : decode cX6_answers 38 = .ok (.iload_n 1, 1) := by decide +kernel
theorem dX6_answers_39 : decode cX6_answers 39 = .ok (.iload_n 2, 1) := by decide +kernel
theorem dX6_answers_40 : decode cX6_answers 40 = .ok (.invokevirtual 265, 3) := by decide +kernel
theorem dX6_answers_43 : decode cX6_answers 43 = .ok (.lstore 5, 2) := by decide +kernel
theorem dX6_answers_45 : decode cX6_answers 45 = .ok (.iload_n 3, 1) := by decide +kernel
theorem dX6_answers_46 : decode cX6_answers 46 = .ok (.ifCond .ne 28, 3) := by decide +kernel
theorem dX6_answers_49 : decode cX6_answers 49 = .ok (.aload_n 0, 1) := by decide +kernel
theorem dX6_answers_50 : decode cX6_answers 50 = .ok (.getfield 10, 3) := by decide +kernel
theorem dX6_answers_53 : decode cX6_answers 53 = .ok (.getfield 81, 3) := by decide +kernel
theorem dX6_answers_56 : decode cX6_answers 56 = .ok (.aload_n 0, 1) := by decide +kernel
theorem dX6_answers_57 : decode cX6_answers 57 = .ok (.getfield 10, 3) := by decide +kernel
theorem dX6_answers_60 : decode cX6_answers 60 = .ok (.getfield 135, 3) := by decide +kernel
theorem dX6_answers_63 : decode cX6_answers 63 = .ok (.lload 5, 2) := by decide +kernel
theorem dX6_answers_65 : decode cX6_answers 65 = .ok (.iload_n 2, 1) := by decide +kernel
theorem dX6_answers_66 : decode cX6_answers 66 = .ok (.iconst 0, 1) := by decide +kernel
theorem dX6_answers_67 : decode cX6_answers 67 = .ok (.invokevirtual 326, 3) := by decide +kernel
theorem dX6_answers_70 : decode cX6_answers 70 = .ok (.invokestatic 211, 3) := by decide +kernel
theorem dX6_answers_73 : decode cX6_answers 73 = .ok (.ireturn, 1) := by decide +kernel
theorem dX6_answers_74 : decode cX6_answers 74 = .ok (.aload_n 0, 1) := by decide +kernel
theorem dX6_answers_75 : decode cX6_answers 75 = .ok (.getfield 10, 3) := by decide +kernel
theorem dX6_answers_78 : decode cX6_answers 78 = .ok (.lload 5, 2) := by decide +kernel
theorem dX6_answers_80 : decode cX6_answers 80 = .ok (.iload_n 2, 1) := by decide +kernel
theorem dX6_answers_81 : decode cX6_answers 81 = .ok (.iload_n 3, 1) := by decide +kernel
theorem dX6_answers_82 : decode cX6_answers 82 = .ok (.invokevirtual 207, 3) := by decide +kernel
theorem dX6_answers_85 : decode cX6_answers 85 = .ok (.invokestatic 211, 3) := by decide +kernel
theorem dX6_answers_88 : decode cX6_answers 88 = .ok (.ireturn, 1) := by decide +kernel
theorem dX6_rings_0 : decode cX6_rings 0 = .ok (.aload_n 0, 1) := by decide +kernel
theorem dX6_rings_1 : decode cX6_rings 1 = .ok (.iload_n 1, 1) := by decide +kernel
theorem dX6_rings_2 : decode cX6_rings 2 = .ok (.iload_n 2, 1) := by decide +kernel
theorem dX6_rings_3 : decode cX6_rings 3 = .ok (.invokevirtual 323, 3) := by decide +kernel
theorem dX6_rings_6 : decode cX6_rings 6 = .ok (.istore_n 3, 1) := by decide +kernel
theorem dX6_rings_7 : decode cX6_rings 7 = .ok (.iload_n 3, 1) := by decide +kernel
theorem dX6_rings_8 : decode cX6_rings 8 = .ok (.ifCond .eq 9, 3) := by decide +kernel
theorem dX6_rings_11 : decode cX6_rings 11 = .ok (.aload_n 0, 1) := by decide +kernel
theorem dX6_rings_12 : decode cX6_rings 12 = .ok (.iload_n 3, 1) := by decide +kernel
theorem dX6_rings_13 : decode cX6_rings 13 = .ok (.invokevirtual 45, 3) := by decide +kernel
theorem dX6_rings_16 : decode cX6_rings 16 = .ok (.ireturn, 1) := by decide +kernel
theorem dX6_rings_17 : decode cX6_rings 17 = .ok (.aload_n 0, 1) := by decide +kernel
theorem dX6_rings_18 : decode cX6_rings 18 = .ok (.getfield 10, 3) := by decide +kernel
theorem dX6_rings_21 : decode cX6_rings 21 = .ok (.aload_n 0, 1) := by decide +kernel
theorem dX6_rings_22 : decode cX6_rings 22 = .ok (.getfield 29, 3) := by decide +kernel
theorem dX6_rings_25 : decode cX6_rings 25 = .ok (.iload_n 1, 1) := by decide +kernel
theorem dX6_rings_26 : decode cX6_rings 26 = .ok (.iload_n 2, 1) := by decide +kernel
theorem dX6_rings_27 : decode cX6_rings 27 = .ok (.invokevirtual 265, 3) := by decide +kernel
theorem dX6_rings_30 : decode cX6_rings 30 = .ok (.putfield 120, 3) := by decide +kernel
theorem dX6_rings_33 : decode cX6_rings 33 = .ok (.aload_n 0, 1) := by decide +kernel
theorem dX6_rings_34 : decode cX6_rings 34 = .ok (.getfield 10, 3) := by decide +kernel
theorem dX6_rings_37 : decode cX6_rings 37 = .ok (.iload_n 2, 1) := by decide +kernel
theorem dX6_rings_38 : decode cX6_rings 38 = .ok (.putfield 200, 3) := by decide +kernel
theorem dX6_rings_41 : decode cX6_rings 41 = .ok (.iload_n 2, 1) := by decide +kernel
theorem dX6_rings_42 : decode cX6_rings 42 = .ok (.ireturn, 1) := by decide +kernel
theorem dX6_ring_0 : decode cX6_ring 0 = .ok (.aload_n 0, 1) := by decide +kernel
theorem dX6_ring_1 : decode cX6_ring 1 = .ok (.getfield 10, 3) := by decide +kernel
theorem dX6_ring_4 : decode cX6_ring 4 = .ok (.invokevirtual 272, 3) := by decide +kernel
theorem dX6_ring_7 : decode cX6_ring 7 = .ok (.ifCond .eq 17, 3) := by decide +kernel
theorem dX6_ring_10 : decode cX6_ring 10 = .ok (.aload_n 0, 1) := by decide +kernel
theorem dX6_ring_11 : decode cX6_ring 11 = .ok (.getfield 10, 3) := by decide +kernel
theorem dX6_ring_14 : decode cX6_ring 14 = .ok (.iload_n 1, 1) := by decide +kernel
theorem dX6_ring_15 : decode cX6_ring 15 = .ok (.invokevirtual 329, 3) := by decide +kernel
theorem dX6_ring_18 : decode cX6_ring 18 = .ok (.invokestatic 190, 3) := by decide +kernel
theorem dX6_ring_21 : decode cX6_ring 21 = .ok (.goto 9, 3) := by decide +kernel
theorem dX6_ring_24 : decode cX6_ring 24 = .ok (.aload_n 0, 1) := by decide +kernel
theorem dX6_ring_25 : decode cX6_ring 25 = .ok (.bipush (-6), 2) := by decide +kernel
theorem dX6_ring_27 : decode cX6_ring 27 = .ok (.invokevirtual 45, 3) := by decide +kernel
theorem dX6_ring_30 : decode cX6_ring 30 = .ok (.ireturn, 1) := by decide +kernel
theorem dX6_days_0 : decode cX6_days 0 = .ok (.iload_n 1, 1) := by decide +kernel
theorem dX6_days_1 : decode cX6_days 1 = .ok (.iconst 1, 1) := by decide +kernel
theorem dX6_days_2 : decode cX6_days 2 = .ok (.bipush 40, 2) := by decide +kernel
theorem dX6_days_4 : decode cX6_days 4 = .ok (.invokestatic 41, 3) := by decide +kernel
theorem dX6_days_7 : decode cX6_days 7 = .ok (.ifCond .ne 10, 3) := by decide +kernel
theorem dX6_days_10 : decode cX6_days 10 = .ok (.aload_n 0, 1) := by decide +kernel
theorem dX6_days_11 : decode cX6_days 11 = .ok (.bipush (-2), 2) := by decide +kernel
theorem dX6_days_13 : decode cX6_days 13 = .ok (.invokevirtual 45, 3) := by decide +kernel
theorem dX6_days_16 : decode cX6_days 16 = .ok (.ireturn, 1) := by decide +kernel
theorem dX6_days_17 : decode cX6_days 17 = .ok (.iconst 0, 1) := by decide +kernel
theorem dX6_days_18 : decode cX6_days 18 = .ok (.istore_n 2, 1) := by decide +kernel
theorem dX6_days_19 : decode cX6_days 19 = .ok (.iconst 0, 1) := by decide +kernel
theorem dX6_days_20 : decode cX6_days 20 = .ok (.istore_n 3, 1) := by decide +kernel
theorem dX6_days_21 : decode cX6_days 21 = .ok (.iload_n 3, 1) := by decide +kernel
theorem dX6_days_22 : decode cX6_days 22 = .ok (.iload_n 1, 1) := by decide +kernel
theorem dX6_days_23 : decode cX6_days 23 = .ok (.if_icmp .ge 53, 3) := by decide +kernel
theorem dX6_days_26 : decode cX6_days 26 = .ok (.aload_n 0, 1) := by decide +kernel
theorem dX6_days_27 : decode cX6_days 27 = .ok (.getfield 10, 3) := by decide +kernel
theorem dX6_days_30 : decode cX6_days 30 = .ok (.invokevirtual 272, 3) := by decide +kernel
theorem dX6_days_33 : decode cX6_days 33 = .ok (.ifCond .eq 43, 3) := by decide +kernel
theorem dX6_days_36 : decode cX6_days 36 = .ok (.aload_n 0, 1) := by decide +kernel
theorem dX6_days_37 : decode cX6_days 37 = .ok (.getfield 10, 3) := by decide +kernel
theorem dX6_days_40 : decode cX6_days 40 = .ok (.iconst 2, 1) := by decide +kernel
theorem dX6_days_41 : decode cX6_days 41 = .ok (.invokevirtual 333, 3) := by decide +kernel
theorem dX6_days_44 : decode cX6_days 44 = .ok (.iconst 1, 1) := by decide +kernel
theorem dX6_days_45 : decode cX6_days 45 = .ok (.if_icmp .ne 7, 3) := by decide +kernel
theorem dX6_days_48 : decode cX6_days 48 = .ok (.iconst 1, 1) := by decide +kernel
theorem dX6_days_49 : decode cX6_days 49 = .ok (.goto 4, 3) := by decide +kernel
theorem dX6_days_52 : decode cX6_days 52 = .ok (.iconst 0, 1) := by decide +kernel
theorem dX6_days_53 : decode cX6_days 53 = .ok (.istore 4, 2) := by decide +kernel
theorem dX6_days_55 : decode cX6_days 55 = .ok (.iload_n 2, 1) := by decide +kernel
theorem dX6_days_56 : decode cX6_days 56 = .ok (.aload_n 0, 1) := by decide +kernel
theorem dX6_days_57 : decode cX6_days 57 = .ok (.getfield 10, 3) := by decide +kernel
theorem dX6_days_60 : decode cX6_days 60 = .ok (.iload 4, 2) := by decide +kernel
theorem dX6_days_62 : decode cX6_days 62 = .ok (.invokevirtual 329, 3) := by decide +kernel
theorem dX6_days_65 : decode cX6_days 65 = .ok (.invokestatic 190, 3) := by decide +kernel
theorem dX6_days_68 : decode cX6_days 68 = .ok (.iadd, 1) := by decide +kernel
theorem dX6_days_69 : decode cX6_days 69 = .ok (.istore_n 2, 1) := by decide +kernel
theorem dX6_days_70 : decode cX6_days 70 = .ok (.iinc 3 1, 3) := by decide +kernel
theorem dX6_days_73 : decode cX6_days 73 = .ok (.goto (-52), 3) := by decide +kernel
theorem dX6_days_76 : decode cX6_days 76 = .ok (.iload_n 2, 1) := by decide +kernel
theorem dX6_days_77 : decode cX6_days 77 = .ok (.ireturn, 1) := by decide +kernel
theorem dX6_turn_0 : decode cX6_turn 0 = .ok (.aload_n 0, 1) := by decide +kernel
theorem dX6_turn_1 : decode cX6_turn 1 = .ok (.getfield 10, 3) := by decide +kernel
theorem dX6_turn_4 : decode cX6_turn 4 = .ok (.aload_n 0, 1) := by decide +kernel
theorem dX6_turn_5 : decode cX6_turn 5 = .ok (.getfield 10, 3) := by decide +kernel
theorem dX6_turn_8 : decode cX6_turn 8 = .ok (.invokevirtual 234, 3) := by decide +kernel
theorem dX6_turn_11 : decode cX6_turn 11 = .ok (.putfield 120, 3) := by decide +kernel
theorem dX6_turn_14 : decode cX6_turn 14 = .ok (.aload_n 0, 1) := by decide +kernel
theorem dX6_turn_15 : decode cX6_turn 15 = .ok (.getfield 10, 3) := by decide +kernel
theorem dX6_turn_18 : decode cX6_turn 18 = .ok (.aload_n 0, 1) := by decide +kernel
theorem dX6_turn_19 : decode cX6_turn 19 = .ok (.getfield 10, 3) := by decide +kernel
theorem dX6_turn_22 : decode cX6_turn 22 = .ok (.getfield 135, 3) := by decide +kernel
theorem dX6_turn_25 : decode cX6_turn 25 = .ok (.aload_n 0, 1) := by decide +kernel
theorem dX6_turn_26 : decode cX6_turn 26 = .ok (.getfield 10, 3) := by decide +kernel
theorem dX6_turn_29 : decode cX6_turn 29 = .ok (.getfield 120, 3) := by decide +kernel
theorem dX6_turn_32 : decode cX6_turn 32 = .ok (.invokevirtual 124, 3) := by decide +kernel
theorem dX6_turn_35 : decode cX6_turn 35 = .ok (.ireturn, 1) := by decide +kernel
theorem dX6_change_0 : decode cX6_change 0 = .ok (.aload_n 0, 1) := by decide +kernel
theorem dX6_change_1 : decode cX6_change 1 = .ok (.iload_n 1, 1) := by decide +kernel
theorem dX6_change_2 : decode cX6_change 2 = .ok (.invokevirtual 183, 3) := by decide +kernel
theorem dX6_change_5 : decode cX6_change 5 = .ok (.ifCond .ne 10, 3) := by decide +kernel
theorem dX6_change_8 : decode cX6_change 8 = .ok (.aload_n 0, 1) := by decide +kernel
theorem dX6_change_9 : decode cX6_change 9 = .ok (.bipush (-2), 2) := by decide +kernel
theorem dX6_change_11 : decode cX6_change 11 = .ok (.invokevirtual 45, 3) := by decide +kernel
theorem dX6_change_14 : decode cX6_change 14 = .ok (.ireturn, 1) := by decide +kernel
theorem dX6_change_15 : decode cX6_change 15 = .ok (.aload_n 0, 1) := by decide +kernel
theorem dX6_change_16 : decode cX6_change 16 = .ok (.getfield 10, 3) := by decide +kernel
theorem dX6_change_19 : decode cX6_change 19 = .ok (.dup, 1) := by decide +kernel
theorem dX6_change_20 : decode cX6_change 20 = .ok (.getfield 120, 3) := by decide +kernel
theorem dX6_change_23 : decode cX6_change 23 = .ok (.lconst 1, 1) := by decide +kernel
theorem dX6_change_24 : decode cX6_change 24 = .ok (.iload_n 1, 1) := by decide +kernel
theorem dX6_change_25 : decode cX6_change 25 = .ok (.lshl, 1) := by decide +kernel
theorem dX6_change_26 : decode cX6_change 26 = .ok (.lxor, 1) := by decide +kernel
theorem dX6_change_27 : decode cX6_change 27 = .ok (.putfield 120, 3) := by decide +kernel
theorem dX6_change_30 : decode cX6_change 30 = .ok (.aload_n 0, 1) := by decide +kernel
theorem dX6_change_31 : decode cX6_change 31 = .ok (.getfield 10, 3) := by decide +kernel
theorem dX6_change_34 : decode cX6_change 34 = .ok (.getfield 120, 3) := by decide +kernel
theorem dX6_change_37 : decode cX6_change 37 = .ok (.iload_n 1, 1) := by decide +kernel
theorem dX6_change_38 : decode cX6_change 38 = .ok (.invokestatic 186, 3) := by decide +kernel
theorem dX6_change_41 : decode cX6_change 41 = .ok (.invokestatic 190, 3) := by decide +kernel
theorem dX6_change_44 : decode cX6_change 44 = .ok (.ireturn, 1) := by decide +kernel
theorem dX6_cut_0 : decode cX6_cut 0 = .ok (.iload_n 1, 1) := by decide +kernel
theorem dX6_cut_1 : decode cX6_cut 1 = .ok (.iconst 1, 1) := by decide +kernel
theorem dX6_cut_2 : decode cX6_cut 2 = .ok (.bipush 40, 2) := by decide +kernel
theorem dX6_cut_4 : decode cX6_cut 4 = .ok (.invokestatic 41, 3) := by decide +kernel
theorem dX6_cut_7 : decode cX6_cut 7 = .ok (.ifCond .ne 10, 3) := by decide +kernel
theorem dX6_cut_10 : decode cX6_cut 10 = .ok (.aload_n 0, 1) := by decide +kernel
theorem dX6_cut_11 : decode cX6_cut 11 = .ok (.bipush (-2), 2) := by decide +kernel
theorem dX6_cut_13 : decode cX6_cut 13 = .ok (.invokevirtual 45, 3) := by decide +kernel
theorem dX6_cut_16 : decode cX6_cut 16 = .ok (.ireturn, 1) := by decide +kernel
theorem dX6_cut_17 : decode cX6_cut 17 = .ok (.aload_n 0, 1) := by decide +kernel
theorem dX6_cut_18 : decode cX6_cut 18 = .ok (.getfield 10, 3) := by decide +kernel
theorem dX6_cut_21 : decode cX6_cut 21 = .ok (.getfield 200, 3) := by decide +kernel
theorem dX6_cut_24 : decode cX6_cut 24 = .ok (.iload_n 1, 1) := by decide +kernel
theorem dX6_cut_25 : decode cX6_cut 25 = .ok (.if_icmp .ge 10, 3) := by decide +kernel
theorem dX6_cut_28 : decode cX6_cut 28 = .ok (.aload_n 0, 1) := by decide +kernel
theorem dX6_cut_29 : decode cX6_cut 29 = .ok (.bipush (-5), 2) := by decide +kernel
theorem dX6_cut_31 : decode cX6_cut 31 = .ok (.invokevirtual 45, 3) := by decide +kernel
theorem dX6_cut_34 : decode cX6_cut 34 = .ok (.ireturn, 1) := by decide +kernel
theorem dX6_cut_35 : decode cX6_cut 35 = .ok (.aload_n 0, 1) := by decide +kernel
theorem dX6_cut_36 : decode cX6_cut 36 = .ok (.getfield 10, 3) := by decide +kernel
theorem dX6_cut_39 : decode cX6_cut 39 = .ok (.dup, 1) := by decide +kernel
theorem dX6_cut_40 : decode cX6_cut 40 = .ok (.getfield 200, 3) := by decide +kernel
theorem dX6_cut_43 : decode cX6_cut 43 = .ok (.iload_n 1, 1) := by decide +kernel
theorem dX6_cut_44 : decode cX6_cut 44 = .ok (.isub, 1) := by decide +kernel
theorem dX6_cut_45 : decode cX6_cut 45 = .ok (.putfield 200, 3) := by decide +kernel
theorem dX6_cut_48 : decode cX6_cut 48 = .ok (.aload_n 0, 1) := by decide +kernel
theorem dX6_cut_49 : decode cX6_cut 49 = .ok (.getfield 10, 3) := by decide +kernel
theorem dX6_cut_52 : decode cX6_cut 52 = .ok (.dup, 1) := by decide +kernel
theorem dX6_cut_53 : decode cX6_cut 53 = .ok (.getfield 120, 3) := by decide +kernel
theorem dX6_cut_56 : decode cX6_cut 56 = .ok (.aload_n 0, 1) := by decide +kernel
theorem dX6_cut_57 : decode cX6_cut 57 = .ok (.getfield 10, 3) := by decide +kernel
theorem dX6_cut_60 : decode cX6_cut 60 = .ok (.getfield 200, 3) := by decide +kernel
theorem dX6_cut_63 : decode cX6_cut 63 = .ok (.invokestatic 231, 3) := by decide +kernel
theorem dX6_cut_66 : decode cX6_cut 66 = .ok (.land, 1) := by decide +kernel
theorem dX6_cut_67 : decode cX6_cut 67 = .ok (.putfield 120, 3) := by decide +kernel
theorem dX6_cut_70 : decode cX6_cut 70 = .ok (.aload_n 0, 1) := by decide +kernel
theorem dX6_cut_71 : decode cX6_cut 71 = .ok (.getfield 10, 3) := by decide +kernel
theorem dX6_cut_74 : decode cX6_cut 74 = .ok (.getfield 200, 3) := by decide +kernel
theorem dX6_cut_77 : decode cX6_cut 77 = .ok (.ireturn, 1) := by decide +kernel
theorem dX6_still_0 : decode cX6_still 0 = .ok (.aload_n 0, 1) := by decide +kernel
theorem dX6_still_1 : decode cX6_still 1 = .ok (.getfield 10, 3) := by decide +kernel
theorem dX6_still_4 : decode cX6_still 4 = .ok (.getfield 200, 3) := by decide +kernel
theorem dX6_still_7 : decode cX6_still 7 = .ok (.istore_n 1, 1) := by decide +kernel
theorem dX6_still_8 : decode cX6_still 8 = .ok (.aload_n 0, 1) := by decide +kernel
theorem dX6_still_9 : decode cX6_still 9 = .ok (.getfield 10, 3) := by decide +kernel
theorem dX6_still_12 : decode cX6_still 12 = .ok (.invokevirtual 336, 3) := by decide +kernel
theorem dX6_still_15 : decode cX6_still 15 = .ok (.iload_n 1, 1) := by decide +kernel
theorem dX6_still_16 : decode cX6_still 16 = .ok (.ireturn, 1) := by decide +kernel
theorem dX6_seed_0 : decode cX6_seed 0 = .ok (.aload_n 0, 1) := by decide +kernel
theorem dX6_seed_1 : decode cX6_seed 1 = .ok (.getfield 10, 3) := by decide +kernel
theorem dX6_seed_4 : decode cX6_seed 4 = .ok (.getfield 339, 3) := by decide +kernel
theorem dX6_seed_7 : decode cX6_seed 7 = .ok (.istore_n 2, 1) := by decide +kernel
theorem dX6_seed_8 : decode cX6_seed 8 = .ok (.aload_n 0, 1) := by decide +kernel
theorem dX6_seed_9 : decode cX6_seed 9 = .ok (.getfield 10, 3) := by decide +kernel
theorem dX6_seed_12 : decode cX6_seed 12 = .ok (.iload_n 1, 1) := by decide +kernel
theorem dX6_seed_13 : decode cX6_seed 13 = .ok (.putfield 339, 3) := by decide +kernel
theorem dX6_seed_16 : decode cX6_seed 16 = .ok (.iload_n 2, 1) := by decide +kernel
theorem dX6_seed_17 : decode cX6_seed 17 = .ok (.ireturn, 1) := by decide +kernel
theorem dX6_image_0 : decode cX6_image 0 = .ok (.aload_n 0, 1) := by decide +kernel
theorem dX6_image_1 : decode cX6_image 1 = .ok (.getfield 16, 3) := by decide +kernel
theorem dX6_image_4 : decode cX6_image 4 = .ok (.aload_n 0, 1) := by decide +kernel
theorem dX6_image_5 : decode cX6_image 5 = .ok (.getfield 10, 3) := by decide +kernel
theorem dX6_image_8 : decode cX6_image 8 = .ok (.invokevirtual 168, 3) := by decide +kernel
theorem dX6_image_11 : decode cX6_image 11 = .ok (.aload_n 0, 1) := by decide +kernel
theorem dX6_image_12 : decode cX6_image 12 = .ok (.iconst 1, 1) := by decide +kernel
theorem dX6_image_13 : decode cX6_image 13 = .ok (.putfield 342, 3) := by decide +kernel
theorem dX6_image_16 : decode cX6_image 16 = .ok (.iconst 1, 1) := by decide +kernel
theorem dX6_image_17 : decode cX6_image 17 = .ok (.ireturn, 1) := by decide +kernel
theorem dX6_back_0 : decode cX6_back 0 = .ok (.aload_n 0, 1) := by decide +kernel
theorem dX6_back_1 : decode cX6_back 1 = .ok (.getfield 342, 3) := by decide +kernel
theorem dX6_back_4 : decode cX6_back 4 = .ok (.ifCond .ne 10, 3) := by decide +kernel
theorem dX6_back_7 : decode cX6_back 7 = .ok (.aload_n 0, 1) := by decide +kernel
theorem dX6_back_8 : decode cX6_back 8 = .ok (.bipush (-5), 2) := by decide +kernel
theorem dX6_back_10 : decode cX6_back 10 = .ok (.invokevirtual 45, 3) := by decide +kernel
theorem dX6_back_13 : decode cX6_back 13 = .ok (.ireturn, 1) := by decide +kernel
theorem dX6_back_14 : decode cX6_back 14 = .ok (.aload_n 0, 1) := by decide +kernel
theorem dX6_back_15 : decode cX6_back 15 = .ok (.getfield 10, 3) := by decide +kernel
theorem dX6_back_18 : decode cX6_back 18 = .ok (.aload_n 0, 1) := by decide +kernel
theorem dX6_back_19 : decode cX6_back 19 = .ok (.getfield 16, 3) := by decide +kernel
theorem dX6_back_22 : decode cX6_back 22 = .ok (.invokevirtual 168, 3) := by decide +kernel
theorem dX6_back_25 : decode cX6_back 25 = .ok (.aload_n 0, 1) := by decide +kernel
theorem dX6_back_26 : decode cX6_back 26 = .ok (.getfield 29, 3) := by decide +kernel
theorem dX6_back_29 : decode cX6_back 29 = .ok (.aload_n 0, 1) := by decide +kernel
theorem dX6_back_30 : decode cX6_back 30 = .ok (.getfield 10, 3) := by decide +kernel
theorem dX6_back_33 : decode cX6_back 33 = .ok (.getfield 81, 3) := by decide +kernel
theorem dX6_back_36 : decode cX6_back 36 = .ok (.getfield 194, 3) := by decide +kernel
theorem dX6_back_39 : decode cX6_back 39 = .ok (.invokevirtual 346, 3) := by decide +kernel
theorem dX6_back_42 : decode cX6_back 42 = .ok (.iconst 1, 1) := by decide +kernel
theorem dX6_back_43 : decode cX6_back 43 = .ok (.ireturn, 1) := by decide +kernel
theorem dX6_status_0 : decode cX6_status 0 = .ok (.iload_n 1, 1) := by decide +kernel
theorem dX6_status_1 : decode cX6_status 1 = .ok (.tableswitch 162 0 10 #[59, 70, 78, 86, 94, 102, 113, 124, 135, 146, 154], 59) := by decide +kernel
theorem dX6_status_60 : decode cX6_status 60 = .ok (.aload_n 0, 1) := by decide +kernel
theorem dX6_status_61 : decode cX6_status 61 = .ok (.getfield 10, 3) := by decide +kernel
theorem dX6_status_64 : decode cX6_status 64 = .ok (.getfield 81, 3) := by decide +kernel
theorem dX6_status_67 : decode cX6_status 67 = .ok (.getfield 194, 3) := by decide +kernel
theorem dX6_status_70 : decode cX6_status 70 = .ok (.ireturn, 1) := by decide +kernel
theorem dX6_status_71 : decode cX6_status 71 = .ok (.aload_n 0, 1) := by decide +kernel
theorem dX6_status_72 : decode cX6_status 72 = .ok (.getfield 10, 3) := by decide +kernel
theorem dX6_status_75 : decode cX6_status 75 = .ok (.getfield 135, 3) := by decide +kernel
theorem dX6_status_78 : decode cX6_status 78 = .ok (.ireturn, 1) := by decide +kernel
theorem dX6_status_79 : decode cX6_status 79 = .ok (.aload_n 0, 1) := by decide +kernel
theorem dX6_status_80 : decode cX6_status 80 = .ok (.getfield 10, 3) := by decide +kernel
theorem dX6_status_83 : decode cX6_status 83 = .ok (.getfield 139, 3) := by decide +kernel
theorem dX6_status_86 : decode cX6_status 86 = .ok (.ireturn, 1) := by decide +kernel
theorem dX6_status_87 : decode cX6_status 87 = .ok (.aload_n 0, 1) := by decide +kernel
theorem dX6_status_88 : decode cX6_status 88 = .ok (.getfield 10, 3) := by decide +kernel
theorem dX6_status_91 : decode cX6_status 91 = .ok (.getfield 142, 3) := by decide +kernel
theorem dX6_status_94 : decode cX6_status 94 = .ok (.ireturn, 1) := by decide +kernel
theorem dX6_status_95 : decode cX6_status 95 = .ok (.aload_n 0, 1) := by decide +kernel
theorem dX6_status_96 : decode cX6_status 96 = .ok (.getfield 10, 3) := by decide +kernel
theorem dX6_status_99 : decode cX6_status 99 = .ok (.getfield 200, 3) := by decide +kernel
theorem dX6_status_102 : decode cX6_status 102 = .ok (.ireturn, 1) := by decide +kernel
theorem dX6_status_103 : decode cX6_status 103 = .ok (.aload_n 0, 1) := by decide +kernel
theorem dX6_status_104 : decode cX6_status 104 = .ok (.getfield 10, 3) := by decide +kernel
theorem dX6_status_107 : decode cX6_status 107 = .ok (.getfield 120, 3) := by decide +kernel
theorem dX6_status_110 : decode cX6_status 110 = .ok (.invokestatic 211, 3) := by decide +kernel
theorem dX6_status_113 : decode cX6_status 113 = .ok (.ireturn, 1) := by decide +kernel
theorem dX6_status_114 : decode cX6_status 114 = .ok (.aload_n 0, 1) := by decide +kernel
theorem dX6_status_115 : decode cX6_status 115 = .ok (.getfield 10, 3) := by decide +kernel
theorem dX6_status_118 : decode cX6_status 118 = .ok (.getfield 145, 3) := by decide +kernel
theorem dX6_status_121 : decode cX6_status 121 = .ok (.getfield 301, 3) := by decide +kernel
theorem dX6_status_124 : decode cX6_status 124 = .ok (.ireturn, 1) := by decide +kernel
theorem dX6_status_125 : decode cX6_status 125 = .ok (.aload_n 0, 1) := by decide +kernel
theorem dX6_status_126 : decode cX6_status 126 = .ok (.getfield 10, 3) := by decide +kernel
theorem dX6_status_129 : decode cX6_status 129 = .ok (.getfield 145, 3) := by decide +kernel
theorem dX6_status_132 : decode cX6_status 132 = .ok (.invokevirtual 349, 3) := by decide +kernel
theorem dX6_status_135 : decode cX6_status 135 = .ok (.ireturn, 1) := by decide +kernel
theorem dX6_status_136 : decode cX6_status 136 = .ok (.aload_n 0, 1) := by decide +kernel
theorem dX6_status_137 : decode cX6_status 137 = .ok (.getfield 22, 3) := by decide +kernel
theorem dX6_status_140 : decode cX6_status 140 = .ok (.getfield 154, 3) := by decide +kernel
theorem dX6_status_143 : decode cX6_status 143 = .ok (.getfield 162, 3) := by decide +kernel
theorem dX6_status_146 : decode cX6_status 146 = .ok (.ireturn, 1) := by decide +kernel
theorem dX6_status_147 : decode cX6_status 147 = .ok (.aload_n 0, 1) := by decide +kernel
theorem dX6_status_148 : decode cX6_status 148 = .ok (.getfield 10, 3) := by decide +kernel
theorem dX6_status_151 : decode cX6_status 151 = .ok (.getfield 339, 3) := by decide +kernel
theorem dX6_status_154 : decode cX6_status 154 = .ok (.ireturn, 1) := by decide +kernel
theorem dX6_status_155 : decode cX6_status 155 = .ok (.aload_n 0, 1) := by decide +kernel
theorem dX6_status_156 : decode cX6_status 156 = .ok (.getfield 29, 3) := by decide +kernel
theorem dX6_status_159 : decode cX6_status 159 = .ok (.invokevirtual 352, 3) := by decide +kernel
theorem dX6_status_162 : decode cX6_status 162 = .ok (.ireturn, 1) := by decide +kernel
theorem dX6_status_163 : decode cX6_status 163 = .ok (.aload_n 0, 1) := by decide +kernel
theorem dX6_status_164 : decode cX6_status 164 = .ok (.getfield 33, 3) := by decide +kernel
theorem dX6_status_167 : decode cX6_status 167 = .ok (.iload_n 1, 1) := by decide +kernel
theorem dX6_status_168 : decode cX6_status 168 = .ok (.bipush 12, 2) := by decide +kernel
theorem dX6_status_170 : decode cX6_status 170 = .ok (.isub, 1) := by decide +kernel
theorem dX6_status_171 : decode cX6_status 171 = .ok (.iconst (-1), 1) := by decide +kernel
theorem dX6_status_172 : decode cX6_status 172 = .ok (.invokestatic 355, 3) := by decide +kernel
theorem dX6_status_175 : decode cX6_status 175 = .ok (.ireturn, 1) := by decide +kernel
theorem dX6_refuse_0 : decode cX6_refuse 0 = .ok (.bipush (-2), 2) := by decide +kernel
theorem dX6_refuse_2 : decode cX6_refuse 2 = .ok (.iload_n 1, 1) := by decide +kernel
theorem dX6_refuse_3 : decode cX6_refuse 3 = .ok (.isub, 1) := by decide +kernel
theorem dX6_refuse_4 : decode cX6_refuse 4 = .ok (.istore_n 2, 1) := by decide +kernel
theorem dX6_refuse_5 : decode cX6_refuse 5 = .ok (.iload_n 2, 1) := by decide +kernel
theorem dX6_refuse_6 : decode cX6_refuse 6 = .ok (.ifCond .lt 22, 3) := by decide +kernel
theorem dX6_refuse_9 : decode cX6_refuse 9 = .ok (.iload_n 2, 1) := by decide +kernel
theorem dX6_refuse_10 : decode cX6_refuse 10 = .ok (.aload_n 0, 1) := by decide +kernel
theorem dX6_refuse_11 : decode cX6_refuse 11 = .ok (.getfield 33, 3) := by decide +kernel
theorem dX6_refuse_14 : decode cX6_refuse 14 = .ok (.arraylength, 1) := by decide +kernel
theorem dX6_refuse_15 : decode cX6_refuse 15 = .ok (.if_icmp .ge 13, 3) := by decide +kernel
theorem dX6_refuse_18 : decode cX6_refuse 18 = .ok (.aload_n 0, 1) := by decide +kernel
theorem dX6_refuse_19 : decode cX6_refuse 19 = .ok (.getfield 33, 3) := by decide +kernel
theorem dX6_refuse_22 : decode cX6_refuse 22 = .ok (.iload_n 2, 1) := by decide +kernel
theorem dX6_refuse_23 : decode cX6_refuse 23 = .ok (.dup2, 1) := by decide +kernel
theorem dX6_refuse_24 : decode cX6_refuse 24 = .ok (.iaload, 1) := by decide +kernel
theorem dX6_refuse_25 : decode cX6_refuse 25 = .ok (.iconst 1, 1) := by decide +kernel
theorem dX6_refuse_26 : decode cX6_refuse 26 = .ok (.iadd, 1) := by decide +kernel
theorem dX6_refuse_27 : decode cX6_refuse 27 = .ok (.iastore, 1) := by decide +kernel
theorem dX6_refuse_28 : decode cX6_refuse 28 = .ok (.iload_n 1, 1) := by decide +kernel
theorem dX6_refuse_29 : decode cX6_refuse 29 = .ok (.ireturn, 1) := by decide +kernel
theorem dX6_refusalOfRow_0 : decode cX6_refusalOfRow 0 = .ok (.iload_n 1, 1) := by decide +kernel
theorem dX6_refusalOfRow_1 : decode cX6_refusalOfRow 1 = .ok (.invokestatic 37, 3) := by decide +kernel
theorem dX6_refusalOfRow_4 : decode cX6_refusalOfRow 4 = .ok (.ifCond .ne 6, 3) := by decide +kernel
theorem dX6_refusalOfRow_7 : decode cX6_refusalOfRow 7 = .ok (.bipush (-2), 2) := by decide +kernel
theorem dX6_refusalOfRow_9 : decode cX6_refusalOfRow 9 = .ok (.ireturn, 1) := by decide +kernel
theorem dX6_refusalOfRow_10 : decode cX6_refusalOfRow 10 = .ok (.aload_n 0, 1) := by decide +kernel
theorem dX6_refusalOfRow_11 : decode cX6_refusalOfRow 11 = .ok (.getfield 29, 3) := by decide +kernel
theorem dX6_refusalOfRow_14 : decode cX6_refusalOfRow 14 = .ok (.iload_n 1, 1) := by decide +kernel
theorem dX6_refusalOfRow_15 : decode cX6_refusalOfRow 15 = .ok (.invokevirtual 101, 3) := by decide +kernel
theorem dX6_refusalOfRow_18 : decode cX6_refusalOfRow 18 = .ok (.iconst (-1), 1) := by decide +kernel
theorem dX6_refusalOfRow_19 : decode cX6_refusalOfRow 19 = .ok (.if_icmp .eq 6, 3) := by decide +kernel
theorem dX6_refusalOfRow_22 : decode cX6_refusalOfRow 22 = .ok (.bipush (-3), 2) := by decide +kernel
theorem dX6_refusalOfRow_24 : decode cX6_refusalOfRow 24 = .ok (.ireturn, 1) := by decide +kernel
theorem dX6_refusalOfRow_25 : decode cX6_refusalOfRow 25 = .ok (.aload_n 0, 1) := by decide +kernel
theorem dX6_refusalOfRow_26 : decode cX6_refusalOfRow 26 = .ok (.getfield 29, 3) := by decide +kernel
theorem dX6_refusalOfRow_29 : decode cX6_refusalOfRow 29 = .ok (.iload_n 1, 1) := by decide +kernel
theorem dX6_refusalOfRow_30 : decode cX6_refusalOfRow 30 = .ok (.invokevirtual 104, 3) := by decide +kernel
theorem dX6_refusalOfRow_33 : decode cX6_refusalOfRow 33 = .ok (.ifCond .eq 7, 3) := by decide +kernel
theorem dX6_refusalOfRow_36 : decode cX6_refusalOfRow 36 = .ok (.iconst 0, 1) := by decide +kernel
theorem dX6_refusalOfRow_37 : decode cX6_refusalOfRow 37 = .ok (.goto 5, 3) := by decide +kernel
theorem dX6_refusalOfRow_40 : decode cX6_refusalOfRow 40 = .ok (.bipush (-4), 2) := by decide +kernel
theorem dX6_refusalOfRow_42 : decode cX6_refusalOfRow 42 = .ok (.ireturn, 1) := by decide +kernel
theorem dX6_refusalOfTwoRows_0 : decode cX6_refusalOfTwoRows 0 = .ok (.aload_n 0, 1) := by decide +kernel
theorem dX6_refusalOfTwoRows_1 : decode cX6_refusalOfTwoRows 1 = .ok (.iload_n 1, 1) := by decide +kernel
theorem dX6_refusalOfTwoRows_2 : decode cX6_refusalOfTwoRows 2 = .ok (.invokevirtual 53, 3) := by decide +kernel
theorem dX6_refusalOfTwoRows_5 : decode cX6_refusalOfTwoRows 5 = .ok (.istore_n 3, 1) := by decide +kernel
theorem dX6_refusalOfTwoRows_6 : decode cX6_refusalOfTwoRows 6 = .ok (.aload_n 0, 1) := by decide +kernel
theorem dX6_refusalOfTwoRows_7 : decode cX6_refusalOfTwoRows 7 = .ok (.iload_n 2, 1) := by decide +kernel
theorem dX6_refusalOfTwoRows_8 : decode cX6_refusalOfTwoRows 8 = .ok (.invokevirtual 53, 3) := by decide +kernel
theorem dX6_refusalOfTwoRows_11 : decode cX6_refusalOfTwoRows 11 = .ok (.istore 4, 2) := by decide +kernel
theorem dX6_refusalOfTwoRows_13 : decode cX6_refusalOfTwoRows 13 = .ok (.iload_n 3, 1) := by decide +kernel
theorem dX6_refusalOfTwoRows_14 : decode cX6_refusalOfTwoRows 14 = .ok (.bipush (-2), 2) := by decide +kernel
theorem dX6_refusalOfTwoRows_16 : decode cX6_refusalOfTwoRows 16 = .ok (.if_icmp .eq 10, 3) := by decide +kernel
theorem dX6_refusalOfTwoRows_19 : decode cX6_refusalOfTwoRows 19 = .ok (.iload 4, 2) := by decide +kernel
theorem dX6_refusalOfTwoRows_21 : decode cX6_refusalOfTwoRows 21 = .ok (.bipush (-2), 2) := by decide +kernel
theorem dX6_refusalOfTwoRows_23 : decode cX6_refusalOfTwoRows 23 = .ok (.if_icmp .ne 6, 3) := by decide +kernel
theorem dX6_refusalOfTwoRows_26 : decode cX6_refusalOfTwoRows 26 = .ok (.bipush (-2), 2) := by decide +kernel
theorem dX6_refusalOfTwoRows_28 : decode cX6_refusalOfTwoRows 28 = .ok (.ireturn, 1) := by decide +kernel
theorem dX6_refusalOfTwoRows_29 : decode cX6_refusalOfTwoRows 29 = .ok (.iload_n 3, 1) := by decide +kernel
theorem dX6_refusalOfTwoRows_30 : decode cX6_refusalOfTwoRows 30 = .ok (.bipush (-3), 2) := by decide +kernel
theorem dX6_refusalOfTwoRows_32 : decode cX6_refusalOfTwoRows 32 = .ok (.if_icmp .eq 10, 3) := by decide +kernel
theorem dX6_refusalOfTwoRows_35 : decode cX6_refusalOfTwoRows 35 = .ok (.iload 4, 2) := by decide +kernel
theorem dX6_refusalOfTwoRows_37 : decode cX6_refusalOfTwoRows 37 = .ok (.bipush (-3), 2) := by decide +kernel
theorem dX6_refusalOfTwoRows_39 : decode cX6_refusalOfTwoRows 39 = .ok (.if_icmp .ne 6, 3) := by decide +kernel
theorem dX6_refusalOfTwoRows_42 : decode cX6_refusalOfTwoRows 42 = .ok (.bipush (-3), 2) := by decide +kernel
theorem dX6_refusalOfTwoRows_44 : decode cX6_refusalOfTwoRows 44 = .ok (.ireturn, 1) := by decide +kernel
theorem dX6_refusalOfTwoRows_45 : decode cX6_refusalOfTwoRows 45 = .ok (.iload_n 3, 1) := by decide +kernel
theorem dX6_refusalOfTwoRows_46 : decode cX6_refusalOfTwoRows 46 = .ok (.bipush (-4), 2) := by decide +kernel
theorem dX6_refusalOfTwoRows_48 : decode cX6_refusalOfTwoRows 48 = .ok (.if_icmp .eq 10, 3) := by decide +kernel
theorem dX6_refusalOfTwoRows_51 : decode cX6_refusalOfTwoRows 51 = .ok (.iload 4, 2) := by decide +kernel
theorem dX6_refusalOfTwoRows_53 : decode cX6_refusalOfTwoRows 53 = .ok (.bipush (-4), 2) := by decide +kernel
theorem dX6_refusalOfTwoRows_55 : decode cX6_refusalOfTwoRows 55 = .ok (.if_icmp .ne 6, 3) := by decide +kernel
theorem dX6_refusalOfTwoRows_58 : decode cX6_refusalOfTwoRows 58 = .ok (.bipush (-4), 2) := by decide +kernel
theorem dX6_refusalOfTwoRows_60 : decode cX6_refusalOfTwoRows 60 = .ok (.ireturn, 1) := by decide +kernel
theorem dX6_refusalOfTwoRows_61 : decode cX6_refusalOfTwoRows 61 = .ok (.aload_n 0, 1) := by decide +kernel
theorem dX6_refusalOfTwoRows_62 : decode cX6_refusalOfTwoRows 62 = .ok (.getfield 29, 3) := by decide +kernel
theorem dX6_refusalOfTwoRows_65 : decode cX6_refusalOfTwoRows 65 = .ok (.iload_n 1, 1) := by decide +kernel
theorem dX6_refusalOfTwoRows_66 : decode cX6_refusalOfTwoRows 66 = .ok (.invokevirtual 78, 3) := by decide +kernel
theorem dX6_refusalOfTwoRows_69 : decode cX6_refusalOfTwoRows 69 = .ok (.aload_n 0, 1) := by decide +kernel
theorem dX6_refusalOfTwoRows_70 : decode cX6_refusalOfTwoRows 70 = .ok (.getfield 29, 3) := by decide +kernel
theorem dX6_refusalOfTwoRows_73 : decode cX6_refusalOfTwoRows 73 = .ok (.iload_n 2, 1) := by decide +kernel
theorem dX6_refusalOfTwoRows_74 : decode cX6_refusalOfTwoRows 74 = .ok (.invokevirtual 78, 3) := by decide +kernel
theorem dX6_refusalOfTwoRows_77 : decode cX6_refusalOfTwoRows 77 = .ok (.if_icmp .ne 7, 3) := by decide +kernel
theorem dX6_refusalOfTwoRows_80 : decode cX6_refusalOfTwoRows 80 = .ok (.iconst 0, 1) := by decide +kernel
theorem dX6_refusalOfTwoRows_81 : decode cX6_refusalOfTwoRows 81 = .ok (.goto 5, 3) := by decide +kernel
theorem dX6_refusalOfTwoRows_84 : decode cX6_refusalOfTwoRows 84 = .ok (.bipush (-3), 2) := by decide +kernel
theorem dX6_refusalOfTwoRows_86 : decode cX6_refusalOfTwoRows 86 = .ok (.ireturn, 1) := by decide +kernel
theorem dX6_refusalOfHeardRow_0 : decode cX6_refusalOfHeardRow 0 = .ok (.aload_n 0, 1) := by decide +kernel
theorem dX6_refusalOfHeardRow_1 : decode cX6_refusalOfHeardRow 1 = .ok (.iload_n 1, 1) := by decide +kernel
theorem dX6_refusalOfHeardRow_2 : decode cX6_refusalOfHeardRow 2 = .ok (.invokevirtual 53, 3) := by decide +kernel
theorem dX6_refusalOfHeardRow_5 : decode cX6_refusalOfHeardRow 5 = .ok (.istore_n 2, 1) := by decide +kernel
theorem dX6_refusalOfHeardRow_6 : decode cX6_refusalOfHeardRow 6 = .ok (.iload_n 2, 1) := by decide +kernel
theorem dX6_refusalOfHeardRow_7 : decode cX6_refusalOfHeardRow 7 = .ok (.ifCond .ne 26, 3) := by decide +kernel
theorem dX6_refusalOfHeardRow_10 : decode cX6_refusalOfHeardRow 10 = .ok (.aload_n 0, 1) := by decide +kernel
theorem dX6_refusalOfHeardRow_11 : decode cX6_refusalOfHeardRow 11 = .ok (.getfield 29, 3) := by decide +kernel
theorem dX6_refusalOfHeardRow_14 : decode cX6_refusalOfHeardRow 14 = .ok (.iload_n 1, 1) := by decide +kernel
theorem dX6_refusalOfHeardRow_15 : decode cX6_refusalOfHeardRow 15 = .ok (.invokevirtual 56, 3) := by decide +kernel
theorem dX6_refusalOfHeardRow_18 : decode cX6_refusalOfHeardRow 18 = .ok (.aload_n 0, 1) := by decide +kernel
theorem dX6_refusalOfHeardRow_19 : decode cX6_refusalOfHeardRow 19 = .ok (.getfield 10, 3) := by decide +kernel
theorem dX6_refusalOfHeardRow_22 : decode cX6_refusalOfHeardRow 22 = .ok (.getfield 200, 3) := by decide +kernel
theorem dX6_refusalOfHeardRow_25 : decode cX6_refusalOfHeardRow 25 = .ok (.if_icmp .ge 8, 3) := by decide +kernel
theorem dX6_refusalOfHeardRow_28 : decode cX6_refusalOfHeardRow 28 = .ok (.bipush (-2), 2) := by decide +kernel
theorem dX6_refusalOfHeardRow_30 : decode cX6_refusalOfHeardRow 30 = .ok (.goto 4, 3) := by decide +kernel
theorem dX6_refusalOfHeardRow_33 : decode cX6_refusalOfHeardRow 33 = .ok (.iload_n 2, 1) := by decide +kernel
theorem dX6_refusalOfHeardRow_34 : decode cX6_refusalOfHeardRow 34 = .ok (.ireturn, 1) := by decide +kernel
theorem dX6_refusalOfToldRow_0 : decode cX6_refusalOfToldRow 0 = .ok (.iload_n 2, 1) := by decide +kernel
theorem dX6_refusalOfToldRow_1 : decode cX6_refusalOfToldRow 1 = .ok (.iconst 0, 1) := by decide +kernel
theorem dX6_refusalOfToldRow_2 : decode cX6_refusalOfToldRow 2 = .ok (.bipush 40, 2) := by decide +kernel
theorem dX6_refusalOfToldRow_4 : decode cX6_refusalOfToldRow 4 = .ok (.invokestatic 41, 3) := by decide +kernel
theorem dX6_refusalOfToldRow_7 : decode cX6_refusalOfToldRow 7 = .ok (.ifCond .ne 6, 3) := by decide +kernel
theorem dX6_refusalOfToldRow_10 : decode cX6_refusalOfToldRow 10 = .ok (.bipush (-2), 2) := by decide +kernel
theorem dX6_refusalOfToldRow_12 : decode cX6_refusalOfToldRow 12 = .ok (.ireturn, 1) := by decide +kernel
theorem dX6_refusalOfToldRow_13 : decode cX6_refusalOfToldRow 13 = .ok (.aload_n 0, 1) := by decide +kernel
theorem dX6_refusalOfToldRow_14 : decode cX6_refusalOfToldRow 14 = .ok (.iload_n 1, 1) := by decide +kernel
theorem dX6_refusalOfToldRow_15 : decode cX6_refusalOfToldRow 15 = .ok (.invokevirtual 53, 3) := by decide +kernel
theorem dX6_refusalOfToldRow_18 : decode cX6_refusalOfToldRow 18 = .ok (.istore_n 3, 1) := by decide +kernel
theorem dX6_refusalOfToldRow_19 : decode cX6_refusalOfToldRow 19 = .ok (.iload_n 3, 1) := by decide +kernel
theorem dX6_refusalOfToldRow_20 : decode cX6_refusalOfToldRow 20 = .ok (.ifCond .ne 20, 3) := by decide +kernel
theorem dX6_refusalOfToldRow_23 : decode cX6_refusalOfToldRow 23 = .ok (.aload_n 0, 1) := by decide +kernel
theorem dX6_refusalOfToldRow_24 : decode cX6_refusalOfToldRow 24 = .ok (.getfield 29, 3) := by decide +kernel
theorem dX6_refusalOfToldRow_27 : decode cX6_refusalOfToldRow 27 = .ok (.iload_n 1, 1) := by decide +kernel
theorem dX6_refusalOfToldRow_28 : decode cX6_refusalOfToldRow 28 = .ok (.invokevirtual 56, 3) := by decide +kernel
theorem dX6_refusalOfToldRow_31 : decode cX6_refusalOfToldRow 31 = .ok (.iload_n 2, 1) := by decide +kernel
theorem dX6_refusalOfToldRow_32 : decode cX6_refusalOfToldRow 32 = .ok (.if_icmp .ge 8, 3) := by decide +kernel
theorem dX6_refusalOfToldRow_35 : decode cX6_refusalOfToldRow 35 = .ok (.bipush (-2), 2) := by decide +kernel
theorem dX6_refusalOfToldRow_37 : decode cX6_refusalOfToldRow 37 = .ok (.goto 4, 3) := by decide +kernel
theorem dX6_refusalOfToldRow_40 : decode cX6_refusalOfToldRow 40 = .ok (.iload_n 3, 1) := by decide +kernel
theorem dX6_refusalOfToldRow_41 : decode cX6_refusalOfToldRow 41 = .ok (.ireturn, 1) := by decide +kernel
theorem dX6_refusalOfToldRing_0 : decode cX6_refusalOfToldRing 0 = .ok (.aload_n 0, 1) := by decide +kernel
theorem dX6_refusalOfToldRing_1 : decode cX6_refusalOfToldRing 1 = .ok (.iload_n 1, 1) := by decide +kernel
theorem dX6_refusalOfToldRing_2 : decode cX6_refusalOfToldRing 2 = .ok (.iload_n 2, 1) := by decide +kernel
theorem dX6_refusalOfToldRing_3 : decode cX6_refusalOfToldRing 3 = .ok (.invokevirtual 317, 3) := by decide +kernel
theorem dX6_refusalOfToldRing_6 : decode cX6_refusalOfToldRing 6 = .ok (.istore_n 3, 1) := by decide +kernel
theorem dX6_refusalOfToldRing_7 : decode cX6_refusalOfToldRing 7 = .ok (.iload_n 3, 1) := by decide +kernel
theorem dX6_refusalOfToldRing_8 : decode cX6_refusalOfToldRing 8 = .ok (.ifCond .ne 21, 3) := by decide +kernel
theorem dX6_refusalOfToldRing_11 : decode cX6_refusalOfToldRing 11 = .ok (.aload_n 0, 1) := by decide +kernel
theorem dX6_refusalOfToldRing_12 : decode cX6_refusalOfToldRing 12 = .ok (.getfield 29, 3) := by decide +kernel
theorem dX6_refusalOfToldRing_15 : decode cX6_refusalOfToldRing 15 = .ok (.iload_n 1, 1) := by decide +kernel
theorem dX6_refusalOfToldRing_16 : decode cX6_refusalOfToldRing 16 = .ok (.iload_n 2, 1) := by decide +kernel
theorem dX6_refusalOfToldRing_17 : decode cX6_refusalOfToldRing 17 = .ok (.invokevirtual 320, 3) := by decide +kernel
theorem dX6_refusalOfToldRing_20 : decode cX6_refusalOfToldRing 20 = .ok (.iconst (-1), 1) := by decide +kernel
theorem dX6_refusalOfToldRing_21 : decode cX6_refusalOfToldRing 21 = .ok (.if_icmp .eq 8, 3) := by decide +kernel
theorem dX6_refusalOfToldRing_24 : decode cX6_refusalOfToldRing 24 = .ok (.bipush (-5), 2) := by decide +kernel
theorem dX6_refusalOfToldRing_26 : decode cX6_refusalOfToldRing 26 = .ok (.goto 4, 3) := by decide +kernel
theorem dX6_refusalOfToldRing_29 : decode cX6_refusalOfToldRing 29 = .ok (.iload_n 3, 1) := by decide +kernel
theorem dX6_refusalOfToldRing_30 : decode cX6_refusalOfToldRing 30 = .ok (.ireturn, 1) := by decide +kernel
theorem dX6_isStep_0 : decode cX6_isStep 0 = .ok (.iload_n 1, 1) := by decide +kernel
theorem dX6_isStep_1 : decode cX6_isStep 1 = .ok (.iconst 0, 1) := by decide +kernel
theorem dX6_isStep_2 : decode cX6_isStep 2 = .ok (.aload_n 0, 1) := by decide +kernel
theorem dX6_isStep_3 : decode cX6_isStep 3 = .ok (.getfield 10, 3) := by decide +kernel
theorem dX6_isStep_6 : decode cX6_isStep 6 = .ok (.getfield 200, 3) := by decide +kernel
theorem dX6_isStep_9 : decode cX6_isStep 9 = .ok (.iconst 1, 1) := by decide +kernel
theorem dX6_isStep_10 : decode cX6_isStep 10 = .ok (.isub, 1) := by decide +kernel
theorem dX6_isStep_11 : decode cX6_isStep 11 = .ok (.invokestatic 41, 3) := by decide +kernel
theorem dX6_isStep_14 : decode cX6_isStep 14 = .ok (.ireturn, 1) := by decide +kernel
theorem dX6_areTwoLaws_0 : decode cX6_areTwoLaws 0 = .ok (.aload_n 0, 1) := by decide +kernel
theorem dX6_areTwoLaws_1 : decode cX6_areTwoLaws 1 = .ok (.getfield 10, 3) := by decide +kernel
theorem dX6_areTwoLaws_4 : decode cX6_areTwoLaws 4 = .ok (.getfield 81, 3) := by decide +kernel
theorem dX6_areTwoLaws_7 : decode cX6_areTwoLaws 7 = .ok (.iload_n 1, 1) := by decide +kernel
theorem dX6_areTwoLaws_8 : decode cX6_areTwoLaws 8 = .ok (.invokevirtual 85, 3) := by decide +kernel
theorem dX6_areTwoLaws_11 : decode cX6_areTwoLaws 11 = .ok (.ifCond .eq 26, 3) := by decide +kernel
theorem dX6_areTwoLaws_14 : decode cX6_areTwoLaws 14 = .ok (.aload_n 0, 1) := by decide +kernel
theorem dX6_areTwoLaws_15 : decode cX6_areTwoLaws 15 = .ok (.getfield 10, 3) := by decide +kernel
theorem dX6_areTwoLaws_18 : decode cX6_areTwoLaws 18 = .ok (.getfield 81, 3) := by decide +kernel
theorem dX6_areTwoLaws_21 : decode cX6_areTwoLaws 21 = .ok (.iload_n 2, 1) := by decide +kernel
theorem dX6_areTwoLaws_22 : decode cX6_areTwoLaws 22 = .ok (.invokevirtual 85, 3) := by decide +kernel
theorem dX6_areTwoLaws_25 : decode cX6_areTwoLaws 25 = .ok (.ifCond .eq 12, 3) := by decide +kernel
theorem dX6_areTwoLaws_28 : decode cX6_areTwoLaws 28 = .ok (.iload_n 1, 1) := by decide +kernel
theorem dX6_areTwoLaws_29 : decode cX6_areTwoLaws 29 = .ok (.iload_n 2, 1) := by decide +kernel
theorem dX6_areTwoLaws_30 : decode cX6_areTwoLaws 30 = .ok (.if_icmp .eq 7, 3) := by decide +kernel
theorem dX6_areTwoLaws_33 : decode cX6_areTwoLaws 33 = .ok (.iconst 1, 1) := by decide +kernel
theorem dX6_areTwoLaws_34 : decode cX6_areTwoLaws 34 = .ok (.goto 4, 3) := by decide +kernel
theorem dX6_areTwoLaws_37 : decode cX6_areTwoLaws 37 = .ok (.iconst 0, 1) := by decide +kernel
theorem dX6_areTwoLaws_38 : decode cX6_areTwoLaws 38 = .ok (.ireturn, 1) := by decide +kernel
theorem dX6_areTriedSteps_0 : decode cX6_areTriedSteps 0 = .ok (.iload_n 0, 1) := by decide +kernel
theorem dX6_areTriedSteps_1 : decode cX6_areTriedSteps 1 = .ok (.iconst 1, 1) := by decide +kernel
theorem dX6_areTriedSteps_2 : decode cX6_areTriedSteps 2 = .ok (.bipush 12, 2) := by decide +kernel
theorem dX6_areTriedSteps_4 : decode cX6_areTriedSteps 4 = .ok (.invokestatic 41, 3) := by decide +kernel
theorem dX6_areTriedSteps_7 : decode cX6_areTriedSteps 7 = .ok (.ifCond .eq 15, 3) := by decide +kernel
theorem dX6_areTriedSteps_10 : decode cX6_areTriedSteps 10 = .ok (.iload_n 1, 1) := by decide +kernel
theorem dX6_areTriedSteps_11 : decode cX6_areTriedSteps 11 = .ok (.iload_n 0, 1) := by decide +kernel
theorem dX6_areTriedSteps_12 : decode cX6_areTriedSteps 12 = .ok (.invokestatic 249, 3) := by decide +kernel
theorem dX6_areTriedSteps_15 : decode cX6_areTriedSteps 15 = .ok (.ifCond .eq 7, 3) := by decide +kernel
theorem dX6_areTriedSteps_18 : decode cX6_areTriedSteps 18 = .ok (.iconst 1, 1) := by decide +kernel
theorem dX6_areTriedSteps_19 : decode cX6_areTriedSteps 19 = .ok (.goto 4, 3) := by decide +kernel
theorem dX6_areTriedSteps_22 : decode cX6_areTriedSteps 22 = .ok (.iconst 0, 1) := by decide +kernel
theorem dX6_areTriedSteps_23 : decode cX6_areTriedSteps 23 = .ok (.ireturn, 1) := by decide +kernel
theorem dX6_areDivisors_0 : decode cX6_areDivisors 0 = .ok (.iload_n 0, 1) := by decide +kernel
theorem dX6_areDivisors_1 : decode cX6_areDivisors 1 = .ok (.iconst 1, 1) := by decide +kernel
theorem dX6_areDivisors_2 : decode cX6_areDivisors 2 = .ok (.bipush 99, 2) := by decide +kernel
theorem dX6_areDivisors_4 : decode cX6_areDivisors 4 = .ok (.invokestatic 41, 3) := by decide +kernel
theorem dX6_areDivisors_7 : decode cX6_areDivisors 7 = .ok (.ifCond .eq 17, 3) := by decide +kernel
theorem dX6_areDivisors_10 : decode cX6_areDivisors 10 = .ok (.iload_n 1, 1) := by decide +kernel
theorem dX6_areDivisors_11 : decode cX6_areDivisors 11 = .ok (.iconst 1, 1) := by decide +kernel
theorem dX6_areDivisors_12 : decode cX6_areDivisors 12 = .ok (.bipush 99, 2) := by decide +kernel
theorem dX6_areDivisors_14 : decode cX6_areDivisors 14 = .ok (.invokestatic 41, 3) := by decide +kernel
theorem dX6_areDivisors_17 : decode cX6_areDivisors 17 = .ok (.ifCond .eq 7, 3) := by decide +kernel
theorem dX6_areDivisors_20 : decode cX6_areDivisors 20 = .ok (.iconst 1, 1) := by decide +kernel
theorem dX6_areDivisors_21 : decode cX6_areDivisors 21 = .ok (.goto 4, 3) := by decide +kernel
theorem dX6_areDivisors_24 : decode cX6_areDivisors 24 = .ok (.iconst 0, 1) := by decide +kernel
theorem dX6_areDivisors_25 : decode cX6_areDivisors 25 = .ok (.ireturn, 1) := by decide +kernel
theorem dX6_isWithin_0 : decode cX6_isWithin 0 = .ok (.iload_n 0, 1) := by decide +kernel
theorem dX6_isWithin_1 : decode cX6_isWithin 1 = .ok (.iload_n 1, 1) := by decide +kernel
theorem dX6_isWithin_2 : decode cX6_isWithin 2 = .ok (.if_icmp .lt 12, 3) := by decide +kernel
theorem dX6_isWithin_5 : decode cX6_isWithin 5 = .ok (.iload_n 0, 1) := by decide +kernel
theorem dX6_isWithin_6 : decode cX6_isWithin 6 = .ok (.iload_n 2, 1) := by decide +kernel
theorem dX6_isWithin_7 : decode cX6_isWithin 7 = .ok (.if_icmp .gt 7, 3) := by decide +kernel
theorem dX6_isWithin_10 : decode cX6_isWithin 10 = .ok (.iconst 1, 1) := by decide +kernel
theorem dX6_isWithin_11 : decode cX6_isWithin 11 = .ok (.goto 4, 3) := by decide +kernel
theorem dX6_isWithin_14 : decode cX6_isWithin 14 = .ok (.iconst 0, 1) := by decide +kernel
theorem dX6_isWithin_15 : decode cX6_isWithin 15 = .ok (.ireturn, 1) := by decide +kernel
theorem dX6_asNumber_0 : decode cX6_asNumber 0 = .ok (.iload_n 0, 1) := by decide +kernel
theorem dX6_asNumber_1 : decode cX6_asNumber 1 = .ok (.ifCond .eq 7, 3) := by decide +kernel
theorem dX6_asNumber_4 : decode cX6_asNumber 4 = .ok (.iconst 1, 1) := by decide +kernel
theorem dX6_asNumber_5 : decode cX6_asNumber 5 = .ok (.goto 4, 3) := by decide +kernel
theorem dX6_asNumber_8 : decode cX6_asNumber 8 = .ok (.iconst 0, 1) := by decide +kernel
theorem dX6_asNumber_9 : decode cX6_asNumber 9 = .ok (.ireturn, 1) := by decide +kernel
theorem dX6_elementOf_0 : decode cX6_elementOf 0 = .ok (.aload_n 0, 1) := by decide +kernel
theorem dX6_elementOf_1 : decode cX6_elementOf 1 = .ok (.ifnull 19, 3) := by decide +kernel
theorem dX6_elementOf_4 : decode cX6_elementOf 4 = .ok (.iload_n 1, 1) := by decide +kernel
theorem dX6_elementOf_5 : decode cX6_elementOf 5 = .ok (.ifCond .lt 15, 3) := by decide +kernel
theorem dX6_elementOf_8 : decode cX6_elementOf 8 = .ok (.iload_n 1, 1) := by decide +kernel
theorem dX6_elementOf_9 : decode cX6_elementOf 9 = .ok (.aload_n 0, 1) := by decide +kernel
theorem dX6_elementOf_10 : decode cX6_elementOf 10 = .ok (.arraylength, 1) := by decide +kernel
theorem dX6_elementOf_11 : decode cX6_elementOf 11 = .ok (.if_icmp .ge 9, 3) := by decide +kernel
theorem dX6_elementOf_14 : decode cX6_elementOf 14 = .ok (.aload_n 0, 1) := by decide +kernel
theorem dX6_elementOf_15 : decode cX6_elementOf 15 = .ok (.iload_n 1, 1) := by decide +kernel
theorem dX6_elementOf_16 : decode cX6_elementOf 16 = .ok (.iaload, 1) := by decide +kernel
theorem dX6_elementOf_17 : decode cX6_elementOf 17 = .ok (.goto 4, 3) := by decide +kernel
theorem dX6_elementOf_20 : decode cX6_elementOf 20 = .ok (.iload_n 2, 1) := by decide +kernel
theorem dX6_elementOf_21 : decode cX6_elementOf 21 = .ok (.ireturn, 1) := by decide +kernel
theorem dX6_isMultiple_0 : decode cX6_isMultiple 0 = .ok (.iload_n 1, 1) := by decide +kernel
theorem dX6_isMultiple_1 : decode cX6_isMultiple 1 = .ok (.ifCond .le 13, 3) := by decide +kernel
theorem dX6_isMultiple_4 : decode cX6_isMultiple 4 = .ok (.iload_n 0, 1) := by decide +kernel
theorem dX6_isMultiple_5 : decode cX6_isMultiple 5 = .ok (.iload_n 1, 1) := by decide +kernel
theorem dX6_isMultiple_6 : decode cX6_isMultiple 6 = .ok (.irem, 1) := by decide +kernel
theorem dX6_isMultiple_7 : decode cX6_isMultiple 7 = .ok (.ifCond .ne 7, 3) := by decide +kernel
theorem dX6_isMultiple_10 : decode cX6_isMultiple 10 = .ok (.iconst 1, 1) := by decide +kernel
theorem dX6_isMultiple_11 : decode cX6_isMultiple 11 = .ok (.goto 4, 3) := by decide +kernel
theorem dX6_isMultiple_14 : decode cX6_isMultiple 14 = .ok (.iconst 0, 1) := by decide +kernel
theorem dX6_isMultiple_15 : decode cX6_isMultiple 15 = .ok (.ireturn, 1) := by decide +kernel
theorem dX6_leaves_0 : decode cX6_leaves 0 = .ok (.iload_n 1, 1) := by decide +kernel
theorem dX6_leaves_1 : decode cX6_leaves 1 = .ok (.ifCond .le 14, 3) := by decide +kernel
theorem dX6_leaves_4 : decode cX6_leaves 4 = .ok (.iload_n 0, 1) := by decide +kernel
theorem dX6_leaves_5 : decode cX6_leaves 5 = .ok (.iload_n 1, 1) := by decide +kernel
theorem dX6_leaves_6 : decode cX6_leaves 6 = .ok (.irem, 1) := by decide +kernel
theorem dX6_leaves_7 : decode cX6_leaves 7 = .ok (.iload_n 2, 1) := by decide +kernel
theorem dX6_leaves_8 : decode cX6_leaves 8 = .ok (.if_icmp .ne 7, 3) := by decide +kernel
theorem dX6_leaves_11 : decode cX6_leaves 11 = .ok (.iconst 1, 1) := by decide +kernel
theorem dX6_leaves_12 : decode cX6_leaves 12 = .ok (.goto 4, 3) := by decide +kernel
theorem dX6_leaves_15 : decode cX6_leaves 15 = .ok (.iconst 0, 1) := by decide +kernel
theorem dX6_leaves_16 : decode cX6_leaves 16 = .ok (.ireturn, 1) := by decide +kernel
theorem dX6_firstDay_0 : decode cX6_firstDay 0 = .ok (.iload_n 0, 1) := by decide +kernel
theorem dX6_firstDay_1 : decode cX6_firstDay 1 = .ok (.istore 5, 2) := by decide +kernel
theorem dX6_firstDay_3 : decode cX6_firstDay 3 = .ok (.iload 5, 2) := by decide +kernel
theorem dX6_firstDay_5 : decode cX6_firstDay 5 = .ok (.sipush 9999, 3) := by decide +kernel
theorem dX6_firstDay_8 : decode cX6_firstDay 8 = .ok (.if_icmp .gt 33, 3) := by decide +kernel
theorem dX6_firstDay_11 : decode cX6_firstDay 11 = .ok (.iload 5, 2) := by decide +kernel
theorem dX6_firstDay_13 : decode cX6_firstDay 13 = .ok (.iload_n 1, 1) := by decide +kernel
theorem dX6_firstDay_14 : decode cX6_firstDay 14 = .ok (.iload_n 2, 1) := by decide +kernel
theorem dX6_firstDay_15 : decode cX6_firstDay 15 = .ok (.invokestatic 359, 3) := by decide +kernel
theorem dX6_firstDay_18 : decode cX6_firstDay 18 = .ok (.ifCond .eq 17, 3) := by decide +kernel
theorem dX6_firstDay_21 : decode cX6_firstDay 21 = .ok (.iload 5, 2) := by decide +kernel
theorem dX6_firstDay_23 : decode cX6_firstDay 23 = .ok (.iload_n 3, 1) := by decide +kernel
theorem dX6_firstDay_24 : decode cX6_firstDay 24 = .ok (.iload 4, 2) := by decide +kernel
theorem dX6_firstDay_26 : decode cX6_firstDay 26 = .ok (.invokestatic 359, 3) := by decide +kernel
theorem dX6_firstDay_29 : decode cX6_firstDay 29 = .ok (.ifCond .eq 6, 3) := by decide +kernel
theorem dX6_firstDay_32 : decode cX6_firstDay 32 = .ok (.iload 5, 2) := by decide +kernel
theorem dX6_firstDay_34 : decode cX6_firstDay 34 = .ok (.ireturn, 1) := by decide +kernel
theorem dX6_firstDay_35 : decode cX6_firstDay 35 = .ok (.iinc 5 1, 3) := by decide +kernel
theorem dX6_firstDay_38 : decode cX6_firstDay 38 = .ok (.goto (-35), 3) := by decide +kernel
theorem dX6_firstDay_41 : decode cX6_firstDay 41 = .ok (.iconst (-1), 1) := by decide +kernel
theorem dX6_firstDay_42 : decode cX6_firstDay 42 = .ok (.ireturn, 1) := by decide +kernel
theorem dX6_firstBits_0 : decode cX6_firstBits 0 = .ok (.lconst 1, 1) := by decide +kernel
theorem dX6_firstBits_1 : decode cX6_firstBits 1 = .ok (.iload_n 0, 1) := by decide +kernel
theorem dX6_firstBits_2 : decode cX6_firstBits 2 = .ok (.lshl, 1) := by decide +kernel
theorem dX6_firstBits_3 : decode cX6_firstBits 3 = .ok (.lconst 1, 1) := by decide +kernel
theorem dX6_firstBits_4 : decode cX6_firstBits 4 = .ok (.lsub, 1) := by decide +kernel
theorem dX6_firstBits_5 : decode cX6_firstBits 5 = .ok (.lreturn, 1) := by decide +kernel
theorem dX6_isIn_0 : decode cX6_isIn 0 = .ok (.lload_n 0, 1) := by decide +kernel
theorem dX6_isIn_1 : decode cX6_isIn 1 = .ok (.iload_n 2, 1) := by decide +kernel
theorem dX6_isIn_2 : decode cX6_isIn 2 = .ok (.lushr, 1) := by decide +kernel
theorem dX6_isIn_3 : decode cX6_isIn 3 = .ok (.lconst 1, 1) := by decide +kernel
theorem dX6_isIn_4 : decode cX6_isIn 4 = .ok (.land, 1) := by decide +kernel
theorem dX6_isIn_5 : decode cX6_isIn 5 = .ok (.lconst 0, 1) := by decide +kernel
theorem dX6_isIn_6 : decode cX6_isIn 6 = .ok (.lcmp, 1) := by decide +kernel
theorem dX6_isIn_7 : decode cX6_isIn 7 = .ok (.ifCond .eq 7, 3) := by decide +kernel
theorem dX6_isIn_10 : decode cX6_isIn 10 = .ok (.iconst 1, 1) := by decide +kernel
theorem dX6_isIn_11 : decode cX6_isIn 11 = .ok (.goto 4, 3) := by decide +kernel
theorem dX6_isIn_14 : decode cX6_isIn 14 = .ok (.iconst 0, 1) := by decide +kernel
theorem dX6_isIn_15 : decode cX6_isIn 15 = .ok (.ireturn, 1) := by decide +kernel
theorem dX6_isSetOf_0 : decode cX6_isSetOf 0 = .ok (.iload_n 0, 1) := by decide +kernel
theorem dX6_isSetOf_1 : decode cX6_isSetOf 1 = .ok (.ifCond .lt 13, 3) := by decide +kernel
theorem dX6_isSetOf_4 : decode cX6_isSetOf 4 = .ok (.iload_n 0, 1) := by decide +kernel
theorem dX6_isSetOf_5 : decode cX6_isSetOf 5 = .ok (.iload_n 1, 1) := by decide +kernel
theorem dX6_isSetOf_6 : decode cX6_isSetOf 6 = .ok (.iushr, 1) := by decide +kernel
theorem dX6_isSetOf_7 : decode cX6_isSetOf 7 = .ok (.ifCond .ne 7, 3) := by decide +kernel
theorem dX6_isSetOf_10 : decode cX6_isSetOf 10 = .ok (.iconst 1, 1) := by decide +kernel
theorem dX6_isSetOf_11 : decode cX6_isSetOf 11 = .ok (.goto 4, 3) := by decide +kernel
theorem dX6_isSetOf_14 : decode cX6_isSetOf 14 = .ok (.iconst 0, 1) := by decide +kernel
theorem dX6_isSetOf_15 : decode cX6_isSetOf 15 = .ok (.ireturn, 1) := by decide +kernel
theorem dX6_firstIn_0 : decode cX6_firstIn 0 = .ok (.iload_n 2, 1) := by decide +kernel
theorem dX6_firstIn_1 : decode cX6_firstIn 1 = .ok (.istore 4, 2) := by decide +kernel
theorem dX6_firstIn_3 : decode cX6_firstIn 3 = .ok (.iload 4, 2) := by decide +kernel
theorem dX6_firstIn_5 : decode cX6_firstIn 5 = .ok (.iload_n 3, 1) := by decide +kernel
theorem dX6_firstIn_6 : decode cX6_firstIn 6 = .ok (.if_icmp .ge 21, 3) := by decide +kernel
theorem dX6_firstIn_9 : decode cX6_firstIn 9 = .ok (.lload_n 0, 1) := by decide +kernel
theorem dX6_firstIn_10 : decode cX6_firstIn 10 = .ok (.iload 4, 2) := by decide +kernel
theorem dX6_firstIn_12 : decode cX6_firstIn 12 = .ok (.invokestatic 186, 3) := by decide +kernel
theorem dX6_firstIn_15 : decode cX6_firstIn 15 = .ok (.ifCond .eq 6, 3) := by decide +kernel
theorem dX6_firstIn_18 : decode cX6_firstIn 18 = .ok (.iload 4, 2) := by decide +kernel
theorem dX6_firstIn_20 : decode cX6_firstIn 20 = .ok (.ireturn, 1) := by decide +kernel
theorem dX6_firstIn_21 : decode cX6_firstIn 21 = .ok (.iinc 4 1, 3) := by decide +kernel
theorem dX6_firstIn_24 : decode cX6_firstIn 24 = .ok (.goto (-21), 3) := by decide +kernel
theorem dX6_firstIn_27 : decode cX6_firstIn 27 = .ok (.iconst (-1), 1) := by decide +kernel
theorem dX6_firstIn_28 : decode cX6_firstIn 28 = .ok (.ireturn, 1) := by decide +kernel
theorem dX6_longestRun_0 : decode cX6_longestRun 0 = .ok (.iconst 0, 1) := by decide +kernel
theorem dX6_longestRun_1 : decode cX6_longestRun 1 = .ok (.istore_n 3, 1) := by decide +kernel
theorem dX6_longestRun_2 : decode cX6_longestRun 2 = .ok (.iconst 0, 1) := by decide +kernel
theorem dX6_longestRun_3 : decode cX6_longestRun 3 = .ok (.istore 4, 2) := by decide +kernel
theorem dX6_longestRun_5 : decode cX6_longestRun 5 = .ok (.iconst 0, 1) := by decide +kernel
theorem dX6_longestRun_6 : decode cX6_longestRun 6 = .ok (.istore 5, 2) := by decide +kernel
theorem dX6_longestRun_8 : decode cX6_longestRun 8 = .ok (.iload 5, 2) := by decide +kernel
theorem dX6_longestRun_10 : decode cX6_longestRun 10 = .ok (.iload_n 2, 1) := by decide +kernel
theorem dX6_longestRun_11 : decode cX6_longestRun 11 = .ok (.if_icmp .ge 35, 3) := by decide +kernel
theorem dX6_longestRun_14 : decode cX6_longestRun 14 = .ok (.lload_n 0, 1) := by decide +kernel
theorem dX6_longestRun_15 : decode cX6_longestRun 15 = .ok (.iload 5, 2) := by decide +kernel
theorem dX6_longestRun_17 : decode cX6_longestRun 17 = .ok (.invokestatic 186, 3) := by decide +kernel
theorem dX6_longestRun_20 : decode cX6_longestRun 20 = .ok (.ifCond .eq 10, 3) := by decide +kernel
theorem dX6_longestRun_23 : decode cX6_longestRun 23 = .ok (.iload 4, 2) := by decide +kernel
theorem dX6_longestRun_25 : decode cX6_longestRun 25 = .ok (.iconst 1, 1) := by decide +kernel
theorem dX6_longestRun_26 : decode cX6_longestRun 26 = .ok (.iadd, 1) := by decide +kernel
theorem dX6_longestRun_27 : decode cX6_longestRun 27 = .ok (.goto 4, 3) := by decide +kernel
theorem dX6_longestRun_30 : decode cX6_longestRun 30 = .ok (.iconst 0, 1) := by decide +kernel
theorem dX6_longestRun_31 : decode cX6_longestRun 31 = .ok (.istore 4, 2) := by decide +kernel
theorem dX6_longestRun_33 : decode cX6_longestRun 33 = .ok (.iload_n 3, 1) := by decide +kernel
theorem dX6_longestRun_34 : decode cX6_longestRun 34 = .ok (.iload 4, 2) := by decide +kernel
theorem dX6_longestRun_36 : decode cX6_longestRun 36 = .ok (.invokestatic 277, 3) := by decide +kernel
theorem dX6_longestRun_39 : decode cX6_longestRun 39 = .ok (.istore_n 3, 1) := by decide +kernel
theorem dX6_longestRun_40 : decode cX6_longestRun 40 = .ok (.iinc 5 1, 3) := by decide +kernel
theorem dX6_longestRun_43 : decode cX6_longestRun 43 = .ok (.goto (-35), 3) := by decide +kernel
theorem dX6_longestRun_46 : decode cX6_longestRun 46 = .ok (.iload_n 3, 1) := by decide +kernel
theorem dX6_longestRun_47 : decode cX6_longestRun 47 = .ok (.ireturn, 1) := by decide +kernel
theorem dX7_init_0 : decode cX7_init 0 = .ok (.aload_n 0, 1) := by decide +kernel
theorem dX7_init_1 : decode cX7_init 1 = .ok (.invokespecial 1, 3) := by decide +kernel
theorem dX7_init_4 : decode cX7_init 4 = .ok (.aload_n 0, 1) := by decide +kernel
theorem dX7_init_5 : decode cX7_init 5 = .ok (.bipush 6, 2) := by decide +kernel
theorem dX7_init_7 : decode cX7_init 7 = .ok (.newarray .int, 2) := by decide +kernel
theorem dX7_init_9 : decode cX7_init 9 = .ok (.putfield 7, 3) := by decide +kernel
theorem dX7_init_12 : decode cX7_init 12 = .ok (.aload_n 0, 1) := by decide +kernel
theorem dX7_init_13 : decode cX7_init 13 = .ok (.bipush 6, 2) := by decide +kernel
theorem dX7_init_15 : decode cX7_init 15 = .ok (.newarray .int, 2) := by decide +kernel
theorem dX7_init_17 : decode cX7_init 17 = .ok (.putfield 13, 3) := by decide +kernel
theorem dX7_init_20 : decode cX7_init 20 = .ok (.aload_n 0, 1) := by decide +kernel
theorem dX7_init_21 : decode cX7_init 21 = .ok (.bipush 10, 2) := by decide +kernel
theorem dX7_init_23 : decode cX7_init 23 = .ok (.newarray .int, 2) := by decide +kernel
theorem dX7_init_25 : decode cX7_init 25 = .ok (.putfield 16, 3) := by decide +kernel
theorem dX7_init_28 : decode cX7_init 28 = .ok (.aload_n 0, 1) := by decide +kernel
theorem dX7_init_29 : decode cX7_init 29 = .ok (.sipush 250, 3) := by decide +kernel
theorem dX7_init_32 : decode cX7_init 32 = .ok (.newarray .int, 2) := by decide +kernel
theorem dX7_init_34 : decode cX7_init 34 = .ok (.putfield 19, 3) := by decide +kernel
theorem dX7_init_37 : decode cX7_init 37 = .ok (.aload_n 0, 1) := by decide +kernel
theorem dX7_init_38 : decode cX7_init 38 = .ok (.bipush 8, 2) := by decide +kernel
theorem dX7_init_40 : decode cX7_init 40 = .ok (.newarray .int, 2) := by decide +kernel
theorem dX7_init_42 : decode cX7_init 42 = .ok (.putfield 22, 3) := by decide +kernel
theorem dX7_init_45 : decode cX7_init 45 = .ok (.aload_n 0, 1) := by decide +kernel
theorem dX7_init_46 : decode cX7_init 46 = .ok (.bipush 8, 2) := by decide +kernel
theorem dX7_init_48 : decode cX7_init 48 = .ok (.newarray .int, 2) := by decide +kernel
theorem dX7_init_50 : decode cX7_init 50 = .ok (.putfield 25, 3) := by decide +kernel
theorem dX7_init_53 : decode cX7_init 53 = .ok (.aload_n 0, 1) := by decide +kernel
theorem dX7_init_54 : decode cX7_init 54 = .ok (.sipush 320, 3) := by decide +kernel
theorem dX7_init_57 : decode cX7_init 57 = .ok (.newarray .long, 2) := by decide +kernel
theorem dX7_init_59 : decode cX7_init 59 = .ok (.putfield 28, 3) := by decide +kernel
theorem dX7_init_62 : decode cX7_init 62 = .ok (.aload_n 0, 1) := by decide +kernel
theorem dX7_init_63 : decode cX7_init 63 = .ok (.bipush 7, 2) := by decide +kernel
theorem dX7_init_65 : decode cX7_init 65 = .ok (.newarray .int, 2) := by decide +kernel
theorem dX7_init_67 : decode cX7_init 67 = .ok (.putfield 32, 3) := by decide +kernel
theorem dX7_init_70 : decode cX7_init 70 = .ok (.aload_n 0, 1) := by decide +kernel
theorem dX7_init_71 : decode cX7_init 71 = .ok (.bipush 29, 2) := by decide +kernel
theorem dX7_init_73 : decode cX7_init 73 = .ok (.newarray .int, 2) := by decide +kernel
theorem dX7_init_75 : decode cX7_init 75 = .ok (.putfield 35, 3) := by decide +kernel
theorem dX7_init_78 : decode cX7_init 78 = .ok (.aload_n 0, 1) := by decide +kernel
theorem dX7_init_79 : decode cX7_init 79 = .ok (.bipush 29, 2) := by decide +kernel
theorem dX7_init_81 : decode cX7_init 81 = .ok (.newarray .int, 2) := by decide +kernel
theorem dX7_init_83 : decode cX7_init 83 = .ok (.putfield 38, 3) := by decide +kernel
theorem dX7_init_86 : decode cX7_init 86 = .ok (.aload_n 0, 1) := by decide +kernel
theorem dX7_init_87 : decode cX7_init 87 = .ok (.sipush 1000, 3) := by decide +kernel
theorem dX7_init_90 : decode cX7_init 90 = .ok (.newarray .boolean, 2) := by decide +kernel
theorem dX7_init_92 : decode cX7_init 92 = .ok (.putfield 41, 3) := by decide +kernel
theorem dX7_init_95 : decode cX7_init 95 = .ok (.aload_n 0, 1) := by decide +kernel
theorem dX7_init_96 : decode cX7_init 96 = .ok (.iconst 2, 1) := by decide +kernel
theorem dX7_init_97 : decode cX7_init 97 = .ok (.putfield 45, 3) := by decide +kernel
theorem dX7_init_100 : decode cX7_init 100 = .ok (.aload_n 0, 1) := by decide +kernel
theorem dX7_init_101 : decode cX7_init 101 = .ok (.iconst 1, 1) := by decide +kernel
theorem dX7_init_102 : decode cX7_init 102 = .ok (.putfield 49, 3) := by decide +kernel
theorem dX7_init_105 : decode cX7_init 105 = .ok (.iconst 0, 1) := by decide +kernel
theorem dX7_init_106 : decode cX7_init 106 = .ok (.istore_n 1, 1) := by decide +kernel
theorem dX7_init_107 : decode cX7_init 107 = .ok (.iload_n 1, 1) := by decide +kernel
theorem dX7_init_108 : decode cX7_init 108 = .ok (.bipush 8, 2) := by decide +kernel
theorem dX7_init_110 : decode cX7_init 110 = .ok (.if_icmp .ge 16, 3) := by decide +kernel
theorem dX7_init_113 : decode cX7_init 113 = .ok (.aload_n 0, 1) := by decide +kernel
theorem dX7_init_114 : decode cX7_init 114 = .ok (.getfield 22, 3) := by decide +kernel
theorem dX7_init_117 : decode cX7_init 117 = .ok (.iload_n 1, 1) := by decide +kernel
theorem dX7_init_118 : decode cX7_init 118 = .ok (.iconst (-1), 1) := by decide +kernel
theorem dX7_init_119 : decode cX7_init 119 = .ok (.iastore, 1) := by decide +kernel
theorem dX7_init_120 : decode cX7_init 120 = .ok (.iinc 1 1, 3) := by decide +kernel
theorem dX7_init_123 : decode cX7_init 123 = .ok (.goto (-16), 3) := by decide +kernel
theorem dX7_init_126 : decode cX7_init 126 = .ok (.return_, 1) := by decide +kernel
theorem dX7_no_0 : decode cX7_no 0 = .ok (.aload_n 0, 1) := by decide +kernel
theorem dX7_no_1 : decode cX7_no 1 = .ok (.getfield 32, 3) := by decide +kernel
theorem dX7_no_4 : decode cX7_no 4 = .ok (.iload_n 1, 1) := by decide +kernel
theorem dX7_no_5 : decode cX7_no 5 = .ok (.ineg, 1) := by decide +kernel
theorem dX7_no_6 : decode cX7_no 6 = .ok (.dup2, 1) := by decide +kernel
theorem dX7_no_7 : decode cX7_no 7 = .ok (.iaload, 1) := by decide +kernel
theorem dX7_no_8 : decode cX7_no 8 = .ok (.iconst 1, 1) := by decide +kernel
theorem dX7_no_9 : decode cX7_no 9 = .ok (.iadd, 1) := by decide +kernel
theorem dX7_no_10 : decode cX7_no 10 = .ok (.iastore, 1) := by decide +kernel
theorem dX7_no_11 : decode cX7_no 11 = .ok (.iload_n 1, 1) := by decide +kernel
theorem dX7_no_12 : decode cX7_no 12 = .ok (.ireturn, 1) := by decide +kernel
theorem dX7_within_0 : decode cX7_within 0 = .ok (.iload_n 0, 1) := by decide +kernel
theorem dX7_within_1 : decode cX7_within 1 = .ok (.iload_n 1, 1) := by decide +kernel
theorem dX7_within_2 : decode cX7_within 2 = .ok (.if_icmp .lt 12, 3) := by decide +kernel
theorem dX7_within_5 : decode cX7_within 5 = .ok (.iload_n 0, 1) := by decide +kernel
theorem dX7_within_6 : decode cX7_within 6 = .ok (.iload_n 2, 1) := by decide +kernel
theorem dX7_within_7 : decode cX7_within 7 = .ok (.if_icmp .gt 7, 3) := by decide +kernel
theorem dX7_within_10 : decode cX7_within 10 = .ok (.iconst 1, 1) := by decide +kernel
theorem dX7_within_11 : decode cX7_within 11 = .ok (.goto 4, 3) := by decide +kernel
theorem dX7_within_14 : decode cX7_within 14 = .ok (.iconst 0, 1) := by decide +kernel
theorem dX7_within_15 : decode cX7_within 15 = .ok (.ireturn, 1) := by decide +kernel
theorem dX7_has_0 : decode cX7_has 0 = .ok (.lload_n 0, 1) := by decide +kernel
theorem dX7_has_1 : decode cX7_has 1 = .ok (.iload_n 2, 1) := by decide +kernel
theorem dX7_has_2 : decode cX7_has 2 = .ok (.lshr, 1) := by decide +kernel
theorem dX7_has_3 : decode cX7_has 3 = .ok (.lconst 1, 1) := by decide +kernel
theorem dX7_has_4 : decode cX7_has 4 = .ok (.land, 1) := by decide +kernel
theorem dX7_has_5 : decode cX7_has 5 = .ok (.lconst 1, 1) := by decide +kernel
theorem dX7_has_6 : decode cX7_has 6 = .ok (.lcmp, 1) := by decide +kernel
theorem dX7_has_7 : decode cX7_has 7 = .ok (.ifCond .ne 7, 3) := by decide +kernel
theorem dX7_has_10 : decode cX7_has 10 = .ok (.iconst 1, 1) := by decide +kernel
theorem dX7_has_11 : decode cX7_has 11 = .ok (.goto 4, 3) := by decide +kernel
theorem dX7_has_14 : decode cX7_has 14 = .ok (.iconst 0, 1) := by decide +kernel
theorem dX7_has_15 : decode cX7_has 15 = .ok (.ireturn, 1) := by decide +kernel
theorem dX7_isLaw_0 : decode cX7_isLaw 0 = .ok (.iload_n 1, 1) := by decide +kernel
theorem dX7_isLaw_1 : decode cX7_isLaw 1 = .ok (.iconst 0, 1) := by decide +kernel
theorem dX7_isLaw_2 : decode cX7_isLaw 2 = .ok (.aload_n 0, 1) := by decide +kernel
theorem dX7_isLaw_3 : decode cX7_isLaw 3 = .ok (.getfield 52, 3) := by decide +kernel
theorem dX7_isLaw_6 : decode cX7_isLaw 6 = .ok (.iconst 1, 1) := by decide +kernel
theorem dX7_isLaw_7 : decode cX7_isLaw 7 = .ok (.isub, 1) := by decide +kernel
theorem dX7_isLaw_8 : decode cX7_isLaw 8 = .ok (.invokestatic 55, 3) := by decide +kernel
theorem dX7_isLaw_11 : decode cX7_isLaw 11 = .ok (.ireturn, 1) := by decide +kernel
theorem dX7_isOne_0 : decode cX7_isOne 0 = .ok (.iload_n 1, 1) := by decide +kernel
theorem dX7_isOne_1 : decode cX7_isOne 1 = .ok (.iconst 0, 1) := by decide +kernel
theorem dX7_isOne_2 : decode cX7_isOne 2 = .ok (.aload_n 0, 1) := by decide +kernel
theorem dX7_isOne_3 : decode cX7_isOne 3 = .ok (.getfield 59, 3) := by decide +kernel
theorem dX7_isOne_6 : decode cX7_isOne 6 = .ok (.iconst 1, 1) := by decide +kernel
theorem dX7_isOne_7 : decode cX7_isOne 7 = .ok (.isub, 1) := by decide +kernel
theorem dX7_isOne_8 : decode cX7_isOne 8 = .ok (.invokestatic 55, 3) := by decide +kernel
theorem dX7_isOne_11 : decode cX7_isOne 11 = .ok (.ireturn, 1) := by decide +kernel
theorem dX7_isStep_0 : decode cX7_isStep 0 = .ok (.iload_n 1, 1) := by decide +kernel
theorem dX7_isStep_1 : decode cX7_isStep 1 = .ok (.iconst 0, 1) := by decide +kernel
theorem dX7_isStep_2 : decode cX7_isStep 2 = .ok (.aload_n 0, 1) := by decide +kernel
theorem dX7_isStep_3 : decode cX7_isStep 3 = .ok (.getfield 62, 3) := by decide +kernel
theorem dX7_isStep_6 : decode cX7_isStep 6 = .ok (.iconst 1, 1) := by decide +kernel
theorem dX7_isStep_7 : decode cX7_isStep 7 = .ok (.isub, 1) := by decide +kernel
theorem dX7_isStep_8 : decode cX7_isStep 8 = .ok (.invokestatic 55, 3) := by decide +kernel
theorem dX7_isStep_11 : decode cX7_isStep 11 = .ok (.ireturn, 1) := by decide +kernel
theorem dX7_isShelf_0 : decode cX7_isShelf 0 = .ok (.iload_n 0, 1) := by decide +kernel
theorem dX7_isShelf_1 : decode cX7_isShelf 1 = .ok (.iconst 0, 1) := by decide +kernel
theorem dX7_isShelf_2 : decode cX7_isShelf 2 = .ok (.bipush 7, 2) := by decide +kernel
theorem dX7_isShelf_4 : decode cX7_isShelf 4 = .ok (.invokestatic 55, 3) := by decide +kernel
theorem dX7_isShelf_7 : decode cX7_isShelf 7 = .ok (.ireturn, 1) := by decide +kernel
theorem dX7_isRow_0 : decode cX7_isRow 0 = .ok (.aload_n 0, 1) := by decide +kernel
theorem dX7_isRow_1 : decode cX7_isRow 1 = .ok (.getfield 22, 3) := by decide +kernel
theorem dX7_isRow_4 : decode cX7_isRow 4 = .ok (.iload_n 1, 1) := by decide +kernel
theorem dX7_isRow_5 : decode cX7_isRow 5 = .ok (.iaload, 1) := by decide +kernel
theorem dX7_isRow_6 : decode cX7_isRow 6 = .ok (.iconst 0, 1) := by decide +kernel
theorem dX7_isRow_7 : decode cX7_isRow 7 = .ok (.iconst 4, 1) := by decide +kernel
theorem dX7_isRow_8 : decode cX7_isRow 8 = .ok (.invokestatic 55, 3) := by decide +kernel
theorem dX7_isRow_11 : decode cX7_isRow 11 = .ok (.ireturn, 1) := by decide +kernel
theorem dX7_row_0 : decode cX7_row 0 = .ok (.iload_n 1, 1) := by decide +kernel
theorem dX7_row_1 : decode cX7_row 1 = .ok (.invokestatic 65, 3) := by decide +kernel
theorem dX7_row_4 : decode cX7_row 4 = .ok (.ifCond .eq 22, 3) := by decide +kernel
theorem dX7_row_7 : decode cX7_row 7 = .ok (.iload_n 2, 1) := by decide +kernel
theorem dX7_row_8 : decode cX7_row 8 = .ok (.iconst 0, 1) := by decide +kernel
theorem dX7_row_9 : decode cX7_row 9 = .ok (.iconst 4, 1) := by decide +kernel
theorem dX7_row_10 : decode cX7_row 10 = .ok (.invokestatic 55, 3) := by decide +kernel
theorem dX7_row_13 : decode cX7_row 13 = .ok (.ifCond .eq 13, 3) := by decide +kernel
theorem dX7_row_16 : decode cX7_row 16 = .ok (.iload_n 3, 1) := by decide +kernel
theorem dX7_row_17 : decode cX7_row 17 = .ok (.iconst 0, 1) := by decide +kernel
theorem dX7_row_18 : decode cX7_row 18 = .ok (.bipush 40, 2) := by decide +kernel
theorem dX7_row_20 : decode cX7_row 20 = .ok (.invokestatic 55, 3) := by decide +kernel
theorem dX7_row_23 : decode cX7_row 23 = .ok (.ifCond .ne 10, 3) := by decide +kernel
theorem dX7_row_26 : decode cX7_row 26 = .ok (.aload_n 0, 1) := by decide +kernel
theorem dX7_row_27 : decode cX7_row 27 = .ok (.bipush (-2), 2) := by decide +kernel
theorem dX7_row_29 : decode cX7_row 29 = .ok (.invokevirtual 69, 3) := by decide +kernel
theorem dX7_row_32 : decode cX7_row 32 = .ok (.ireturn, 1) := by decide +kernel
theorem dX7_row_33 : decode cX7_row 33 = .ok (.aload_n 0, 1) := by decide +kernel
theorem dX7_row_34 : decode cX7_row 34 = .ok (.getfield 22, 3) := by decide +kernel
theorem dX7_row_37 : decode cX7_row 37 = .ok (.iload_n 1, 1) := by decide +kernel
theorem dX7_row_38 : decode cX7_row 38 = .ok (.iload_n 2, 1) := by decide +kernel
theorem dX7_row_39 : decode cX7_row 39 = .ok (.iastore, 1) := by decide +kernel
theorem dX7_row_40 : decode cX7_row 40 = .ok (.aload_n 0, 1) := by decide +kernel
theorem dX7_row_41 : decode cX7_row 41 = .ok (.getfield 25, 3) := by decide +kernel
theorem dX7_row_44 : decode cX7_row 44 = .ok (.iload_n 1, 1) := by decide +kernel
theorem dX7_row_45 : decode cX7_row 45 = .ok (.iload_n 3, 1) := by decide +kernel
theorem dX7_row_46 : decode cX7_row 46 = .ok (.iastore, 1) := by decide +kernel
theorem dX7_row_47 : decode cX7_row 47 = .ok (.iconst 0, 1) := by decide +kernel
theorem dX7_row_48 : decode cX7_row 48 = .ok (.istore 4, 2) := by decide +kernel
theorem dX7_row_50 : decode cX7_row 50 = .ok (.iload 4, 2) := by decide +kernel
theorem dX7_row_52 : decode cX7_row 52 = .ok (.bipush 40, 2) := by decide +kernel
theorem dX7_row_54 : decode cX7_row 54 = .ok (.if_icmp .ge 22, 3) := by decide +kernel
theorem dX7_row_57 : decode cX7_row 57 = .ok (.aload_n 0, 1) := by decide +kernel
theorem dX7_row_58 : decode cX7_row 58 = .ok (.getfield 28, 3) := by decide +kernel
theorem dX7_row_61 : decode cX7_row 61 = .ok (.bipush 40, 2) := by decide +kernel
theorem dX7_row_63 : decode cX7_row 63 = .ok (.iload_n 1, 1) := by decide +kernel
theorem dX7_row_64 : decode cX7_row 64 = .ok (.imul, 1) := by decide +kernel
theorem dX7_row_65 : decode cX7_row 65 = .ok (.iload 4, 2) := by decide +kernel
theorem dX7_row_67 : decode cX7_row 67 = .ok (.iadd, 1) := by decide +kernel
theorem dX7_row_68 : decode cX7_row 68 = .ok (.lconst 0, 1) := by decide +kernel
theorem dX7_row_69 : decode cX7_row 69 = .ok (.lastore, 1) := by decide +kernel
theorem dX7_row_70 : decode cX7_row 70 = .ok (.iinc 4 1, 3) := by decide +kernel
theorem dX7_row_73 : decode cX7_row 73 = .ok (.goto (-23), 3) := by decide +kernel
theorem dX7_row_76 : decode cX7_row 76 = .ok (.iconst 1, 1) := by decide +kernel
theorem dX7_row_77 : decode cX7_row 77 = .ok (.ireturn, 1) := by decide +kernel
theorem dX7_noRow_0 : decode cX7_noRow 0 = .ok (.aload_n 0, 1) := by decide +kernel
theorem dX7_noRow_1 : decode cX7_noRow 1 = .ok (.getfield 22, 3) := by decide +kernel
theorem dX7_noRow_4 : decode cX7_noRow 4 = .ok (.iload_n 1, 1) := by decide +kernel
theorem dX7_noRow_5 : decode cX7_noRow 5 = .ok (.iaload, 1) := by decide +kernel
theorem dX7_noRow_6 : decode cX7_noRow 6 = .ok (.bipush 10, 2) := by decide +kernel
theorem dX7_noRow_8 : decode cX7_noRow 8 = .ok (.if_icmp .lt 8, 3) := by decide +kernel
theorem dX7_noRow_11 : decode cX7_noRow 11 = .ok (.bipush (-3), 2) := by decide +kernel
theorem dX7_noRow_13 : decode cX7_noRow 13 = .ok (.goto 18, 3) := by decide +kernel
theorem dX7_noRow_16 : decode cX7_noRow 16 = .ok (.aload_n 0, 1) := by decide +kernel
theorem dX7_noRow_17 : decode cX7_noRow 17 = .ok (.getfield 22, 3) := by decide +kernel
theorem dX7_noRow_20 : decode cX7_noRow 20 = .ok (.iload_n 1, 1) := by decide +kernel
theorem dX7_noRow_21 : decode cX7_noRow 21 = .ok (.iaload, 1) := by decide +kernel
theorem dX7_noRow_22 : decode cX7_noRow 22 = .ok (.ifCond .ge 8, 3) := by decide +kernel
theorem dX7_noRow_25 : decode cX7_noRow 25 = .ok (.bipush (-4), 2) := by decide +kernel
theorem dX7_noRow_27 : decode cX7_noRow 27 = .ok (.goto 4, 3) := by decide +kernel
theorem dX7_noRow_30 : decode cX7_noRow 30 = .ok (.iconst 0, 1) := by decide +kernel
theorem dX7_noRow_31 : decode cX7_noRow 31 = .ok (.ireturn, 1) := by decide +kernel
theorem dX7_kept_0 : decode cX7_kept 0 = .ok (.iload_n 0, 1) := by decide +kernel
theorem dX7_kept_1 : decode cX7_kept 1 = .ok (.tableswitch 47 0 3 #[31, 36, 41, 45], 31) := by decide +kernel
theorem dX7_kept_32 : decode cX7_kept 32 = .ok (.lload_n 1, 1) := by decide +kernel
theorem dX7_kept_33 : decode cX7_kept 33 = .ok (.l2i, 1) := by decide +kernel
theorem dX7_kept_34 : decode cX7_kept 34 = .ok (.i2b, 1) := by decide +kernel
theorem dX7_kept_35 : decode cX7_kept 35 = .ok (.i2l, 1) := by decide +kernel
theorem dX7_kept_36 : decode cX7_kept 36 = .ok (.lreturn, 1) := by decide +kernel
theorem dX7_kept_37 : decode cX7_kept 37 = .ok (.lload_n 1, 1) := by decide +kernel
theorem dX7_kept_38 : decode cX7_kept 38 = .ok (.l2i, 1) := by decide +kernel
theorem dX7_kept_39 : decode cX7_kept 39 = .ok (.i2s, 1) := by decide +kernel
theorem dX7_kept_40 : decode cX7_kept 40 = .ok (.i2l, 1) := by decide +kernel
theorem dX7_kept_41 : decode cX7_kept 41 = .ok (.lreturn, 1) := by decide +kernel
theorem dX7_kept_42 : decode cX7_kept 42 = .ok (.lload_n 1, 1) := by decide +kernel
theorem dX7_kept_43 : decode cX7_kept 43 = .ok (.l2i, 1) := by decide +kernel
theorem dX7_kept_44 : decode cX7_kept 44 = .ok (.i2l, 1) := by decide +kernel
theorem dX7_kept_45 : decode cX7_kept 45 = .ok (.lreturn, 1) := by decide +kernel
theorem dX7_kept_46 : decode cX7_kept 46 = .ok (.lload_n 1, 1) := by decide +kernel
theorem dX7_kept_47 : decode cX7_kept 47 = .ok (.lreturn, 1) := by decide +kernel
theorem dX7_kept_48 : decode cX7_kept 48 = .ok (.lload_n 1, 1) := by decide +kernel
theorem dX7_kept_49 : decode cX7_kept 49 = .ok (.lconst 0, 1) := by decide +kernel
theorem dX7_kept_50 : decode cX7_kept 50 = .ok (.lcmp, 1) := by decide +kernel
theorem dX7_kept_51 : decode cX7_kept 51 = .ok (.ifCond .eq 7, 3) := by decide +kernel
theorem dX7_kept_54 : decode cX7_kept 54 = .ok (.lconst 1, 1) := by decide +kernel
theorem dX7_kept_55 : decode cX7_kept 55 = .ok (.goto 4, 3) := by decide +kernel
theorem dX7_kept_58 : decode cX7_kept 58 = .ok (.lconst 0, 1) := by decide +kernel
theorem dX7_kept_59 : decode cX7_kept 59 = .ok (.lreturn, 1) := by decide +kernel
theorem dX7_set_0 : decode cX7_set 0 = .ok (.iload_n 1, 1) := by decide +kernel
theorem dX7_set_1 : decode cX7_set 1 = .ok (.invokestatic 65, 3) := by decide +kernel
theorem dX7_set_4 : decode cX7_set 4 = .ok (.ifCond .ne 10, 3) := by decide +kernel
theorem dX7_set_7 : decode cX7_set 7 = .ok (.aload_n 0, 1) := by decide +kernel
theorem dX7_set_8 : decode cX7_set 8 = .ok (.bipush (-2), 2) := by decide +kernel
theorem dX7_set_10 : decode cX7_set 10 = .ok (.invokevirtual 69, 3) := by decide +kernel
theorem dX7_set_13 : decode cX7_set 13 = .ok (.ireturn, 1) := by decide +kernel
theorem dX7_set_14 : decode cX7_set 14 = .ok (.aload_n 0, 1) := by decide +kernel
theorem dX7_set_15 : decode cX7_set 15 = .ok (.iload_n 1, 1) := by decide +kernel
theorem dX7_set_16 : decode cX7_set 16 = .ok (.invokevirtual 73, 3) := by decide +kernel
theorem dX7_set_19 : decode cX7_set 19 = .ok (.ifCond .ne 13, 3) := by decide +kernel
theorem dX7_set_22 : decode cX7_set 22 = .ok (.aload_n 0, 1) := by decide +kernel
theorem dX7_set_23 : decode cX7_set 23 = .ok (.aload_n 0, 1) := by decide +kernel
theorem dX7_set_24 : decode cX7_set 24 = .ok (.iload_n 1, 1) := by decide +kernel
theorem dX7_set_25 : decode cX7_set 25 = .ok (.invokevirtual 76, 3) := by decide +kernel
theorem dX7_set_28 : decode cX7_set 28 = .ok (.invokevirtual 69, 3) := by decide +kernel
theorem dX7_set_31 : decode cX7_set 31 = .ok (.ireturn, 1) := by decide +kernel
theorem dX7_set_32 : decode cX7_set 32 = .ok (.iload_n 2, 1) := by decide +kernel
theorem dX7_set_33 : decode cX7_set 33 = .ok (.iconst 0, 1) := by decide +kernel
theorem dX7_set_34 : decode cX7_set 34 = .ok (.aload_n 0, 1) := by decide +kernel
theorem dX7_set_35 : decode cX7_set 35 = .ok (.getfield 25, 3) := by decide +kernel
theorem dX7_set_38 : decode cX7_set 38 = .ok (.iload_n 1, 1) := by decide +kernel
theorem dX7_set_39 : decode cX7_set 39 = .ok (.iaload, 1) := by decide +kernel
theorem dX7_set_40 : decode cX7_set 40 = .ok (.iconst 1, 1) := by decide +kernel
theorem dX7_set_41 : decode cX7_set 41 = .ok (.isub, 1) := by decide +kernel
theorem dX7_set_42 : decode cX7_set 42 = .ok (.invokestatic 55, 3) := by decide +kernel
theorem dX7_set_45 : decode cX7_set 45 = .ok (.ifCond .ne 10, 3) := by decide +kernel
theorem dX7_set_48 : decode cX7_set 48 = .ok (.aload_n 0, 1) := by decide +kernel
theorem dX7_set_49 : decode cX7_set 49 = .ok (.bipush (-2), 2) := by decide +kernel
theorem dX7_set_51 : decode cX7_set 51 = .ok (.invokevirtual 69, 3) := by decide +kernel
theorem dX7_set_54 : decode cX7_set 54 = .ok (.ireturn, 1) := by decide +kernel
theorem dX7_set_55 : decode cX7_set 55 = .ok (.aload_n 0, 1) := by decide +kernel
theorem dX7_set_56 : decode cX7_set 56 = .ok (.getfield 28, 3) := by decide +kernel
theorem dX7_set_59 : decode cX7_set 59 = .ok (.bipush 40, 2) := by decide +kernel
theorem dX7_set_61 : decode cX7_set 61 = .ok (.iload_n 1, 1) := by decide +kernel
theorem dX7_set_62 : decode cX7_set 62 = .ok (.imul, 1) := by decide +kernel
theorem dX7_set_63 : decode cX7_set 63 = .ok (.iload_n 2, 1) := by decide +kernel
theorem dX7_set_64 : decode cX7_set 64 = .ok (.iadd, 1) := by decide +kernel
theorem dX7_set_65 : decode cX7_set 65 = .ok (.aload_n 0, 1) := by decide +kernel
theorem dX7_set_66 : decode cX7_set 66 = .ok (.getfield 22, 3) := by decide +kernel
theorem dX7_set_69 : decode cX7_set 69 = .ok (.iload_n 1, 1) := by decide +kernel
theorem dX7_set_70 : decode cX7_set 70 = .ok (.iaload, 1) := by decide +kernel
theorem dX7_set_71 : decode cX7_set 71 = .ok (.lload_n 3, 1) := by decide +kernel
theorem dX7_set_72 : decode cX7_set 72 = .ok (.invokestatic 79, 3) := by decide +kernel
theorem dX7_set_75 : decode cX7_set 75 = .ok (.lastore, 1) := by decide +kernel
theorem dX7_set_76 : decode cX7_set 76 = .ok (.iconst 1, 1) := by decide +kernel
theorem dX7_set_77 : decode cX7_set 77 = .ok (.ireturn, 1) := by decide +kernel
theorem dX7_copy_0 : decode cX7_copy 0 = .ok (.iload_n 1, 1) := by decide +kernel
theorem dX7_copy_1 : decode cX7_copy 1 = .ok (.invokestatic 65, 3) := by decide +kernel
theorem dX7_copy_4 : decode cX7_copy 4 = .ok (.ifCond .eq 10, 3) := by decide +kernel
theorem dX7_copy_7 : decode cX7_copy 7 = .ok (.iload_n 2, 1) := by decide +kernel
theorem dX7_copy_8 : decode cX7_copy 8 = .ok (.invokestatic 65, 3) := by decide +kernel
theorem dX7_copy_11 : decode cX7_copy 11 = .ok (.ifCond .ne 10, 3) := by decide +kernel
theorem dX7_copy_14 : decode cX7_copy 14 = .ok (.aload_n 0, 1) := by decide +kernel
theorem dX7_copy_15 : decode cX7_copy 15 = .ok (.bipush (-2), 2) := by decide +kernel
theorem dX7_copy_17 : decode cX7_copy 17 = .ok (.invokevirtual 69, 3) := by decide +kernel
theorem dX7_copy_20 : decode cX7_copy 20 = .ok (.ireturn, 1) := by decide +kernel
theorem dX7_copy_21 : decode cX7_copy 21 = .ok (.aload_n 0, 1) := by decide +kernel
theorem dX7_copy_22 : decode cX7_copy 22 = .ok (.getfield 22, 3) := by decide +kernel
theorem dX7_copy_25 : decode cX7_copy 25 = .ok (.iload_n 1, 1) := by decide +kernel
theorem dX7_copy_26 : decode cX7_copy 26 = .ok (.iaload, 1) := by decide +kernel
theorem dX7_copy_27 : decode cX7_copy 27 = .ok (.bipush 10, 2) := by decide +kernel
theorem dX7_copy_29 : decode cX7_copy 29 = .ok (.if_icmp .ge 45, 3) := by decide +kernel
theorem dX7_copy_32 : decode cX7_copy 32 = .ok (.aload_n 0, 1) := by decide +kernel
theorem dX7_copy_33 : decode cX7_copy 33 = .ok (.getfield 22, 3) := by decide +kernel
theorem dX7_copy_36 : decode cX7_copy 36 = .ok (.iload_n 2, 1) := by decide +kernel
theorem dX7_copy_37 : decode cX7_copy 37 = .ok (.iaload, 1) := by decide +kernel
theorem dX7_copy_38 : decode cX7_copy 38 = .ok (.bipush 10, 2) := by decide +kernel
theorem dX7_copy_40 : decode cX7_copy 40 = .ok (.if_icmp .ge 34, 3) := by decide +kernel
theorem dX7_copy_43 : decode cX7_copy 43 = .ok (.aload_n 0, 1) := by decide +kernel
theorem dX7_copy_44 : decode cX7_copy 44 = .ok (.iload_n 1, 1) := by decide +kernel
theorem dX7_copy_45 : decode cX7_copy 45 = .ok (.invokevirtual 73, 3) := by decide +kernel
theorem dX7_copy_48 : decode cX7_copy 48 = .ok (.ifCond .eq 33, 3) := by decide +kernel
theorem dX7_copy_51 : decode cX7_copy 51 = .ok (.aload_n 0, 1) := by decide +kernel
theorem dX7_copy_52 : decode cX7_copy 52 = .ok (.iload_n 2, 1) := by decide +kernel
theorem dX7_copy_53 : decode cX7_copy 53 = .ok (.invokevirtual 73, 3) := by decide +kernel
theorem dX7_copy_56 : decode cX7_copy 56 = .ok (.ifCond .eq 25, 3) := by decide +kernel
theorem dX7_copy_59 : decode cX7_copy 59 = .ok (.aload_n 0, 1) := by decide +kernel
theorem dX7_copy_60 : decode cX7_copy 60 = .ok (.getfield 22, 3) := by decide +kernel
theorem dX7_copy_63 : decode cX7_copy 63 = .ok (.iload_n 1, 1) := by decide +kernel
theorem dX7_copy_64 : decode cX7_copy 64 = .ok (.iaload, 1) := by decide +kernel
theorem dX7_copy_65 : decode cX7_copy 65 = .ok (.aload_n 0, 1) := by decide +kernel
theorem dX7_copy_66 : decode cX7_copy 66 = .ok (.getfield 22, 3) := by decide +kernel
theorem dX7_copy_69 : decode cX7_copy 69 = .ok (.iload_n 2, 1) := by decide +kernel
theorem dX7_copy_70 : decode cX7_copy 70 = .ok (.iaload, 1) := by decide +kernel
theorem dX7_copy_71 : decode cX7_copy 71 = .ok (.if_icmp .eq 10, 3) := by decide +kernel
theorem dX7_copy_74 : decode cX7_copy 74 = .ok (.aload_n 0, 1) := by decide +kernel
theorem dX7_copy_75 : decode cX7_copy 75 = .ok (.bipush (-3), 2) := by decide +kernel
theorem dX7_copy_77 : decode cX7_copy 77 = .ok (.invokevirtual 69, 3) := by decide +kernel
theorem dX7_copy_80 : decode cX7_copy 80 = .ok (.ireturn, 1) := by decide +kernel
theorem dX7_copy_81 : decode cX7_copy 81 = .ok (.aload_n 0, 1) := by decide +kernel
theorem dX7_copy_82 : decode cX7_copy 82 = .ok (.getfield 22, 3) := by decide +kernel
theorem dX7_copy_85 : decode cX7_copy 85 = .ok (.iload_n 1, 1) := by decide +kernel
theorem dX7_copy_86 : decode cX7_copy 86 = .ok (.iaload, 1) := by decide +kernel
theorem dX7_copy_87 : decode cX7_copy 87 = .ok (.ifCond .lt 12, 3) := by decide +kernel
theorem dX7_copy_90 : decode cX7_copy 90 = .ok (.aload_n 0, 1) := by decide +kernel
theorem dX7_copy_91 : decode cX7_copy 91 = .ok (.getfield 22, 3) := by decide +kernel
theorem dX7_copy_94 : decode cX7_copy 94 = .ok (.iload_n 2, 1) := by decide +kernel
theorem dX7_copy_95 : decode cX7_copy 95 = .ok (.iaload, 1) := by decide +kernel
theorem dX7_copy_96 : decode cX7_copy 96 = .ok (.ifCond .ge 10, 3) := by decide +kernel
theorem dX7_copy_99 : decode cX7_copy 99 = .ok (.aload_n 0, 1) := by decide +kernel
theorem dX7_copy_100 : decode cX7_copy 100 = .ok (.bipush (-4), 2) := by decide +kernel
theorem dX7_copy_102 : decode cX7_copy 102 = .ok (.invokevirtual 69, 3) := by decide +kernel
theorem dX7_copy_105 : decode cX7_copy 105 = .ok (.ireturn, 1) := by decide +kernel
theorem dX7_copy_106 : decode cX7_copy 106 = .ok (.iload 5, 2) := by decide +kernel
theorem dX7_copy_108 : decode cX7_copy 108 = .ok (.ifCond .lt 47, 3) := by decide +kernel
theorem dX7_copy_111 : decode cX7_copy 111 = .ok (.iload_n 3, 1) := by decide +kernel
theorem dX7_copy_112 : decode cX7_copy 112 = .ok (.ifCond .lt 43, 3) := by decide +kernel
theorem dX7_copy_115 : decode cX7_copy 115 = .ok (.iload 4, 2) := by decide +kernel
theorem dX7_copy_117 : decode cX7_copy 117 = .ok (.ifCond .lt 38, 3) := by decide +kernel
theorem dX7_copy_120 : decode cX7_copy 120 = .ok (.iload_n 3, 1) := by decide +kernel
theorem dX7_copy_121 : decode cX7_copy 121 = .ok (.i2l, 1) := by decide +kernel
theorem dX7_copy_122 : decode cX7_copy 122 = .ok (.iload 5, 2) := by decide +kernel
theorem dX7_copy_124 : decode cX7_copy 124 = .ok (.i2l, 1) := by decide +kernel
theorem dX7_copy_125 : decode cX7_copy 125 = .ok (.ladd, 1) := by decide +kernel
theorem dX7_copy_126 : decode cX7_copy 126 = .ok (.aload_n 0, 1) := by decide +kernel
theorem dX7_copy_127 : decode cX7_copy 127 = .ok (.getfield 25, 3) := by decide +kernel
theorem dX7_copy_130 : decode cX7_copy 130 = .ok (.iload_n 1, 1) := by decide +kernel
theorem dX7_copy_131 : decode cX7_copy 131 = .ok (.iaload, 1) := by decide +kernel
theorem dX7_copy_132 : decode cX7_copy 132 = .ok (.i2l, 1) := by decide +kernel
theorem dX7_copy_133 : decode cX7_copy 133 = .ok (.lcmp, 1) := by decide +kernel
theorem dX7_copy_134 : decode cX7_copy 134 = .ok (.ifCond .gt 21, 3) := by decide +kernel
theorem dX7_copy_137 : decode cX7_copy 137 = .ok (.iload 4, 2) := by decide +kernel
theorem dX7_copy_139 : decode cX7_copy 139 = .ok (.i2l, 1) := by decide +kernel
theorem dX7_copy_140 : decode cX7_copy 140 = .ok (.iload 5, 2) := by decide +kernel
theorem dX7_copy_142 : decode cX7_copy 142 = .ok (.i2l, 1) := by decide +kernel
theorem dX7_copy_143 : decode cX7_copy 143 = .ok (.ladd, 1) := by decide +kernel
theorem dX7_copy_144 : decode cX7_copy 144 = .ok (.aload_n 0, 1) := by decide +kernel
theorem dX7_copy_145 : decode cX7_copy 145 = .ok (.getfield 25, 3) := by decide +kernel
theorem dX7_copy_148 : decode cX7_copy 148 = .ok (.iload_n 2, 1) := by decide +kernel
theorem dX7_copy_149 : decode cX7_copy 149 = .ok (.iaload, 1) := by decide +kernel
theorem dX7_copy_150 : decode cX7_copy 150 = .ok (.i2l, 1) := by decide +kernel
theorem dX7_copy_151 : decode cX7_copy 151 = .ok (.lcmp, 1) := by decide +kernel
theorem dX7_copy_152 : decode cX7_copy 152 = .ok (.ifCond .le 10, 3) := by decide +kernel
theorem dX7_copy_155 : decode cX7_copy 155 = .ok (.aload_n 0, 1) := by decide +kernel
theorem dX7_copy_156 : decode cX7_copy 156 = .ok (.bipush (-2), 2) := by decide +kernel
theorem dX7_copy_158 : decode cX7_copy 158 = .ok (.invokevirtual 69, 3) := by decide +kernel
theorem dX7_copy_161 : decode cX7_copy 161 = .ok (.ireturn, 1) := by decide +kernel
theorem dX7_copy_162 : decode cX7_copy 162 = .ok (.iload_n 1, 1) := by decide +kernel
theorem dX7_copy_163 : decode cX7_copy 163 = .ok (.iload_n 2, 1) := by decide +kernel
theorem dX7_copy_164 : decode cX7_copy 164 = .ok (.if_icmp .ne 58, 3) := by decide +kernel
theorem dX7_copy_167 : decode cX7_copy 167 = .ok (.iload_n 3, 1) := by decide +kernel
theorem dX7_copy_168 : decode cX7_copy 168 = .ok (.iload 4, 2) := by decide +kernel
theorem dX7_copy_170 : decode cX7_copy 170 = .ok (.if_icmp .ge 52, 3) := by decide +kernel
theorem dX7_copy_173 : decode cX7_copy 173 = .ok (.iload 5, 2) := by decide +kernel
theorem dX7_copy_175 : decode cX7_copy 175 = .ok (.iconst 1, 1) := by decide +kernel
theorem dX7_copy_176 : decode cX7_copy 176 = .ok (.isub, 1) := by decide +kernel
theorem dX7_copy_177 : decode cX7_copy 177 = .ok (.istore 6, 2) := by decide +kernel
theorem dX7_copy_179 : decode cX7_copy 179 = .ok (.iload 6, 2) := by decide +kernel
theorem dX7_copy_181 : decode cX7_copy 181 = .ok (.ifCond .lt 38, 3) := by decide +kernel
theorem dX7_copy_184 : decode cX7_copy 184 = .ok (.aload_n 0, 1) := by decide +kernel
theorem dX7_copy_185 : decode cX7_copy 185 = .ok (.getfield 28, 3) := by decide +kernel
theorem dX7_copy_188 : decode cX7_copy 188 = .ok (.bipush 40, 2) := by decide +kernel
theorem dX7_copy_190 : decode cX7_copy 190 = .ok (.iload_n 2, 1) := by decide +kernel
theorem dX7_copy_191 : decode cX7_copy 191 = .ok (.imul, 1) := by decide +kernel
theorem dX7_copy_192 : decode cX7_copy 192 = .ok (.iload 4, 2) := by decide +kernel
theorem dX7_copy_194 : decode cX7_copy 194 = .ok (.iadd, 1) := by decide +kernel
theorem dX7_copy_195 : decode cX7_copy 195 = .ok (.iload 6, 2) := by decide +kernel
theorem dX7_copy_197 : decode cX7_copy 197 = .ok (.iadd, 1) := by decide +kernel
theorem dX7_copy_198 : decode cX7_copy 198 = .ok (.aload_n 0, 1) := by decide +kernel
theorem dX7_copy_199 : decode cX7_copy 199 = .ok (.getfield 28, 3) := by decide +kernel
theorem dX7_copy_202 : decode cX7_copy 202 = .ok (.bipush 40, 2) := by decide +kernel
theorem dX7_copy_204 : decode cX7_copy 204 = .ok (.iload_n 1, 1) := by decide +kernel
theorem dX7_copy_205 : decode cX7_copy 205 = .ok (.imul, 1) := by decide +kernel
theorem dX7_copy_206 : decode cX7_copy 206 = .ok (.iload_n 3, 1) := by decide +kernel
theorem dX7_copy_207 : decode cX7_copy 207 = .ok (.iadd, 1) := by decide +kernel
theorem dX7_copy_208 : decode cX7_copy 208 = .ok (.iload 6, 2) := by decide +kernel
theorem dX7_copy_210 : decode cX7_copy 210 = .ok (.iadd, 1) := by decide +kernel
theorem dX7_copy_211 : decode cX7_copy 211 = .ok (.laload, 1) := by decide +kernel
theorem dX7_copy_212 : decode cX7_copy 212 = .ok (.lastore, 1) := by decide +kernel
theorem dX7_copy_213 : decode cX7_copy 213 = .ok (.iinc 6 (-1), 3) := by decide +kernel
theorem dX7_copy_216 : decode cX7_copy 216 = .ok (.goto (-37), 3) := by decide +kernel
theorem dX7_copy_219 : decode cX7_copy 219 = .ok (.goto 48, 3) := by decide +kernel
theorem dX7_copy_222 : decode cX7_copy 222 = .ok (.iconst 0, 1) := by decide +kernel
theorem dX7_copy_223 : decode cX7_copy 223 = .ok (.istore 6, 2) := by decide +kernel
theorem dX7_copy_225 : decode cX7_copy 225 = .ok (.iload 6, 2) := by decide +kernel
theorem dX7_copy_227 : decode cX7_copy 227 = .ok (.iload 5, 2) := by decide +kernel
theorem dX7_copy_229 : decode cX7_copy 229 = .ok (.if_icmp .ge 38, 3) := by decide +kernel
theorem dX7_copy_232 : decode cX7_copy 232 = .ok (.aload_n 0, 1) := by decide +kernel
theorem dX7_copy_233 : decode cX7_copy 233 = .ok (.getfield 28, 3) := by decide +kernel
theorem dX7_copy_236 : decode cX7_copy 236 = .ok (.bipush 40, 2) := by decide +kernel
theorem dX7_copy_238 : decode cX7_copy 238 = .ok (.iload_n 2, 1) := by decide +kernel
theorem dX7_copy_239 : decode cX7_copy 239 = .ok (.imul, 1) := by decide +kernel
theorem dX7_copy_240 : decode cX7_copy 240 = .ok (.iload 4, 2) := by decide +kernel
theorem dX7_copy_242 : decode cX7_copy 242 = .ok (.iadd, 1) := by decide +kernel
theorem dX7_copy_243 : decode cX7_copy 243 = .ok (.iload 6, 2) := by decide +kernel
theorem dX7_copy_245 : decode cX7_copy 245 = .ok (.iadd, 1) := by decide +kernel
theorem dX7_copy_246 : decode cX7_copy 246 = .ok (.aload_n 0, 1) := by decide +kernel
theorem dX7_copy_247 : decode cX7_copy 247 = .ok (.getfield 28, 3) := by decide +kernel
theorem dX7_copy_250 : decode cX7_copy 250 = .ok (.bipush 40, 2) := by decide +kernel
theorem dX7_copy_252 : decode cX7_copy 252 = .ok (.iload_n 1, 1) := by decide +kernel
theorem dX7_copy_253 : decode cX7_copy 253 = .ok (.imul, 1) := by decide +kernel
theorem dX7_copy_254 : decode cX7_copy 254 = .ok (.iload_n 3, 1) := by decide +kernel
theorem dX7_copy_255 : decode cX7_copy 255 = .ok (.iadd, 1) := by decide +kernel
theorem dX7_copy_256 : decode cX7_copy 256 = .ok (.iload 6, 2) := by decide +kernel
theorem dX7_copy_258 : decode cX7_copy 258 = .ok (.iadd, 1) := by decide +kernel
theorem dX7_copy_259 : decode cX7_copy 259 = .ok (.laload, 1) := by decide +kernel
theorem dX7_copy_260 : decode cX7_copy 260 = .ok (.lastore, 1) := by decide +kernel
theorem dX7_copy_261 : decode cX7_copy 261 = .ok (.iinc 6 1, 3) := by decide +kernel
theorem dX7_copy_264 : decode cX7_copy 264 = .ok (.goto (-39), 3) := by decide +kernel
theorem dX7_copy_267 : decode cX7_copy 267 = .ok (.iload 5, 2) := by decide +kernel
theorem dX7_copy_269 : decode cX7_copy 269 = .ok (.ireturn, 1) := by decide +kernel
theorem dX7_element_0 : decode cX7_element 0 = .ok (.iload_n 1, 1) := by decide +kernel
theorem dX7_element_1 : decode cX7_element 1 = .ok (.invokestatic 65, 3) := by decide +kernel
theorem dX7_element_4 : decode cX7_element 4 = .ok (.ifCond .eq 41, 3) := by decide +kernel
theorem dX7_element_7 : decode cX7_element 7 = .ok (.aload_n 0, 1) := by decide +kernel
theorem dX7_element_8 : decode cX7_element 8 = .ok (.iload_n 1, 1) := by decide +kernel
theorem dX7_element_9 : decode cX7_element 9 = .ok (.invokevirtual 73, 3) := by decide +kernel
theorem dX7_element_12 : decode cX7_element 12 = .ok (.ifCond .eq 33, 3) := by decide +kernel
theorem dX7_element_15 : decode cX7_element 15 = .ok (.iload_n 2, 1) := by decide +kernel
theorem dX7_element_16 : decode cX7_element 16 = .ok (.iconst 0, 1) := by decide +kernel
theorem dX7_element_17 : decode cX7_element 17 = .ok (.aload_n 0, 1) := by decide +kernel
theorem dX7_element_18 : decode cX7_element 18 = .ok (.getfield 25, 3) := by decide +kernel
theorem dX7_element_21 : decode cX7_element 21 = .ok (.iload_n 1, 1) := by decide +kernel
theorem dX7_element_22 : decode cX7_element 22 = .ok (.iaload, 1) := by decide +kernel
theorem dX7_element_23 : decode cX7_element 23 = .ok (.iconst 1, 1) := by decide +kernel
theorem dX7_element_24 : decode cX7_element 24 = .ok (.isub, 1) := by decide +kernel
theorem dX7_element_25 : decode cX7_element 25 = .ok (.invokestatic 55, 3) := by decide +kernel
theorem dX7_element_28 : decode cX7_element 28 = .ok (.ifCond .eq 17, 3) := by decide +kernel
theorem dX7_element_31 : decode cX7_element 31 = .ok (.aload_n 0, 1) := by decide +kernel
theorem dX7_element_32 : decode cX7_element 32 = .ok (.getfield 28, 3) := by decide +kernel
theorem dX7_element_35 : decode cX7_element 35 = .ok (.bipush 40, 2) := by decide +kernel
theorem dX7_element_37 : decode cX7_element 37 = .ok (.iload_n 1, 1) := by decide +kernel
theorem dX7_element_38 : decode cX7_element 38 = .ok (.imul, 1) := by decide +kernel
theorem dX7_element_39 : decode cX7_element 39 = .ok (.iload_n 2, 1) := by decide +kernel
theorem dX7_element_40 : decode cX7_element 40 = .ok (.iadd, 1) := by decide +kernel
theorem dX7_element_41 : decode cX7_element 41 = .ok (.laload, 1) := by decide +kernel
theorem dX7_element_42 : decode cX7_element 42 = .ok (.goto 4, 3) := by decide +kernel
theorem dX7_element_45 : decode cX7_element 45 = .ok (.lconst 0, 1) := by decide +kernel
theorem dX7_element_46 : decode cX7_element 46 = .ok (.lreturn, 1) := by decide +kernel
theorem dX7_holds_0 : decode cX7_holds 0 = .ok (.iload_n 1, 1) := by decide +kernel
theorem dX7_holds_1 : decode cX7_holds 1 = .ok (.invokestatic 65, 3) := by decide +kernel
theorem dX7_holds_4 : decode cX7_holds 4 = .ok (.ifCond .eq 12, 3) := by decide +kernel
theorem dX7_holds_7 : decode cX7_holds 7 = .ok (.aload_n 0, 1) := by decide +kernel
theorem dX7_holds_8 : decode cX7_holds 8 = .ok (.getfield 22, 3) := by decide +kernel
theorem dX7_holds_11 : decode cX7_holds 11 = .ok (.iload_n 1, 1) := by decide +kernel
theorem dX7_holds_12 : decode cX7_holds 12 = .ok (.iaload, 1) := by decide +kernel
theorem dX7_holds_13 : decode cX7_holds 13 = .ok (.goto 4, 3) := by decide +kernel
theorem dX7_holds_16 : decode cX7_holds 16 = .ok (.iconst (-1), 1) := by decide +kernel
theorem dX7_holds_17 : decode cX7_holds 17 = .ok (.ireturn, 1) := by decide +kernel
theorem dX7_show_0 : decode cX7_show 0 = .ok (.iload_n 1, 1) := by decide +kernel
theorem dX7_show_1 : decode cX7_show 1 = .ok (.invokestatic 65, 3) := by decide +kernel
theorem dX7_show_4 : decode cX7_show 4 = .ok (.ifCond .eq 16, 3) := by decide +kernel
theorem dX7_show_7 : decode cX7_show 7 = .ok (.iload_n 2, 1) := by decide +kernel
theorem dX7_show_8 : decode cX7_show 8 = .ok (.iconst (-1), 1) := by decide +kernel
theorem dX7_show_9 : decode cX7_show 9 = .ok (.if_icmp .eq 18, 3) := by decide +kernel
theorem dX7_show_12 : decode cX7_show 12 = .ok (.aload_n 0, 1) := by decide +kernel
theorem dX7_show_13 : decode cX7_show 13 = .ok (.iload_n 2, 1) := by decide +kernel
theorem dX7_show_14 : decode cX7_show 14 = .ok (.invokevirtual 83, 3) := by decide +kernel
theorem dX7_show_17 : decode cX7_show 17 = .ok (.ifCond .ne 10, 3) := by decide +kernel
theorem dX7_show_20 : decode cX7_show 20 = .ok (.aload_n 0, 1) := by decide +kernel
theorem dX7_show_21 : decode cX7_show 21 = .ok (.bipush (-2), 2) := by decide +kernel
theorem dX7_show_23 : decode cX7_show 23 = .ok (.invokevirtual 69, 3) := by decide +kernel
theorem dX7_show_26 : decode cX7_show 26 = .ok (.ireturn, 1) := by decide +kernel
theorem dX7_show_27 : decode cX7_show 27 = .ok (.aload_n 0, 1) := by decide +kernel
theorem dX7_show_28 : decode cX7_show 28 = .ok (.getfield 22, 3) := by decide +kernel
theorem dX7_show_31 : decode cX7_show 31 = .ok (.iload_n 1, 1) := by decide +kernel
theorem dX7_show_32 : decode cX7_show 32 = .ok (.iload_n 2, 1) := by decide +kernel
theorem dX7_show_33 : decode cX7_show 33 = .ok (.iconst (-1), 1) := by decide +kernel
theorem dX7_show_34 : decode cX7_show 34 = .ok (.if_icmp .ne 7, 3) := by decide +kernel
theorem dX7_show_37 : decode cX7_show 37 = .ok (.iconst (-1), 1) := by decide +kernel
theorem dX7_show_38 : decode cX7_show 38 = .ok (.goto 7, 3) := by decide +kernel
theorem dX7_show_41 : decode cX7_show 41 = .ok (.bipush 10, 2) := by decide +kernel
theorem dX7_show_43 : decode cX7_show 43 = .ok (.iload_n 2, 1) := by decide +kernel
theorem dX7_show_44 : decode cX7_show 44 = .ok (.iadd, 1) := by decide +kernel
theorem dX7_show_45 : decode cX7_show 45 = .ok (.iastore, 1) := by decide +kernel
theorem dX7_show_46 : decode cX7_show 46 = .ok (.iconst 1, 1) := by decide +kernel
theorem dX7_show_47 : decode cX7_show 47 = .ok (.ireturn, 1) := by decide +kernel
theorem dX7_isUnder_0 : decode cX7_isUnder 0 = .ok (.iload_n 1, 1) := by decide +kernel
theorem dX7_isUnder_1 : decode cX7_isUnder 1 = .ok (.ifCond .eq 28, 3) := by decide +kernel
theorem dX7_isUnder_4 : decode cX7_isUnder 4 = .ok (.iload_n 0, 1) := by decide +kernel
theorem dX7_isUnder_5 : decode cX7_isUnder 5 = .ok (.iload_n 1, 1) := by decide +kernel
theorem dX7_isUnder_6 : decode cX7_isUnder 6 = .ok (.if_icmp .eq 23, 3) := by decide +kernel
theorem dX7_isUnder_9 : decode cX7_isUnder 9 = .ok (.iload_n 0, 1) := by decide +kernel
theorem dX7_isUnder_10 : decode cX7_isUnder 10 = .ok (.iconst 3, 1) := by decide +kernel
theorem dX7_isUnder_11 : decode cX7_isUnder 11 = .ok (.if_icmp .ne 8, 3) := by decide +kernel
theorem dX7_isUnder_14 : decode cX7_isUnder 14 = .ok (.iload_n 1, 1) := by decide +kernel
theorem dX7_isUnder_15 : decode cX7_isUnder 15 = .ok (.iconst 1, 1) := by decide +kernel
theorem dX7_isUnder_16 : decode cX7_isUnder 16 = .ok (.if_icmp .eq 13, 3) := by decide +kernel
theorem dX7_isUnder_19 : decode cX7_isUnder 19 = .ok (.iload_n 0, 1) := by decide +kernel
theorem dX7_isUnder_20 : decode cX7_isUnder 20 = .ok (.iconst 4, 1) := by decide +kernel
theorem dX7_isUnder_21 : decode cX7_isUnder 21 = .ok (.if_icmp .ne 12, 3) := by decide +kernel
theorem dX7_isUnder_24 : decode cX7_isUnder 24 = .ok (.iload_n 1, 1) := by decide +kernel
theorem dX7_isUnder_25 : decode cX7_isUnder 25 = .ok (.iconst 2, 1) := by decide +kernel
theorem dX7_isUnder_26 : decode cX7_isUnder 26 = .ok (.if_icmp .ne 7, 3) := by decide +kernel
theorem dX7_isUnder_29 : decode cX7_isUnder 29 = .ok (.iconst 1, 1) := by decide +kernel
theorem dX7_isUnder_30 : decode cX7_isUnder 30 = .ok (.goto 4, 3) := by decide +kernel
theorem dX7_isUnder_33 : decode cX7_isUnder 33 = .ok (.iconst 0, 1) := by decide +kernel
theorem dX7_isUnder_34 : decode cX7_isUnder 34 = .ok (.ireturn, 1) := by decide +kernel
theorem dX7_says_0 : decode cX7_says 0 = .ok (.iload_n 1, 1) := by decide +kernel
theorem dX7_says_1 : decode cX7_says 1 = .ok (.invokestatic 65, 3) := by decide +kernel
theorem dX7_says_4 : decode cX7_says 4 = .ok (.ifCond .eq 12, 3) := by decide +kernel
theorem dX7_says_7 : decode cX7_says 7 = .ok (.iload_n 2, 1) := by decide +kernel
theorem dX7_says_8 : decode cX7_says 8 = .ok (.iconst 0, 1) := by decide +kernel
theorem dX7_says_9 : decode cX7_says 9 = .ok (.iconst 5, 1) := by decide +kernel
theorem dX7_says_10 : decode cX7_says 10 = .ok (.invokestatic 55, 3) := by decide +kernel
theorem dX7_says_13 : decode cX7_says 13 = .ok (.ifCond .ne 10, 3) := by decide +kernel
theorem dX7_says_16 : decode cX7_says 16 = .ok (.aload_n 0, 1) := by decide +kernel
theorem dX7_says_17 : decode cX7_says 17 = .ok (.bipush (-2), 2) := by decide +kernel
theorem dX7_says_19 : decode cX7_says 19 = .ok (.invokevirtual 69, 3) := by decide +kernel
theorem dX7_says_22 : decode cX7_says 22 = .ok (.ireturn, 1) := by decide +kernel
theorem dX7_says_23 : decode cX7_says 23 = .ok (.aload_n 0, 1) := by decide +kernel
theorem dX7_says_24 : decode cX7_says 24 = .ok (.iload_n 1, 1) := by decide +kernel
theorem dX7_says_25 : decode cX7_says 25 = .ok (.invokevirtual 73, 3) := by decide +kernel
theorem dX7_says_28 : decode cX7_says 28 = .ok (.ifCond .eq 10, 3) := by decide +kernel
theorem dX7_says_31 : decode cX7_says 31 = .ok (.aload_n 0, 1) := by decide +kernel
theorem dX7_says_32 : decode cX7_says 32 = .ok (.bipush (-3), 2) := by decide +kernel
theorem dX7_says_34 : decode cX7_says 34 = .ok (.invokevirtual 69, 3) := by decide +kernel
theorem dX7_says_37 : decode cX7_says 37 = .ok (.ireturn, 1) := by decide +kernel
theorem dX7_says_38 : decode cX7_says 38 = .ok (.aload_n 0, 1) := by decide +kernel
theorem dX7_says_39 : decode cX7_says 39 = .ok (.getfield 22, 3) := by decide +kernel
theorem dX7_says_42 : decode cX7_says 42 = .ok (.iload_n 1, 1) := by decide +kernel
theorem dX7_says_43 : decode cX7_says 43 = .ok (.iaload, 1) := by decide +kernel
theorem dX7_says_44 : decode cX7_says 44 = .ok (.ifCond .ge 10, 3) := by decide +kernel
theorem dX7_says_47 : decode cX7_says 47 = .ok (.aload_n 0, 1) := by decide +kernel
theorem dX7_says_48 : decode cX7_says 48 = .ok (.bipush (-4), 2) := by decide +kernel
theorem dX7_says_50 : decode cX7_says 50 = .ok (.invokevirtual 69, 3) := by decide +kernel
theorem dX7_says_53 : decode cX7_says 53 = .ok (.ireturn, 1) := by decide +kernel
theorem dX7_says_54 : decode cX7_says 54 = .ok (.aload_n 0, 1) := by decide +kernel
theorem dX7_says_55 : decode cX7_says 55 = .ok (.getfield 22, 3) := by decide +kernel
theorem dX7_says_58 : decode cX7_says 58 = .ok (.iload_n 1, 1) := by decide +kernel
theorem dX7_says_59 : decode cX7_says 59 = .ok (.iaload, 1) := by decide +kernel
theorem dX7_says_60 : decode cX7_says 60 = .ok (.bipush 10, 2) := by decide +kernel
theorem dX7_says_62 : decode cX7_says 62 = .ok (.isub, 1) := by decide +kernel
theorem dX7_says_63 : decode cX7_says 63 = .ok (.istore_n 3, 1) := by decide +kernel
theorem dX7_says_64 : decode cX7_says 64 = .ok (.aload_n 0, 1) := by decide +kernel
theorem dX7_says_65 : decode cX7_says 65 = .ok (.getfield 7, 3) := by decide +kernel
theorem dX7_says_68 : decode cX7_says 68 = .ok (.iload_n 3, 1) := by decide +kernel
theorem dX7_says_69 : decode cX7_says 69 = .ok (.iaload, 1) := by decide +kernel
theorem dX7_says_70 : decode cX7_says 70 = .ok (.iload_n 2, 1) := by decide +kernel
theorem dX7_says_71 : decode cX7_says 71 = .ok (.invokestatic 86, 3) := by decide +kernel
theorem dX7_says_74 : decode cX7_says 74 = .ok (.ifCond .ne 10, 3) := by decide +kernel
theorem dX7_says_77 : decode cX7_says 77 = .ok (.aload_n 0, 1) := by decide +kernel
theorem dX7_says_78 : decode cX7_says 78 = .ok (.bipush (-3), 2) := by decide +kernel
theorem dX7_says_80 : decode cX7_says 80 = .ok (.invokevirtual 69, 3) := by decide +kernel
theorem dX7_says_83 : decode cX7_says 83 = .ok (.ireturn, 1) := by decide +kernel
theorem dX7_says_84 : decode cX7_says 84 = .ok (.iload_n 2, 1) := by decide +kernel
theorem dX7_says_85 : decode cX7_says 85 = .ok (.tableswitch 61 0 3 #[31, 38, 61, 38], 31) := by decide +kernel
theorem dX7_says_116 : decode cX7_says 116 = .ok (.aload_n 0, 1) := by decide +kernel
theorem dX7_says_117 : decode cX7_says 117 = .ok (.getfield 13, 3) := by decide +kernel
theorem dX7_says_120 : decode cX7_says 120 = .ok (.iload_n 3, 1) := by decide +kernel
theorem dX7_says_121 : decode cX7_says 121 = .ok (.iaload, 1) := by decide +kernel
theorem dX7_says_122 : decode cX7_says 122 = .ok (.ireturn, 1) := by decide +kernel
theorem dX7_says_123 : decode cX7_says 123 = .ok (.aload_n 0, 1) := by decide +kernel
theorem dX7_says_124 : decode cX7_says 124 = .ok (.getfield 13, 3) := by decide +kernel
theorem dX7_says_127 : decode cX7_says 127 = .ok (.iload_n 3, 1) := by decide +kernel
theorem dX7_says_128 : decode cX7_says 128 = .ok (.iaload, 1) := by decide +kernel
theorem dX7_says_129 : decode cX7_says 129 = .ok (.aload_n 0, 1) := by decide +kernel
theorem dX7_says_130 : decode cX7_says 130 = .ok (.getfield 7, 3) := by decide +kernel
theorem dX7_says_133 : decode cX7_says 133 = .ok (.iload_n 3, 1) := by decide +kernel
theorem dX7_says_134 : decode cX7_says 134 = .ok (.iaload, 1) := by decide +kernel
theorem dX7_says_135 : decode cX7_says 135 = .ok (.iconst 3, 1) := by decide +kernel
theorem dX7_says_136 : decode cX7_says 136 = .ok (.if_icmp .ne 7, 3) := by decide +kernel
theorem dX7_says_139 : decode cX7_says 139 = .ok (.iconst 2, 1) := by decide +kernel
theorem dX7_says_140 : decode cX7_says 140 = .ok (.goto 4, 3) := by decide +kernel
theorem dX7_says_143 : decode cX7_says 143 = .ok (.iconst 1, 1) := by decide +kernel
theorem dX7_says_144 : decode cX7_says 144 = .ok (.iadd, 1) := by decide +kernel
theorem dX7_says_145 : decode cX7_says 145 = .ok (.ireturn, 1) := by decide +kernel
theorem dX7_says_146 : decode cX7_says 146 = .ok (.aload_n 0, 1) := by decide +kernel
theorem dX7_says_147 : decode cX7_says 147 = .ok (.iload_n 3, 1) := by decide +kernel
theorem dX7_says_148 : decode cX7_says 148 = .ok (.aload_n 0, 1) := by decide +kernel
theorem dX7_says_149 : decode cX7_says 149 = .ok (.getfield 90, 3) := by decide +kernel
theorem dX7_says_152 : decode cX7_says 152 = .ok (.aload_n 0, 1) := by decide +kernel
theorem dX7_says_153 : decode cX7_says 153 = .ok (.getfield 62, 3) := by decide +kernel
theorem dX7_says_156 : decode cX7_says 156 = .ok (.invokevirtual 94, 3) := by decide +kernel
theorem dX7_says_159 : decode cX7_says 159 = .ok (.ireturn, 1) := by decide +kernel
theorem dX7_newLaw_0 : decode cX7_newLaw 0 = .ok (.aload_n 0, 1) := by decide +kernel
theorem dX7_newLaw_1 : decode cX7_newLaw 1 = .ok (.getfield 7, 3) := by decide +kernel
theorem dX7_newLaw_4 : decode cX7_newLaw 4 = .ok (.aload_n 0, 1) := by decide +kernel
theorem dX7_newLaw_5 : decode cX7_newLaw 5 = .ok (.getfield 52, 3) := by decide +kernel
theorem dX7_newLaw_8 : decode cX7_newLaw 8 = .ok (.iload_n 1, 1) := by decide +kernel
theorem dX7_newLaw_9 : decode cX7_newLaw 9 = .ok (.iastore, 1) := by decide +kernel
theorem dX7_newLaw_10 : decode cX7_newLaw 10 = .ok (.aload_n 0, 1) := by decide +kernel
theorem dX7_newLaw_11 : decode cX7_newLaw 11 = .ok (.getfield 13, 3) := by decide +kernel
theorem dX7_newLaw_14 : decode cX7_newLaw 14 = .ok (.aload_n 0, 1) := by decide +kernel
theorem dX7_newLaw_15 : decode cX7_newLaw 15 = .ok (.getfield 52, 3) := by decide +kernel
theorem dX7_newLaw_18 : decode cX7_newLaw 18 = .ok (.iload_n 2, 1) := by decide +kernel
theorem dX7_newLaw_19 : decode cX7_newLaw 19 = .ok (.iastore, 1) := by decide +kernel
theorem dX7_newLaw_20 : decode cX7_newLaw 20 = .ok (.aload_n 0, 1) := by decide +kernel
theorem dX7_newLaw_21 : decode cX7_newLaw 21 = .ok (.dup, 1) := by decide +kernel
theorem dX7_newLaw_22 : decode cX7_newLaw 22 = .ok (.getfield 52, 3) := by decide +kernel
theorem dX7_newLaw_25 : decode cX7_newLaw 25 = .ok (.dup_x1, 1) := by decide +kernel
theorem dX7_newLaw_26 : decode cX7_newLaw 26 = .ok (.iconst 1, 1) := by decide +kernel
theorem dX7_newLaw_27 : decode cX7_newLaw 27 = .ok (.iadd, 1) := by decide +kernel
theorem dX7_newLaw_28 : decode cX7_newLaw 28 = .ok (.putfield 52, 3) := by decide +kernel
theorem dX7_newLaw_31 : decode cX7_newLaw 31 = .ok (.ireturn, 1) := by decide +kernel
theorem dX7_law_0 : decode cX7_law 0 = .ok (.iload_n 1, 1) := by decide +kernel
theorem dX7_law_1 : decode cX7_law 1 = .ok (.iconst 0, 1) := by decide +kernel
theorem dX7_law_2 : decode cX7_law 2 = .ok (.iconst 5, 1) := by decide +kernel
theorem dX7_law_3 : decode cX7_law 3 = .ok (.invokestatic 55, 3) := by decide +kernel
theorem dX7_law_6 : decode cX7_law 6 = .ok (.ifCond .eq 13, 3) := by decide +kernel
theorem dX7_law_9 : decode cX7_law 9 = .ok (.iload_n 2, 1) := by decide +kernel
theorem dX7_law_10 : decode cX7_law 10 = .ok (.iconst 0, 1) := by decide +kernel
theorem dX7_law_11 : decode cX7_law 11 = .ok (.bipush 9, 2) := by decide +kernel
theorem dX7_law_13 : decode cX7_law 13 = .ok (.invokestatic 55, 3) := by decide +kernel
theorem dX7_law_16 : decode cX7_law 16 = .ok (.ifCond .ne 10, 3) := by decide +kernel
theorem dX7_law_19 : decode cX7_law 19 = .ok (.aload_n 0, 1) := by decide +kernel
theorem dX7_law_20 : decode cX7_law 20 = .ok (.bipush (-2), 2) := by decide +kernel
theorem dX7_law_22 : decode cX7_law 22 = .ok (.invokevirtual 69, 3) := by decide +kernel
theorem dX7_law_25 : decode cX7_law 25 = .ok (.ireturn, 1) := by decide +kernel
theorem dX7_law_26 : decode cX7_law 26 = .ok (.aload_n 0, 1) := by decide +kernel
theorem dX7_law_27 : decode cX7_law 27 = .ok (.getfield 52, 3) := by decide +kernel
theorem dX7_law_30 : decode cX7_law 30 = .ok (.bipush 6, 2) := by decide +kernel
theorem dX7_law_32 : decode cX7_law 32 = .ok (.if_icmp .ne 12, 3) := by decide +kernel
theorem dX7_law_35 : decode cX7_law 35 = .ok (.aload_n 0, 1) := by decide +kernel
theorem dX7_law_36 : decode cX7_law 36 = .ok (.bipush (-6), 2) := by decide +kernel
theorem dX7_law_38 : decode cX7_law 38 = .ok (.invokevirtual 69, 3) := by decide +kernel
theorem dX7_law_41 : decode cX7_law 41 = .ok (.goto 9, 3) := by decide +kernel
theorem dX7_law_44 : decode cX7_law 44 = .ok (.aload_n 0, 1) := by decide +kernel
theorem dX7_law_45 : decode cX7_law 45 = .ok (.iload_n 1, 1) := by decide +kernel
theorem dX7_law_46 : decode cX7_law 46 = .ok (.iload_n 2, 1) := by decide +kernel
theorem dX7_law_47 : decode cX7_law 47 = .ok (.invokevirtual 98, 3) := by decide +kernel
theorem dX7_law_50 : decode cX7_law 50 = .ok (.ireturn, 1) := by decide +kernel
theorem dX7_use_0 : decode cX7_use 0 = .ok (.aload_n 0, 1) := by decide +kernel
theorem dX7_use_1 : decode cX7_use 1 = .ok (.iload_n 1, 1) := by decide +kernel
theorem dX7_use_2 : decode cX7_use 2 = .ok (.invokevirtual 83, 3) := by decide +kernel
theorem dX7_use_5 : decode cX7_use 5 = .ok (.ifCond .ne 10, 3) := by decide +kernel
theorem dX7_use_8 : decode cX7_use 8 = .ok (.aload_n 0, 1) := by decide +kernel
theorem dX7_use_9 : decode cX7_use 9 = .ok (.bipush (-2), 2) := by decide +kernel
theorem dX7_use_11 : decode cX7_use 11 = .ok (.invokevirtual 69, 3) := by decide +kernel
theorem dX7_use_14 : decode cX7_use 14 = .ok (.ireturn, 1) := by decide +kernel
theorem dX7_use_15 : decode cX7_use 15 = .ok (.aload_n 0, 1) := by decide +kernel
theorem dX7_use_16 : decode cX7_use 16 = .ok (.getfield 102, 3) := by decide +kernel
theorem dX7_use_19 : decode cX7_use 19 = .ok (.istore_n 2, 1) := by decide +kernel
theorem dX7_use_20 : decode cX7_use 20 = .ok (.aload_n 0, 1) := by decide +kernel
theorem dX7_use_21 : decode cX7_use 21 = .ok (.iload_n 1, 1) := by decide +kernel
theorem dX7_use_22 : decode cX7_use 22 = .ok (.putfield 102, 3) := by decide +kernel
theorem dX7_use_25 : decode cX7_use 25 = .ok (.iload_n 2, 1) := by decide +kernel
theorem dX7_use_26 : decode cX7_use 26 = .ok (.ireturn, 1) := by decide +kernel
theorem dX7_ask_0 : decode cX7_ask 0 = .ok (.iload_n 1, 1) := by decide +kernel
theorem dX7_ask_1 : decode cX7_ask 1 = .ok (.iconst 0, 1) := by decide +kernel
theorem dX7_ask_2 : decode cX7_ask 2 = .ok (.iconst 1, 1) := by decide +kernel
theorem dX7_ask_3 : decode cX7_ask 3 = .ok (.invokestatic 55, 3) := by decide +kernel
theorem dX7_ask_6 : decode cX7_ask 6 = .ok (.ifCond .eq 22, 3) := by decide +kernel
theorem dX7_ask_9 : decode cX7_ask 9 = .ok (.iload_n 2, 1) := by decide +kernel
theorem dX7_ask_10 : decode cX7_ask 10 = .ok (.iconst 0, 1) := by decide +kernel
theorem dX7_ask_11 : decode cX7_ask 11 = .ok (.iload_n 1, 1) := by decide +kernel
theorem dX7_ask_12 : decode cX7_ask 12 = .ok (.ifCond .ne 8, 3) := by decide +kernel
theorem dX7_ask_15 : decode cX7_ask 15 = .ok (.bipush 9, 2) := by decide +kernel
theorem dX7_ask_17 : decode cX7_ask 17 = .ok (.goto 5, 3) := by decide +kernel
theorem dX7_ask_20 : decode cX7_ask 20 = .ok (.bipush 100, 2) := by decide +kernel
theorem dX7_ask_22 : decode cX7_ask 22 = .ok (.invokestatic 55, 3) := by decide +kernel
theorem dX7_ask_25 : decode cX7_ask 25 = .ok (.ifCond .ne 10, 3) := by decide +kernel
theorem dX7_ask_28 : decode cX7_ask 28 = .ok (.aload_n 0, 1) := by decide +kernel
theorem dX7_ask_29 : decode cX7_ask 29 = .ok (.bipush (-2), 2) := by decide +kernel
theorem dX7_ask_31 : decode cX7_ask 31 = .ok (.invokevirtual 69, 3) := by decide +kernel
theorem dX7_ask_34 : decode cX7_ask 34 = .ok (.ireturn, 1) := by decide +kernel
theorem dX7_ask_35 : decode cX7_ask 35 = .ok (.iload_n 1, 1) := by decide +kernel
theorem dX7_ask_36 : decode cX7_ask 36 = .ok (.ifCond .ne 10, 3) := by decide +kernel
theorem dX7_ask_39 : decode cX7_ask 39 = .ok (.aload_n 0, 1) := by decide +kernel
theorem dX7_ask_40 : decode cX7_ask 40 = .ok (.getfield 45, 3) := by decide +kernel
theorem dX7_ask_43 : decode cX7_ask 43 = .ok (.goto 7, 3) := by decide +kernel
theorem dX7_ask_46 : decode cX7_ask 46 = .ok (.aload_n 0, 1) := by decide +kernel
theorem dX7_ask_47 : decode cX7_ask 47 = .ok (.getfield 105, 3) := by decide +kernel
theorem dX7_ask_50 : decode cX7_ask 50 = .ok (.istore_n 3, 1) := by decide +kernel
theorem dX7_ask_51 : decode cX7_ask 51 = .ok (.iload_n 1, 1) := by decide +kernel
theorem dX7_ask_52 : decode cX7_ask 52 = .ok (.ifCond .ne 11, 3) := by decide +kernel
theorem dX7_ask_55 : decode cX7_ask 55 = .ok (.aload_n 0, 1) := by decide +kernel
theorem dX7_ask_56 : decode cX7_ask 56 = .ok (.iload_n 2, 1) := by decide +kernel
theorem dX7_ask_57 : decode cX7_ask 57 = .ok (.putfield 45, 3) := by decide +kernel
theorem dX7_ask_60 : decode cX7_ask 60 = .ok (.goto 8, 3) := by decide +kernel
theorem dX7_ask_63 : decode cX7_ask 63 = .ok (.aload_n 0, 1) := by decide +kernel
theorem dX7_ask_64 : decode cX7_ask 64 = .ok (.iload_n 2, 1) := by decide +kernel
theorem dX7_ask_65 : decode cX7_ask 65 = .ok (.putfield 105, 3) := by decide +kernel
theorem dX7_ask_68 : decode cX7_ask 68 = .ok (.iload_n 3, 1) := by decide +kernel
theorem dX7_ask_69 : decode cX7_ask 69 = .ok (.ireturn, 1) := by decide +kernel
theorem dX7_newOne_0 : decode cX7_newOne 0 = .ok (.aload_n 0, 1) := by decide +kernel
theorem dX7_newOne_1 : decode cX7_newOne 1 = .ok (.getfield 16, 3) := by decide +kernel
theorem dX7_newOne_4 : decode cX7_newOne 4 = .ok (.aload_n 0, 1) := by decide +kernel
theorem dX7_newOne_5 : decode cX7_newOne 5 = .ok (.getfield 59, 3) := by decide +kernel
theorem dX7_newOne_8 : decode cX7_newOne 8 = .ok (.iload_n 1, 1) := by decide +kernel
theorem dX7_newOne_9 : decode cX7_newOne 9 = .ok (.iastore, 1) := by decide +kernel
theorem dX7_newOne_10 : decode cX7_newOne 10 = .ok (.aload_n 0, 1) := by decide +kernel
theorem dX7_newOne_11 : decode cX7_newOne 11 = .ok (.dup, 1) := by decide +kernel
theorem dX7_newOne_12 : decode cX7_newOne 12 = .ok (.getfield 59, 3) := by decide +kernel
theorem dX7_newOne_15 : decode cX7_newOne 15 = .ok (.dup_x1, 1) := by decide +kernel
theorem dX7_newOne_16 : decode cX7_newOne 16 = .ok (.iconst 1, 1) := by decide +kernel
theorem dX7_newOne_17 : decode cX7_newOne 17 = .ok (.iadd, 1) := by decide +kernel
theorem dX7_newOne_18 : decode cX7_newOne 18 = .ok (.putfield 59, 3) := by decide +kernel
theorem dX7_newOne_21 : decode cX7_newOne 21 = .ok (.ireturn, 1) := by decide +kernel
theorem dX7_person_0 : decode cX7_person 0 = .ok (.iload_n 1, 1) := by decide +kernel
theorem dX7_person_1 : decode cX7_person 1 = .ok (.iconst 1, 1) := by decide +kernel
theorem dX7_person_2 : decode cX7_person 2 = .ok (.bipush 99, 2) := by decide +kernel
theorem dX7_person_4 : decode cX7_person 4 = .ok (.invokestatic 55, 3) := by decide +kernel
theorem dX7_person_7 : decode cX7_person 7 = .ok (.ifCond .ne 10, 3) := by decide +kernel
theorem dX7_person_10 : decode cX7_person 10 = .ok (.aload_n 0, 1) := by decide +kernel
theorem dX7_person_11 : decode cX7_person 11 = .ok (.bipush (-2), 2) := by decide +kernel
theorem dX7_person_13 : decode cX7_person 13 = .ok (.invokevirtual 69, 3) := by decide +kernel
theorem dX7_person_16 : decode cX7_person 16 = .ok (.ireturn, 1) := by decide +kernel
theorem dX7_person_17 : decode cX7_person 17 = .ok (.aload_n 0, 1) := by decide +kernel
theorem dX7_person_18 : decode cX7_person 18 = .ok (.getfield 59, 3) := by decide +kernel
theorem dX7_person_21 : decode cX7_person 21 = .ok (.bipush 10, 2) := by decide +kernel
theorem dX7_person_23 : decode cX7_person 23 = .ok (.if_icmp .ne 12, 3) := by decide +kernel
theorem dX7_person_26 : decode cX7_person 26 = .ok (.aload_n 0, 1) := by decide +kernel
theorem dX7_person_27 : decode cX7_person 27 = .ok (.bipush (-6), 2) := by decide +kernel
theorem dX7_person_29 : decode cX7_person 29 = .ok (.invokevirtual 69, 3) := by decide +kernel
theorem dX7_person_32 : decode cX7_person 32 = .ok (.goto 8, 3) := by decide +kernel
theorem dX7_person_35 : decode cX7_person 35 = .ok (.aload_n 0, 1) := by decide +kernel
theorem dX7_person_36 : decode cX7_person 36 = .ok (.iload_n 1, 1) := by decide +kernel
theorem dX7_person_37 : decode cX7_person 37 = .ok (.invokevirtual 108, 3) := by decide +kernel
theorem dX7_person_40 : decode cX7_person 40 = .ok (.ireturn, 1) := by decide +kernel
theorem dX7_adds_0 : decode cX7_adds 0 = .ok (.iload_n 1, 1) := by decide +kernel
theorem dX7_adds_1 : decode cX7_adds 1 = .ok (.ifCond .eq 18, 3) := by decide +kernel
theorem dX7_adds_4 : decode cX7_adds 4 = .ok (.aload_n 0, 1) := by decide +kernel
theorem dX7_adds_5 : decode cX7_adds 5 = .ok (.dup, 1) := by decide +kernel
theorem dX7_adds_6 : decode cX7_adds 6 = .ok (.getfield 90, 3) := by decide +kernel
theorem dX7_adds_9 : decode cX7_adds 9 = .ok (.lconst 1, 1) := by decide +kernel
theorem dX7_adds_10 : decode cX7_adds 10 = .ok (.aload_n 0, 1) := by decide +kernel
theorem dX7_adds_11 : decode cX7_adds 11 = .ok (.getfield 62, 3) := by decide +kernel
theorem dX7_adds_14 : decode cX7_adds 14 = .ok (.lshl, 1) := by decide +kernel
theorem dX7_adds_15 : decode cX7_adds 15 = .ok (.lor, 1) := by decide +kernel
theorem dX7_adds_16 : decode cX7_adds 16 = .ok (.putfield 90, 3) := by decide +kernel
theorem dX7_adds_19 : decode cX7_adds 19 = .ok (.aload_n 0, 1) := by decide +kernel
theorem dX7_adds_20 : decode cX7_adds 20 = .ok (.dup, 1) := by decide +kernel
theorem dX7_adds_21 : decode cX7_adds 21 = .ok (.getfield 62, 3) := by decide +kernel
theorem dX7_adds_24 : decode cX7_adds 24 = .ok (.iconst 1, 1) := by decide +kernel
theorem dX7_adds_25 : decode cX7_adds 25 = .ok (.iadd, 1) := by decide +kernel
theorem dX7_adds_26 : decode cX7_adds 26 = .ok (.putfield 62, 3) := by decide +kernel
theorem dX7_adds_29 : decode cX7_adds 29 = .ok (.return_, 1) := by decide +kernel
theorem dX7_feed_0 : decode cX7_feed 0 = .ok (.iload_n 1, 1) := by decide +kernel
theorem dX7_feed_1 : decode cX7_feed 1 = .ok (.iconst 0, 1) := by decide +kernel
theorem dX7_feed_2 : decode cX7_feed 2 = .ok (.sipush 255, 3) := by decide +kernel
theorem dX7_feed_5 : decode cX7_feed 5 = .ok (.invokestatic 55, 3) := by decide +kernel
theorem dX7_feed_8 : decode cX7_feed 8 = .ok (.ifCond .ne 10, 3) := by decide +kernel
theorem dX7_feed_11 : decode cX7_feed 11 = .ok (.aload_n 0, 1) := by decide +kernel
theorem dX7_feed_12 : decode cX7_feed 12 = .ok (.bipush (-2), 2) := by decide +kernel
theorem dX7_feed_14 : decode cX7_feed 14 = .ok (.invokevirtual 69, 3) := by decide +kernel
theorem dX7_feed_17 : decode cX7_feed 17 = .ok (.ireturn, 1) := by decide +kernel
theorem dX7_feed_18 : decode cX7_feed 18 = .ok (.aload_n 0, 1) := by decide +kernel
theorem dX7_feed_19 : decode cX7_feed 19 = .ok (.getfield 111, 3) := by decide +kernel
theorem dX7_feed_22 : decode cX7_feed 22 = .ok (.sipush 250, 3) := by decide +kernel
theorem dX7_feed_25 : decode cX7_feed 25 = .ok (.if_icmp .ne 10, 3) := by decide +kernel
theorem dX7_feed_28 : decode cX7_feed 28 = .ok (.aload_n 0, 1) := by decide +kernel
theorem dX7_feed_29 : decode cX7_feed 29 = .ok (.bipush (-6), 2) := by decide +kernel
theorem dX7_feed_31 : decode cX7_feed 31 = .ok (.invokevirtual 69, 3) := by decide +kernel
theorem dX7_feed_34 : decode cX7_feed 34 = .ok (.ireturn, 1) := by decide +kernel
theorem dX7_feed_35 : decode cX7_feed 35 = .ok (.aload_n 0, 1) := by decide +kernel
theorem dX7_feed_36 : decode cX7_feed 36 = .ok (.getfield 19, 3) := by decide +kernel
theorem dX7_feed_39 : decode cX7_feed 39 = .ok (.aload_n 0, 1) := by decide +kernel
theorem dX7_feed_40 : decode cX7_feed 40 = .ok (.dup, 1) := by decide +kernel
theorem dX7_feed_41 : decode cX7_feed 41 = .ok (.getfield 111, 3) := by decide +kernel
theorem dX7_feed_44 : decode cX7_feed 44 = .ok (.dup_x1, 1) := by decide +kernel
theorem dX7_feed_45 : decode cX7_feed 45 = .ok (.iconst 1, 1) := by decide +kernel
theorem dX7_feed_46 : decode cX7_feed 46 = .ok (.iadd, 1) := by decide +kernel
theorem dX7_feed_47 : decode cX7_feed 47 = .ok (.putfield 111, 3) := by decide +kernel
theorem dX7_feed_50 : decode cX7_feed 50 = .ok (.iload_n 1, 1) := by decide +kernel
theorem dX7_feed_51 : decode cX7_feed 51 = .ok (.iastore, 1) := by decide +kernel
theorem dX7_feed_52 : decode cX7_feed 52 = .ok (.aload_n 0, 1) := by decide +kernel
theorem dX7_feed_53 : decode cX7_feed 53 = .ok (.getfield 111, 3) := by decide +kernel
theorem dX7_feed_56 : decode cX7_feed 56 = .ok (.ireturn, 1) := by decide +kernel
theorem dX7_wipe_0 : decode cX7_wipe 0 = .ok (.aload_n 0, 1) := by decide +kernel
theorem dX7_wipe_1 : decode cX7_wipe 1 = .ok (.getfield 111, 3) := by decide +kernel
theorem dX7_wipe_4 : decode cX7_wipe 4 = .ok (.istore_n 1, 1) := by decide +kernel
theorem dX7_wipe_5 : decode cX7_wipe 5 = .ok (.aload_n 0, 1) := by decide +kernel
theorem dX7_wipe_6 : decode cX7_wipe 6 = .ok (.iconst 0, 1) := by decide +kernel
theorem dX7_wipe_7 : decode cX7_wipe 7 = .ok (.putfield 111, 3) := by decide +kernel
theorem dX7_wipe_10 : decode cX7_wipe 10 = .ok (.iload_n 1, 1) := by decide +kernel
theorem dX7_wipe_11 : decode cX7_wipe 11 = .ok (.ireturn, 1) := by decide +kernel
theorem dX7_isLetter_0 : decode cX7_isLetter 0 = .ok (.iload_n 0, 1) := by decide +kernel
theorem dX7_isLetter_1 : decode cX7_isLetter 1 = .ok (.bipush 97, 2) := by decide +kernel
theorem dX7_isLetter_3 : decode cX7_isLetter 3 = .ok (.if_icmp .lt 13, 3) := by decide +kernel
theorem dX7_isLetter_6 : decode cX7_isLetter 6 = .ok (.iload_n 0, 1) := by decide +kernel
theorem dX7_isLetter_7 : decode cX7_isLetter 7 = .ok (.bipush 122, 2) := by decide +kernel
theorem dX7_isLetter_9 : decode cX7_isLetter 9 = .ok (.if_icmp .gt 7, 3) := by decide +kernel
theorem dX7_isLetter_12 : decode cX7_isLetter 12 = .ok (.iconst 1, 1) := by decide +kernel
theorem dX7_isLetter_13 : decode cX7_isLetter 13 = .ok (.goto 4, 3) := by decide +kernel
theorem dX7_isLetter_16 : decode cX7_isLetter 16 = .ok (.iconst 0, 1) := by decide +kernel
theorem dX7_isLetter_17 : decode cX7_isLetter 17 = .ok (.ireturn, 1) := by decide +kernel
theorem dX7_isDigit_0 : decode cX7_isDigit 0 = .ok (.iload_n 0, 1) := by decide +kernel
theorem dX7_isDigit_1 : decode cX7_isDigit 1 = .ok (.bipush 48, 2) := by decide +kernel
theorem dX7_isDigit_3 : decode cX7_isDigit 3 = .ok (.if_icmp .lt 13, 3) := by decide +kernel
theorem dX7_isDigit_6 : decode cX7_isDigit 6 = .ok (.iload_n 0, 1) := by decide +kernel
theorem dX7_isDigit_7 : decode cX7_isDigit 7 = .ok (.bipush 57, 2) := by decide +kernel
theorem dX7_isDigit_9 : decode cX7_isDigit 9 = .ok (.if_icmp .gt 7, 3) := by decide +kernel
theorem dX7_isDigit_12 : decode cX7_isDigit 12 = .ok (.iconst 1, 1) := by decide +kernel
theorem dX7_isDigit_13 : decode cX7_isDigit 13 = .ok (.goto 4, 3) := by decide +kernel
theorem dX7_isDigit_16 : decode cX7_isDigit 16 = .ok (.iconst 0, 1) := by decide +kernel
theorem dX7_isDigit_17 : decode cX7_isDigit 17 = .ok (.ireturn, 1) := by decide +kernel
theorem dX7_next_0 : decode cX7_next 0 = .ok (.aload_n 0, 1) := by decide +kernel
theorem dX7_next_1 : decode cX7_next 1 = .ok (.aload_n 0, 1) := by decide +kernel
theorem dX7_next_2 : decode cX7_next 2 = .ok (.getfield 114, 3) := by decide +kernel
theorem dX7_next_5 : decode cX7_next 5 = .ok (.putfield 117, 3) := by decide +kernel
theorem dX7_next_8 : decode cX7_next 8 = .ok (.aload_n 0, 1) := by decide +kernel
theorem dX7_next_9 : decode cX7_next 9 = .ok (.getfield 117, 3) := by decide +kernel
theorem dX7_next_12 : decode cX7_next 12 = .ok (.aload_n 0, 1) := by decide +kernel
theorem dX7_next_13 : decode cX7_next 13 = .ok (.getfield 111, 3) := by decide +kernel
theorem dX7_next_16 : decode cX7_next 16 = .ok (.if_icmp .ge 30, 3) := by decide +kernel
theorem dX7_next_19 : decode cX7_next 19 = .ok (.aload_n 0, 1) := by decide +kernel
theorem dX7_next_20 : decode cX7_next 20 = .ok (.getfield 19, 3) := by decide +kernel
theorem dX7_next_23 : decode cX7_next 23 = .ok (.aload_n 0, 1) := by decide +kernel
theorem dX7_next_24 : decode cX7_next 24 = .ok (.getfield 117, 3) := by decide +kernel
theorem dX7_next_27 : decode cX7_next 27 = .ok (.iaload, 1) := by decide +kernel
theorem dX7_next_28 : decode cX7_next 28 = .ok (.bipush 32, 2) := by decide +kernel
theorem dX7_next_30 : decode cX7_next 30 = .ok (.if_icmp .ne 16, 3) := by decide +kernel
theorem dX7_next_33 : decode cX7_next 33 = .ok (.aload_n 0, 1) := by decide +kernel
theorem dX7_next_34 : decode cX7_next 34 = .ok (.dup, 1) := by decide +kernel
theorem dX7_next_35 : decode cX7_next 35 = .ok (.getfield 117, 3) := by decide +kernel
theorem dX7_next_38 : decode cX7_next 38 = .ok (.iconst 1, 1) := by decide +kernel
theorem dX7_next_39 : decode cX7_next 39 = .ok (.iadd, 1) := by decide +kernel
theorem dX7_next_40 : decode cX7_next 40 = .ok (.putfield 117, 3) := by decide +kernel
theorem dX7_next_43 : decode cX7_next 43 = .ok (.goto (-35), 3) := by decide +kernel
