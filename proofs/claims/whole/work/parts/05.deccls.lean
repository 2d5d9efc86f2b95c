theorem d_B_init_0 : decode b_B_init 0 = .ok (.aload_n 0, 1) := by decide +kernel
theorem d_B_init_1 : decode b_B_init 1 = .ok (.invokespecial 1, 3) := by decide +kernel
theorem d_B_init_4 : decode b_B_init 4 = .ok (.aload_n 0, 1) := by decide +kernel
theorem d_B_init_5 : decode b_B_init 5 = .ok (.lload_n 1, 1) := by decide +kernel
theorem d_B_init_6 : decode b_B_init 6 = .ok (.putfield 7, 3) := by decide +kernel
theorem d_B_init_9 : decode b_B_init 9 = .ok (.aload_n 0, 1) := by decide +kernel
theorem d_B_init_10 : decode b_B_init 10 = .ok (.new 13, 3) := by decide +kernel
theorem d_B_init_13 : decode b_B_init 13 = .ok (.dup, 1) := by decide +kernel
theorem d_B_init_14 : decode b_B_init 14 = .ok (.invokespecial 15, 3) := by decide +kernel
theorem d_B_init_17 : decode b_B_init 17 = .ok (.putfield 16, 3) := by decide +kernel
theorem d_B_init_20 : decode b_B_init 20 = .ok (.aload_n 0, 1) := by decide +kernel
theorem d_B_init_21 : decode b_B_init 21 = .ok (.new 13, 3) := by decide +kernel
theorem d_B_init_24 : decode b_B_init 24 = .ok (.dup, 1) := by decide +kernel
theorem d_B_init_25 : decode b_B_init 25 = .ok (.invokespecial 15, 3) := by decide +kernel
theorem d_B_init_28 : decode b_B_init 28 = .ok (.putfield 20, 3) := by decide +kernel
theorem d_B_init_31 : decode b_B_init 31 = .ok (.aload_n 0, 1) := by decide +kernel
theorem d_B_init_32 : decode b_B_init 32 = .ok (.new 23, 3) := by decide +kernel
theorem d_B_init_35 : decode b_B_init 35 = .ok (.dup, 1) := by decide +kernel
theorem d_B_init_36 : decode b_B_init 36 = .ok (.invokespecial 25, 3) := by decide +kernel
theorem d_B_init_39 : decode b_B_init 39 = .ok (.putfield 26, 3) := by decide +kernel
theorem d_B_init_42 : decode b_B_init 42 = .ok (.aload_n 0, 1) := by decide +kernel
theorem d_B_init_43 : decode b_B_init 43 = .ok (.new 30, 3) := by decide +kernel
theorem d_B_init_46 : decode b_B_init 46 = .ok (.dup, 1) := by decide +kernel
theorem d_B_init_47 : decode b_B_init 47 = .ok (.invokespecial 32, 3) := by decide +kernel
theorem d_B_init_50 : decode b_B_init 50 = .ok (.putfield 33, 3) := by decide +kernel
theorem d_B_init_53 : decode b_B_init 53 = .ok (.aload_n 0, 1) := by decide +kernel
theorem d_B_init_54 : decode b_B_init 54 = .ok (.new 37, 3) := by decide +kernel
theorem d_B_init_57 : decode b_B_init 57 = .ok (.dup, 1) := by decide +kernel
theorem d_B_init_58 : decode b_B_init 58 = .ok (.invokespecial 39, 3) := by decide +kernel
theorem d_B_init_61 : decode b_B_init 61 = .ok (.putfield 40, 3) := by decide +kernel
theorem d_B_init_64 : decode b_B_init 64 = .ok (.aload_n 0, 1) := by decide +kernel
theorem d_B_init_65 : decode b_B_init 65 = .ok (.new 44, 3) := by decide +kernel
theorem d_B_init_68 : decode b_B_init 68 = .ok (.dup, 1) := by decide +kernel
theorem d_B_init_69 : decode b_B_init 69 = .ok (.invokespecial 46, 3) := by decide +kernel
theorem d_B_init_72 : decode b_B_init 72 = .ok (.putfield 47, 3) := by decide +kernel
theorem d_B_init_75 : decode b_B_init 75 = .ok (.aload_n 0, 1) := by decide +kernel
theorem d_B_init_76 : decode b_B_init 76 = .ok (.new 44, 3) := by decide +kernel
theorem d_B_init_79 : decode b_B_init 79 = .ok (.dup, 1) := by decide +kernel
theorem d_B_init_80 : decode b_B_init 80 = .ok (.invokespecial 46, 3) := by decide +kernel
theorem d_B_init_83 : decode b_B_init 83 = .ok (.putfield 51, 3) := by decide +kernel
theorem d_B_init_86 : decode b_B_init 86 = .ok (.aload_n 0, 1) := by decide +kernel
theorem d_B_init_87 : decode b_B_init 87 = .ok (.new 54, 3) := by decide +kernel
theorem d_B_init_90 : decode b_B_init 90 = .ok (.dup, 1) := by decide +kernel
theorem d_B_init_91 : decode b_B_init 91 = .ok (.invokespecial 56, 3) := by decide +kernel
theorem d_B_init_94 : decode b_B_init 94 = .ok (.putfield 57, 3) := by decide +kernel
theorem d_B_init_97 : decode b_B_init 97 = .ok (.aload_n 0, 1) := by decide +kernel
theorem d_B_init_98 : decode b_B_init 98 = .ok (.new 61, 3) := by decide +kernel
theorem d_B_init_101 : decode b_B_init 101 = .ok (.dup, 1) := by decide +kernel
theorem d_B_init_102 : decode b_B_init 102 = .ok (.invokespecial 63, 3) := by decide +kernel
theorem d_B_init_105 : decode b_B_init 105 = .ok (.putfield 64, 3) := by decide +kernel
theorem d_B_init_108 : decode b_B_init 108 = .ok (.return_, 1) := by decide +kernel
theorem d_B_page_0 : decode b_B_page 0 = .ok (.aload_n 0, 1) := by decide +kernel
theorem d_B_page_1 : decode b_B_page 1 = .ok (.getfield 16, 3) := by decide +kernel
theorem d_B_page_4 : decode b_B_page 4 = .ok (.iload_n 1, 1) := by decide +kernel
theorem d_B_page_5 : decode b_B_page 5 = .ok (.iload_n 2, 1) := by decide +kernel
theorem d_B_page_6 : decode b_B_page 6 = .ok (.iload_n 3, 1) := by decide +kernel
theorem d_B_page_7 : decode b_B_page 7 = .ok (.lload 4, 2) := by decide +kernel
theorem d_B_page_9 : decode b_B_page 9 = .ok (.invokevirtual 68, 3) := by decide +kernel
theorem d_B_page_12 : decode b_B_page 12 = .ok (.ireturn, 1) := by decide +kernel
theorem d_B_sale_0 : decode b_B_sale 0 = .ok (.aload_n 0, 1) := by decide +kernel
theorem d_B_sale_1 : decode b_B_sale 1 = .ok (.getfield 20, 3) := by decide +kernel
theorem d_B_sale_4 : decode b_B_sale 4 = .ok (.iload_n 1, 1) := by decide +kernel
theorem d_B_sale_5 : decode b_B_sale 5 = .ok (.iload_n 2, 1) := by decide +kernel
theorem d_B_sale_6 : decode b_B_sale 6 = .ok (.iload_n 3, 1) := by decide +kernel
theorem d_B_sale_7 : decode b_B_sale 7 = .ok (.lload 4, 2) := by decide +kernel
theorem d_B_sale_9 : decode b_B_sale 9 = .ok (.invokevirtual 68, 3) := by decide +kernel
theorem d_B_sale_12 : decode b_B_sale 12 = .ok (.ireturn, 1) := by decide +kernel
theorem d_B_run_0 : decode b_B_run 0 = .ok (.aload_n 0, 1) := by decide +kernel
theorem d_B_run_1 : decode b_B_run 1 = .ok (.getfield 26, 3) := by decide +kernel
theorem d_B_run_4 : decode b_B_run 4 = .ok (.aload_n 0, 1) := by decide +kernel
theorem d_B_run_5 : decode b_B_run 5 = .ok (.getfield 16, 3) := by decide +kernel
theorem d_B_run_8 : decode b_B_run 8 = .ok (.aload_n 0, 1) := by decide +kernel
theorem d_B_run_9 : decode b_B_run 9 = .ok (.getfield 20, 3) := by decide +kernel
theorem d_B_run_12 : decode b_B_run 12 = .ok (.invokevirtual 72, 3) := by decide +kernel
theorem d_B_run_15 : decode b_B_run 15 = .ok (.ireturn, 1) := by decide +kernel
theorem d_B_pair_0 : decode b_B_pair 0 = .ok (.aload_n 0, 1) := by decide +kernel
theorem d_B_pair_1 : decode b_B_pair 1 = .ok (.getfield 26, 3) := by decide +kernel
theorem d_B_pair_4 : decode b_B_pair 4 = .ok (.iload_n 1, 1) := by decide +kernel
theorem d_B_pair_5 : decode b_B_pair 5 = .ok (.invokevirtual 76, 3) := by decide +kernel
theorem d_B_pair_8 : decode b_B_pair 8 = .ok (.ireturn, 1) := by decide +kernel
theorem d_B_points_0 : decode b_B_points 0 = .ok (.aload_n 0, 1) := by decide +kernel
theorem d_B_points_1 : decode b_B_points 1 = .ok (.getfield 26, 3) := by decide +kernel
theorem d_B_points_4 : decode b_B_points 4 = .ok (.iload_n 1, 1) := by decide +kernel
theorem d_B_points_5 : decode b_B_points 5 = .ok (.invokevirtual 76, 3) := by decide +kernel
theorem d_B_points_8 : decode b_B_points 8 = .ok (.istore_n 2, 1) := by decide +kernel
theorem d_B_points_9 : decode b_B_points 9 = .ok (.iload_n 2, 1) := by decide +kernel
theorem d_B_points_10 : decode b_B_points 10 = .ok (.iconst (-1), 1) := by decide +kernel
theorem d_B_points_11 : decode b_B_points 11 = .ok (.if_icmp .ne 7, 3) := by decide +kernel
theorem d_B_points_14 : decode b_B_points 14 = .ok (.iconst 0, 1) := by decide +kernel
theorem d_B_points_15 : decode b_B_points 15 = .ok (.goto 16, 3) := by decide +kernel
theorem d_B_points_18 : decode b_B_points 18 = .ok (.aload_n 0, 1) := by decide +kernel
theorem d_B_points_19 : decode b_B_points 19 = .ok (.getfield 16, 3) := by decide +kernel
theorem d_B_points_22 : decode b_B_points 22 = .ok (.iload_n 1, 1) := by decide +kernel
theorem d_B_points_23 : decode b_B_points 23 = .ok (.aload_n 0, 1) := by decide +kernel
theorem d_B_points_24 : decode b_B_points 24 = .ok (.getfield 20, 3) := by decide +kernel
theorem d_B_points_27 : decode b_B_points 27 = .ok (.iload_n 2, 1) := by decide +kernel
theorem d_B_points_28 : decode b_B_points 28 = .ok (.invokevirtual 80, 3) := by decide +kernel
theorem d_B_points_31 : decode b_B_points 31 = .ok (.ireturn, 1) := by decide +kernel
theorem d_B_differs_0 : decode b_B_differs 0 = .ok (.aload_n 0, 1) := by decide +kernel
theorem d_B_differs_1 : decode b_B_differs 1 = .ok (.getfield 26, 3) := by decide +kernel
theorem d_B_differs_4 : decode b_B_differs 4 = .ok (.iload_n 1, 1) := by decide +kernel
theorem d_B_differs_5 : decode b_B_differs 5 = .ok (.invokevirtual 76, 3) := by decide +kernel
theorem d_B_differs_8 : decode b_B_differs 8 = .ok (.istore_n 2, 1) := by decide +kernel
theorem d_B_differs_9 : decode b_B_differs 9 = .ok (.iload_n 2, 1) := by decide +kernel
theorem d_B_differs_10 : decode b_B_differs 10 = .ok (.iconst (-1), 1) := by decide +kernel
theorem d_B_differs_11 : decode b_B_differs 11 = .ok (.if_icmp .ne 7, 3) := by decide +kernel
theorem d_B_differs_14 : decode b_B_differs 14 = .ok (.lconst 0, 1) := by decide +kernel
theorem d_B_differs_15 : decode b_B_differs 15 = .ok (.goto 20, 3) := by decide +kernel
theorem d_B_differs_18 : decode b_B_differs 18 = .ok (.aload_n 0, 1) := by decide +kernel
theorem d_B_differs_19 : decode b_B_differs 19 = .ok (.getfield 20, 3) := by decide +kernel
theorem d_B_differs_22 : decode b_B_differs 22 = .ok (.iload_n 2, 1) := by decide +kernel
theorem d_B_differs_23 : decode b_B_differs 23 = .ok (.invokevirtual 84, 3) := by decide +kernel
theorem d_B_differs_26 : decode b_B_differs 26 = .ok (.aload_n 0, 1) := by decide +kernel
theorem d_B_differs_27 : decode b_B_differs 27 = .ok (.getfield 16, 3) := by decide +kernel
theorem d_B_differs_30 : decode b_B_differs 30 = .ok (.iload_n 1, 1) := by decide +kernel
theorem d_B_differs_31 : decode b_B_differs 31 = .ok (.invokevirtual 84, 3) := by decide +kernel
theorem d_B_differs_34 : decode b_B_differs 34 = .ok (.lsub, 1) := by decide +kernel
theorem d_B_differs_35 : decode b_B_differs 35 = .ok (.lreturn, 1) := by decide +kernel
theorem d_B_waits_0 : decode b_B_waits 0 = .ok (.aload_n 0, 1) := by decide +kernel
theorem d_B_waits_1 : decode b_B_waits 1 = .ok (.getfield 26, 3) := by decide +kernel
theorem d_B_waits_4 : decode b_B_waits 4 = .ok (.aload_n 0, 1) := by decide +kernel
theorem d_B_waits_5 : decode b_B_waits 5 = .ok (.getfield 16, 3) := by decide +kernel
theorem d_B_waits_8 : decode b_B_waits 8 = .ok (.iload_n 1, 1) := by decide +kernel
theorem d_B_waits_9 : decode b_B_waits 9 = .ok (.iload_n 2, 1) := by decide +kernel
theorem d_B_waits_10 : decode b_B_waits 10 = .ok (.invokevirtual 88, 3) := by decide +kernel
theorem d_B_waits_13 : decode b_B_waits 13 = .ok (.ireturn, 1) := by decide +kernel
theorem d_B_pageAt_0 : decode b_B_pageAt 0 = .ok (.aload_n 0, 1) := by decide +kernel
theorem d_B_pageAt_1 : decode b_B_pageAt 1 = .ok (.getfield 16, 3) := by decide +kernel
theorem d_B_pageAt_4 : decode b_B_pageAt 4 = .ok (.iload_n 1, 1) := by decide +kernel
theorem d_B_pageAt_5 : decode b_B_pageAt 5 = .ok (.invokevirtual 92, 3) := by decide +kernel
theorem d_B_pageAt_8 : decode b_B_pageAt 8 = .ok (.ifCond .ne 13, 3) := by decide +kernel
theorem d_B_pageAt_11 : decode b_B_pageAt 11 = .ok (.new 96, 3) := by decide +kernel
theorem d_B_pageAt_14 : decode b_B_pageAt 14 = .ok (.dup, 1) := by decide +kernel
theorem d_B_pageAt_15 : decode b_B_pageAt 15 = .ok (.ldc 98, 2) := by decide +kernel
theorem d_B_pageAt_17 : decode b_B_pageAt 17 = .ok (.invokespecial 100, 3) := by decide +kernel
theorem d_B_pageAt_20 : decode b_B_pageAt 20 = .ok (.athrow, 1) := by decide +kernel
theorem d_B_pageAt_21 : decode b_B_pageAt 21 = .ok (.aload_n 0, 1) := by decide +kernel
theorem d_B_pageAt_22 : decode b_B_pageAt 22 = .ok (.getfield 16, 3) := by decide +kernel
theorem d_B_pageAt_25 : decode b_B_pageAt 25 = .ok (.iload_n 1, 1) := by decide +kernel
theorem d_B_pageAt_26 : decode b_B_pageAt 26 = .ok (.invokevirtual 84, 3) := by decide +kernel
theorem d_B_pageAt_29 : decode b_B_pageAt 29 = .ok (.lreturn, 1) := by decide +kernel
theorem d_B_balance_0 : decode b_B_balance 0 = .ok (.aload_n 0, 1) := by decide +kernel
theorem d_B_balance_1 : decode b_B_balance 1 = .ok (.getfield 20, 3) := by decide +kernel
theorem d_B_balance_4 : decode b_B_balance 4 = .ok (.iload_n 1, 1) := by decide +kernel
theorem d_B_balance_5 : decode b_B_balance 5 = .ok (.invokevirtual 103, 3) := by decide +kernel
theorem d_B_balance_8 : decode b_B_balance 8 = .ok (.aload_n 0, 1) := by decide +kernel
theorem d_B_balance_9 : decode b_B_balance 9 = .ok (.getfield 16, 3) := by decide +kernel
theorem d_B_balance_12 : decode b_B_balance 12 = .ok (.iload_n 1, 1) := by decide +kernel
theorem d_B_balance_13 : decode b_B_balance 13 = .ok (.invokevirtual 103, 3) := by decide +kernel
theorem d_B_balance_16 : decode b_B_balance 16 = .ok (.lsub, 1) := by decide +kernel
theorem d_B_balance_17 : decode b_B_balance 17 = .ok (.lreturn, 1) := by decide +kernel
theorem d_B_plant_0 : decode b_B_plant 0 = .ok (.aload_n 0, 1) := by decide +kernel
theorem d_B_plant_1 : decode b_B_plant 1 = .ok (.getfield 33, 3) := by decide +kernel
theorem d_B_plant_4 : decode b_B_plant 4 = .ok (.lload_n 1, 1) := by decide +kernel
theorem d_B_plant_5 : decode b_B_plant 5 = .ok (.iload_n 3, 1) := by decide +kernel
theorem d_B_plant_6 : decode b_B_plant 6 = .ok (.invokevirtual 106, 3) := by decide +kernel
theorem d_B_plant_9 : decode b_B_plant 9 = .ok (.ireturn, 1) := by decide +kernel
theorem d_B_out_0 : decode b_B_out 0 = .ok (.aload_n 0, 1) := by decide +kernel
theorem d_B_out_1 : decode b_B_out 1 = .ok (.getfield 33, 3) := by decide +kernel
theorem d_B_out_4 : decode b_B_out 4 = .ok (.iload_n 1, 1) := by decide +kernel
theorem d_B_out_5 : decode b_B_out 5 = .ok (.iload_n 2, 1) := by decide +kernel
theorem d_B_out_6 : decode b_B_out 6 = .ok (.lload_n 3, 1) := by decide +kernel
theorem d_B_out_7 : decode b_B_out 7 = .ok (.invokevirtual 109, 3) := by decide +kernel
theorem d_B_out_10 : decode b_B_out 10 = .ok (.ireturn, 1) := by decide +kernel
theorem d_B_lacks_0 : decode b_B_lacks 0 = .ok (.aload_n 0, 1) := by decide +kernel
theorem d_B_lacks_1 : decode b_B_lacks 1 = .ok (.getfield 33, 3) := by decide +kernel
theorem d_B_lacks_4 : decode b_B_lacks 4 = .ok (.iload_n 1, 1) := by decide +kernel
theorem d_B_lacks_5 : decode b_B_lacks 5 = .ok (.invokevirtual 113, 3) := by decide +kernel
theorem d_B_lacks_8 : decode b_B_lacks 8 = .ok (.ifCond .eq 14, 3) := by decide +kernel
theorem d_B_lacks_11 : decode b_B_lacks 11 = .ok (.aload_n 0, 1) := by decide +kernel
theorem d_B_lacks_12 : decode b_B_lacks 12 = .ok (.getfield 33, 3) := by decide +kernel
theorem d_B_lacks_15 : decode b_B_lacks 15 = .ok (.iload_n 1, 1) := by decide +kernel
theorem d_B_lacks_16 : decode b_B_lacks 16 = .ok (.invokevirtual 114, 3) := by decide +kernel
theorem d_B_lacks_19 : decode b_B_lacks 19 = .ok (.goto 6, 3) := by decide +kernel
theorem d_B_lacks_22 : decode b_B_lacks 22 = .ok (.ldc2_w 117, 3) := by decide +kernel
theorem d_B_lacks_25 : decode b_B_lacks 25 = .ok (.lreturn, 1) := by decide +kernel
theorem d_B_nowhere_0 : decode b_B_nowhere 0 = .ok (.aload_n 0, 1) := by decide +kernel
theorem d_B_nowhere_1 : decode b_B_nowhere 1 = .ok (.getfield 33, 3) := by decide +kernel
theorem d_B_nowhere_4 : decode b_B_nowhere 4 = .ok (.iload_n 1, 1) := by decide +kernel
theorem d_B_nowhere_5 : decode b_B_nowhere 5 = .ok (.invokevirtual 113, 3) := by decide +kernel
theorem d_B_nowhere_8 : decode b_B_nowhere 8 = .ok (.ifCond .eq 18, 3) := by decide +kernel
theorem d_B_nowhere_11 : decode b_B_nowhere 11 = .ok (.aload_n 0, 1) := by decide +kernel
theorem d_B_nowhere_12 : decode b_B_nowhere 12 = .ok (.getfield 33, 3) := by decide +kernel
theorem d_B_nowhere_15 : decode b_B_nowhere 15 = .ok (.iload_n 1, 1) := by decide +kernel
theorem d_B_nowhere_16 : decode b_B_nowhere 16 = .ok (.invokevirtual 119, 3) := by decide +kernel
theorem d_B_nowhere_19 : decode b_B_nowhere 19 = .ok (.iload_n 2, 1) := by decide +kernel
theorem d_B_nowhere_20 : decode b_B_nowhere 20 = .ok (.invokestatic 122, 3) := by decide +kernel
theorem d_B_nowhere_23 : decode b_B_nowhere 23 = .ok (.goto 4, 3) := by decide +kernel
theorem d_B_nowhere_26 : decode b_B_nowhere 26 = .ok (.iconst (-1), 1) := by decide +kernel
theorem d_B_nowhere_27 : decode b_B_nowhere 27 = .ok (.ireturn, 1) := by decide +kernel
theorem d_B_risk_0 : decode b_B_risk 0 = .ok (.aload_n 0, 1) := by decide +kernel
theorem d_B_risk_1 : decode b_B_risk 1 = .ok (.getfield 40, 3) := by decide +kernel
theorem d_B_risk_4 : decode b_B_risk 4 = .ok (.iload_n 1, 1) := by decide +kernel
theorem d_B_risk_5 : decode b_B_risk 5 = .ok (.iload_n 2, 1) := by decide +kernel
theorem d_B_risk_6 : decode b_B_risk 6 = .ok (.iload_n 3, 1) := by decide +kernel
theorem d_B_risk_7 : decode b_B_risk 7 = .ok (.invokevirtual 126, 3) := by decide +kernel
theorem d_B_risk_10 : decode b_B_risk 10 = .ok (.ireturn, 1) := by decide +kernel
theorem d_B_draw_0 : decode b_B_draw 0 = .ok (.iload_n 1, 1) := by decide +kernel
theorem d_B_draw_1 : decode b_B_draw 1 = .ok (.ifCond .lt 14, 3) := by decide +kernel
theorem d_B_draw_4 : decode b_B_draw 4 = .ok (.iload_n 1, 1) := by decide +kernel
theorem d_B_draw_5 : decode b_B_draw 5 = .ok (.aload_n 0, 1) := by decide +kernel
theorem d_B_draw_6 : decode b_B_draw 6 = .ok (.getfield 16, 3) := by decide +kernel
theorem d_B_draw_9 : decode b_B_draw 9 = .ok (.getfield 130, 3) := by decide +kernel
theorem d_B_draw_12 : decode b_B_draw 12 = .ok (.if_icmp .le 5, 3) := by decide +kernel
theorem d_B_draw_15 : decode b_B_draw 15 = .ok (.iconst (-1), 1) := by decide +kernel
theorem d_B_draw_16 : decode b_B_draw 16 = .ok (.ireturn, 1) := by decide +kernel
theorem d_B_draw_17 : decode b_B_draw 17 = .ok (.aload_n 0, 1) := by decide +kernel
theorem d_B_draw_18 : decode b_B_draw 18 = .ok (.getfield 40, 3) := by decide +kernel
theorem d_B_draw_21 : decode b_B_draw 21 = .ok (.aload_n 0, 1) := by decide +kernel
theorem d_B_draw_22 : decode b_B_draw 22 = .ok (.getfield 16, 3) := by decide +kernel
theorem d_B_draw_25 : decode b_B_draw 25 = .ok (.aload_n 0, 1) := by decide +kernel
theorem d_B_draw_26 : decode b_B_draw 26 = .ok (.getfield 7, 3) := by decide +kernel
theorem d_B_draw_29 : decode b_B_draw 29 = .ok (.iload_n 1, 1) := by decide +kernel
theorem d_B_draw_30 : decode b_B_draw 30 = .ok (.aload_n 0, 1) := by decide +kernel
theorem d_B_draw_31 : decode b_B_draw 31 = .ok (.getfield 47, 3) := by decide +kernel
theorem d_B_draw_34 : decode b_B_draw 34 = .ok (.invokevirtual 134, 3) := by decide +kernel
theorem d_B_draw_37 : decode b_B_draw 37 = .ok (.aload_n 0, 1) := by decide +kernel
theorem d_B_draw_38 : decode b_B_draw 38 = .ok (.getfield 47, 3) := by decide +kernel
theorem d_B_draw_41 : decode b_B_draw 41 = .ok (.getfield 138, 3) := by decide +kernel
theorem d_B_draw_44 : decode b_B_draw 44 = .ok (.ireturn, 1) := by decide +kernel
theorem d_B_drawn_0 : decode b_B_drawn 0 = .ok (.aload_n 0, 1) := by decide +kernel
theorem d_B_drawn_1 : decode b_B_drawn 1 = .ok (.getfield 47, 3) := by decide +kernel
theorem d_B_drawn_4 : decode b_B_drawn 4 = .ok (.iload_n 1, 1) := by decide +kernel
theorem d_B_drawn_5 : decode b_B_drawn 5 = .ok (.invokevirtual 139, 3) := by decide +kernel
theorem d_B_drawn_8 : decode b_B_drawn 8 = .ok (.ireturn, 1) := by decide +kernel
theorem d_B_same_0 : decode b_B_same 0 = .ok (.aload_n 0, 1) := by decide +kernel
theorem d_B_same_1 : decode b_B_same 1 = .ok (.getfield 40, 3) := by decide +kernel
theorem d_B_same_4 : decode b_B_same 4 = .ok (.aload_n 0, 1) := by decide +kernel
theorem d_B_same_5 : decode b_B_same 5 = .ok (.getfield 16, 3) := by decide +kernel
theorem d_B_same_8 : decode b_B_same 8 = .ok (.lload_n 1, 1) := by decide +kernel
theorem d_B_same_9 : decode b_B_same 9 = .ok (.aload_n 0, 1) := by decide +kernel
theorem d_B_same_10 : decode b_B_same 10 = .ok (.getfield 47, 3) := by decide +kernel
theorem d_B_same_13 : decode b_B_same 13 = .ok (.getfield 142, 3) := by decide +kernel
theorem d_B_same_16 : decode b_B_same 16 = .ok (.aload_n 0, 1) := by decide +kernel
theorem d_B_same_17 : decode b_B_same 17 = .ok (.getfield 51, 3) := by decide +kernel
theorem d_B_same_20 : decode b_B_same 20 = .ok (.invokevirtual 134, 3) := by decide +kernel
theorem d_B_same_23 : decode b_B_same 23 = .ok (.aload_n 0, 1) := by decide +kernel
theorem d_B_same_24 : decode b_B_same 24 = .ok (.getfield 47, 3) := by decide +kernel
theorem d_B_same_27 : decode b_B_same 27 = .ok (.aload_n 0, 1) := by decide +kernel
theorem d_B_same_28 : decode b_B_same 28 = .ok (.getfield 51, 3) := by decide +kernel
theorem d_B_same_31 : decode b_B_same 31 = .ok (.invokevirtual 145, 3) := by decide +kernel
theorem d_B_same_34 : decode b_B_same 34 = .ok (.ireturn, 1) := by decide +kernel
theorem d_B_missed_0 : decode b_B_missed 0 = .ok (.aload_n 0, 1) := by decide +kernel
theorem d_B_missed_1 : decode b_B_missed 1 = .ok (.getfield 16, 3) := by decide +kernel
theorem d_B_missed_4 : decode b_B_missed 4 = .ok (.getfield 130, 3) := by decide +kernel
theorem d_B_missed_7 : decode b_B_missed 7 = .ok (.istore 4, 2) := by decide +kernel
theorem d_B_missed_9 : decode b_B_missed 9 = .ok (.iload_n 1, 1) := by decide +kernel
theorem d_B_missed_10 : decode b_B_missed 10 = .ok (.ifCond .lt 28, 3) := by decide +kernel
theorem d_B_missed_13 : decode b_B_missed 13 = .ok (.iload_n 1, 1) := by decide +kernel
theorem d_B_missed_14 : decode b_B_missed 14 = .ok (.iload 4, 2) := by decide +kernel
theorem d_B_missed_16 : decode b_B_missed 16 = .ok (.if_icmp .gt 22, 3) := by decide +kernel
theorem d_B_missed_19 : decode b_B_missed 19 = .ok (.iload_n 2, 1) := by decide +kernel
theorem d_B_missed_20 : decode b_B_missed 20 = .ok (.ifCond .lt 18, 3) := by decide +kernel
theorem d_B_missed_23 : decode b_B_missed 23 = .ok (.iload_n 2, 1) := by decide +kernel
theorem d_B_missed_24 : decode b_B_missed 24 = .ok (.iload 4, 2) := by decide +kernel
theorem d_B_missed_26 : decode b_B_missed 26 = .ok (.if_icmp .gt 12, 3) := by decide +kernel
theorem d_B_missed_29 : decode b_B_missed 29 = .ok (.iload_n 3, 1) := by decide +kernel
theorem d_B_missed_30 : decode b_B_missed 30 = .ok (.ifCond .lt 8, 3) := by decide +kernel
theorem d_B_missed_33 : decode b_B_missed 33 = .ok (.iload_n 3, 1) := by decide +kernel
theorem d_B_missed_34 : decode b_B_missed 34 = .ok (.iconst 1, 1) := by decide +kernel
theorem d_B_missed_35 : decode b_B_missed 35 = .ok (.if_icmp .le 7, 3) := by decide +kernel
theorem d_B_missed_38 : decode b_B_missed 38 = .ok (.ldc2_w 117, 3) := by decide +kernel
theorem d_B_missed_41 : decode b_B_missed 41 = .ok (.lreturn, 1) := by decide +kernel
theorem d_B_missed_42 : decode b_B_missed 42 = .ok (.iload 4, 2) := by decide +kernel
theorem d_B_missed_44 : decode b_B_missed 44 = .ok (.iload_n 2, 1) := by decide +kernel
theorem d_B_missed_45 : decode b_B_missed 45 = .ok (.isub, 1) := by decide +kernel
theorem d_B_missed_46 : decode b_B_missed 46 = .ok (.iload_n 1, 1) := by decide +kernel
theorem d_B_missed_47 : decode b_B_missed 47 = .ok (.invokestatic 149, 3) := by decide +kernel
theorem d_B_missed_50 : decode b_B_missed 50 = .ok (.lstore 5, 2) := by decide +kernel
theorem d_B_missed_52 : decode b_B_missed 52 = .ok (.iload 4, 2) := by decide +kernel
theorem d_B_missed_54 : decode b_B_missed 54 = .ok (.iload_n 1, 1) := by decide +kernel
theorem d_B_missed_55 : decode b_B_missed 55 = .ok (.invokestatic 149, 3) := by decide +kernel
theorem d_B_missed_58 : decode b_B_missed 58 = .ok (.lstore 7, 2) := by decide +kernel
theorem d_B_missed_60 : decode b_B_missed 60 = .ok (.lload 5, 2) := by decide +kernel
theorem d_B_missed_62 : decode b_B_missed 62 = .ok (.lload 7, 2) := by decide +kernel
theorem d_B_missed_64 : decode b_B_missed 64 = .ok (.invokestatic 153, 3) := by decide +kernel
theorem d_B_missed_67 : decode b_B_missed 67 = .ok (.lstore 9, 2) := by decide +kernel
theorem d_B_missed_69 : decode b_B_missed 69 = .ok (.iload_n 3, 1) := by decide +kernel
theorem d_B_missed_70 : decode b_B_missed 70 = .ok (.ifCond .ne 8, 3) := by decide +kernel
theorem d_B_missed_73 : decode b_B_missed 73 = .ok (.lload 5, 2) := by decide +kernel
theorem d_B_missed_75 : decode b_B_missed 75 = .ok (.goto 5, 3) := by decide +kernel
theorem d_B_missed_78 : decode b_B_missed 78 = .ok (.lload 7, 2) := by decide +kernel
theorem d_B_missed_80 : decode b_B_missed 80 = .ok (.lstore 11, 2) := by decide +kernel
theorem d_B_missed_82 : decode b_B_missed 82 = .ok (.lload 9, 2) := by decide +kernel
theorem d_B_missed_84 : decode b_B_missed 84 = .ok (.lconst 0, 1) := by decide +kernel
theorem d_B_missed_85 : decode b_B_missed 85 = .ok (.lcmp, 1) := by decide +kernel
theorem d_B_missed_86 : decode b_B_missed 86 = .ok (.ifCond .le 11, 3) := by decide +kernel
theorem d_B_missed_89 : decode b_B_missed 89 = .ok (.lload 11, 2) := by decide +kernel
theorem d_B_missed_91 : decode b_B_missed 91 = .ok (.lload 9, 2) := by decide +kernel
theorem d_B_missed_93 : decode b_B_missed 93 = .ok (.ldiv, 1) := by decide +kernel
theorem d_B_missed_94 : decode b_B_missed 94 = .ok (.goto 5, 3) := by decide +kernel
theorem d_B_missed_97 : decode b_B_missed 97 = .ok (.lload 11, 2) := by decide +kernel
theorem d_B_missed_99 : decode b_B_missed 99 = .ok (.lreturn, 1) := by decide +kernel
theorem d_B_camera_0 : decode b_B_camera 0 = .ok (.aload_n 0, 1) := by decide +kernel
theorem d_B_camera_1 : decode b_B_camera 1 = .ok (.getfield 57, 3) := by decide +kernel
theorem d_B_camera_4 : decode b_B_camera 4 = .ok (.aload_n 0, 1) := by decide +kernel
theorem d_B_camera_5 : decode b_B_camera 5 = .ok (.getfield 16, 3) := by decide +kernel
theorem d_B_camera_8 : decode b_B_camera 8 = .ok (.iload_n 1, 1) := by decide +kernel
theorem d_B_camera_9 : decode b_B_camera 9 = .ok (.iload_n 2, 1) := by decide +kernel
theorem d_B_camera_10 : decode b_B_camera 10 = .ok (.invokevirtual 157, 3) := by decide +kernel
theorem d_B_camera_13 : decode b_B_camera 13 = .ok (.ireturn, 1) := by decide +kernel
theorem d_B_act_0 : decode b_B_act 0 = .ok (.aload_n 0, 1) := by decide +kernel
theorem d_B_act_1 : decode b_B_act 1 = .ok (.getfield 64, 3) := by decide +kernel
theorem d_B_act_4 : decode b_B_act 4 = .ok (.iload_n 1, 1) := by decide +kernel
theorem d_B_act_5 : decode b_B_act 5 = .ok (.iload_n 2, 1) := by decide +kernel
theorem d_B_act_6 : decode b_B_act 6 = .ok (.iload_n 3, 1) := by decide +kernel
theorem d_B_act_7 : decode b_B_act 7 = .ok (.invokevirtual 160, 3) := by decide +kernel
theorem d_B_act_10 : decode b_B_act 10 = .ok (.ireturn, 1) := by decide +kernel
theorem d_B_state_0 : decode b_B_state 0 = .ok (.iload_n 1, 1) := by decide +kernel
theorem d_B_state_1 : decode b_B_state 1 = .ok (.invokestatic 164, 3) := by decide +kernel
theorem d_B_state_4 : decode b_B_state 4 = .ok (.ifCond .eq 15, 3) := by decide +kernel
theorem d_B_state_7 : decode b_B_state 7 = .ok (.aload_n 0, 1) := by decide +kernel
theorem d_B_state_8 : decode b_B_state 8 = .ok (.getfield 64, 3) := by decide +kernel
theorem d_B_state_11 : decode b_B_state 11 = .ok (.getfield 167, 3) := by decide +kernel
theorem d_B_state_14 : decode b_B_state 14 = .ok (.iload_n 1, 1) := by decide +kernel
theorem d_B_state_15 : decode b_B_state 15 = .ok (.iaload, 1) := by decide +kernel
theorem d_B_state_16 : decode b_B_state 16 = .ok (.goto 4, 3) := by decide +kernel
theorem d_B_state_19 : decode b_B_state 19 = .ok (.iconst (-1), 1) := by decide +kernel
theorem d_B_state_20 : decode b_B_state 20 = .ok (.ireturn, 1) := by decide +kernel
theorem d_B_repeated_0 : decode b_B_repeated 0 = .ok (.iload_n 1, 1) := by decide +kernel
theorem d_B_repeated_1 : decode b_B_repeated 1 = .ok (.invokestatic 164, 3) := by decide +kernel
theorem d_B_repeated_4 : decode b_B_repeated 4 = .ok (.ifCond .eq 15, 3) := by decide +kernel
theorem d_B_repeated_7 : decode b_B_repeated 7 = .ok (.aload_n 0, 1) := by decide +kernel
theorem d_B_repeated_8 : decode b_B_repeated 8 = .ok (.getfield 64, 3) := by decide +kernel
theorem d_B_repeated_11 : decode b_B_repeated 11 = .ok (.getfield 171, 3) := by decide +kernel
theorem d_B_repeated_14 : decode b_B_repeated 14 = .ok (.iload_n 1, 1) := by decide +kernel
theorem d_B_repeated_15 : decode b_B_repeated 15 = .ok (.iaload, 1) := by decide +kernel
theorem d_B_repeated_16 : decode b_B_repeated 16 = .ok (.goto 4, 3) := by decide +kernel
theorem d_B_repeated_19 : decode b_B_repeated 19 = .ok (.iconst (-1), 1) := by decide +kernel
theorem d_B_repeated_20 : decode b_B_repeated 20 = .ok (.ireturn, 1) := by decide +kernel
theorem d_B_isShip_0 : decode b_B_isShip 0 = .ok (.iload_n 0, 1) := by decide +kernel
theorem d_B_isShip_1 : decode b_B_isShip 1 = .ok (.ifCond .lt 13, 3) := by decide +kernel
theorem d_B_isShip_4 : decode b_B_isShip 4 = .ok (.iload_n 0, 1) := by decide +kernel
theorem d_B_isShip_5 : decode b_B_isShip 5 = .ok (.bipush 10, 2) := by decide +kernel
theorem d_B_isShip_7 : decode b_B_isShip 7 = .ok (.if_icmp .ge 7, 3) := by decide +kernel
theorem d_B_isShip_10 : decode b_B_isShip 10 = .ok (.iconst 1, 1) := by decide +kernel
theorem d_B_isShip_11 : decode b_B_isShip 11 = .ok (.goto 4, 3) := by decide +kernel
theorem d_B_isShip_14 : decode b_B_isShip 14 = .ok (.iconst 0, 1) := by decide +kernel
theorem d_B_isShip_15 : decode b_B_isShip 15 = .ok (.ireturn, 1) := by decide +kernel
theorem d_B_isKind_0 : decode b_B_isKind 0 = .ok (.iload_n 0, 1) := by decide +kernel
theorem d_B_isKind_1 : decode b_B_isKind 1 = .ok (.ifCond .lt 13, 3) := by decide +kernel
theorem d_B_isKind_4 : decode b_B_isKind 4 = .ok (.iload_n 0, 1) := by decide +kernel
theorem d_B_isKind_5 : decode b_B_isKind 5 = .ok (.bipush 10, 2) := by decide +kernel
theorem d_B_isKind_7 : decode b_B_isKind 7 = .ok (.if_icmp .ge 7, 3) := by decide +kernel
theorem d_B_isKind_10 : decode b_B_isKind 10 = .ok (.iconst 1, 1) := by decide +kernel
theorem d_B_isKind_11 : decode b_B_isKind 11 = .ok (.goto 4, 3) := by decide +kernel
theorem d_B_isKind_14 : decode b_B_isKind 14 = .ok (.iconst 0, 1) := by decide +kernel
theorem d_B_isKind_15 : decode b_B_isKind 15 = .ok (.ireturn, 1) := by decide +kernel
theorem d_B_isDay_0 : decode b_B_isDay 0 = .ok (.iload_n 0, 1) := by decide +kernel
theorem d_B_isDay_1 : decode b_B_isDay 1 = .ok (.ifCond .lt 13, 3) := by decide +kernel
theorem d_B_isDay_4 : decode b_B_isDay 4 = .ok (.iload_n 0, 1) := by decide +kernel
theorem d_B_isDay_5 : decode b_B_isDay 5 = .ok (.ldc 174, 2) := by decide +kernel
theorem d_B_isDay_7 : decode b_B_isDay 7 = .ok (.if_icmp .gt 7, 3) := by decide +kernel
theorem d_B_isDay_10 : decode b_B_isDay 10 = .ok (.iconst 1, 1) := by decide +kernel
theorem d_B_isDay_11 : decode b_B_isDay 11 = .ok (.goto 4, 3) := by decide +kernel
theorem d_B_isDay_14 : decode b_B_isDay 14 = .ok (.iconst 0, 1) := by decide +kernel
theorem d_B_isDay_15 : decode b_B_isDay 15 = .ok (.ireturn, 1) := by decide +kernel
theorem d_B_isWeighed_0 : decode b_B_isWeighed 0 = .ok (.lload_n 0, 1) := by decide +kernel
theorem d_B_isWeighed_1 : decode b_B_isWeighed 1 = .ok (.lconst 1, 1) := by decide +kernel
theorem d_B_isWeighed_2 : decode b_B_isWeighed 2 = .ok (.lcmp, 1) := by decide +kernel
theorem d_B_isWeighed_3 : decode b_B_isWeighed 3 = .ok (.ifCond .lt 15, 3) := by decide +kernel
theorem d_B_isWeighed_6 : decode b_B_isWeighed 6 = .ok (.lload_n 0, 1) := by decide +kernel
theorem d_B_isWeighed_7 : decode b_B_isWeighed 7 = .ok (.ldc2_w 175, 3) := by decide +kernel
theorem d_B_isWeighed_10 : decode b_B_isWeighed 10 = .ok (.lcmp, 1) := by decide +kernel
theorem d_B_isWeighed_11 : decode b_B_isWeighed 11 = .ok (.ifCond .gt 7, 3) := by decide +kernel
theorem d_B_isWeighed_14 : decode b_B_isWeighed 14 = .ok (.iconst 1, 1) := by decide +kernel
theorem d_B_isWeighed_15 : decode b_B_isWeighed 15 = .ok (.goto 4, 3) := by decide +kernel
theorem d_B_isWeighed_18 : decode b_B_isWeighed 18 = .ok (.iconst 0, 1) := by decide +kernel
theorem d_B_isWeighed_19 : decode b_B_isWeighed 19 = .ok (.ireturn, 1) := by decide +kernel
theorem d_B_bitAt_0 : decode b_B_bitAt 0 = .ok (.iconst 0, 1) := by decide +kernel
theorem d_B_bitAt_1 : decode b_B_bitAt 1 = .ok (.istore_n 2, 1) := by decide +kernel
theorem d_B_bitAt_2 : decode b_B_bitAt 2 = .ok (.iconst 0, 1) := by decide +kernel
theorem d_B_bitAt_3 : decode b_B_bitAt 3 = .ok (.istore_n 3, 1) := by decide +kernel
theorem d_B_bitAt_4 : decode b_B_bitAt 4 = .ok (.iload_n 3, 1) := by decide +kernel
theorem d_B_bitAt_5 : decode b_B_bitAt 5 = .ok (.bipush 8, 2) := by decide +kernel
theorem d_B_bitAt_7 : decode b_B_bitAt 7 = .ok (.if_icmp .ge 27, 3) := by decide +kernel
theorem d_B_bitAt_10 : decode b_B_bitAt 10 = .ok (.iload_n 0, 1) := by decide +kernel
theorem d_B_bitAt_11 : decode b_B_bitAt 11 = .ok (.iconst 1, 1) := by decide +kernel
theorem d_B_bitAt_12 : decode b_B_bitAt 12 = .ok (.iload_n 3, 1) := by decide +kernel
theorem d_B_bitAt_13 : decode b_B_bitAt 13 = .ok (.ishl, 1) := by decide +kernel
theorem d_B_bitAt_14 : decode b_B_bitAt 14 = .ok (.iand, 1) := by decide +kernel
theorem d_B_bitAt_15 : decode b_B_bitAt 15 = .ok (.ifCond .eq 13, 3) := by decide +kernel
theorem d_B_bitAt_18 : decode b_B_bitAt 18 = .ok (.iload_n 2, 1) := by decide +kernel
theorem d_B_bitAt_19 : decode b_B_bitAt 19 = .ok (.iload_n 1, 1) := by decide +kernel
theorem d_B_bitAt_20 : decode b_B_bitAt 20 = .ok (.if_icmp .ne 5, 3) := by decide +kernel
theorem d_B_bitAt_23 : decode b_B_bitAt 23 = .ok (.iload_n 3, 1) := by decide +kernel
theorem d_B_bitAt_24 : decode b_B_bitAt 24 = .ok (.ireturn, 1) := by decide +kernel
theorem d_B_bitAt_25 : decode b_B_bitAt 25 = .ok (.iinc 2 1, 3) := by decide +kernel
theorem d_B_bitAt_28 : decode b_B_bitAt 28 = .ok (.iinc 3 1, 3) := by decide +kernel
theorem d_B_bitAt_31 : decode b_B_bitAt 31 = .ok (.goto (-27), 3) := by decide +kernel
theorem d_B_bitAt_34 : decode b_B_bitAt 34 = .ok (.iconst (-1), 1) := by decide +kernel
theorem d_B_bitAt_35 : decode b_B_bitAt 35 = .ok (.ireturn, 1) := by decide +kernel
theorem d_B_choose_0 : decode b_B_choose 0 = .ok (.iload_n 1, 1) := by decide +kernel
theorem d_B_choose_1 : decode b_B_choose 1 = .ok (.iload_n 0, 1) := by decide +kernel
theorem d_B_choose_2 : decode b_B_choose 2 = .ok (.if_icmp .le 5, 3) := by decide +kernel
theorem d_B_choose_5 : decode b_B_choose 5 = .ok (.lconst 0, 1) := by decide +kernel
theorem d_B_choose_6 : decode b_B_choose 6 = .ok (.lreturn, 1) := by decide +kernel
theorem d_B_choose_7 : decode b_B_choose 7 = .ok (.lconst 1, 1) := by decide +kernel
theorem d_B_choose_8 : decode b_B_choose 8 = .ok (.lstore_n 2, 1) := by decide +kernel
theorem d_B_choose_9 : decode b_B_choose 9 = .ok (.iconst 1, 1) := by decide +kernel
theorem d_B_choose_10 : decode b_B_choose 10 = .ok (.istore 4, 2) := by decide +kernel
theorem d_B_choose_12 : decode b_B_choose 12 = .ok (.iload 4, 2) := by decide +kernel
theorem d_B_choose_14 : decode b_B_choose 14 = .ok (.iload_n 1, 1) := by decide +kernel
theorem d_B_choose_15 : decode b_B_choose 15 = .ok (.if_icmp .gt 23, 3) := by decide +kernel
theorem d_B_choose_18 : decode b_B_choose 18 = .ok (.lload_n 2, 1) := by decide +kernel
theorem d_B_choose_19 : decode b_B_choose 19 = .ok (.iload_n 0, 1) := by decide +kernel
theorem d_B_choose_20 : decode b_B_choose 20 = .ok (.iload_n 1, 1) := by decide +kernel
theorem d_B_choose_21 : decode b_B_choose 21 = .ok (.isub, 1) := by decide +kernel
theorem d_B_choose_22 : decode b_B_choose 22 = .ok (.iload 4, 2) := by decide +kernel
theorem d_B_choose_24 : decode b_B_choose 24 = .ok (.iadd, 1) := by decide +kernel
theorem d_B_choose_25 : decode b_B_choose 25 = .ok (.i2l, 1) := by decide +kernel
theorem d_B_choose_26 : decode b_B_choose 26 = .ok (.lmul, 1) := by decide +kernel
theorem d_B_choose_27 : decode b_B_choose 27 = .ok (.iload 4, 2) := by decide +kernel
theorem d_B_choose_29 : decode b_B_choose 29 = .ok (.i2l, 1) := by decide +kernel
theorem d_B_choose_30 : decode b_B_choose 30 = .ok (.ldiv, 1) := by decide +kernel
theorem d_B_choose_31 : decode b_B_choose 31 = .ok (.lstore_n 2, 1) := by decide +kernel
theorem d_B_choose_32 : decode b_B_choose 32 = .ok (.iinc 4 1, 3) := by decide +kernel
theorem d_B_choose_35 : decode b_B_choose 35 = .ok (.goto (-23), 3) := by decide +kernel
theorem d_B_choose_38 : decode b_B_choose 38 = .ok (.lload_n 2, 1) := by decide +kernel
theorem d_B_choose_39 : decode b_B_choose 39 = .ok (.lreturn, 1) := by decide +kernel
theorem d_B_commonDivisor_0 : decode b_B_commonDivisor 0 = .ok (.lload_n 0, 1) := by decide +kernel
theorem d_B_commonDivisor_1 : decode b_B_commonDivisor 1 = .ok (.lstore 4, 2) := by decide +kernel
theorem d_B_commonDivisor_3 : decode b_B_commonDivisor 3 = .ok (.lload_n 2, 1) := by decide +kernel
theorem d_B_commonDivisor_4 : decode b_B_commonDivisor 4 = .ok (.lstore 6, 2) := by decide +kernel
theorem d_B_commonDivisor_6 : decode b_B_commonDivisor 6 = .ok (.iconst 0, 1) := by decide +kernel
theorem d_B_commonDivisor_7 : decode b_B_commonDivisor 7 = .ok (.istore 8, 2) := by decide +kernel
theorem d_B_commonDivisor_9 : decode b_B_commonDivisor 9 = .ok (.iload 8, 2) := by decide +kernel
theorem d_B_commonDivisor_11 : decode b_B_commonDivisor 11 = .ok (.sipush 128, 3) := by decide +kernel
theorem d_B_commonDivisor_14 : decode b_B_commonDivisor 14 = .ok (.if_icmp .ge 31, 3) := by decide +kernel
theorem d_B_commonDivisor_17 : decode b_B_commonDivisor 17 = .ok (.lload 6, 2) := by decide +kernel
theorem d_B_commonDivisor_19 : decode b_B_commonDivisor 19 = .ok (.lconst 0, 1) := by decide +kernel
theorem d_B_commonDivisor_20 : decode b_B_commonDivisor 20 = .ok (.lcmp, 1) := by decide +kernel
theorem d_B_commonDivisor_21 : decode b_B_commonDivisor 21 = .ok (.ifCond .eq 24, 3) := by decide +kernel
theorem d_B_commonDivisor_24 : decode b_B_commonDivisor 24 = .ok (.lload 4, 2) := by decide +kernel
theorem d_B_commonDivisor_26 : decode b_B_commonDivisor 26 = .ok (.lload 6, 2) := by decide +kernel
theorem d_B_commonDivisor_28 : decode b_B_commonDivisor 28 = .ok (.lrem, 1) := by decide +kernel
theorem d_B_commonDivisor_29 : decode b_B_commonDivisor 29 = .ok (.lstore 9, 2) := by decide +kernel
theorem d_B_commonDivisor_31 : decode b_B_commonDivisor 31 = .ok (.lload 6, 2) := by decide +kernel
theorem d_B_commonDivisor_33 : decode b_B_commonDivisor 33 = .ok (.lstore 4, 2) := by decide +kernel
theorem d_B_commonDivisor_35 : decode b_B_commonDivisor 35 = .ok (.lload 9, 2) := by decide +kernel
theorem d_B_commonDivisor_37 : decode b_B_commonDivisor 37 = .ok (.lstore 6, 2) := by decide +kernel
theorem d_B_commonDivisor_39 : decode b_B_commonDivisor 39 = .ok (.iinc 8 1, 3) := by decide +kernel
theorem d_B_commonDivisor_42 : decode b_B_commonDivisor 42 = .ok (.goto (-33), 3) := by decide +kernel
theorem d_B_commonDivisor_45 : decode b_B_commonDivisor 45 = .ok (.lload 4, 2) := by decide +kernel
theorem d_B_commonDivisor_47 : decode b_B_commonDivisor 47 = .ok (.lreturn, 1) := by decide +kernel
theorem d_Ac_init_0 : decode b_Ac_init 0 = .ok (.aload_n 0, 1) := by decide +kernel
theorem d_Ac_init_1 : decode b_Ac_init 1 = .ok (.invokespecial 3, 3) := by decide +kernel
theorem d_Ac_init_4 : decode b_Ac_init 4 = .ok (.aload_n 0, 1) := by decide +kernel
theorem d_Ac_init_5 : decode b_Ac_init 5 = .ok (.bipush 10, 2) := by decide +kernel
theorem d_Ac_init_7 : decode b_Ac_init 7 = .ok (.newarray .int, 2) := by decide +kernel
theorem d_Ac_init_9 : decode b_Ac_init 9 = .ok (.putfield 9, 3) := by decide +kernel
theorem d_Ac_init_12 : decode b_Ac_init 12 = .ok (.aload_n 0, 1) := by decide +kernel
theorem d_Ac_init_13 : decode b_Ac_init 13 = .ok (.bipush 10, 2) := by decide +kernel
theorem d_Ac_init_15 : decode b_Ac_init 15 = .ok (.newarray .int, 2) := by decide +kernel
theorem d_Ac_init_17 : decode b_Ac_init 17 = .ok (.putfield 15, 3) := by decide +kernel
theorem d_Ac_init_20 : decode b_Ac_init 20 = .ok (.aload_n 0, 1) := by decide +kernel
theorem d_Ac_init_21 : decode b_Ac_init 21 = .ok (.bipush 10, 2) := by decide +kernel
theorem d_Ac_init_23 : decode b_Ac_init 23 = .ok (.newarray .int, 2) := by decide +kernel
theorem d_Ac_init_25 : decode b_Ac_init 25 = .ok (.putfield 18, 3) := by decide +kernel
theorem d_Ac_init_28 : decode b_Ac_init 28 = .ok (.iconst 0, 1) := by decide +kernel
theorem d_Ac_init_29 : decode b_Ac_init 29 = .ok (.istore_n 1, 1) := by decide +kernel
theorem d_Ac_init_30 : decode b_Ac_init 30 = .ok (.iload_n 1, 1) := by decide +kernel
theorem d_Ac_init_31 : decode b_Ac_init 31 = .ok (.bipush 10, 2) := by decide +kernel
theorem d_Ac_init_33 : decode b_Ac_init 33 = .ok (.if_icmp .ge 16, 3) := by decide +kernel
theorem d_Ac_init_36 : decode b_Ac_init 36 = .ok (.aload_n 0, 1) := by decide +kernel
theorem d_Ac_init_37 : decode b_Ac_init 37 = .ok (.getfield 18, 3) := by decide +kernel
theorem d_Ac_init_40 : decode b_Ac_init 40 = .ok (.iload_n 1, 1) := by decide +kernel
theorem d_Ac_init_41 : decode b_Ac_init 41 = .ok (.iconst (-1), 1) := by decide +kernel
theorem d_Ac_init_42 : decode b_Ac_init 42 = .ok (.iastore, 1) := by decide +kernel
theorem d_Ac_init_43 : decode b_Ac_init 43 = .ok (.iinc 1 1, 3) := by decide +kernel
theorem d_Ac_init_46 : decode b_Ac_init 46 = .ok (.goto (-16), 3) := by decide +kernel
theorem d_Ac_init_49 : decode b_Ac_init 49 = .ok (.return_, 1) := by decide +kernel
theorem d_Ac_tell_0 : decode b_Ac_tell 0 = .ok (.iload_n 1, 1) := by decide +kernel
theorem d_Ac_tell_1 : decode b_Ac_tell 1 = .ok (.invokestatic 21, 3) := by decide +kernel
theorem d_Ac_tell_4 : decode b_Ac_tell 4 = .ok (.ifCond .eq 23, 3) := by decide +kernel
theorem d_Ac_tell_7 : decode b_Ac_tell 7 = .ok (.iload_n 3, 1) := by decide +kernel
theorem d_Ac_tell_8 : decode b_Ac_tell 8 = .ok (.ifCond .lt 19, 3) := by decide +kernel
theorem d_Ac_tell_11 : decode b_Ac_tell 11 = .ok (.iload_n 3, 1) := by decide +kernel
theorem d_Ac_tell_12 : decode b_Ac_tell 12 = .ok (.bipush 100, 2) := by decide +kernel
theorem d_Ac_tell_14 : decode b_Ac_tell 14 = .ok (.if_icmp .ge 13, 3) := by decide +kernel
theorem d_Ac_tell_17 : decode b_Ac_tell 17 = .ok (.aload_n 0, 1) := by decide +kernel
theorem d_Ac_tell_18 : decode b_Ac_tell 18 = .ok (.getfield 18, 3) := by decide +kernel
theorem d_Ac_tell_21 : decode b_Ac_tell 21 = .ok (.iload_n 1, 1) := by decide +kernel
theorem d_Ac_tell_22 : decode b_Ac_tell 22 = .ok (.iaload, 1) := by decide +kernel
theorem d_Ac_tell_23 : decode b_Ac_tell 23 = .ok (.iload_n 3, 1) := by decide +kernel
theorem d_Ac_tell_24 : decode b_Ac_tell 24 = .ok (.if_icmp .ne 5, 3) := by decide +kernel
theorem d_Ac_tell_27 : decode b_Ac_tell 27 = .ok (.iconst (-1), 1) := by decide +kernel
theorem d_Ac_tell_28 : decode b_Ac_tell 28 = .ok (.ireturn, 1) := by decide +kernel
theorem d_Ac_tell_29 : decode b_Ac_tell 29 = .ok (.aload_n 0, 1) := by decide +kernel
theorem d_Ac_tell_30 : decode b_Ac_tell 30 = .ok (.getfield 9, 3) := by decide +kernel
theorem d_Ac_tell_33 : decode b_Ac_tell 33 = .ok (.iload_n 1, 1) := by decide +kernel
theorem d_Ac_tell_34 : decode b_Ac_tell 34 = .ok (.iaload, 1) := by decide +kernel
theorem d_Ac_tell_35 : decode b_Ac_tell 35 = .ok (.iload_n 2, 1) := by decide +kernel
theorem d_Ac_tell_36 : decode b_Ac_tell 36 = .ok (.invokestatic 25, 3) := by decide +kernel
theorem d_Ac_tell_39 : decode b_Ac_tell 39 = .ok (.istore 4, 2) := by decide +kernel
theorem d_Ac_tell_41 : decode b_Ac_tell 41 = .ok (.iload 4, 2) := by decide +kernel
theorem d_Ac_tell_43 : decode b_Ac_tell 43 = .ok (.iconst (-1), 1) := by decide +kernel
theorem d_Ac_tell_44 : decode b_Ac_tell 44 = .ok (.if_icmp .ne 5, 3) := by decide +kernel
theorem d_Ac_tell_47 : decode b_Ac_tell 47 = .ok (.iconst (-1), 1) := by decide +kernel
theorem d_Ac_tell_48 : decode b_Ac_tell 48 = .ok (.ireturn, 1) := by decide +kernel
theorem d_Ac_tell_49 : decode b_Ac_tell 49 = .ok (.aload_n 0, 1) := by decide +kernel
theorem d_Ac_tell_50 : decode b_Ac_tell 50 = .ok (.getfield 9, 3) := by decide +kernel
theorem d_Ac_tell_53 : decode b_Ac_tell 53 = .ok (.iload_n 1, 1) := by decide +kernel
theorem d_Ac_tell_54 : decode b_Ac_tell 54 = .ok (.iload 4, 2) := by decide +kernel
theorem d_Ac_tell_56 : decode b_Ac_tell 56 = .ok (.iastore, 1) := by decide +kernel
theorem d_Ac_tell_57 : decode b_Ac_tell 57 = .ok (.aload_n 0, 1) := by decide +kernel
theorem d_Ac_tell_58 : decode b_Ac_tell 58 = .ok (.getfield 18, 3) := by decide +kernel
theorem d_Ac_tell_61 : decode b_Ac_tell 61 = .ok (.iload_n 1, 1) := by decide +kernel
theorem d_Ac_tell_62 : decode b_Ac_tell 62 = .ok (.iload_n 3, 1) := by decide +kernel
theorem d_Ac_tell_63 : decode b_Ac_tell 63 = .ok (.iastore, 1) := by decide +kernel
theorem d_Ac_tell_64 : decode b_Ac_tell 64 = .ok (.iload_n 2, 1) := by decide +kernel
theorem d_Ac_tell_65 : decode b_Ac_tell 65 = .ok (.ifCond .ne 13, 3) := by decide +kernel
theorem d_Ac_tell_68 : decode b_Ac_tell 68 = .ok (.aload_n 0, 1) := by decide +kernel
theorem d_Ac_tell_69 : decode b_Ac_tell 69 = .ok (.getfield 15, 3) := by decide +kernel
theorem d_Ac_tell_72 : decode b_Ac_tell 72 = .ok (.iload_n 1, 1) := by decide +kernel
theorem d_Ac_tell_73 : decode b_Ac_tell 73 = .ok (.dup2, 1) := by decide +kernel
theorem d_Ac_tell_74 : decode b_Ac_tell 74 = .ok (.iaload, 1) := by decide +kernel
theorem d_Ac_tell_75 : decode b_Ac_tell 75 = .ok (.iconst 1, 1) := by decide +kernel
theorem d_Ac_tell_76 : decode b_Ac_tell 76 = .ok (.iadd, 1) := by decide +kernel
theorem d_Ac_tell_77 : decode b_Ac_tell 77 = .ok (.iastore, 1) := by decide +kernel
theorem d_Ac_tell_78 : decode b_Ac_tell 78 = .ok (.iload 4, 2) := by decide +kernel
theorem d_Ac_tell_80 : decode b_Ac_tell 80 = .ok (.ireturn, 1) := by decide +kernel
theorem d_Ac_after_0 : decode b_Ac_after 0 = .ok (.iload_n 1, 1) := by decide +kernel
theorem d_Ac_after_1 : decode b_Ac_after 1 = .ok (.tableswitch 77 0 3 #[31, 44, 55, 66], 31) := by decide +kernel
theorem d_Ac_after_32 : decode b_Ac_after 32 = .ok (.iload_n 0, 1) := by decide +kernel
theorem d_Ac_after_33 : decode b_Ac_after 33 = .ok (.iconst 3, 1) := by decide +kernel
theorem d_Ac_after_34 : decode b_Ac_after 34 = .ok (.if_icmp .ge 9, 3) := by decide +kernel
theorem d_Ac_after_37 : decode b_Ac_after 37 = .ok (.iload_n 0, 1) := by decide +kernel
theorem d_Ac_after_38 : decode b_Ac_after 38 = .ok (.iconst 1, 1) := by decide +kernel
theorem d_Ac_after_39 : decode b_Ac_after 39 = .ok (.iadd, 1) := by decide +kernel
theorem d_Ac_after_40 : decode b_Ac_after 40 = .ok (.goto 4, 3) := by decide +kernel
theorem d_Ac_after_43 : decode b_Ac_after 43 = .ok (.iconst (-1), 1) := by decide +kernel
theorem d_Ac_after_44 : decode b_Ac_after 44 = .ok (.ireturn, 1) := by decide +kernel
theorem d_Ac_after_45 : decode b_Ac_after 45 = .ok (.iload_n 0, 1) := by decide +kernel
theorem d_Ac_after_46 : decode b_Ac_after 46 = .ok (.iconst 2, 1) := by decide +kernel
theorem d_Ac_after_47 : decode b_Ac_after 47 = .ok (.if_icmp .ne 7, 3) := by decide +kernel
theorem d_Ac_after_50 : decode b_Ac_after 50 = .ok (.iconst 1, 1) := by decide +kernel
theorem d_Ac_after_51 : decode b_Ac_after 51 = .ok (.goto 4, 3) := by decide +kernel
theorem d_Ac_after_54 : decode b_Ac_after 54 = .ok (.iconst (-1), 1) := by decide +kernel
theorem d_Ac_after_55 : decode b_Ac_after 55 = .ok (.ireturn, 1) := by decide +kernel
theorem d_Ac_after_56 : decode b_Ac_after 56 = .ok (.iload_n 0, 1) := by decide +kernel
theorem d_Ac_after_57 : decode b_Ac_after 57 = .ok (.iconst 3, 1) := by decide +kernel
theorem d_Ac_after_58 : decode b_Ac_after 58 = .ok (.if_icmp .ne 7, 3) := by decide +kernel
theorem d_Ac_after_61 : decode b_Ac_after 61 = .ok (.iconst 2, 1) := by decide +kernel
theorem d_Ac_after_62 : decode b_Ac_after 62 = .ok (.goto 4, 3) := by decide +kernel
theorem d_Ac_after_65 : decode b_Ac_after 65 = .ok (.iconst (-1), 1) := by decide +kernel
theorem d_Ac_after_66 : decode b_Ac_after 66 = .ok (.ireturn, 1) := by decide +kernel
theorem d_Ac_after_67 : decode b_Ac_after 67 = .ok (.iload_n 0, 1) := by decide +kernel
theorem d_Ac_after_68 : decode b_Ac_after 68 = .ok (.iconst 1, 1) := by decide +kernel
theorem d_Ac_after_69 : decode b_Ac_after 69 = .ok (.if_icmp .ne 7, 3) := by decide +kernel
theorem d_Ac_after_72 : decode b_Ac_after 72 = .ok (.iconst 0, 1) := by decide +kernel
theorem d_Ac_after_73 : decode b_Ac_after 73 = .ok (.goto 4, 3) := by decide +kernel
theorem d_Ac_after_76 : decode b_Ac_after 76 = .ok (.iconst (-1), 1) := by decide +kernel
theorem d_Ac_after_77 : decode b_Ac_after 77 = .ok (.ireturn, 1) := by decide +kernel
theorem d_Ac_after_78 : decode b_Ac_after 78 = .ok (.iconst (-1), 1) := by decide +kernel
theorem d_Ac_after_79 : decode b_Ac_after 79 = .ok (.ireturn, 1) := by decide +kernel
theorem d_Bk_init_0 : decode b_Bk_init 0 = .ok (.aload_n 0, 1) := by decide +kernel
theorem d_Bk_init_1 : decode b_Bk_init 1 = .ok (.invokespecial 3, 3) := by decide +kernel
theorem d_Bk_init_4 : decode b_Bk_init 4 = .ok (.aload_n 0, 1) := by decide +kernel
theorem d_Bk_init_5 : decode b_Bk_init 5 = .ok (.bipush 30, 2) := by decide +kernel
theorem d_Bk_init_7 : decode b_Bk_init 7 = .ok (.newarray .int, 2) := by decide +kernel
theorem d_Bk_init_9 : decode b_Bk_init 9 = .ok (.putfield 9, 3) := by decide +kernel
theorem d_Bk_init_12 : decode b_Bk_init 12 = .ok (.aload_n 0, 1) := by decide +kernel
theorem d_Bk_init_13 : decode b_Bk_init 13 = .ok (.bipush 30, 2) := by decide +kernel
theorem d_Bk_init_15 : decode b_Bk_init 15 = .ok (.newarray .int, 2) := by decide +kernel
theorem d_Bk_init_17 : decode b_Bk_init 17 = .ok (.putfield 15, 3) := by decide +kernel
theorem d_Bk_init_20 : decode b_Bk_init 20 = .ok (.aload_n 0, 1) := by decide +kernel
theorem d_Bk_init_21 : decode b_Bk_init 21 = .ok (.bipush 30, 2) := by decide +kernel
theorem d_Bk_init_23 : decode b_Bk_init 23 = .ok (.newarray .int, 2) := by decide +kernel
theorem d_Bk_init_25 : decode b_Bk_init 25 = .ok (.putfield 18, 3) := by decide +kernel
theorem d_Bk_init_28 : decode b_Bk_init 28 = .ok (.aload_n 0, 1) := by decide +kernel
theorem d_Bk_init_29 : decode b_Bk_init 29 = .ok (.bipush 30, 2) := by decide +kernel
theorem d_Bk_init_31 : decode b_Bk_init 31 = .ok (.newarray .long, 2) := by decide +kernel
theorem d_Bk_init_33 : decode b_Bk_init 33 = .ok (.putfield 21, 3) := by decide +kernel
theorem d_Bk_init_36 : decode b_Bk_init 36 = .ok (.aload_n 0, 1) := by decide +kernel
theorem d_Bk_init_37 : decode b_Bk_init 37 = .ok (.iconst 0, 1) := by decide +kernel
theorem d_Bk_init_38 : decode b_Bk_init 38 = .ok (.putfield 25, 3) := by decide +kernel
theorem d_Bk_init_41 : decode b_Bk_init 41 = .ok (.return_, 1) := by decide +kernel
theorem d_Bk_add_0 : decode b_Bk_add 0 = .ok (.aload_n 0, 1) := by decide +kernel
theorem d_Bk_add_1 : decode b_Bk_add 1 = .ok (.getfield 25, 3) := by decide +kernel
theorem d_Bk_add_4 : decode b_Bk_add 4 = .ok (.bipush 30, 2) := by decide +kernel
theorem d_Bk_add_6 : decode b_Bk_add 6 = .ok (.if_icmp .ge 32, 3) := by decide +kernel
theorem d_Bk_add_9 : decode b_Bk_add 9 = .ok (.iload_n 1, 1) := by decide +kernel
theorem d_Bk_add_10 : decode b_Bk_add 10 = .ok (.invokestatic 29, 3) := by decide +kernel
theorem d_Bk_add_13 : decode b_Bk_add 13 = .ok (.ifCond .eq 25, 3) := by decide +kernel
theorem d_Bk_add_16 : decode b_Bk_add 16 = .ok (.iload_n 2, 1) := by decide +kernel
theorem d_Bk_add_17 : decode b_Bk_add 17 = .ok (.invokestatic 33, 3) := by decide +kernel
theorem d_Bk_add_20 : decode b_Bk_add 20 = .ok (.ifCond .eq 18, 3) := by decide +kernel
theorem d_Bk_add_23 : decode b_Bk_add 23 = .ok (.iload_n 3, 1) := by decide +kernel
theorem d_Bk_add_24 : decode b_Bk_add 24 = .ok (.invokestatic 36, 3) := by decide +kernel
theorem d_Bk_add_27 : decode b_Bk_add 27 = .ok (.ifCond .eq 11, 3) := by decide +kernel
theorem d_Bk_add_30 : decode b_Bk_add 30 = .ok (.lload 4, 2) := by decide +kernel
theorem d_Bk_add_32 : decode b_Bk_add 32 = .ok (.invokestatic 39, 3) := by decide +kernel
theorem d_Bk_add_35 : decode b_Bk_add 35 = .ok (.ifCond .ne 5, 3) := by decide +kernel
theorem d_Bk_add_38 : decode b_Bk_add 38 = .ok (.iconst (-1), 1) := by decide +kernel
theorem d_Bk_add_39 : decode b_Bk_add 39 = .ok (.ireturn, 1) := by decide +kernel
theorem d_Bk_add_40 : decode b_Bk_add 40 = .ok (.aload_n 0, 1) := by decide +kernel
theorem d_Bk_add_41 : decode b_Bk_add 41 = .ok (.getfield 25, 3) := by decide +kernel
theorem d_Bk_add_44 : decode b_Bk_add 44 = .ok (.istore 6, 2) := by decide +kernel
theorem d_Bk_add_46 : decode b_Bk_add 46 = .ok (.aload_n 0, 1) := by decide +kernel
theorem d_Bk_add_47 : decode b_Bk_add 47 = .ok (.getfield 9, 3) := by decide +kernel
theorem d_Bk_add_50 : decode b_Bk_add 50 = .ok (.iload 6, 2) := by decide +kernel
theorem d_Bk_add_52 : decode b_Bk_add 52 = .ok (.iload_n 1, 1) := by decide +kernel
theorem d_Bk_add_53 : decode b_Bk_add 53 = .ok (.iastore, 1) := by decide +kernel
theorem d_Bk_add_54 : decode b_Bk_add 54 = .ok (.aload_n 0, 1) := by decide +kernel
theorem d_Bk_add_55 : decode b_Bk_add 55 = .ok (.getfield 15, 3) := by decide +kernel
theorem d_Bk_add_58 : decode b_Bk_add 58 = .ok (.iload 6, 2) := by decide +kernel
theorem d_Bk_add_60 : decode b_Bk_add 60 = .ok (.iload_n 2, 1) := by decide +kernel
theorem d_Bk_add_61 : decode b_Bk_add 61 = .ok (.iastore, 1) := by decide +kernel
theorem d_Bk_add_62 : decode b_Bk_add 62 = .ok (.aload_n 0, 1) := by decide +kernel
theorem d_Bk_add_63 : decode b_Bk_add 63 = .ok (.getfield 18, 3) := by decide +kernel
theorem d_Bk_add_66 : decode b_Bk_add 66 = .ok (.iload 6, 2) := by decide +kernel
theorem d_Bk_add_68 : decode b_Bk_add 68 = .ok (.iload_n 3, 1) := by decide +kernel
theorem d_Bk_add_69 : decode b_Bk_add 69 = .ok (.iastore, 1) := by decide +kernel
theorem d_Bk_add_70 : decode b_Bk_add 70 = .ok (.aload_n 0, 1) := by decide +kernel
theorem d_Bk_add_71 : decode b_Bk_add 71 = .ok (.getfield 21, 3) := by decide +kernel
theorem d_Bk_add_74 : decode b_Bk_add 74 = .ok (.iload 6, 2) := by decide +kernel
theorem d_Bk_add_76 : decode b_Bk_add 76 = .ok (.lload 4, 2) := by decide +kernel
theorem d_Bk_add_78 : decode b_Bk_add 78 = .ok (.lastore, 1) := by decide +kernel
theorem d_Bk_add_79 : decode b_Bk_add 79 = .ok (.aload_n 0, 1) := by decide +kernel
theorem d_Bk_add_80 : decode b_Bk_add 80 = .ok (.iload 6, 2) := by decide +kernel
theorem d_Bk_add_82 : decode b_Bk_add 82 = .ok (.iconst 1, 1) := by decide +kernel
theorem d_Bk_add_83 : decode b_Bk_add 83 = .ok (.iadd, 1) := by decide +kernel
theorem d_Bk_add_84 : decode b_Bk_add 84 = .ok (.putfield 25, 3) := by decide +kernel
theorem d_Bk_add_87 : decode b_Bk_add 87 = .ok (.iload 6, 2) := by decide +kernel
theorem d_Bk_add_89 : decode b_Bk_add 89 = .ok (.ireturn, 1) := by decide +kernel
theorem d_Bk_has_0 : decode b_Bk_has 0 = .ok (.iload_n 1, 1) := by decide +kernel
theorem d_Bk_has_1 : decode b_Bk_has 1 = .ok (.ifCond .lt 15, 3) := by decide +kernel
theorem d_Bk_has_4 : decode b_Bk_has 4 = .ok (.iload_n 1, 1) := by decide +kernel
theorem d_Bk_has_5 : decode b_Bk_has 5 = .ok (.aload_n 0, 1) := by decide +kernel
theorem d_Bk_has_6 : decode b_Bk_has 6 = .ok (.getfield 25, 3) := by decide +kernel
theorem d_Bk_has_9 : decode b_Bk_has 9 = .ok (.if_icmp .ge 7, 3) := by decide +kernel
theorem d_Bk_has_12 : decode b_Bk_has 12 = .ok (.iconst 1, 1) := by decide +kernel
theorem d_Bk_has_13 : decode b_Bk_has 13 = .ok (.goto 4, 3) := by decide +kernel
theorem d_Bk_has_16 : decode b_Bk_has 16 = .ok (.iconst 0, 1) := by decide +kernel
theorem d_Bk_has_17 : decode b_Bk_has 17 = .ok (.ireturn, 1) := by decide +kernel
theorem d_Bk_gramsOf_0 : decode b_Bk_gramsOf 0 = .ok (.aload_n 0, 1) := by decide +kernel
theorem d_Bk_gramsOf_1 : decode b_Bk_gramsOf 1 = .ok (.iload_n 1, 1) := by decide +kernel
theorem d_Bk_gramsOf_2 : decode b_Bk_gramsOf 2 = .ok (.invokevirtual 43, 3) := by decide +kernel
theorem d_Bk_gramsOf_5 : decode b_Bk_gramsOf 5 = .ok (.ifCond .eq 12, 3) := by decide +kernel
theorem d_Bk_gramsOf_8 : decode b_Bk_gramsOf 8 = .ok (.aload_n 0, 1) := by decide +kernel
theorem d_Bk_gramsOf_9 : decode b_Bk_gramsOf 9 = .ok (.getfield 21, 3) := by decide +kernel
theorem d_Bk_gramsOf_12 : decode b_Bk_gramsOf 12 = .ok (.iload_n 1, 1) := by decide +kernel
theorem d_Bk_gramsOf_13 : decode b_Bk_gramsOf 13 = .ok (.laload, 1) := by decide +kernel
theorem d_Bk_gramsOf_14 : decode b_Bk_gramsOf 14 = .ok (.goto 4, 3) := by decide +kernel
theorem d_Bk_gramsOf_17 : decode b_Bk_gramsOf 17 = .ok (.lconst 0, 1) := by decide +kernel
theorem d_Bk_gramsOf_18 : decode b_Bk_gramsOf 18 = .ok (.lreturn, 1) := by decide +kernel
theorem d_Bk_gramsOfKind_0 : decode b_Bk_gramsOfKind 0 = .ok (.lconst 0, 1) := by decide +kernel
theorem d_Bk_gramsOfKind_1 : decode b_Bk_gramsOfKind 1 = .ok (.lstore_n 2, 1) := by decide +kernel
theorem d_Bk_gramsOfKind_2 : decode b_Bk_gramsOfKind 2 = .ok (.iconst 0, 1) := by decide +kernel
theorem d_Bk_gramsOfKind_3 : decode b_Bk_gramsOfKind 3 = .ok (.istore 4, 2) := by decide +kernel
theorem d_Bk_gramsOfKind_5 : decode b_Bk_gramsOfKind 5 = .ok (.iload 4, 2) := by decide +kernel
theorem d_Bk_gramsOfKind_7 : decode b_Bk_gramsOfKind 7 = .ok (.aload_n 0, 1) := by decide +kernel
theorem d_Bk_gramsOfKind_8 : decode b_Bk_gramsOfKind 8 = .ok (.getfield 25, 3) := by decide +kernel
theorem d_Bk_gramsOfKind_11 : decode b_Bk_gramsOfKind 11 = .ok (.if_icmp .ge 30, 3) := by decide +kernel
theorem d_Bk_gramsOfKind_14 : decode b_Bk_gramsOfKind 14 = .ok (.aload_n 0, 1) := by decide +kernel
theorem d_Bk_gramsOfKind_15 : decode b_Bk_gramsOfKind 15 = .ok (.getfield 18, 3) := by decide +kernel
theorem d_Bk_gramsOfKind_18 : decode b_Bk_gramsOfKind 18 = .ok (.iload 4, 2) := by decide +kernel
theorem d_Bk_gramsOfKind_20 : decode b_Bk_gramsOfKind 20 = .ok (.iaload, 1) := by decide +kernel
theorem d_Bk_gramsOfKind_21 : decode b_Bk_gramsOfKind 21 = .ok (.iload_n 1, 1) := by decide +kernel
theorem d_Bk_gramsOfKind_22 : decode b_Bk_gramsOfKind 22 = .ok (.if_icmp .ne 13, 3) := by decide +kernel
theorem d_Bk_gramsOfKind_25 : decode b_Bk_gramsOfKind 25 = .ok (.lload_n 2, 1) := by decide +kernel
theorem d_Bk_gramsOfKind_26 : decode b_Bk_gramsOfKind 26 = .ok (.aload_n 0, 1) := by decide +kernel
theorem d_Bk_gramsOfKind_27 : decode b_Bk_gramsOfKind 27 = .ok (.getfield 21, 3) := by decide +kernel
theorem d_Bk_gramsOfKind_30 : decode b_Bk_gramsOfKind 30 = .ok (.iload 4, 2) := by decide +kernel
theorem d_Bk_gramsOfKind_32 : decode b_Bk_gramsOfKind 32 = .ok (.laload, 1) := by decide +kernel
theorem d_Bk_gramsOfKind_33 : decode b_Bk_gramsOfKind 33 = .ok (.ladd, 1) := by decide +kernel
theorem d_Bk_gramsOfKind_34 : decode b_Bk_gramsOfKind 34 = .ok (.lstore_n 2, 1) := by decide +kernel
theorem d_Bk_gramsOfKind_35 : decode b_Bk_gramsOfKind 35 = .ok (.iinc 4 1, 3) := by decide +kernel
theorem d_Bk_gramsOfKind_38 : decode b_Bk_gramsOfKind 38 = .ok (.goto (-33), 3) := by decide +kernel
theorem d_Bk_gramsOfKind_41 : decode b_Bk_gramsOfKind 41 = .ok (.lload_n 2, 1) := by decide +kernel
theorem d_Bk_gramsOfKind_42 : decode b_Bk_gramsOfKind 42 = .ok (.lreturn, 1) := by decide +kernel
theorem d_Bk_fitWith_0 : decode b_Bk_fitWith 0 = .ok (.aload_n 0, 1) := by decide +kernel
theorem d_Bk_fitWith_1 : decode b_Bk_fitWith 1 = .ok (.iload_n 1, 1) := by decide +kernel
theorem d_Bk_fitWith_2 : decode b_Bk_fitWith 2 = .ok (.invokevirtual 43, 3) := by decide +kernel
theorem d_Bk_fitWith_5 : decode b_Bk_fitWith 5 = .ok (.ifCond .eq 11, 3) := by decide +kernel
theorem d_Bk_fitWith_8 : decode b_Bk_fitWith 8 = .ok (.aload_n 2, 1) := by decide +kernel
theorem d_Bk_fitWith_9 : decode b_Bk_fitWith 9 = .ok (.iload_n 3, 1) := by decide +kernel
theorem d_Bk_fitWith_10 : decode b_Bk_fitWith 10 = .ok (.invokevirtual 43, 3) := by decide +kernel
theorem d_Bk_fitWith_13 : decode b_Bk_fitWith 13 = .ok (.ifCond .ne 5, 3) := by decide +kernel
theorem d_Bk_fitWith_16 : decode b_Bk_fitWith 16 = .ok (.iconst 0, 1) := by decide +kernel
theorem d_Bk_fitWith_17 : decode b_Bk_fitWith 17 = .ok (.ireturn, 1) := by decide +kernel
theorem d_Bk_fitWith_18 : decode b_Bk_fitWith 18 = .ok (.aload_n 2, 1) := by decide +kernel
theorem d_Bk_fitWith_19 : decode b_Bk_fitWith 19 = .ok (.getfield 15, 3) := by decide +kernel
theorem d_Bk_fitWith_22 : decode b_Bk_fitWith 22 = .ok (.iload_n 3, 1) := by decide +kernel
theorem d_Bk_fitWith_23 : decode b_Bk_fitWith 23 = .ok (.iaload, 1) := by decide +kernel
theorem d_Bk_fitWith_24 : decode b_Bk_fitWith 24 = .ok (.aload_n 0, 1) := by decide +kernel
theorem d_Bk_fitWith_25 : decode b_Bk_fitWith 25 = .ok (.getfield 15, 3) := by decide +kernel
theorem d_Bk_fitWith_28 : decode b_Bk_fitWith 28 = .ok (.iload_n 1, 1) := by decide +kernel
theorem d_Bk_fitWith_29 : decode b_Bk_fitWith 29 = .ok (.iaload, 1) := by decide +kernel
theorem d_Bk_fitWith_30 : decode b_Bk_fitWith 30 = .ok (.isub, 1) := by decide +kernel
theorem d_Bk_fitWith_31 : decode b_Bk_fitWith 31 = .ok (.istore 4, 2) := by decide +kernel
theorem d_Bk_fitWith_33 : decode b_Bk_fitWith 33 = .ok (.aload_n 0, 1) := by decide +kernel
theorem d_Bk_fitWith_34 : decode b_Bk_fitWith 34 = .ok (.getfield 9, 3) := by decide +kernel
theorem d_Bk_fitWith_37 : decode b_Bk_fitWith 37 = .ok (.iload_n 1, 1) := by decide +kernel
theorem d_Bk_fitWith_38 : decode b_Bk_fitWith 38 = .ok (.iaload, 1) := by decide +kernel
theorem d_Bk_fitWith_39 : decode b_Bk_fitWith 39 = .ok (.aload_n 2, 1) := by decide +kernel
theorem d_Bk_fitWith_40 : decode b_Bk_fitWith 40 = .ok (.getfield 9, 3) := by decide +kernel
theorem d_Bk_fitWith_43 : decode b_Bk_fitWith 43 = .ok (.iload_n 3, 1) := by decide +kernel
theorem d_Bk_fitWith_44 : decode b_Bk_fitWith 44 = .ok (.iaload, 1) := by decide +kernel
theorem d_Bk_fitWith_45 : decode b_Bk_fitWith 45 = .ok (.if_icmp .ne 22, 3) := by decide +kernel
theorem d_Bk_fitWith_48 : decode b_Bk_fitWith 48 = .ok (.aload_n 0, 1) := by decide +kernel
theorem d_Bk_fitWith_49 : decode b_Bk_fitWith 49 = .ok (.getfield 18, 3) := by decide +kernel
theorem d_Bk_fitWith_52 : decode b_Bk_fitWith 52 = .ok (.iload_n 1, 1) := by decide +kernel
theorem d_Bk_fitWith_53 : decode b_Bk_fitWith 53 = .ok (.iaload, 1) := by decide +kernel
theorem d_Bk_fitWith_54 : decode b_Bk_fitWith 54 = .ok (.aload_n 2, 1) := by decide +kernel
theorem d_Bk_fitWith_55 : decode b_Bk_fitWith 55 = .ok (.getfield 18, 3) := by decide +kernel
theorem d_Bk_fitWith_58 : decode b_Bk_fitWith 58 = .ok (.iload_n 3, 1) := by decide +kernel
theorem d_Bk_fitWith_59 : decode b_Bk_fitWith 59 = .ok (.iaload, 1) := by decide +kernel
theorem d_Bk_fitWith_60 : decode b_Bk_fitWith 60 = .ok (.if_icmp .ne 7, 3) := by decide +kernel
theorem d_Bk_fitWith_63 : decode b_Bk_fitWith 63 = .ok (.iconst 1, 1) := by decide +kernel
theorem d_Bk_fitWith_64 : decode b_Bk_fitWith 64 = .ok (.goto 4, 3) := by decide +kernel
theorem d_Bk_fitWith_67 : decode b_Bk_fitWith 67 = .ok (.iconst 0, 1) := by decide +kernel
theorem d_Bk_fitWith_68 : decode b_Bk_fitWith 68 = .ok (.istore 5, 2) := by decide +kernel
theorem d_Bk_fitWith_70 : decode b_Bk_fitWith 70 = .ok (.iload 5, 2) := by decide +kernel
theorem d_Bk_fitWith_72 : decode b_Bk_fitWith 72 = .ok (.ifCond .eq 14, 3) := by decide +kernel
theorem d_Bk_fitWith_75 : decode b_Bk_fitWith 75 = .ok (.iload 4, 2) := by decide +kernel
theorem d_Bk_fitWith_77 : decode b_Bk_fitWith 77 = .ok (.ifCond .lt 9, 3) := by decide +kernel
theorem d_Bk_fitWith_80 : decode b_Bk_fitWith 80 = .ok (.iload 4, 2) := by decide +kernel
theorem d_Bk_fitWith_82 : decode b_Bk_fitWith 82 = .ok (.iconst 5, 1) := by decide +kernel
theorem d_Bk_fitWith_83 : decode b_Bk_fitWith 83 = .ok (.if_icmp .le 5, 3) := by decide +kernel
theorem d_Bk_fitWith_86 : decode b_Bk_fitWith 86 = .ok (.iconst 0, 1) := by decide +kernel
theorem d_Bk_fitWith_87 : decode b_Bk_fitWith 87 = .ok (.ireturn, 1) := by decide +kernel
theorem d_Bk_fitWith_88 : decode b_Bk_fitWith 88 = .ok (.iconst 0, 1) := by decide +kernel
theorem d_Bk_fitWith_89 : decode b_Bk_fitWith 89 = .ok (.sipush 1000, 3) := by decide +kernel
theorem d_Bk_fitWith_92 : decode b_Bk_fitWith 92 = .ok (.bipush 100, 2) := by decide +kernel
theorem d_Bk_fitWith_94 : decode b_Bk_fitWith 94 = .ok (.iload 4, 2) := by decide +kernel
theorem d_Bk_fitWith_96 : decode b_Bk_fitWith 96 = .ok (.imul, 1) := by decide +kernel
theorem d_Bk_fitWith_97 : decode b_Bk_fitWith 97 = .ok (.isub, 1) := by decide +kernel
theorem d_Bk_fitWith_98 : decode b_Bk_fitWith 98 = .ok (.aload_n 0, 1) := by decide +kernel
theorem d_Bk_fitWith_99 : decode b_Bk_fitWith 99 = .ok (.getfield 21, 3) := by decide +kernel
theorem d_Bk_fitWith_102 : decode b_Bk_fitWith 102 = .ok (.iload_n 1, 1) := by decide +kernel
theorem d_Bk_fitWith_103 : decode b_Bk_fitWith 103 = .ok (.laload, 1) := by decide +kernel
theorem d_Bk_fitWith_104 : decode b_Bk_fitWith 104 = .ok (.aload_n 2, 1) := by decide +kernel
theorem d_Bk_fitWith_105 : decode b_Bk_fitWith 105 = .ok (.getfield 21, 3) := by decide +kernel
theorem d_Bk_fitWith_108 : decode b_Bk_fitWith 108 = .ok (.iload_n 3, 1) := by decide +kernel
theorem d_Bk_fitWith_109 : decode b_Bk_fitWith 109 = .ok (.laload, 1) := by decide +kernel
theorem d_Bk_fitWith_110 : decode b_Bk_fitWith 110 = .ok (.invokestatic 46, 3) := by decide +kernel
theorem d_Bk_fitWith_113 : decode b_Bk_fitWith 113 = .ok (.isub, 1) := by decide +kernel
theorem d_Bk_fitWith_114 : decode b_Bk_fitWith 114 = .ok (.invokestatic 50, 3) := by decide +kernel
theorem d_Bk_fitWith_117 : decode b_Bk_fitWith 117 = .ok (.ireturn, 1) := by decide +kernel
theorem d_Bk_lostByGrams_0 : decode b_Bk_lostByGrams 0 = .ok (.lload_n 0, 1) := by decide +kernel
theorem d_Bk_lostByGrams_1 : decode b_Bk_lostByGrams 1 = .ok (.lload_n 2, 1) := by decide +kernel
theorem d_Bk_lostByGrams_2 : decode b_Bk_lostByGrams 2 = .ok (.invokestatic 56, 3) := by decide +kernel
theorem d_Bk_lostByGrams_5 : decode b_Bk_lostByGrams 5 = .ok (.lstore 4, 2) := by decide +kernel
theorem d_Bk_lostByGrams_7 : decode b_Bk_lostByGrams 7 = .ok (.lload 4, 2) := by decide +kernel
theorem d_Bk_lostByGrams_9 : decode b_Bk_lostByGrams 9 = .ok (.lconst 0, 1) := by decide +kernel
theorem d_Bk_lostByGrams_10 : decode b_Bk_lostByGrams 10 = .ok (.lcmp, 1) := by decide +kernel
theorem d_Bk_lostByGrams_11 : decode b_Bk_lostByGrams 11 = .ok (.ifCond .le 20, 3) := by decide +kernel
theorem d_Bk_lostByGrams_14 : decode b_Bk_lostByGrams 14 = .ok (.ldc2_w 59, 3) := by decide +kernel
theorem d_Bk_lostByGrams_17 : decode b_Bk_lostByGrams 17 = .ok (.lload_n 0, 1) := by decide +kernel
theorem d_Bk_lostByGrams_18 : decode b_Bk_lostByGrams 18 = .ok (.lload_n 2, 1) := by decide +kernel
theorem d_Bk_lostByGrams_19 : decode b_Bk_lostByGrams 19 = .ok (.lsub, 1) := by decide +kernel
theorem d_Bk_lostByGrams_20 : decode b_Bk_lostByGrams 20 = .ok (.invokestatic 61, 3) := by decide +kernel
theorem d_Bk_lostByGrams_23 : decode b_Bk_lostByGrams 23 = .ok (.lmul, 1) := by decide +kernel
theorem d_Bk_lostByGrams_24 : decode b_Bk_lostByGrams 24 = .ok (.lload 4, 2) := by decide +kernel
theorem d_Bk_lostByGrams_26 : decode b_Bk_lostByGrams 26 = .ok (.ldiv, 1) := by decide +kernel
theorem d_Bk_lostByGrams_27 : decode b_Bk_lostByGrams 27 = .ok (.l2i, 1) := by decide +kernel
theorem d_Bk_lostByGrams_28 : decode b_Bk_lostByGrams 28 = .ok (.goto 4, 3) := by decide +kernel
theorem d_Bk_lostByGrams_31 : decode b_Bk_lostByGrams 31 = .ok (.iconst 0, 1) := by decide +kernel
theorem d_Bk_lostByGrams_32 : decode b_Bk_lostByGrams 32 = .ok (.ireturn, 1) := by decide +kernel
theorem d_Jo_init_0 : decode b_Jo_init 0 = .ok (.aload_n 0, 1) := by decide +kernel
theorem d_Jo_init_1 : decode b_Jo_init 1 = .ok (.invokespecial 3, 3) := by decide +kernel
theorem d_Jo_init_4 : decode b_Jo_init 4 = .ok (.aload_n 0, 1) := by decide +kernel
theorem d_Jo_init_5 : decode b_Jo_init 5 = .ok (.bipush 30, 2) := by decide +kernel
theorem d_Jo_init_7 : decode b_Jo_init 7 = .ok (.newarray .int, 2) := by decide +kernel
theorem d_Jo_init_9 : decode b_Jo_init 9 = .ok (.putfield 9, 3) := by decide +kernel
theorem d_Jo_init_12 : decode b_Jo_init 12 = .ok (.aload_n 0, 1) := by decide +kernel
theorem d_Jo_init_13 : decode b_Jo_init 13 = .ok (.bipush 30, 2) := by decide +kernel
theorem d_Jo_init_15 : decode b_Jo_init 15 = .ok (.newarray .int, 2) := by decide +kernel
theorem d_Jo_init_17 : decode b_Jo_init 17 = .ok (.putfield 15, 3) := by decide +kernel
theorem d_Jo_init_20 : decode b_Jo_init 20 = .ok (.aload_n 0, 1) := by decide +kernel
theorem d_Jo_init_21 : decode b_Jo_init 21 = .ok (.invokevirtual 18, 3) := by decide +kernel
theorem d_Jo_init_24 : decode b_Jo_init 24 = .ok (.return_, 1) := by decide +kernel
theorem d_Jo_partAll_0 : decode b_Jo_partAll 0 = .ok (.iconst 0, 1) := by decide +kernel
theorem d_Jo_partAll_1 : decode b_Jo_partAll 1 = .ok (.istore_n 1, 1) := by decide +kernel
theorem d_Jo_partAll_2 : decode b_Jo_partAll 2 = .ok (.iload_n 1, 1) := by decide +kernel
theorem d_Jo_partAll_3 : decode b_Jo_partAll 3 = .ok (.bipush 30, 2) := by decide +kernel
theorem d_Jo_partAll_5 : decode b_Jo_partAll 5 = .ok (.if_icmp .ge 23, 3) := by decide +kernel
theorem d_Jo_partAll_8 : decode b_Jo_partAll 8 = .ok (.aload_n 0, 1) := by decide +kernel
theorem d_Jo_partAll_9 : decode b_Jo_partAll 9 = .ok (.getfield 9, 3) := by decide +kernel
theorem d_Jo_partAll_12 : decode b_Jo_partAll 12 = .ok (.iload_n 1, 1) := by decide +kernel
theorem d_Jo_partAll_13 : decode b_Jo_partAll 13 = .ok (.iconst (-1), 1) := by decide +kernel
theorem d_Jo_partAll_14 : decode b_Jo_partAll 14 = .ok (.iastore, 1) := by decide +kernel
theorem d_Jo_partAll_15 : decode b_Jo_partAll 15 = .ok (.aload_n 0, 1) := by decide +kernel
theorem d_Jo_partAll_16 : decode b_Jo_partAll 16 = .ok (.getfield 15, 3) := by decide +kernel
theorem d_Jo_partAll_19 : decode b_Jo_partAll 19 = .ok (.iload_n 1, 1) := by decide +kernel
theorem d_Jo_partAll_20 : decode b_Jo_partAll 20 = .ok (.iconst (-1), 1) := by decide +kernel
theorem d_Jo_partAll_21 : decode b_Jo_partAll 21 = .ok (.iastore, 1) := by decide +kernel
theorem d_Jo_partAll_22 : decode b_Jo_partAll 22 = .ok (.iinc 1 1, 3) := by decide +kernel
theorem d_Jo_partAll_25 : decode b_Jo_partAll 25 = .ok (.goto (-23), 3) := by decide +kernel
theorem d_Jo_partAll_28 : decode b_Jo_partAll 28 = .ok (.return_, 1) := by decide +kernel
theorem d_Jo_joinAnew_0 : decode b_Jo_joinAnew 0 = .ok (.aload_n 0, 1) := by decide +kernel
theorem d_Jo_joinAnew_1 : decode b_Jo_joinAnew 1 = .ok (.invokevirtual 18, 3) := by decide +kernel
theorem d_Jo_joinAnew_4 : decode b_Jo_joinAnew 4 = .ok (.iconst 0, 1) := by decide +kernel
theorem d_Jo_joinAnew_5 : decode b_Jo_joinAnew 5 = .ok (.istore_n 3, 1) := by decide +kernel
theorem d_Jo_joinAnew_6 : decode b_Jo_joinAnew 6 = .ok (.iconst 0, 1) := by decide +kernel
theorem d_Jo_joinAnew_7 : decode b_Jo_joinAnew 7 = .ok (.istore 4, 2) := by decide +kernel
theorem d_Jo_joinAnew_9 : decode b_Jo_joinAnew 9 = .ok (.iload 4, 2) := by decide +kernel
theorem d_Jo_joinAnew_11 : decode b_Jo_joinAnew 11 = .ok (.bipush 30, 2) := by decide +kernel
theorem d_Jo_joinAnew_13 : decode b_Jo_joinAnew 13 = .ok (.if_icmp .ge 21, 3) := by decide +kernel
theorem d_Jo_joinAnew_16 : decode b_Jo_joinAnew 16 = .ok (.aload_n 0, 1) := by decide +kernel
theorem d_Jo_joinAnew_17 : decode b_Jo_joinAnew 17 = .ok (.aload_n 1, 1) := by decide +kernel
theorem d_Jo_joinAnew_18 : decode b_Jo_joinAnew 18 = .ok (.aload_n 2, 1) := by decide +kernel
theorem d_Jo_joinAnew_19 : decode b_Jo_joinAnew 19 = .ok (.invokevirtual 21, 3) := by decide +kernel
theorem d_Jo_joinAnew_22 : decode b_Jo_joinAnew 22 = .ok (.ifCond .eq 12, 3) := by decide +kernel
theorem d_Jo_joinAnew_25 : decode b_Jo_joinAnew 25 = .ok (.iinc 3 1, 3) := by decide +kernel
theorem d_Jo_joinAnew_28 : decode b_Jo_joinAnew 28 = .ok (.iinc 4 1, 3) := by decide +kernel
theorem d_Jo_joinAnew_31 : decode b_Jo_joinAnew 31 = .ok (.goto (-22), 3) := by decide +kernel
theorem d_Jo_joinAnew_34 : decode b_Jo_joinAnew 34 = .ok (.iload_n 3, 1) := by decide +kernel
theorem d_Jo_joinAnew_35 : decode b_Jo_joinAnew 35 = .ok (.ireturn, 1) := by decide +kernel
theorem d_Jo_joinBest_0 : decode b_Jo_joinBest 0 = .ok (.iconst 0, 1) := by decide +kernel
theorem d_Jo_joinBest_1 : decode b_Jo_joinBest 1 = .ok (.istore_n 3, 1) := by decide +kernel
theorem d_Jo_joinBest_2 : decode b_Jo_joinBest 2 = .ok (.iconst (-1), 1) := by decide +kernel
theorem d_Jo_joinBest_3 : decode b_Jo_joinBest 3 = .ok (.istore 4, 2) := by decide +kernel
theorem d_Jo_joinBest_5 : decode b_Jo_joinBest 5 = .ok (.iconst (-1), 1) := by decide +kernel
theorem d_Jo_joinBest_6 : decode b_Jo_joinBest 6 = .ok (.istore 5, 2) := by decide +kernel
theorem d_Jo_joinBest_8 : decode b_Jo_joinBest 8 = .ok (.iconst 0, 1) := by decide +kernel
theorem d_Jo_joinBest_9 : decode b_Jo_joinBest 9 = .ok (.istore 6, 2) := by decide +kernel
theorem d_Jo_joinBest_11 : decode b_Jo_joinBest 11 = .ok (.iload 6, 2) := by decide +kernel
theorem d_Jo_joinBest_13 : decode b_Jo_joinBest 13 = .ok (.aload_n 1, 1) := by decide +kernel
theorem d_Jo_joinBest_14 : decode b_Jo_joinBest 14 = .ok (.getfield 25, 3) := by decide +kernel
theorem d_Jo_joinBest_17 : decode b_Jo_joinBest 17 = .ok (.if_icmp .ge 84, 3) := by decide +kernel
theorem d_Jo_joinBest_20 : decode b_Jo_joinBest 20 = .ok (.aload_n 0, 1) := by decide +kernel
theorem d_Jo_joinBest_21 : decode b_Jo_joinBest 21 = .ok (.getfield 9, 3) := by decide +kernel
theorem d_Jo_joinBest_24 : decode b_Jo_joinBest 24 = .ok (.iload 6, 2) := by decide +kernel
theorem d_Jo_joinBest_26 : decode b_Jo_joinBest 26 = .ok (.iaload, 1) := by decide +kernel
theorem d_Jo_joinBest_27 : decode b_Jo_joinBest 27 = .ok (.iconst (-1), 1) := by decide +kernel
theorem d_Jo_joinBest_28 : decode b_Jo_joinBest 28 = .ok (.if_icmp .eq 6, 3) := by decide +kernel
theorem d_Jo_joinBest_31 : decode b_Jo_joinBest 31 = .ok (.goto 64, 3) := by decide +kernel
theorem d_Jo_joinBest_34 : decode b_Jo_joinBest 34 = .ok (.iconst 0, 1) := by decide +kernel
theorem d_Jo_joinBest_35 : decode b_Jo_joinBest 35 = .ok (.istore 7, 2) := by decide +kernel
theorem d_Jo_joinBest_37 : decode b_Jo_joinBest 37 = .ok (.iload 7, 2) := by decide +kernel
theorem d_Jo_joinBest_39 : decode b_Jo_joinBest 39 = .ok (.aload_n 2, 1) := by decide +kernel
theorem d_Jo_joinBest_40 : decode b_Jo_joinBest 40 = .ok (.getfield 25, 3) := by decide +kernel
theorem d_Jo_joinBest_43 : decode b_Jo_joinBest 43 = .ok (.if_icmp .ge 52, 3) := by decide +kernel
theorem d_Jo_joinBest_46 : decode b_Jo_joinBest 46 = .ok (.aload_n 0, 1) := by decide +kernel
theorem d_Jo_joinBest_47 : decode b_Jo_joinBest 47 = .ok (.getfield 15, 3) := by decide +kernel
theorem d_Jo_joinBest_50 : decode b_Jo_joinBest 50 = .ok (.iload 7, 2) := by decide +kernel
theorem d_Jo_joinBest_52 : decode b_Jo_joinBest 52 = .ok (.iaload, 1) := by decide +kernel
theorem d_Jo_joinBest_53 : decode b_Jo_joinBest 53 = .ok (.iconst (-1), 1) := by decide +kernel
theorem d_Jo_joinBest_54 : decode b_Jo_joinBest 54 = .ok (.if_icmp .ne 15, 3) := by decide +kernel
theorem d_Jo_joinBest_57 : decode b_Jo_joinBest 57 = .ok (.aload_n 1, 1) := by decide +kernel
theorem d_Jo_joinBest_58 : decode b_Jo_joinBest 58 = .ok (.iload 6, 2) := by decide +kernel
theorem d_Jo_joinBest_60 : decode b_Jo_joinBest 60 = .ok (.aload_n 2, 1) := by decide +kernel
theorem d_Jo_joinBest_61 : decode b_Jo_joinBest 61 = .ok (.iload 7, 2) := by decide +kernel
theorem d_Jo_joinBest_63 : decode b_Jo_joinBest 63 = .ok (.invokevirtual 31, 3) := by decide +kernel
theorem d_Jo_joinBest_66 : decode b_Jo_joinBest 66 = .ok (.goto 4, 3) := by decide +kernel
theorem d_Jo_joinBest_69 : decode b_Jo_joinBest 69 = .ok (.iconst 0, 1) := by decide +kernel
theorem d_Jo_joinBest_70 : decode b_Jo_joinBest 70 = .ok (.istore 8, 2) := by decide +kernel
theorem d_Jo_joinBest_72 : decode b_Jo_joinBest 72 = .ok (.iload 8, 2) := by decide +kernel
theorem d_Jo_joinBest_74 : decode b_Jo_joinBest 74 = .ok (.iload_n 3, 1) := by decide +kernel
theorem d_Jo_joinBest_75 : decode b_Jo_joinBest 75 = .ok (.if_icmp .le 14, 3) := by decide +kernel
theorem d_Jo_joinBest_78 : decode b_Jo_joinBest 78 = .ok (.iload 8, 2) := by decide +kernel
theorem d_Jo_joinBest_80 : decode b_Jo_joinBest 80 = .ok (.istore_n 3, 1) := by decide +kernel
theorem d_Jo_joinBest_81 : decode b_Jo_joinBest 81 = .ok (.iload 6, 2) := by decide +kernel
theorem d_Jo_joinBest_83 : decode b_Jo_joinBest 83 = .ok (.istore 4, 2) := by decide +kernel
theorem d_Jo_joinBest_85 : decode b_Jo_joinBest 85 = .ok (.iload 7, 2) := by decide +kernel
theorem d_Jo_joinBest_87 : decode b_Jo_joinBest 87 = .ok (.istore 5, 2) := by decide +kernel
theorem d_Jo_joinBest_89 : decode b_Jo_joinBest 89 = .ok (.iinc 7 1, 3) := by decide +kernel
theorem d_Jo_joinBest_92 : decode b_Jo_joinBest 92 = .ok (.goto (-55), 3) := by decide +kernel
theorem d_Jo_joinBest_95 : decode b_Jo_joinBest 95 = .ok (.iinc 6 1, 3) := by decide +kernel
theorem d_Jo_joinBest_98 : decode b_Jo_joinBest 98 = .ok (.goto (-87), 3) := by decide +kernel
theorem d_Jo_joinBest_101 : decode b_Jo_joinBest 101 = .ok (.iload 4, 2) := by decide +kernel
theorem d_Jo_joinBest_103 : decode b_Jo_joinBest 103 = .ok (.iconst (-1), 1) := by decide +kernel
theorem d_Jo_joinBest_104 : decode b_Jo_joinBest 104 = .ok (.if_icmp .eq 9, 3) := by decide +kernel
theorem d_Jo_joinBest_107 : decode b_Jo_joinBest 107 = .ok (.iload 5, 2) := by decide +kernel
theorem d_Jo_joinBest_109 : decode b_Jo_joinBest 109 = .ok (.iconst (-1), 1) := by decide +kernel
theorem d_Jo_joinBest_110 : decode b_Jo_joinBest 110 = .ok (.if_icmp .ne 5, 3) := by decide +kernel
theorem d_Jo_joinBest_113 : decode b_Jo_joinBest 113 = .ok (.iconst 0, 1) := by decide +kernel
theorem d_Jo_joinBest_114 : decode b_Jo_joinBest 114 = .ok (.ireturn, 1) := by decide +kernel
theorem d_Jo_joinBest_115 : decode b_Jo_joinBest 115 = .ok (.aload_n 0, 1) := by decide +kernel
theorem d_Jo_joinBest_116 : decode b_Jo_joinBest 116 = .ok (.getfield 9, 3) := by decide +kernel
theorem d_Jo_joinBest_119 : decode b_Jo_joinBest 119 = .ok (.iload 4, 2) := by decide +kernel
theorem d_Jo_joinBest_121 : decode b_Jo_joinBest 121 = .ok (.iload 5, 2) := by decide +kernel
theorem d_Jo_joinBest_123 : decode b_Jo_joinBest 123 = .ok (.iastore, 1) := by decide +kernel
theorem d_Jo_joinBest_124 : decode b_Jo_joinBest 124 = .ok (.aload_n 0, 1) := by decide +kernel
theorem d_Jo_joinBest_125 : decode b_Jo_joinBest 125 = .ok (.getfield 15, 3) := by decide +kernel
theorem d_Jo_joinBest_128 : decode b_Jo_joinBest 128 = .ok (.iload 5, 2) := by decide +kernel
theorem d_Jo_joinBest_130 : decode b_Jo_joinBest 130 = .ok (.iload 4, 2) := by decide +kernel
theorem d_Jo_joinBest_132 : decode b_Jo_joinBest 132 = .ok (.iastore, 1) := by decide +kernel
theorem d_Jo_joinBest_133 : decode b_Jo_joinBest 133 = .ok (.iconst 1, 1) := by decide +kernel
theorem d_Jo_joinBest_134 : decode b_Jo_joinBest 134 = .ok (.ireturn, 1) := by decide +kernel
theorem d_Jo_saleOf_0 : decode b_Jo_saleOf 0 = .ok (.iload_n 1, 1) := by decide +kernel
theorem d_Jo_saleOf_1 : decode b_Jo_saleOf 1 = .ok (.ifCond .lt 18, 3) := by decide +kernel
theorem d_Jo_saleOf_4 : decode b_Jo_saleOf 4 = .ok (.iload_n 1, 1) := by decide +kernel
theorem d_Jo_saleOf_5 : decode b_Jo_saleOf 5 = .ok (.bipush 30, 2) := by decide +kernel
theorem d_Jo_saleOf_7 : decode b_Jo_saleOf 7 = .ok (.if_icmp .ge 12, 3) := by decide +kernel
theorem d_Jo_saleOf_10 : decode b_Jo_saleOf 10 = .ok (.aload_n 0, 1) := by decide +kernel
theorem d_Jo_saleOf_11 : decode b_Jo_saleOf 11 = .ok (.getfield 9, 3) := by decide +kernel
theorem d_Jo_saleOf_14 : decode b_Jo_saleOf 14 = .ok (.iload_n 1, 1) := by decide +kernel
theorem d_Jo_saleOf_15 : decode b_Jo_saleOf 15 = .ok (.iaload, 1) := by decide +kernel
theorem d_Jo_saleOf_16 : decode b_Jo_saleOf 16 = .ok (.goto 4, 3) := by decide +kernel
theorem d_Jo_saleOf_19 : decode b_Jo_saleOf 19 = .ok (.iconst (-1), 1) := by decide +kernel
theorem d_Jo_saleOf_20 : decode b_Jo_saleOf 20 = .ok (.ireturn, 1) := by decide +kernel
theorem d_Jo_waiting_0 : decode b_Jo_waiting 0 = .ok (.iconst 0, 1) := by decide +kernel
theorem d_Jo_waiting_1 : decode b_Jo_waiting 1 = .ok (.istore 4, 2) := by decide +kernel
theorem d_Jo_waiting_3 : decode b_Jo_waiting 3 = .ok (.iconst 0, 1) := by decide +kernel
theorem d_Jo_waiting_4 : decode b_Jo_waiting 4 = .ok (.istore 5, 2) := by decide +kernel
theorem d_Jo_waiting_6 : decode b_Jo_waiting 6 = .ok (.iload 5, 2) := by decide +kernel
theorem d_Jo_waiting_8 : decode b_Jo_waiting 8 = .ok (.aload_n 1, 1) := by decide +kernel
theorem d_Jo_waiting_9 : decode b_Jo_waiting 9 = .ok (.getfield 25, 3) := by decide +kernel
theorem d_Jo_waiting_12 : decode b_Jo_waiting 12 = .ok (.if_icmp .ge 61, 3) := by decide +kernel
theorem d_Jo_waiting_15 : decode b_Jo_waiting 15 = .ok (.iload_n 2, 1) := by decide +kernel
theorem d_Jo_waiting_16 : decode b_Jo_waiting 16 = .ok (.i2l, 1) := by decide +kernel
theorem d_Jo_waiting_17 : decode b_Jo_waiting 17 = .ok (.aload_n 1, 1) := by decide +kernel
theorem d_Jo_waiting_18 : decode b_Jo_waiting 18 = .ok (.getfield 35, 3) := by decide +kernel
theorem d_Jo_waiting_21 : decode b_Jo_waiting 21 = .ok (.iload 5, 2) := by decide +kernel
theorem d_Jo_waiting_23 : decode b_Jo_waiting 23 = .ok (.iaload, 1) := by decide +kernel
theorem d_Jo_waiting_24 : decode b_Jo_waiting 24 = .ok (.i2l, 1) := by decide +kernel
theorem d_Jo_waiting_25 : decode b_Jo_waiting 25 = .ok (.lsub, 1) := by decide +kernel
theorem d_Jo_waiting_26 : decode b_Jo_waiting 26 = .ok (.lstore 6, 2) := by decide +kernel
theorem d_Jo_waiting_28 : decode b_Jo_waiting 28 = .ok (.aload_n 0, 1) := by decide +kernel
theorem d_Jo_waiting_29 : decode b_Jo_waiting 29 = .ok (.getfield 9, 3) := by decide +kernel
theorem d_Jo_waiting_32 : decode b_Jo_waiting 32 = .ok (.iload 5, 2) := by decide +kernel
theorem d_Jo_waiting_34 : decode b_Jo_waiting 34 = .ok (.iaload, 1) := by decide +kernel
theorem d_Jo_waiting_35 : decode b_Jo_waiting 35 = .ok (.iconst (-1), 1) := by decide +kernel
theorem d_Jo_waiting_36 : decode b_Jo_waiting 36 = .ok (.if_icmp .ne 31, 3) := by decide +kernel
theorem d_Jo_waiting_39 : decode b_Jo_waiting 39 = .ok (.lload 6, 2) := by decide +kernel
theorem d_Jo_waiting_41 : decode b_Jo_waiting 41 = .ok (.lconst 0, 1) := by decide +kernel
theorem d_Jo_waiting_42 : decode b_Jo_waiting 42 = .ok (.lcmp, 1) := by decide +kernel
theorem d_Jo_waiting_43 : decode b_Jo_waiting 43 = .ok (.ifCond .lt 24, 3) := by decide +kernel
theorem d_Jo_waiting_46 : decode b_Jo_waiting 46 = .ok (.lload 6, 2) := by decide +kernel
theorem d_Jo_waiting_48 : decode b_Jo_waiting 48 = .ok (.ldc2_w 38, 3) := by decide +kernel
theorem d_Jo_waiting_51 : decode b_Jo_waiting 51 = .ok (.lcmp, 1) := by decide +kernel
theorem d_Jo_waiting_52 : decode b_Jo_waiting 52 = .ok (.ifCond .gt 15, 3) := by decide +kernel
theorem d_Jo_waiting_55 : decode b_Jo_waiting 55 = .ok (.iload 4, 2) := by decide +kernel
theorem d_Jo_waiting_57 : decode b_Jo_waiting 57 = .ok (.iload_n 3, 1) := by decide +kernel
theorem d_Jo_waiting_58 : decode b_Jo_waiting 58 = .ok (.if_icmp .ne 6, 3) := by decide +kernel
theorem d_Jo_waiting_61 : decode b_Jo_waiting 61 = .ok (.iload 5, 2) := by decide +kernel
theorem d_Jo_waiting_63 : decode b_Jo_waiting 63 = .ok (.ireturn, 1) := by decide +kernel
theorem d_Jo_waiting_64 : decode b_Jo_waiting 64 = .ok (.iinc 4 1, 3) := by decide +kernel
theorem d_Jo_waiting_67 : decode b_Jo_waiting 67 = .ok (.iinc 5 1, 3) := by decide +kernel
theorem d_Jo_waiting_70 : decode b_Jo_waiting 70 = .ok (.goto (-64), 3) := by decide +kernel
theorem d_Jo_waiting_73 : decode b_Jo_waiting 73 = .ok (.iconst (-1), 1) := by decide +kernel
theorem d_Jo_waiting_74 : decode b_Jo_waiting 74 = .ok (.ireturn, 1) := by decide +kernel
theorem d_Pl_init_0 : decode b_Pl_init 0 = .ok (.aload_n 0, 1) := by decide +kernel
theorem d_Pl_init_1 : decode b_Pl_init 1 = .ok (.invokespecial 3, 3) := by decide +kernel
theorem d_Pl_init_4 : decode b_Pl_init 4 = .ok (.aload_n 0, 1) := by decide +kernel
theorem d_Pl_init_5 : decode b_Pl_init 5 = .ok (.bipush 8, 2) := by decide +kernel
theorem d_Pl_init_7 : decode b_Pl_init 7 = .ok (.newarray .long, 2) := by decide +kernel
theorem d_Pl_init_9 : decode b_Pl_init 9 = .ok (.putfield 9, 3) := by decide +kernel
theorem d_Pl_init_12 : decode b_Pl_init 12 = .ok (.aload_n 0, 1) := by decide +kernel
theorem d_Pl_init_13 : decode b_Pl_init 13 = .ok (.bipush 8, 2) := by decide +kernel
theorem d_Pl_init_15 : decode b_Pl_init 15 = .ok (.newarray .int, 2) := by decide +kernel
theorem d_Pl_init_17 : decode b_Pl_init 17 = .ok (.putfield 15, 3) := by decide +kernel
theorem d_Pl_init_20 : decode b_Pl_init 20 = .ok (.aload_n 0, 1) := by decide +kernel
theorem d_Pl_init_21 : decode b_Pl_init 21 = .ok (.bipush 8, 2) := by decide +kernel
theorem d_Pl_init_23 : decode b_Pl_init 23 = .ok (.newarray .int, 2) := by decide +kernel
theorem d_Pl_init_25 : decode b_Pl_init 25 = .ok (.putfield 19, 3) := by decide +kernel
theorem d_Pl_init_28 : decode b_Pl_init 28 = .ok (.aload_n 0, 1) := by decide +kernel
theorem d_Pl_init_29 : decode b_Pl_init 29 = .ok (.bipush 64, 2) := by decide +kernel
theorem d_Pl_init_31 : decode b_Pl_init 31 = .ok (.newarray .int, 2) := by decide +kernel
theorem d_Pl_init_33 : decode b_Pl_init 33 = .ok (.putfield 22, 3) := by decide +kernel
theorem d_Pl_init_36 : decode b_Pl_init 36 = .ok (.aload_n 0, 1) := by decide +kernel
theorem d_Pl_init_37 : decode b_Pl_init 37 = .ok (.bipush 64, 2) := by decide +kernel
theorem d_Pl_init_39 : decode b_Pl_init 39 = .ok (.newarray .long, 2) := by decide +kernel
theorem d_Pl_init_41 : decode b_Pl_init 41 = .ok (.putfield 25, 3) := by decide +kernel
theorem d_Pl_init_44 : decode b_Pl_init 44 = .ok (.aload_n 0, 1) := by decide +kernel
theorem d_Pl_init_45 : decode b_Pl_init 45 = .ok (.iconst 0, 1) := by decide +kernel
theorem d_Pl_init_46 : decode b_Pl_init 46 = .ok (.putfield 28, 3) := by decide +kernel
theorem d_Pl_init_49 : decode b_Pl_init 49 = .ok (.return_, 1) := by decide +kernel
theorem d_Pl_has_0 : decode b_Pl_has 0 = .ok (.iload_n 1, 1) := by decide +kernel
theorem d_Pl_has_1 : decode b_Pl_has 1 = .ok (.ifCond .lt 15, 3) := by decide +kernel
theorem d_Pl_has_4 : decode b_Pl_has 4 = .ok (.iload_n 1, 1) := by decide +kernel
theorem d_Pl_has_5 : decode b_Pl_has 5 = .ok (.aload_n 0, 1) := by decide +kernel
theorem d_Pl_has_6 : decode b_Pl_has 6 = .ok (.getfield 28, 3) := by decide +kernel
theorem d_Pl_has_9 : decode b_Pl_has 9 = .ok (.if_icmp .ge 7, 3) := by decide +kernel
theorem d_Pl_has_12 : decode b_Pl_has 12 = .ok (.iconst 1, 1) := by decide +kernel
theorem d_Pl_has_13 : decode b_Pl_has 13 = .ok (.goto 4, 3) := by decide +kernel
theorem d_Pl_has_16 : decode b_Pl_has 16 = .ok (.iconst 0, 1) := by decide +kernel
theorem d_Pl_has_17 : decode b_Pl_has 17 = .ok (.ireturn, 1) := by decide +kernel
theorem d_Pl_add_0 : decode b_Pl_add 0 = .ok (.aload_n 0, 1) := by decide +kernel
theorem d_Pl_add_1 : decode b_Pl_add 1 = .ok (.getfield 28, 3) := by decide +kernel
theorem d_Pl_add_4 : decode b_Pl_add 4 = .ok (.bipush 8, 2) := by decide +kernel
theorem d_Pl_add_6 : decode b_Pl_add 6 = .ok (.if_icmp .ge 24, 3) := by decide +kernel
theorem d_Pl_add_9 : decode b_Pl_add 9 = .ok (.lload_n 1, 1) := by decide +kernel
theorem d_Pl_add_10 : decode b_Pl_add 10 = .ok (.lconst 0, 1) := by decide +kernel
theorem d_Pl_add_11 : decode b_Pl_add 11 = .ok (.lcmp, 1) := by decide +kernel
theorem d_Pl_add_12 : decode b_Pl_add 12 = .ok (.ifCond .lt 18, 3) := by decide +kernel
theorem d_Pl_add_15 : decode b_Pl_add 15 = .ok (.lload_n 1, 1) := by decide +kernel
theorem d_Pl_add_16 : decode b_Pl_add 16 = .ok (.ldc2_w 32, 3) := by decide +kernel
theorem d_Pl_add_19 : decode b_Pl_add 19 = .ok (.lcmp, 1) := by decide +kernel
theorem d_Pl_add_20 : decode b_Pl_add 20 = .ok (.ifCond .gt 10, 3) := by decide +kernel
theorem d_Pl_add_23 : decode b_Pl_add 23 = .ok (.iload_n 3, 1) := by decide +kernel
theorem d_Pl_add_24 : decode b_Pl_add 24 = .ok (.invokestatic 34, 3) := by decide +kernel
theorem d_Pl_add_27 : decode b_Pl_add 27 = .ok (.ifCond .ne 5, 3) := by decide +kernel
theorem d_Pl_add_30 : decode b_Pl_add 30 = .ok (.iconst (-1), 1) := by decide +kernel
theorem d_Pl_add_31 : decode b_Pl_add 31 = .ok (.ireturn, 1) := by decide +kernel
theorem d_Pl_add_32 : decode b_Pl_add 32 = .ok (.aload_n 0, 1) := by decide +kernel
theorem d_Pl_add_33 : decode b_Pl_add 33 = .ok (.getfield 28, 3) := by decide +kernel
theorem d_Pl_add_36 : decode b_Pl_add 36 = .ok (.istore 4, 2) := by decide +kernel
theorem d_Pl_add_38 : decode b_Pl_add 38 = .ok (.aload_n 0, 1) := by decide +kernel
theorem d_Pl_add_39 : decode b_Pl_add 39 = .ok (.getfield 9, 3) := by decide +kernel
theorem d_Pl_add_42 : decode b_Pl_add 42 = .ok (.iload 4, 2) := by decide +kernel
theorem d_Pl_add_44 : decode b_Pl_add 44 = .ok (.lload_n 1, 1) := by decide +kernel
theorem d_Pl_add_45 : decode b_Pl_add 45 = .ok (.lastore, 1) := by decide +kernel
theorem d_Pl_add_46 : decode b_Pl_add 46 = .ok (.aload_n 0, 1) := by decide +kernel
theorem d_Pl_add_47 : decode b_Pl_add 47 = .ok (.getfield 15, 3) := by decide +kernel
theorem d_Pl_add_50 : decode b_Pl_add 50 = .ok (.iload 4, 2) := by decide +kernel
theorem d_Pl_add_52 : decode b_Pl_add 52 = .ok (.iload_n 3, 1) := by decide +kernel
theorem d_Pl_add_53 : decode b_Pl_add 53 = .ok (.iastore, 1) := by decide +kernel
theorem d_Pl_add_54 : decode b_Pl_add 54 = .ok (.aload_n 0, 1) := by decide +kernel
theorem d_Pl_add_55 : decode b_Pl_add 55 = .ok (.iload 4, 2) := by decide +kernel
theorem d_Pl_add_57 : decode b_Pl_add 57 = .ok (.iconst 1, 1) := by decide +kernel
theorem d_Pl_add_58 : decode b_Pl_add 58 = .ok (.iadd, 1) := by decide +kernel
theorem d_Pl_add_59 : decode b_Pl_add 59 = .ok (.putfield 28, 3) := by decide +kernel
theorem d_Pl_add_62 : decode b_Pl_add 62 = .ok (.iload 4, 2) := by decide +kernel
theorem d_Pl_add_64 : decode b_Pl_add 64 = .ok (.ireturn, 1) := by decide +kernel
theorem d_Pl_addOut_0 : decode b_Pl_addOut 0 = .ok (.aload_n 0, 1) := by decide +kernel
theorem d_Pl_addOut_1 : decode b_Pl_addOut 1 = .ok (.iload_n 1, 1) := by decide +kernel
theorem d_Pl_addOut_2 : decode b_Pl_addOut 2 = .ok (.invokevirtual 38, 3) := by decide +kernel
theorem d_Pl_addOut_5 : decode b_Pl_addOut 5 = .ok (.ifCond .eq 28, 3) := by decide +kernel
theorem d_Pl_addOut_8 : decode b_Pl_addOut 8 = .ok (.iload_n 2, 1) := by decide +kernel
theorem d_Pl_addOut_9 : decode b_Pl_addOut 9 = .ok (.invokestatic 34, 3) := by decide +kernel
theorem d_Pl_addOut_12 : decode b_Pl_addOut 12 = .ok (.ifCond .eq 21, 3) := by decide +kernel
theorem d_Pl_addOut_15 : decode b_Pl_addOut 15 = .ok (.lload_n 3, 1) := by decide +kernel
theorem d_Pl_addOut_16 : decode b_Pl_addOut 16 = .ok (.invokestatic 41, 3) := by decide +kernel
theorem d_Pl_addOut_19 : decode b_Pl_addOut 19 = .ok (.ifCond .eq 14, 3) := by decide +kernel
theorem d_Pl_addOut_22 : decode b_Pl_addOut 22 = .ok (.aload_n 0, 1) := by decide +kernel
theorem d_Pl_addOut_23 : decode b_Pl_addOut 23 = .ok (.getfield 19, 3) := by decide +kernel
theorem d_Pl_addOut_26 : decode b_Pl_addOut 26 = .ok (.iload_n 1, 1) := by decide +kernel
theorem d_Pl_addOut_27 : decode b_Pl_addOut 27 = .ok (.iaload, 1) := by decide +kernel
theorem d_Pl_addOut_28 : decode b_Pl_addOut 28 = .ok (.bipush 8, 2) := by decide +kernel
theorem d_Pl_addOut_30 : decode b_Pl_addOut 30 = .ok (.if_icmp .lt 5, 3) := by decide +kernel
theorem d_Pl_addOut_33 : decode b_Pl_addOut 33 = .ok (.iconst (-1), 1) := by decide +kernel
theorem d_Pl_addOut_34 : decode b_Pl_addOut 34 = .ok (.ireturn, 1) := by decide +kernel
theorem d_Pl_addOut_35 : decode b_Pl_addOut 35 = .ok (.aload_n 0, 1) := by decide +kernel
theorem d_Pl_addOut_36 : decode b_Pl_addOut 36 = .ok (.getfield 19, 3) := by decide +kernel
theorem d_Pl_addOut_39 : decode b_Pl_addOut 39 = .ok (.iload_n 1, 1) := by decide +kernel
theorem d_Pl_addOut_40 : decode b_Pl_addOut 40 = .ok (.iaload, 1) := by decide +kernel
theorem d_Pl_addOut_41 : decode b_Pl_addOut 41 = .ok (.istore 5, 2) := by decide +kernel
theorem d_Pl_addOut_43 : decode b_Pl_addOut 43 = .ok (.aload_n 0, 1) := by decide +kernel
theorem d_Pl_addOut_44 : decode b_Pl_addOut 44 = .ok (.getfield 22, 3) := by decide +kernel
theorem d_Pl_addOut_47 : decode b_Pl_addOut 47 = .ok (.iload_n 1, 1) := by decide +kernel
theorem d_Pl_addOut_48 : decode b_Pl_addOut 48 = .ok (.bipush 8, 2) := by decide +kernel
theorem d_Pl_addOut_50 : decode b_Pl_addOut 50 = .ok (.imul, 1) := by decide +kernel
theorem d_Pl_addOut_51 : decode b_Pl_addOut 51 = .ok (.iload 5, 2) := by decide +kernel
theorem d_Pl_addOut_53 : decode b_Pl_addOut 53 = .ok (.iadd, 1) := by decide +kernel
theorem d_Pl_addOut_54 : decode b_Pl_addOut 54 = .ok (.iload_n 2, 1) := by decide +kernel
theorem d_Pl_addOut_55 : decode b_Pl_addOut 55 = .ok (.iastore, 1) := by decide +kernel
theorem d_Pl_addOut_56 : decode b_Pl_addOut 56 = .ok (.aload_n 0, 1) := by decide +kernel
theorem d_Pl_addOut_57 : decode b_Pl_addOut 57 = .ok (.getfield 25, 3) := by decide +kernel
theorem d_Pl_addOut_60 : decode b_Pl_addOut 60 = .ok (.iload_n 1, 1) := by decide +kernel
theorem d_Pl_addOut_61 : decode b_Pl_addOut 61 = .ok (.bipush 8, 2) := by decide +kernel
theorem d_Pl_addOut_63 : decode b_Pl_addOut 63 = .ok (.imul, 1) := by decide +kernel
theorem d_Pl_addOut_64 : decode b_Pl_addOut 64 = .ok (.iload 5, 2) := by decide +kernel
theorem d_Pl_addOut_66 : decode b_Pl_addOut 66 = .ok (.iadd, 1) := by decide +kernel
theorem d_Pl_addOut_67 : decode b_Pl_addOut 67 = .ok (.lload_n 3, 1) := by decide +kernel
theorem d_Pl_addOut_68 : decode b_Pl_addOut 68 = .ok (.lastore, 1) := by decide +kernel
theorem d_Pl_addOut_69 : decode b_Pl_addOut 69 = .ok (.aload_n 0, 1) := by decide +kernel
theorem d_Pl_addOut_70 : decode b_Pl_addOut 70 = .ok (.getfield 19, 3) := by decide +kernel
theorem d_Pl_addOut_73 : decode b_Pl_addOut 73 = .ok (.iload_n 1, 1) := by decide +kernel
theorem d_Pl_addOut_74 : decode b_Pl_addOut 74 = .ok (.iload 5, 2) := by decide +kernel
theorem d_Pl_addOut_76 : decode b_Pl_addOut 76 = .ok (.iconst 1, 1) := by decide +kernel
theorem d_Pl_addOut_77 : decode b_Pl_addOut 77 = .ok (.iadd, 1) := by decide +kernel
theorem d_Pl_addOut_78 : decode b_Pl_addOut 78 = .ok (.iastore, 1) := by decide +kernel
theorem d_Pl_addOut_79 : decode b_Pl_addOut 79 = .ok (.iload 5, 2) := by decide +kernel
theorem d_Pl_addOut_81 : decode b_Pl_addOut 81 = .ok (.ireturn, 1) := by decide +kernel
theorem d_Pl_lackOf_0 : decode b_Pl_lackOf 0 = .ok (.aload_n 0, 1) := by decide +kernel
theorem d_Pl_lackOf_1 : decode b_Pl_lackOf 1 = .ok (.iload_n 1, 1) := by decide +kernel
theorem d_Pl_lackOf_2 : decode b_Pl_lackOf 2 = .ok (.invokevirtual 38, 3) := by decide +kernel
theorem d_Pl_lackOf_5 : decode b_Pl_lackOf 5 = .ok (.ifCond .eq 27, 3) := by decide +kernel
theorem d_Pl_lackOf_8 : decode b_Pl_lackOf 8 = .ok (.lconst 0, 1) := by decide +kernel
theorem d_Pl_lackOf_9 : decode b_Pl_lackOf 9 = .ok (.aload_n 0, 1) := by decide +kernel
theorem d_Pl_lackOf_10 : decode b_Pl_lackOf 10 = .ok (.iload_n 1, 1) := by decide +kernel
theorem d_Pl_lackOf_11 : decode b_Pl_lackOf 11 = .ok (.aload_n 0, 1) := by decide +kernel
theorem d_Pl_lackOf_12 : decode b_Pl_lackOf 12 = .ok (.iload_n 1, 1) := by decide +kernel
theorem d_Pl_lackOf_13 : decode b_Pl_lackOf 13 = .ok (.invokevirtual 45, 3) := by decide +kernel
theorem d_Pl_lackOf_16 : decode b_Pl_lackOf 16 = .ok (.invokevirtual 49, 3) := by decide +kernel
theorem d_Pl_lackOf_19 : decode b_Pl_lackOf 19 = .ok (.aload_n 0, 1) := by decide +kernel
theorem d_Pl_lackOf_20 : decode b_Pl_lackOf 20 = .ok (.getfield 9, 3) := by decide +kernel
theorem d_Pl_lackOf_23 : decode b_Pl_lackOf 23 = .ok (.iload_n 1, 1) := by decide +kernel
theorem d_Pl_lackOf_24 : decode b_Pl_lackOf 24 = .ok (.laload, 1) := by decide +kernel
theorem d_Pl_lackOf_25 : decode b_Pl_lackOf 25 = .ok (.lsub, 1) := by decide +kernel
theorem d_Pl_lackOf_26 : decode b_Pl_lackOf 26 = .ok (.invokestatic 53, 3) := by decide +kernel
theorem d_Pl_lackOf_29 : decode b_Pl_lackOf 29 = .ok (.goto 4, 3) := by decide +kernel
theorem d_Pl_lackOf_32 : decode b_Pl_lackOf 32 = .ok (.lconst 0, 1) := by decide +kernel
theorem d_Pl_lackOf_33 : decode b_Pl_lackOf 33 = .ok (.lreturn, 1) := by decide +kernel
theorem d_Pl_leastSet_0 : decode b_Pl_leastSet 0 = .ok (.aload_n 0, 1) := by decide +kernel
theorem d_Pl_leastSet_1 : decode b_Pl_leastSet 1 = .ok (.iload_n 1, 1) := by decide +kernel
theorem d_Pl_leastSet_2 : decode b_Pl_leastSet 2 = .ok (.invokevirtual 59, 3) := by decide +kernel
theorem d_Pl_leastSet_5 : decode b_Pl_leastSet 5 = .ok (.lstore_n 2, 1) := by decide +kernel
theorem d_Pl_leastSet_6 : decode b_Pl_leastSet 6 = .ok (.lload_n 2, 1) := by decide +kernel
theorem d_Pl_leastSet_7 : decode b_Pl_leastSet 7 = .ok (.lconst 0, 1) := by decide +kernel
theorem d_Pl_leastSet_8 : decode b_Pl_leastSet 8 = .ok (.lcmp, 1) := by decide +kernel
theorem d_Pl_leastSet_9 : decode b_Pl_leastSet 9 = .ok (.ifCond .gt 5, 3) := by decide +kernel
theorem d_Pl_leastSet_12 : decode b_Pl_leastSet 12 = .ok (.iconst 0, 1) := by decide +kernel
theorem d_Pl_leastSet_13 : decode b_Pl_leastSet 13 = .ok (.ireturn, 1) := by decide +kernel
theorem d_Pl_leastSet_14 : decode b_Pl_leastSet 14 = .ok (.aload_n 0, 1) := by decide +kernel
theorem d_Pl_leastSet_15 : decode b_Pl_leastSet 15 = .ok (.iload_n 1, 1) := by decide +kernel
theorem d_Pl_leastSet_16 : decode b_Pl_leastSet 16 = .ok (.invokevirtual 45, 3) := by decide +kernel
theorem d_Pl_leastSet_19 : decode b_Pl_leastSet 19 = .ok (.istore 4, 2) := by decide +kernel
theorem d_Pl_leastSet_21 : decode b_Pl_leastSet 21 = .ok (.iload 4, 2) := by decide +kernel
theorem d_Pl_leastSet_23 : decode b_Pl_leastSet 23 = .ok (.istore 5, 2) := by decide +kernel
theorem d_Pl_leastSet_25 : decode b_Pl_leastSet 25 = .ok (.iconst 1, 1) := by decide +kernel
theorem d_Pl_leastSet_26 : decode b_Pl_leastSet 26 = .ok (.istore 6, 2) := by decide +kernel
theorem d_Pl_leastSet_28 : decode b_Pl_leastSet 28 = .ok (.iload 6, 2) := by decide +kernel
theorem d_Pl_leastSet_30 : decode b_Pl_leastSet 30 = .ok (.iload 4, 2) := by decide +kernel
theorem d_Pl_leastSet_32 : decode b_Pl_leastSet 32 = .ok (.if_icmp .gt 57, 3) := by decide +kernel
theorem d_Pl_leastSet_35 : decode b_Pl_leastSet 35 = .ok (.iload 6, 2) := by decide +kernel
theorem d_Pl_leastSet_37 : decode b_Pl_leastSet 37 = .ok (.iload 4, 2) := by decide +kernel
theorem d_Pl_leastSet_39 : decode b_Pl_leastSet 39 = .ok (.iconst (-1), 1) := by decide +kernel
theorem d_Pl_leastSet_40 : decode b_Pl_leastSet 40 = .ok (.ixor, 1) := by decide +kernel
theorem d_Pl_leastSet_41 : decode b_Pl_leastSet 41 = .ok (.iand, 1) := by decide +kernel
theorem d_Pl_leastSet_42 : decode b_Pl_leastSet 42 = .ok (.ifCond .ne 7, 3) := by decide +kernel
theorem d_Pl_leastSet_45 : decode b_Pl_leastSet 45 = .ok (.iconst 1, 1) := by decide +kernel
theorem d_Pl_leastSet_46 : decode b_Pl_leastSet 46 = .ok (.goto 4, 3) := by decide +kernel
theorem d_Pl_leastSet_49 : decode b_Pl_leastSet 49 = .ok (.iconst 0, 1) := by decide +kernel
theorem d_Pl_leastSet_50 : decode b_Pl_leastSet 50 = .ok (.istore 7, 2) := by decide +kernel
theorem d_Pl_leastSet_52 : decode b_Pl_leastSet 52 = .ok (.iload 7, 2) := by decide +kernel
theorem d_Pl_leastSet_54 : decode b_Pl_leastSet 54 = .ok (.ifCond .eq 29, 3) := by decide +kernel
theorem d_Pl_leastSet_57 : decode b_Pl_leastSet 57 = .ok (.iload 6, 2) := by decide +kernel
theorem d_Pl_leastSet_59 : decode b_Pl_leastSet 59 = .ok (.iload 5, 2) := by decide +kernel
theorem d_Pl_leastSet_61 : decode b_Pl_leastSet 61 = .ok (.invokestatic 63, 3) := by decide +kernel
theorem d_Pl_leastSet_64 : decode b_Pl_leastSet 64 = .ok (.ifCond .eq 19, 3) := by decide +kernel
theorem d_Pl_leastSet_67 : decode b_Pl_leastSet 67 = .ok (.aload_n 0, 1) := by decide +kernel
theorem d_Pl_leastSet_68 : decode b_Pl_leastSet 68 = .ok (.iload_n 1, 1) := by decide +kernel
theorem d_Pl_leastSet_69 : decode b_Pl_leastSet 69 = .ok (.iload 6, 2) := by decide +kernel
theorem d_Pl_leastSet_71 : decode b_Pl_leastSet 71 = .ok (.invokevirtual 49, 3) := by decide +kernel
theorem d_Pl_leastSet_74 : decode b_Pl_leastSet 74 = .ok (.lload_n 2, 1) := by decide +kernel
theorem d_Pl_leastSet_75 : decode b_Pl_leastSet 75 = .ok (.lcmp, 1) := by decide +kernel
theorem d_Pl_leastSet_76 : decode b_Pl_leastSet 76 = .ok (.ifCond .lt 7, 3) := by decide +kernel
theorem d_Pl_leastSet_79 : decode b_Pl_leastSet 79 = .ok (.iload 6, 2) := by decide +kernel
theorem d_Pl_leastSet_81 : decode b_Pl_leastSet 81 = .ok (.istore 5, 2) := by decide +kernel
theorem d_Pl_leastSet_83 : decode b_Pl_leastSet 83 = .ok (.iinc 6 1, 3) := by decide +kernel
theorem d_Pl_leastSet_86 : decode b_Pl_leastSet 86 = .ok (.goto (-58), 3) := by decide +kernel
theorem d_Pl_leastSet_89 : decode b_Pl_leastSet 89 = .ok (.iload 5, 2) := by decide +kernel
theorem d_Pl_leastSet_91 : decode b_Pl_leastSet 91 = .ok (.ireturn, 1) := by decide +kernel
theorem d_Pl_ownKind_0 : decode b_Pl_ownKind 0 = .ok (.iconst 0, 1) := by decide +kernel
theorem d_Pl_ownKind_1 : decode b_Pl_ownKind 1 = .ok (.istore_n 2, 1) := by decide +kernel
theorem d_Pl_ownKind_2 : decode b_Pl_ownKind 2 = .ok (.iconst 0, 1) := by decide +kernel
theorem d_Pl_ownKind_3 : decode b_Pl_ownKind 3 = .ok (.istore_n 3, 1) := by decide +kernel
theorem d_Pl_ownKind_4 : decode b_Pl_ownKind 4 = .ok (.iload_n 3, 1) := by decide +kernel
theorem d_Pl_ownKind_5 : decode b_Pl_ownKind 5 = .ok (.aload_n 0, 1) := by decide +kernel
theorem d_Pl_ownKind_6 : decode b_Pl_ownKind 6 = .ok (.getfield 19, 3) := by decide +kernel
theorem d_Pl_ownKind_9 : decode b_Pl_ownKind 9 = .ok (.iload_n 1, 1) := by decide +kernel
theorem d_Pl_ownKind_10 : decode b_Pl_ownKind 10 = .ok (.iaload, 1) := by decide +kernel
theorem d_Pl_ownKind_11 : decode b_Pl_ownKind 11 = .ok (.if_icmp .ge 35, 3) := by decide +kernel
theorem d_Pl_ownKind_14 : decode b_Pl_ownKind 14 = .ok (.aload_n 0, 1) := by decide +kernel
theorem d_Pl_ownKind_15 : decode b_Pl_ownKind 15 = .ok (.getfield 22, 3) := by decide +kernel
theorem d_Pl_ownKind_18 : decode b_Pl_ownKind 18 = .ok (.iload_n 1, 1) := by decide +kernel
theorem d_Pl_ownKind_19 : decode b_Pl_ownKind 19 = .ok (.bipush 8, 2) := by decide +kernel
theorem d_Pl_ownKind_21 : decode b_Pl_ownKind 21 = .ok (.imul, 1) := by decide +kernel
theorem d_Pl_ownKind_22 : decode b_Pl_ownKind 22 = .ok (.iload_n 3, 1) := by decide +kernel
theorem d_Pl_ownKind_23 : decode b_Pl_ownKind 23 = .ok (.iadd, 1) := by decide +kernel
theorem d_Pl_ownKind_24 : decode b_Pl_ownKind 24 = .ok (.iaload, 1) := by decide +kernel
theorem d_Pl_ownKind_25 : decode b_Pl_ownKind 25 = .ok (.aload_n 0, 1) := by decide +kernel
theorem d_Pl_ownKind_26 : decode b_Pl_ownKind 26 = .ok (.getfield 15, 3) := by decide +kernel
theorem d_Pl_ownKind_29 : decode b_Pl_ownKind 29 = .ok (.iload_n 1, 1) := by decide +kernel
theorem d_Pl_ownKind_30 : decode b_Pl_ownKind 30 = .ok (.iaload, 1) := by decide +kernel
theorem d_Pl_ownKind_31 : decode b_Pl_ownKind 31 = .ok (.if_icmp .ne 9, 3) := by decide +kernel
theorem d_Pl_ownKind_34 : decode b_Pl_ownKind 34 = .ok (.iload_n 2, 1) := by decide +kernel
theorem d_Pl_ownKind_35 : decode b_Pl_ownKind 35 = .ok (.iconst 1, 1) := by decide +kernel
theorem d_Pl_ownKind_36 : decode b_Pl_ownKind 36 = .ok (.iload_n 3, 1) := by decide +kernel
theorem d_Pl_ownKind_37 : decode b_Pl_ownKind 37 = .ok (.ishl, 1) := by decide +kernel
theorem d_Pl_ownKind_38 : decode b_Pl_ownKind 38 = .ok (.ior, 1) := by decide +kernel
theorem d_Pl_ownKind_39 : decode b_Pl_ownKind 39 = .ok (.istore_n 2, 1) := by decide +kernel
theorem d_Pl_ownKind_40 : decode b_Pl_ownKind 40 = .ok (.iinc 3 1, 3) := by decide +kernel
theorem d_Pl_ownKind_43 : decode b_Pl_ownKind 43 = .ok (.goto (-39), 3) := by decide +kernel
theorem d_Pl_ownKind_46 : decode b_Pl_ownKind 46 = .ok (.iload_n 2, 1) := by decide +kernel
theorem d_Pl_ownKind_47 : decode b_Pl_ownKind 47 = .ok (.ireturn, 1) := by decide +kernel
theorem d_Pl_gramsOfSet_0 : decode b_Pl_gramsOfSet 0 = .ok (.lconst 0, 1) := by decide +kernel
theorem d_Pl_gramsOfSet_1 : decode b_Pl_gramsOfSet 1 = .ok (.lstore_n 3, 1) := by decide +kernel
theorem d_Pl_gramsOfSet_2 : decode b_Pl_gramsOfSet 2 = .ok (.iconst 0, 1) := by decide +kernel
theorem d_Pl_gramsOfSet_3 : decode b_Pl_gramsOfSet 3 = .ok (.istore 5, 2) := by decide +kernel
theorem d_Pl_gramsOfSet_5 : decode b_Pl_gramsOfSet 5 = .ok (.iload 5, 2) := by decide +kernel
theorem d_Pl_gramsOfSet_7 : decode b_Pl_gramsOfSet 7 = .ok (.aload_n 0, 1) := by decide +kernel
theorem d_Pl_gramsOfSet_8 : decode b_Pl_gramsOfSet 8 = .ok (.getfield 19, 3) := by decide +kernel
theorem d_Pl_gramsOfSet_11 : decode b_Pl_gramsOfSet 11 = .ok (.iload_n 1, 1) := by decide +kernel
theorem d_Pl_gramsOfSet_12 : decode b_Pl_gramsOfSet 12 = .ok (.iaload, 1) := by decide +kernel
theorem d_Pl_gramsOfSet_13 : decode b_Pl_gramsOfSet 13 = .ok (.if_icmp .ge 33, 3) := by decide +kernel
theorem d_Pl_gramsOfSet_16 : decode b_Pl_gramsOfSet 16 = .ok (.iload_n 2, 1) := by decide +kernel
theorem d_Pl_gramsOfSet_17 : decode b_Pl_gramsOfSet 17 = .ok (.iconst 1, 1) := by decide +kernel
theorem d_Pl_gramsOfSet_18 : decode b_Pl_gramsOfSet 18 = .ok (.iload 5, 2) := by decide +kernel
theorem d_Pl_gramsOfSet_20 : decode b_Pl_gramsOfSet 20 = .ok (.ishl, 1) := by decide +kernel
theorem d_Pl_gramsOfSet_21 : decode b_Pl_gramsOfSet 21 = .ok (.iand, 1) := by decide +kernel
theorem d_Pl_gramsOfSet_22 : decode b_Pl_gramsOfSet 22 = .ok (.ifCond .eq 18, 3) := by decide +kernel
theorem d_Pl_gramsOfSet_25 : decode b_Pl_gramsOfSet 25 = .ok (.lload_n 3, 1) := by decide +kernel
theorem d_Pl_gramsOfSet_26 : decode b_Pl_gramsOfSet 26 = .ok (.aload_n 0, 1) := by decide +kernel
theorem d_Pl_gramsOfSet_27 : decode b_Pl_gramsOfSet 27 = .ok (.getfield 25, 3) := by decide +kernel
theorem d_Pl_gramsOfSet_30 : decode b_Pl_gramsOfSet 30 = .ok (.iload_n 1, 1) := by decide +kernel
theorem d_Pl_gramsOfSet_31 : decode b_Pl_gramsOfSet 31 = .ok (.bipush 8, 2) := by decide +kernel
theorem d_Pl_gramsOfSet_33 : decode b_Pl_gramsOfSet 33 = .ok (.imul, 1) := by decide +kernel
theorem d_Pl_gramsOfSet_34 : decode b_Pl_gramsOfSet 34 = .ok (.iload 5, 2) := by decide +kernel
theorem d_Pl_gramsOfSet_36 : decode b_Pl_gramsOfSet 36 = .ok (.iadd, 1) := by decide +kernel
theorem d_Pl_gramsOfSet_37 : decode b_Pl_gramsOfSet 37 = .ok (.laload, 1) := by decide +kernel
theorem d_Pl_gramsOfSet_38 : decode b_Pl_gramsOfSet 38 = .ok (.ladd, 1) := by decide +kernel
theorem d_Pl_gramsOfSet_39 : decode b_Pl_gramsOfSet 39 = .ok (.lstore_n 3, 1) := by decide +kernel
theorem d_Pl_gramsOfSet_40 : decode b_Pl_gramsOfSet 40 = .ok (.iinc 5 1, 3) := by decide +kernel
theorem d_Pl_gramsOfSet_43 : decode b_Pl_gramsOfSet 43 = .ok (.goto (-38), 3) := by decide +kernel
theorem d_Pl_gramsOfSet_46 : decode b_Pl_gramsOfSet 46 = .ok (.lload_n 3, 1) := by decide +kernel
theorem d_Pl_gramsOfSet_47 : decode b_Pl_gramsOfSet 47 = .ok (.lreturn, 1) := by decide +kernel
theorem d_Pl_isBefore_0 : decode b_Pl_isBefore 0 = .ok (.iload_n 1, 1) := by decide +kernel
theorem d_Pl_isBefore_1 : decode b_Pl_isBefore 1 = .ok (.invokestatic 67, 3) := by decide +kernel
theorem d_Pl_isBefore_4 : decode b_Pl_isBefore 4 = .ok (.iload_n 0, 1) := by decide +kernel
theorem d_Pl_isBefore_5 : decode b_Pl_isBefore 5 = .ok (.invokestatic 67, 3) := by decide +kernel
theorem d_Pl_isBefore_8 : decode b_Pl_isBefore 8 = .ok (.isub, 1) := by decide +kernel
theorem d_Pl_isBefore_9 : decode b_Pl_isBefore 9 = .ok (.istore_n 2, 1) := by decide +kernel
theorem d_Pl_isBefore_10 : decode b_Pl_isBefore 10 = .ok (.iload_n 0, 1) := by decide +kernel
theorem d_Pl_isBefore_11 : decode b_Pl_isBefore 11 = .ok (.iload_n 1, 1) := by decide +kernel
theorem d_Pl_isBefore_12 : decode b_Pl_isBefore 12 = .ok (.ixor, 1) := by decide +kernel
theorem d_Pl_isBefore_13 : decode b_Pl_isBefore 13 = .ok (.istore_n 3, 1) := by decide +kernel
theorem d_Pl_isBefore_14 : decode b_Pl_isBefore 14 = .ok (.iload_n 3, 1) := by decide +kernel
theorem d_Pl_isBefore_15 : decode b_Pl_isBefore 15 = .ok (.iload_n 3, 1) := by decide +kernel
theorem d_Pl_isBefore_16 : decode b_Pl_isBefore 16 = .ok (.ineg, 1) := by decide +kernel
theorem d_Pl_isBefore_17 : decode b_Pl_isBefore 17 = .ok (.iand, 1) := by decide +kernel
theorem d_Pl_isBefore_18 : decode b_Pl_isBefore 18 = .ok (.istore 4, 2) := by decide +kernel
theorem d_Pl_isBefore_20 : decode b_Pl_isBefore 20 = .ok (.iload_n 2, 1) := by decide +kernel
theorem d_Pl_isBefore_21 : decode b_Pl_isBefore 21 = .ok (.ifCond .gt 14, 3) := by decide +kernel
theorem d_Pl_isBefore_24 : decode b_Pl_isBefore 24 = .ok (.iload_n 2, 1) := by decide +kernel
theorem d_Pl_isBefore_25 : decode b_Pl_isBefore 25 = .ok (.ifCond .ne 14, 3) := by decide +kernel
theorem d_Pl_isBefore_28 : decode b_Pl_isBefore 28 = .ok (.iload_n 0, 1) := by decide +kernel
theorem d_Pl_isBefore_29 : decode b_Pl_isBefore 29 = .ok (.iload 4, 2) := by decide +kernel
theorem d_Pl_isBefore_31 : decode b_Pl_isBefore 31 = .ok (.iand, 1) := by decide +kernel
theorem d_Pl_isBefore_32 : decode b_Pl_isBefore 32 = .ok (.ifCond .eq 7, 3) := by decide +kernel
theorem d_Pl_isBefore_35 : decode b_Pl_isBefore 35 = .ok (.iconst 1, 1) := by decide +kernel
theorem d_Pl_isBefore_36 : decode b_Pl_isBefore 36 = .ok (.goto 4, 3) := by decide +kernel
theorem d_Pl_isBefore_39 : decode b_Pl_isBefore 39 = .ok (.iconst 0, 1) := by decide +kernel
theorem d_Pl_isBefore_40 : decode b_Pl_isBefore 40 = .ok (.ireturn, 1) := by decide +kernel
theorem d_Ri_init_0 : decode b_Ri_init 0 = .ok (.aload_n 0, 1) := by decide +kernel
theorem d_Ri_init_1 : decode b_Ri_init 1 = .ok (.invokespecial 3, 3) := by decide +kernel
theorem d_Ri_init_4 : decode b_Ri_init 4 = .ok (.aload_n 0, 1) := by decide +kernel
theorem d_Ri_init_5 : decode b_Ri_init 5 = .ok (.bipush 10, 2) := by decide +kernel
theorem d_Ri_init_7 : decode b_Ri_init 7 = .ok (.newarray .int, 2) := by decide +kernel
theorem d_Ri_init_9 : decode b_Ri_init 9 = .ok (.putfield 9, 3) := by decide +kernel
theorem d_Ri_init_12 : decode b_Ri_init 12 = .ok (.aload_n 0, 1) := by decide +kernel
theorem d_Ri_init_13 : decode b_Ri_init 13 = .ok (.bipush 30, 2) := by decide +kernel
theorem d_Ri_init_15 : decode b_Ri_init 15 = .ok (.newarray .int, 2) := by decide +kernel
theorem d_Ri_init_17 : decode b_Ri_init 17 = .ok (.putfield 15, 3) := by decide +kernel
theorem d_Ri_init_20 : decode b_Ri_init 20 = .ok (.iconst 0, 1) := by decide +kernel
theorem d_Ri_init_21 : decode b_Ri_init 21 = .ok (.istore_n 1, 1) := by decide +kernel
theorem d_Ri_init_22 : decode b_Ri_init 22 = .ok (.iload_n 1, 1) := by decide +kernel
theorem d_Ri_init_23 : decode b_Ri_init 23 = .ok (.bipush 10, 2) := by decide +kernel
theorem d_Ri_init_25 : decode b_Ri_init 25 = .ok (.if_icmp .ge 18, 3) := by decide +kernel
theorem d_Ri_init_28 : decode b_Ri_init 28 = .ok (.aload_n 0, 1) := by decide +kernel
theorem d_Ri_init_29 : decode b_Ri_init 29 = .ok (.getfield 9, 3) := by decide +kernel
theorem d_Ri_init_32 : decode b_Ri_init 32 = .ok (.iload_n 1, 1) := by decide +kernel
theorem d_Ri_init_33 : decode b_Ri_init 33 = .ok (.sipush 2520, 3) := by decide +kernel
theorem d_Ri_init_36 : decode b_Ri_init 36 = .ok (.iastore, 1) := by decide +kernel
theorem d_Ri_init_37 : decode b_Ri_init 37 = .ok (.iinc 1 1, 3) := by decide +kernel
theorem d_Ri_init_40 : decode b_Ri_init 40 = .ok (.goto (-18), 3) := by decide +kernel
theorem d_Ri_init_43 : decode b_Ri_init 43 = .ok (.return_, 1) := by decide +kernel
theorem d_Ri_set_0 : decode b_Ri_set 0 = .ok (.iload_n 1, 1) := by decide +kernel
theorem d_Ri_set_1 : decode b_Ri_set 1 = .ok (.invokestatic 18, 3) := by decide +kernel
theorem d_Ri_set_4 : decode b_Ri_set 4 = .ok (.ifCond .eq 23, 3) := by decide +kernel
theorem d_Ri_set_7 : decode b_Ri_set 7 = .ok (.iload_n 3, 1) := by decide +kernel
theorem d_Ri_set_8 : decode b_Ri_set 8 = .ok (.iconst 1, 1) := by decide +kernel
theorem d_Ri_set_9 : decode b_Ri_set 9 = .ok (.if_icmp .lt 18, 3) := by decide +kernel
theorem d_Ri_set_12 : decode b_Ri_set 12 = .ok (.iload_n 3, 1) := by decide +kernel
theorem d_Ri_set_13 : decode b_Ri_set 13 = .ok (.bipush 10, 2) := by decide +kernel
theorem d_Ri_set_15 : decode b_Ri_set 15 = .ok (.if_icmp .gt 12, 3) := by decide +kernel
theorem d_Ri_set_18 : decode b_Ri_set 18 = .ok (.iload_n 2, 1) := by decide +kernel
theorem d_Ri_set_19 : decode b_Ri_set 19 = .ok (.ifCond .lt 8, 3) := by decide +kernel
theorem d_Ri_set_22 : decode b_Ri_set 22 = .ok (.iload_n 2, 1) := by decide +kernel
theorem d_Ri_set_23 : decode b_Ri_set 23 = .ok (.iload_n 3, 1) := by decide +kernel
theorem d_Ri_set_24 : decode b_Ri_set 24 = .ok (.if_icmp .le 5, 3) := by decide +kernel
theorem d_Ri_set_27 : decode b_Ri_set 27 = .ok (.iconst 0, 1) := by decide +kernel
theorem d_Ri_set_28 : decode b_Ri_set 28 = .ok (.ireturn, 1) := by decide +kernel
theorem d_Ri_set_29 : decode b_Ri_set 29 = .ok (.aload_n 0, 1) := by decide +kernel
theorem d_Ri_set_30 : decode b_Ri_set 30 = .ok (.getfield 9, 3) := by decide +kernel
theorem d_Ri_set_33 : decode b_Ri_set 33 = .ok (.iload_n 1, 1) := by decide +kernel
theorem d_Ri_set_34 : decode b_Ri_set 34 = .ok (.sipush 2520, 3) := by decide +kernel
theorem d_Ri_set_37 : decode b_Ri_set 37 = .ok (.iload_n 3, 1) := by decide +kernel
theorem d_Ri_set_38 : decode b_Ri_set 38 = .ok (.idiv, 1) := by decide +kernel
theorem d_Ri_set_39 : decode b_Ri_set 39 = .ok (.iload_n 2, 1) := by decide +kernel
theorem d_Ri_set_40 : decode b_Ri_set 40 = .ok (.imul, 1) := by decide +kernel
theorem d_Ri_set_41 : decode b_Ri_set 41 = .ok (.iastore, 1) := by decide +kernel
theorem d_Ri_set_42 : decode b_Ri_set 42 = .ok (.iconst 1, 1) := by decide +kernel
theorem d_Ri_set_43 : decode b_Ri_set 43 = .ok (.ireturn, 1) := by decide +kernel
theorem d_Ri_take_0 : decode b_Ri_take 0 = .ok (.aload 5, 2) := by decide +kernel
theorem d_Ri_take_2 : decode b_Ri_take 2 = .ok (.iload 4, 2) := by decide +kernel
theorem d_Ri_take_4 : decode b_Ri_take 4 = .ok (.invokevirtual 22, 3) := by decide +kernel
theorem d_Ri_take_7 : decode b_Ri_take 7 = .ok (.aload_n 0, 1) := by decide +kernel
theorem d_Ri_take_8 : decode b_Ri_take 8 = .ok (.aload_n 1, 1) := by decide +kernel
theorem d_Ri_take_9 : decode b_Ri_take 9 = .ok (.invokevirtual 28, 3) := by decide +kernel
theorem d_Ri_take_12 : decode b_Ri_take 12 = .ok (.istore 6, 2) := by decide +kernel
theorem d_Ri_take_14 : decode b_Ri_take 14 = .ok (.lload_n 2, 1) := by decide +kernel
theorem d_Ri_take_15 : decode b_Ri_take 15 = .ok (.lstore 7, 2) := by decide +kernel
theorem d_Ri_take_17 : decode b_Ri_take 17 = .ok (.iconst 0, 1) := by decide +kernel
theorem d_Ri_take_18 : decode b_Ri_take 18 = .ok (.istore 9, 2) := by decide +kernel
theorem d_Ri_take_20 : decode b_Ri_take 20 = .ok (.iload 9, 2) := by decide +kernel
theorem d_Ri_take_22 : decode b_Ri_take 22 = .ok (.iload 4, 2) := by decide +kernel
theorem d_Ri_take_24 : decode b_Ri_take 24 = .ok (.if_icmp .ge 80, 3) := by decide +kernel
theorem d_Ri_take_27 : decode b_Ri_take 27 = .ok (.iload 6, 2) := by decide +kernel
theorem d_Ri_take_29 : decode b_Ri_take 29 = .ok (.ifCond .le 75, 3) := by decide +kernel
theorem d_Ri_take_32 : decode b_Ri_take 32 = .ok (.lload 7, 2) := by decide +kernel
theorem d_Ri_take_34 : decode b_Ri_take 34 = .ok (.ldc2_w 32, 3) := by decide +kernel
theorem d_Ri_take_37 : decode b_Ri_take 37 = .ok (.lmul, 1) := by decide +kernel
theorem d_Ri_take_38 : decode b_Ri_take 38 = .ok (.ldc2_w 34, 3) := by decide +kernel
theorem d_Ri_take_41 : decode b_Ri_take 41 = .ok (.ladd, 1) := by decide +kernel
theorem d_Ri_take_42 : decode b_Ri_take 42 = .ok (.lstore 7, 2) := by decide +kernel
theorem d_Ri_take_44 : decode b_Ri_take 44 = .ok (.aload_n 0, 1) := by decide +kernel
theorem d_Ri_take_45 : decode b_Ri_take 45 = .ok (.aload_n 1, 1) := by decide +kernel
theorem d_Ri_take_46 : decode b_Ri_take 46 = .ok (.getfield 36, 3) := by decide +kernel
theorem d_Ri_take_49 : decode b_Ri_take 49 = .ok (.lload 7, 2) := by decide +kernel
theorem d_Ri_take_51 : decode b_Ri_take 51 = .ok (.bipush 33, 2) := by decide +kernel
theorem d_Ri_take_53 : decode b_Ri_take 53 = .ok (.lushr, 1) := by decide +kernel
theorem d_Ri_take_54 : decode b_Ri_take 54 = .ok (.iload 6, 2) := by decide +kernel
theorem d_Ri_take_56 : decode b_Ri_take 56 = .ok (.i2l, 1) := by decide +kernel
theorem d_Ri_take_57 : decode b_Ri_take 57 = .ok (.lrem, 1) := by decide +kernel
theorem d_Ri_take_58 : decode b_Ri_take 58 = .ok (.l2i, 1) := by decide +kernel
theorem d_Ri_take_59 : decode b_Ri_take 59 = .ok (.invokevirtual 42, 3) := by decide +kernel
theorem d_Ri_take_62 : decode b_Ri_take 62 = .ok (.istore 10, 2) := by decide +kernel
theorem d_Ri_take_64 : decode b_Ri_take 64 = .ok (.iload 10, 2) := by decide +kernel
theorem d_Ri_take_66 : decode b_Ri_take 66 = .ok (.iconst (-1), 1) := by decide +kernel
theorem d_Ri_take_67 : decode b_Ri_take 67 = .ok (.if_icmp .ne 4, 3) := by decide +kernel
theorem d_Ri_take_70 : decode b_Ri_take 70 = .ok (.return_, 1) := by decide +kernel
theorem d_Ri_take_71 : decode b_Ri_take 71 = .ok (.aload 5, 2) := by decide +kernel
theorem d_Ri_take_73 : decode b_Ri_take 73 = .ok (.iload 10, 2) := by decide +kernel
theorem d_Ri_take_75 : decode b_Ri_take 75 = .ok (.invokevirtual 46, 3) := by decide +kernel
theorem d_Ri_take_78 : decode b_Ri_take 78 = .ok (.iload 6, 2) := by decide +kernel
theorem d_Ri_take_80 : decode b_Ri_take 80 = .ok (.aload_n 0, 1) := by decide +kernel
theorem d_Ri_take_81 : decode b_Ri_take 81 = .ok (.getfield 15, 3) := by decide +kernel
theorem d_Ri_take_84 : decode b_Ri_take 84 = .ok (.iload 10, 2) := by decide +kernel
theorem d_Ri_take_86 : decode b_Ri_take 86 = .ok (.iaload, 1) := by decide +kernel
theorem d_Ri_take_87 : decode b_Ri_take 87 = .ok (.isub, 1) := by decide +kernel
theorem d_Ri_take_88 : decode b_Ri_take 88 = .ok (.istore 6, 2) := by decide +kernel
theorem d_Ri_take_90 : decode b_Ri_take 90 = .ok (.aload_n 0, 1) := by decide +kernel
theorem d_Ri_take_91 : decode b_Ri_take 91 = .ok (.getfield 15, 3) := by decide +kernel
theorem d_Ri_take_94 : decode b_Ri_take 94 = .ok (.iload 10, 2) := by decide +kernel
theorem d_Ri_take_96 : decode b_Ri_take 96 = .ok (.iconst 0, 1) := by decide +kernel
theorem d_Ri_take_97 : decode b_Ri_take 97 = .ok (.iastore, 1) := by decide +kernel
theorem d_Ri_take_98 : decode b_Ri_take 98 = .ok (.iinc 9 1, 3) := by decide +kernel
theorem d_Ri_take_101 : decode b_Ri_take 101 = .ok (.goto (-81), 3) := by decide +kernel
theorem d_Ri_take_104 : decode b_Ri_take 104 = .ok (.return_, 1) := by decide +kernel
theorem d_Ri_weighAll_0 : decode b_Ri_weighAll 0 = .ok (.iconst 0, 1) := by decide +kernel
theorem d_Ri_weighAll_1 : decode b_Ri_weighAll 1 = .ok (.istore_n 2, 1) := by decide +kernel
theorem d_Ri_weighAll_2 : decode b_Ri_weighAll 2 = .ok (.iconst 0, 1) := by decide +kernel
theorem d_Ri_weighAll_3 : decode b_Ri_weighAll 3 = .ok (.istore_n 3, 1) := by decide +kernel
theorem d_Ri_weighAll_4 : decode b_Ri_weighAll 4 = .ok (.iload_n 3, 1) := by decide +kernel
theorem d_Ri_weighAll_5 : decode b_Ri_weighAll 5 = .ok (.aload_n 1, 1) := by decide +kernel
theorem d_Ri_weighAll_6 : decode b_Ri_weighAll 6 = .ok (.getfield 36, 3) := by decide +kernel
theorem d_Ri_weighAll_9 : decode b_Ri_weighAll 9 = .ok (.if_icmp .ge 35, 3) := by decide +kernel
theorem d_Ri_weighAll_12 : decode b_Ri_weighAll 12 = .ok (.aload_n 0, 1) := by decide +kernel
theorem d_Ri_weighAll_13 : decode b_Ri_weighAll 13 = .ok (.getfield 15, 3) := by decide +kernel
theorem d_Ri_weighAll_16 : decode b_Ri_weighAll 16 = .ok (.iload_n 3, 1) := by decide +kernel
theorem d_Ri_weighAll_17 : decode b_Ri_weighAll 17 = .ok (.aload_n 0, 1) := by decide +kernel
theorem d_Ri_weighAll_18 : decode b_Ri_weighAll 18 = .ok (.getfield 9, 3) := by decide +kernel
theorem d_Ri_weighAll_21 : decode b_Ri_weighAll 21 = .ok (.aload_n 1, 1) := by decide +kernel
theorem d_Ri_weighAll_22 : decode b_Ri_weighAll 22 = .ok (.getfield 49, 3) := by decide +kernel
theorem d_Ri_weighAll_25 : decode b_Ri_weighAll 25 = .ok (.iload_n 3, 1) := by decide +kernel
theorem d_Ri_weighAll_26 : decode b_Ri_weighAll 26 = .ok (.iaload, 1) := by decide +kernel
theorem d_Ri_weighAll_27 : decode b_Ri_weighAll 27 = .ok (.iaload, 1) := by decide +kernel
theorem d_Ri_weighAll_28 : decode b_Ri_weighAll 28 = .ok (.iastore, 1) := by decide +kernel
theorem d_Ri_weighAll_29 : decode b_Ri_weighAll 29 = .ok (.iload_n 2, 1) := by decide +kernel
theorem d_Ri_weighAll_30 : decode b_Ri_weighAll 30 = .ok (.aload_n 0, 1) := by decide +kernel
theorem d_Ri_weighAll_31 : decode b_Ri_weighAll 31 = .ok (.getfield 15, 3) := by decide +kernel
theorem d_Ri_weighAll_34 : decode b_Ri_weighAll 34 = .ok (.iload_n 3, 1) := by decide +kernel
theorem d_Ri_weighAll_35 : decode b_Ri_weighAll 35 = .ok (.iaload, 1) := by decide +kernel
theorem d_Ri_weighAll_36 : decode b_Ri_weighAll 36 = .ok (.iadd, 1) := by decide +kernel
theorem d_Ri_weighAll_37 : decode b_Ri_weighAll 37 = .ok (.istore_n 2, 1) := by decide +kernel
theorem d_Ri_weighAll_38 : decode b_Ri_weighAll 38 = .ok (.iinc 3 1, 3) := by decide +kernel
theorem d_Ri_weighAll_41 : decode b_Ri_weighAll 41 = .ok (.goto (-37), 3) := by decide +kernel
theorem d_Ri_weighAll_44 : decode b_Ri_weighAll 44 = .ok (.iload_n 2, 1) := by decide +kernel
theorem d_Ri_weighAll_45 : decode b_Ri_weighAll 45 = .ok (.ireturn, 1) := by decide +kernel
theorem d_Ri_pageOver_0 : decode b_Ri_pageOver 0 = .ok (.iconst 0, 1) := by decide +kernel
theorem d_Ri_pageOver_1 : decode b_Ri_pageOver 1 = .ok (.istore_n 3, 1) := by decide +kernel
theorem d_Ri_pageOver_2 : decode b_Ri_pageOver 2 = .ok (.iconst 0, 1) := by decide +kernel
theorem d_Ri_pageOver_3 : decode b_Ri_pageOver 3 = .ok (.istore 4, 2) := by decide +kernel
theorem d_Ri_pageOver_5 : decode b_Ri_pageOver 5 = .ok (.iload 4, 2) := by decide +kernel
theorem d_Ri_pageOver_7 : decode b_Ri_pageOver 7 = .ok (.iload_n 1, 1) := by decide +kernel
theorem d_Ri_pageOver_8 : decode b_Ri_pageOver 8 = .ok (.if_icmp .ge 34, 3) := by decide +kernel
theorem d_Ri_pageOver_11 : decode b_Ri_pageOver 11 = .ok (.iload 4, 2) := by decide +kernel
theorem d_Ri_pageOver_13 : decode b_Ri_pageOver 13 = .ok (.bipush 30, 2) := by decide +kernel
theorem d_Ri_pageOver_15 : decode b_Ri_pageOver 15 = .ok (.if_icmp .ge 27, 3) := by decide +kernel
theorem d_Ri_pageOver_18 : decode b_Ri_pageOver 18 = .ok (.iload_n 3, 1) := by decide +kernel
theorem d_Ri_pageOver_19 : decode b_Ri_pageOver 19 = .ok (.aload_n 0, 1) := by decide +kernel
theorem d_Ri_pageOver_20 : decode b_Ri_pageOver 20 = .ok (.getfield 15, 3) := by decide +kernel
theorem d_Ri_pageOver_23 : decode b_Ri_pageOver 23 = .ok (.iload 4, 2) := by decide +kernel
theorem d_Ri_pageOver_25 : decode b_Ri_pageOver 25 = .ok (.iaload, 1) := by decide +kernel
theorem d_Ri_pageOver_26 : decode b_Ri_pageOver 26 = .ok (.iadd, 1) := by decide +kernel
theorem d_Ri_pageOver_27 : decode b_Ri_pageOver 27 = .ok (.istore_n 3, 1) := by decide +kernel
theorem d_Ri_pageOver_28 : decode b_Ri_pageOver 28 = .ok (.iload_n 3, 1) := by decide +kernel
theorem d_Ri_pageOver_29 : decode b_Ri_pageOver 29 = .ok (.iload_n 2, 1) := by decide +kernel
theorem d_Ri_pageOver_30 : decode b_Ri_pageOver 30 = .ok (.if_icmp .le 6, 3) := by decide +kernel
theorem d_Ri_pageOver_33 : decode b_Ri_pageOver 33 = .ok (.iload 4, 2) := by decide +kernel
theorem d_Ri_pageOver_35 : decode b_Ri_pageOver 35 = .ok (.ireturn, 1) := by decide +kernel
theorem d_Ri_pageOver_36 : decode b_Ri_pageOver 36 = .ok (.iinc 4 1, 3) := by decide +kernel
theorem d_Ri_pageOver_39 : decode b_Ri_pageOver 39 = .ok (.goto (-34), 3) := by decide +kernel
theorem d_Ri_pageOver_42 : decode b_Ri_pageOver 42 = .ok (.iconst (-1), 1) := by decide +kernel
theorem d_Ri_pageOver_43 : decode b_Ri_pageOver 43 = .ok (.ireturn, 1) := by decide +kernel
theorem d_Ro_init_0 : decode b_Ro_init 0 = .ok (.aload_n 0, 1) := by decide +kernel
theorem d_Ro_init_1 : decode b_Ro_init 1 = .ok (.invokespecial 3, 3) := by decide +kernel
theorem d_Ro_init_4 : decode b_Ro_init 4 = .ok (.aload_n 0, 1) := by decide +kernel
theorem d_Ro_init_5 : decode b_Ro_init 5 = .ok (.bipush 30, 2) := by decide +kernel
theorem d_Ro_init_7 : decode b_Ro_init 7 = .ok (.newarray .int, 2) := by decide +kernel
theorem d_Ro_init_9 : decode b_Ro_init 9 = .ok (.putfield 9, 3) := by decide +kernel
theorem d_Ro_init_12 : decode b_Ro_init 12 = .ok (.aload_n 0, 1) := by decide +kernel
theorem d_Ro_init_13 : decode b_Ro_init 13 = .ok (.iconst 0, 1) := by decide +kernel
theorem d_Ro_init_14 : decode b_Ro_init 14 = .ok (.putfield 15, 3) := by decide +kernel
theorem d_Ro_init_17 : decode b_Ro_init 17 = .ok (.aload_n 0, 1) := by decide +kernel
theorem d_Ro_init_18 : decode b_Ro_init 18 = .ok (.iconst 0, 1) := by decide +kernel
theorem d_Ro_init_19 : decode b_Ro_init 19 = .ok (.putfield 19, 3) := by decide +kernel
theorem d_Ro_init_22 : decode b_Ro_init 22 = .ok (.return_, 1) := by decide +kernel
theorem d_Ro_begin_0 : decode b_Ro_begin 0 = .ok (.aload_n 0, 1) := by decide +kernel
theorem d_Ro_begin_1 : decode b_Ro_begin 1 = .ok (.iconst 0, 1) := by decide +kernel
theorem d_Ro_begin_2 : decode b_Ro_begin 2 = .ok (.putfield 15, 3) := by decide +kernel
theorem d_Ro_begin_5 : decode b_Ro_begin 5 = .ok (.aload_n 0, 1) := by decide +kernel
theorem d_Ro_begin_6 : decode b_Ro_begin 6 = .ok (.iload_n 1, 1) := by decide +kernel
theorem d_Ro_begin_7 : decode b_Ro_begin 7 = .ok (.putfield 19, 3) := by decide +kernel
theorem d_Ro_begin_10 : decode b_Ro_begin 10 = .ok (.return_, 1) := by decide +kernel
theorem d_Ro_append_0 : decode b_Ro_append 0 = .ok (.aload_n 0, 1) := by decide +kernel
theorem d_Ro_append_1 : decode b_Ro_append 1 = .ok (.getfield 15, 3) := by decide +kernel
theorem d_Ro_append_4 : decode b_Ro_append 4 = .ok (.bipush 30, 2) := by decide +kernel
theorem d_Ro_append_6 : decode b_Ro_append 6 = .ok (.if_icmp .ge 23, 3) := by decide +kernel
theorem d_Ro_append_9 : decode b_Ro_append 9 = .ok (.aload_n 0, 1) := by decide +kernel
theorem d_Ro_append_10 : decode b_Ro_append 10 = .ok (.getfield 9, 3) := by decide +kernel
theorem d_Ro_append_13 : decode b_Ro_append 13 = .ok (.aload_n 0, 1) := by decide +kernel
theorem d_Ro_append_14 : decode b_Ro_append 14 = .ok (.getfield 15, 3) := by decide +kernel
theorem d_Ro_append_17 : decode b_Ro_append 17 = .ok (.iload_n 1, 1) := by decide +kernel
theorem d_Ro_append_18 : decode b_Ro_append 18 = .ok (.iastore, 1) := by decide +kernel
theorem d_Ro_append_19 : decode b_Ro_append 19 = .ok (.aload_n 0, 1) := by decide +kernel
theorem d_Ro_append_20 : decode b_Ro_append 20 = .ok (.dup, 1) := by decide +kernel
theorem d_Ro_append_21 : decode b_Ro_append 21 = .ok (.getfield 15, 3) := by decide +kernel
theorem d_Ro_append_24 : decode b_Ro_append 24 = .ok (.iconst 1, 1) := by decide +kernel
theorem d_Ro_append_25 : decode b_Ro_append 25 = .ok (.iadd, 1) := by decide +kernel
theorem d_Ro_append_26 : decode b_Ro_append 26 = .ok (.putfield 15, 3) := by decide +kernel
theorem d_Ro_append_29 : decode b_Ro_append 29 = .ok (.return_, 1) := by decide +kernel
theorem d_Ro_at_0 : decode b_Ro_at 0 = .ok (.iload_n 1, 1) := by decide +kernel
theorem d_Ro_at_1 : decode b_Ro_at 1 = .ok (.ifCond .lt 20, 3) := by decide +kernel
theorem d_Ro_at_4 : decode b_Ro_at 4 = .ok (.iload_n 1, 1) := by decide +kernel
theorem d_Ro_at_5 : decode b_Ro_at 5 = .ok (.aload_n 0, 1) := by decide +kernel
theorem d_Ro_at_6 : decode b_Ro_at 6 = .ok (.getfield 15, 3) := by decide +kernel
theorem d_Ro_at_9 : decode b_Ro_at 9 = .ok (.if_icmp .ge 12, 3) := by decide +kernel
theorem d_Ro_at_12 : decode b_Ro_at 12 = .ok (.aload_n 0, 1) := by decide +kernel
theorem d_Ro_at_13 : decode b_Ro_at 13 = .ok (.getfield 9, 3) := by decide +kernel
theorem d_Ro_at_16 : decode b_Ro_at 16 = .ok (.iload_n 1, 1) := by decide +kernel
theorem d_Ro_at_17 : decode b_Ro_at 17 = .ok (.iaload, 1) := by decide +kernel
theorem d_Ro_at_18 : decode b_Ro_at 18 = .ok (.goto 4, 3) := by decide +kernel
theorem d_Ro_at_21 : decode b_Ro_at 21 = .ok (.iconst (-1), 1) := by decide +kernel
theorem d_Ro_at_22 : decode b_Ro_at 22 = .ok (.ireturn, 1) := by decide +kernel
theorem d_Ro_equalTo_0 : decode b_Ro_equalTo 0 = .ok (.aload_n 0, 1) := by decide +kernel
theorem d_Ro_equalTo_1 : decode b_Ro_equalTo 1 = .ok (.getfield 15, 3) := by decide +kernel
theorem d_Ro_equalTo_4 : decode b_Ro_equalTo 4 = .ok (.aload_n 1, 1) := by decide +kernel
theorem d_Ro_equalTo_5 : decode b_Ro_equalTo 5 = .ok (.getfield 15, 3) := by decide +kernel
theorem d_Ro_equalTo_8 : decode b_Ro_equalTo 8 = .ok (.if_icmp .eq 5, 3) := by decide +kernel
theorem d_Ro_equalTo_11 : decode b_Ro_equalTo 11 = .ok (.iconst 0, 1) := by decide +kernel
theorem d_Ro_equalTo_12 : decode b_Ro_equalTo 12 = .ok (.ireturn, 1) := by decide +kernel
theorem d_Ro_equalTo_13 : decode b_Ro_equalTo 13 = .ok (.iconst 0, 1) := by decide +kernel
theorem d_Ro_equalTo_14 : decode b_Ro_equalTo 14 = .ok (.istore_n 2, 1) := by decide +kernel
theorem d_Ro_equalTo_15 : decode b_Ro_equalTo 15 = .ok (.iload_n 2, 1) := by decide +kernel
theorem d_Ro_equalTo_16 : decode b_Ro_equalTo 16 = .ok (.aload_n 0, 1) := by decide +kernel
theorem d_Ro_equalTo_17 : decode b_Ro_equalTo 17 = .ok (.getfield 15, 3) := by decide +kernel
theorem d_Ro_equalTo_20 : decode b_Ro_equalTo 20 = .ok (.if_icmp .ge 26, 3) := by decide +kernel
theorem d_Ro_equalTo_23 : decode b_Ro_equalTo 23 = .ok (.aload_n 0, 1) := by decide +kernel
theorem d_Ro_equalTo_24 : decode b_Ro_equalTo 24 = .ok (.getfield 9, 3) := by decide +kernel
theorem d_Ro_equalTo_27 : decode b_Ro_equalTo 27 = .ok (.iload_n 2, 1) := by decide +kernel
theorem d_Ro_equalTo_28 : decode b_Ro_equalTo 28 = .ok (.iaload, 1) := by decide +kernel
theorem d_Ro_equalTo_29 : decode b_Ro_equalTo 29 = .ok (.aload_n 1, 1) := by decide +kernel
theorem d_Ro_equalTo_30 : decode b_Ro_equalTo 30 = .ok (.getfield 9, 3) := by decide +kernel
theorem d_Ro_equalTo_33 : decode b_Ro_equalTo 33 = .ok (.iload_n 2, 1) := by decide +kernel
theorem d_Ro_equalTo_34 : decode b_Ro_equalTo 34 = .ok (.iaload, 1) := by decide +kernel
theorem d_Ro_equalTo_35 : decode b_Ro_equalTo 35 = .ok (.if_icmp .eq 5, 3) := by decide +kernel
theorem d_Ro_equalTo_38 : decode b_Ro_equalTo 38 = .ok (.iconst 0, 1) := by decide +kernel
theorem d_Ro_equalTo_39 : decode b_Ro_equalTo 39 = .ok (.ireturn, 1) := by decide +kernel
theorem d_Ro_equalTo_40 : decode b_Ro_equalTo 40 = .ok (.iinc 2 1, 3) := by decide +kernel
theorem d_Ro_equalTo_43 : decode b_Ro_equalTo 43 = .ok (.goto (-28), 3) := by decide +kernel
theorem d_Ro_equalTo_46 : decode b_Ro_equalTo 46 = .ok (.iconst 1, 1) := by decide +kernel
theorem d_Ro_equalTo_47 : decode b_Ro_equalTo 47 = .ok (.ireturn, 1) := by decide +kernel
theorem d_Wa_init_0 : decode b_Wa_init 0 = .ok (.aload_n 0, 1) := by decide +kernel
theorem d_Wa_init_1 : decode b_Wa_init 1 = .ok (.invokespecial 3, 3) := by decide +kernel
theorem d_Wa_init_4 : decode b_Wa_init 4 = .ok (.aload_n 0, 1) := by decide +kernel
theorem d_Wa_init_5 : decode b_Wa_init 5 = .ok (.bipush 30, 2) := by decide +kernel
theorem d_Wa_init_7 : decode b_Wa_init 7 = .ok (.newarray .long, 2) := by decide +kernel
theorem d_Wa_init_9 : decode b_Wa_init 9 = .ok (.putfield 9, 3) := by decide +kernel
theorem d_Wa_init_12 : decode b_Wa_init 12 = .ok (.return_, 1) := by decide +kernel
theorem d_Wa_most_0 : decode b_Wa_most 0 = .ok (.aload_n 0, 1) := by decide +kernel
theorem d_Wa_most_1 : decode b_Wa_most 1 = .ok (.aload_n 1, 1) := by decide +kernel
theorem d_Wa_most_2 : decode b_Wa_most 2 = .ok (.iload_n 2, 1) := by decide +kernel
theorem d_Wa_most_3 : decode b_Wa_most 3 = .ok (.invokevirtual 15, 3) := by decide +kernel
theorem d_Wa_most_6 : decode b_Wa_most 6 = .ok (.istore 4, 2) := by decide +kernel
theorem d_Wa_most_8 : decode b_Wa_most 8 = .ok (.iload_n 3, 1) := by decide +kernel
theorem d_Wa_most_9 : decode b_Wa_most 9 = .ok (.i2l, 1) := by decide +kernel
theorem d_Wa_most_10 : decode b_Wa_most 10 = .ok (.lstore 5, 2) := by decide +kernel
theorem d_Wa_most_12 : decode b_Wa_most 12 = .ok (.iconst 0, 1) := by decide +kernel
theorem d_Wa_most_13 : decode b_Wa_most 13 = .ok (.istore 7, 2) := by decide +kernel
theorem d_Wa_most_15 : decode b_Wa_most 15 = .ok (.iconst 0, 1) := by decide +kernel
theorem d_Wa_most_16 : decode b_Wa_most 16 = .ok (.istore 8, 2) := by decide +kernel
theorem d_Wa_most_18 : decode b_Wa_most 18 = .ok (.iload 8, 2) := by decide +kernel
theorem d_Wa_most_20 : decode b_Wa_most 20 = .ok (.iload 4, 2) := by decide +kernel
theorem d_Wa_most_22 : decode b_Wa_most 22 = .ok (.if_icmp .ge 37, 3) := by decide +kernel
theorem d_Wa_most_25 : decode b_Wa_most 25 = .ok (.aload_n 0, 1) := by decide +kernel
theorem d_Wa_most_26 : decode b_Wa_most 26 = .ok (.getfield 9, 3) := by decide +kernel
theorem d_Wa_most_29 : decode b_Wa_most 29 = .ok (.iload 8, 2) := by decide +kernel
theorem d_Wa_most_31 : decode b_Wa_most 31 = .ok (.laload, 1) := by decide +kernel
theorem d_Wa_most_32 : decode b_Wa_most 32 = .ok (.lload 5, 2) := by decide +kernel
theorem d_Wa_most_34 : decode b_Wa_most 34 = .ok (.lcmp, 1) := by decide +kernel
theorem d_Wa_most_35 : decode b_Wa_most 35 = .ok (.ifCond .gt 24, 3) := by decide +kernel
theorem d_Wa_most_38 : decode b_Wa_most 38 = .ok (.lload 5, 2) := by decide +kernel
theorem d_Wa_most_40 : decode b_Wa_most 40 = .ok (.aload_n 0, 1) := by decide +kernel
theorem d_Wa_most_41 : decode b_Wa_most 41 = .ok (.getfield 9, 3) := by decide +kernel
theorem d_Wa_most_44 : decode b_Wa_most 44 = .ok (.iload 8, 2) := by decide +kernel
theorem d_Wa_most_46 : decode b_Wa_most 46 = .ok (.laload, 1) := by decide +kernel
theorem d_Wa_most_47 : decode b_Wa_most 47 = .ok (.lsub, 1) := by decide +kernel
theorem d_Wa_most_48 : decode b_Wa_most 48 = .ok (.lstore 5, 2) := by decide +kernel
theorem d_Wa_most_50 : decode b_Wa_most 50 = .ok (.iinc 7 1, 3) := by decide +kernel
theorem d_Wa_most_53 : decode b_Wa_most 53 = .ok (.iinc 8 1, 3) := by decide +kernel
theorem d_Wa_most_56 : decode b_Wa_most 56 = .ok (.goto (-38), 3) := by decide +kernel
theorem d_Wa_most_59 : decode b_Wa_most 59 = .ok (.iload 7, 2) := by decide +kernel
theorem d_Wa_most_61 : decode b_Wa_most 61 = .ok (.ireturn, 1) := by decide +kernel
theorem d_Wa_sortMinutes_0 : decode b_Wa_sortMinutes 0 = .ok (.iconst 0, 1) := by decide +kernel
theorem d_Wa_sortMinutes_1 : decode b_Wa_sortMinutes 1 = .ok (.istore_n 3, 1) := by decide +kernel
theorem d_Wa_sortMinutes_2 : decode b_Wa_sortMinutes 2 = .ok (.iconst 0, 1) := by decide +kernel
theorem d_Wa_sortMinutes_3 : decode b_Wa_sortMinutes 3 = .ok (.istore 4, 2) := by decide +kernel
theorem d_Wa_sortMinutes_5 : decode b_Wa_sortMinutes 5 = .ok (.iload 4, 2) := by decide +kernel
theorem d_Wa_sortMinutes_7 : decode b_Wa_sortMinutes 7 = .ok (.aload_n 1, 1) := by decide +kernel
theorem d_Wa_sortMinutes_8 : decode b_Wa_sortMinutes 8 = .ok (.getfield 19, 3) := by decide +kernel
theorem d_Wa_sortMinutes_11 : decode b_Wa_sortMinutes 11 = .ok (.if_icmp .ge 49, 3) := by decide +kernel
theorem d_Wa_sortMinutes_14 : decode b_Wa_sortMinutes 14 = .ok (.aload_n 1, 1) := by decide +kernel
theorem d_Wa_sortMinutes_15 : decode b_Wa_sortMinutes 15 = .ok (.getfield 25, 3) := by decide +kernel
theorem d_Wa_sortMinutes_18 : decode b_Wa_sortMinutes 18 = .ok (.iload 4, 2) := by decide +kernel
theorem d_Wa_sortMinutes_20 : decode b_Wa_sortMinutes 20 = .ok (.iaload, 1) := by decide +kernel
theorem d_Wa_sortMinutes_21 : decode b_Wa_sortMinutes 21 = .ok (.iload_n 2, 1) := by decide +kernel
theorem d_Wa_sortMinutes_22 : decode b_Wa_sortMinutes 22 = .ok (.if_icmp .ne 32, 3) := by decide +kernel
theorem d_Wa_sortMinutes_25 : decode b_Wa_sortMinutes 25 = .ok (.aload_n 0, 1) := by decide +kernel
theorem d_Wa_sortMinutes_26 : decode b_Wa_sortMinutes 26 = .ok (.iload_n 3, 1) := by decide +kernel
theorem d_Wa_sortMinutes_27 : decode b_Wa_sortMinutes 27 = .ok (.ldc2_w 29, 3) := by decide +kernel
theorem d_Wa_sortMinutes_30 : decode b_Wa_sortMinutes 30 = .ok (.aload_n 1, 1) := by decide +kernel
theorem d_Wa_sortMinutes_31 : decode b_Wa_sortMinutes 31 = .ok (.getfield 31, 3) := by decide +kernel
theorem d_Wa_sortMinutes_34 : decode b_Wa_sortMinutes 34 = .ok (.iload 4, 2) := by decide +kernel
theorem d_Wa_sortMinutes_36 : decode b_Wa_sortMinutes 36 = .ok (.laload, 1) := by decide +kernel
theorem d_Wa_sortMinutes_37 : decode b_Wa_sortMinutes 37 = .ok (.ldc2_w 34, 3) := by decide +kernel
theorem d_Wa_sortMinutes_40 : decode b_Wa_sortMinutes 40 = .ok (.ladd, 1) := by decide +kernel
theorem d_Wa_sortMinutes_41 : decode b_Wa_sortMinutes 41 = .ok (.lconst 1, 1) := by decide +kernel
theorem d_Wa_sortMinutes_42 : decode b_Wa_sortMinutes 42 = .ok (.lsub, 1) := by decide +kernel
theorem d_Wa_sortMinutes_43 : decode b_Wa_sortMinutes 43 = .ok (.ldc2_w 34, 3) := by decide +kernel
theorem d_Wa_sortMinutes_46 : decode b_Wa_sortMinutes 46 = .ok (.ldiv, 1) := by decide +kernel
theorem d_Wa_sortMinutes_47 : decode b_Wa_sortMinutes 47 = .ok (.ladd, 1) := by decide +kernel
theorem d_Wa_sortMinutes_48 : decode b_Wa_sortMinutes 48 = .ok (.invokevirtual 36, 3) := by decide +kernel
theorem d_Wa_sortMinutes_51 : decode b_Wa_sortMinutes 51 = .ok (.iinc 3 1, 3) := by decide +kernel
theorem d_Wa_sortMinutes_54 : decode b_Wa_sortMinutes 54 = .ok (.iinc 4 1, 3) := by decide +kernel
theorem d_Wa_sortMinutes_57 : decode b_Wa_sortMinutes 57 = .ok (.goto (-52), 3) := by decide +kernel
theorem d_Wa_sortMinutes_60 : decode b_Wa_sortMinutes 60 = .ok (.iload_n 3, 1) := by decide +kernel
theorem d_Wa_sortMinutes_61 : decode b_Wa_sortMinutes 61 = .ok (.ireturn, 1) := by decide +kernel
theorem d_Wa_insert_0 : decode b_Wa_insert 0 = .ok (.iload_n 1, 1) := by decide +kernel
theorem d_Wa_insert_1 : decode b_Wa_insert 1 = .ok (.istore 4, 2) := by decide +kernel
theorem d_Wa_insert_3 : decode b_Wa_insert 3 = .ok (.iload 4, 2) := by decide +kernel
theorem d_Wa_insert_5 : decode b_Wa_insert 5 = .ok (.ifCond .le 39, 3) := by decide +kernel
theorem d_Wa_insert_8 : decode b_Wa_insert 8 = .ok (.aload_n 0, 1) := by decide +kernel
theorem d_Wa_insert_9 : decode b_Wa_insert 9 = .ok (.getfield 9, 3) := by decide +kernel
theorem d_Wa_insert_12 : decode b_Wa_insert 12 = .ok (.iload 4, 2) := by decide +kernel
theorem d_Wa_insert_14 : decode b_Wa_insert 14 = .ok (.iconst 1, 1) := by decide +kernel
theorem d_Wa_insert_15 : decode b_Wa_insert 15 = .ok (.isub, 1) := by decide +kernel
theorem d_Wa_insert_16 : decode b_Wa_insert 16 = .ok (.laload, 1) := by decide +kernel
theorem d_Wa_insert_17 : decode b_Wa_insert 17 = .ok (.lload_n 2, 1) := by decide +kernel
theorem d_Wa_insert_18 : decode b_Wa_insert 18 = .ok (.lcmp, 1) := by decide +kernel
theorem d_Wa_insert_19 : decode b_Wa_insert 19 = .ok (.ifCond .le 25, 3) := by decide +kernel
theorem d_Wa_insert_22 : decode b_Wa_insert 22 = .ok (.aload_n 0, 1) := by decide +kernel
theorem d_Wa_insert_23 : decode b_Wa_insert 23 = .ok (.getfield 9, 3) := by decide +kernel
theorem d_Wa_insert_26 : decode b_Wa_insert 26 = .ok (.iload 4, 2) := by decide +kernel
theorem d_Wa_insert_28 : decode b_Wa_insert 28 = .ok (.aload_n 0, 1) := by decide +kernel
theorem d_Wa_insert_29 : decode b_Wa_insert 29 = .ok (.getfield 9, 3) := by decide +kernel
theorem d_Wa_insert_32 : decode b_Wa_insert 32 = .ok (.iload 4, 2) := by decide +kernel
theorem d_Wa_insert_34 : decode b_Wa_insert 34 = .ok (.iconst 1, 1) := by decide +kernel
theorem d_Wa_insert_35 : decode b_Wa_insert 35 = .ok (.isub, 1) := by decide +kernel
theorem d_Wa_insert_36 : decode b_Wa_insert 36 = .ok (.laload, 1) := by decide +kernel
theorem d_Wa_insert_37 : decode b_Wa_insert 37 = .ok (.lastore, 1) := by decide +kernel
theorem d_Wa_insert_38 : decode b_Wa_insert 38 = .ok (.iinc 4 (-1), 3) := by decide +kernel
theorem d_Wa_insert_41 : decode b_Wa_insert 41 = .ok (.goto (-38), 3) := by decide +kernel
theorem d_Wa_insert_44 : decode b_Wa_insert 44 = .ok (.aload_n 0, 1) := by decide +kernel
theorem d_Wa_insert_45 : decode b_Wa_insert 45 = .ok (.getfield 9, 3) := by decide +kernel
theorem d_Wa_insert_48 : decode b_Wa_insert 48 = .ok (.iload 4, 2) := by decide +kernel
theorem d_Wa_insert_50 : decode b_Wa_insert 50 = .ok (.lload_n 2, 1) := by decide +kernel
theorem d_Wa_insert_51 : decode b_Wa_insert 51 = .ok (.lastore, 1) := by decide +kernel
theorem d_Wa_insert_52 : decode b_Wa_insert 52 = .ok (.return_, 1) := by decide +kernel
theorem d_In_bitCount_0 : decode b_In_bitCount 0 = .ok (.iload_n 0, 1) := by decide +kernel
theorem d_In_bitCount_1 : decode b_In_bitCount 1 = .ok (.iload_n 0, 1) := by decide +kernel
theorem d_In_bitCount_2 : decode b_In_bitCount 2 = .ok (.iconst 1, 1) := by decide +kernel
theorem d_In_bitCount_3 : decode b_In_bitCount 3 = .ok (.iushr, 1) := by decide +kernel
theorem d_In_bitCount_4 : decode b_In_bitCount 4 = .ok (.ldc_w 265, 3) := by decide +kernel
theorem d_In_bitCount_7 : decode b_In_bitCount 7 = .ok (.iand, 1) := by decide +kernel
theorem d_In_bitCount_8 : decode b_In_bitCount 8 = .ok (.isub, 1) := by decide +kernel
theorem d_In_bitCount_9 : decode b_In_bitCount 9 = .ok (.istore_n 0, 1) := by decide +kernel
theorem d_In_bitCount_10 : decode b_In_bitCount 10 = .ok (.iload_n 0, 1) := by decide +kernel
theorem d_In_bitCount_11 : decode b_In_bitCount 11 = .ok (.ldc_w 266, 3) := by decide +kernel
theorem d_In_bitCount_14 : decode b_In_bitCount 14 = .ok (.iand, 1) := by decide +kernel
theorem d_In_bitCount_15 : decode b_In_bitCount 15 = .ok (.iload_n 0, 1) := by decide +kernel
theorem d_In_bitCount_16 : decode b_In_bitCount 16 = .ok (.iconst 2, 1) := by decide +kernel
theorem d_In_bitCount_17 : decode b_In_bitCount 17 = .ok (.iushr, 1) := by decide +kernel
theorem d_In_bitCount_18 : decode b_In_bitCount 18 = .ok (.ldc_w 266, 3) := by decide +kernel
theorem d_In_bitCount_21 : decode b_In_bitCount 21 = .ok (.iand, 1) := by decide +kernel
theorem d_In_bitCount_22 : decode b_In_bitCount 22 = .ok (.iadd, 1) := by decide +kernel
theorem d_In_bitCount_23 : decode b_In_bitCount 23 = .ok (.istore_n 0, 1) := by decide +kernel
theorem d_In_bitCount_24 : decode b_In_bitCount 24 = .ok (.iload_n 0, 1) := by decide +kernel
theorem d_In_bitCount_25 : decode b_In_bitCount 25 = .ok (.iload_n 0, 1) := by decide +kernel
theorem d_In_bitCount_26 : decode b_In_bitCount 26 = .ok (.iconst 4, 1) := by decide +kernel
theorem d_In_bitCount_27 : decode b_In_bitCount 27 = .ok (.iushr, 1) := by decide +kernel
theorem d_In_bitCount_28 : decode b_In_bitCount 28 = .ok (.iadd, 1) := by decide +kernel
theorem d_In_bitCount_29 : decode b_In_bitCount 29 = .ok (.ldc_w 267, 3) := by decide +kernel
theorem d_In_bitCount_32 : decode b_In_bitCount 32 = .ok (.iand, 1) := by decide +kernel
theorem d_In_bitCount_33 : decode b_In_bitCount 33 = .ok (.istore_n 0, 1) := by decide +kernel
theorem d_In_bitCount_34 : decode b_In_bitCount 34 = .ok (.iload_n 0, 1) := by decide +kernel
theorem d_In_bitCount_35 : decode b_In_bitCount 35 = .ok (.iload_n 0, 1) := by decide +kernel
theorem d_In_bitCount_36 : decode b_In_bitCount 36 = .ok (.bipush 8, 2) := by decide +kernel
theorem d_In_bitCount_38 : decode b_In_bitCount 38 = .ok (.iushr, 1) := by decide +kernel
theorem d_In_bitCount_39 : decode b_In_bitCount 39 = .ok (.iadd, 1) := by decide +kernel
theorem d_In_bitCount_40 : decode b_In_bitCount 40 = .ok (.istore_n 0, 1) := by decide +kernel
theorem d_In_bitCount_41 : decode b_In_bitCount 41 = .ok (.iload_n 0, 1) := by decide +kernel
theorem d_In_bitCount_42 : decode b_In_bitCount 42 = .ok (.iload_n 0, 1) := by decide +kernel
theorem d_In_bitCount_43 : decode b_In_bitCount 43 = .ok (.bipush 16, 2) := by decide +kernel
theorem d_In_bitCount_45 : decode b_In_bitCount 45 = .ok (.iushr, 1) := by decide +kernel
theorem d_In_bitCount_46 : decode b_In_bitCount 46 = .ok (.iadd, 1) := by decide +kernel
theorem d_In_bitCount_47 : decode b_In_bitCount 47 = .ok (.istore_n 0, 1) := by decide +kernel
theorem d_In_bitCount_48 : decode b_In_bitCount 48 = .ok (.iload_n 0, 1) := by decide +kernel
theorem d_In_bitCount_49 : decode b_In_bitCount 49 = .ok (.bipush 63, 2) := by decide +kernel
theorem d_In_bitCount_51 : decode b_In_bitCount 51 = .ok (.iand, 1) := by decide +kernel
theorem d_In_bitCount_52 : decode b_In_bitCount 52 = .ok (.ireturn, 1) := by decide +kernel
