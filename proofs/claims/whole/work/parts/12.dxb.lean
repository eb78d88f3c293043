theorem dX5_sure_99 : decode cX5_sure 99 = .ok (.iconst 0, 1) := by decide +kernel
theorem dX5_sure_100 : decode cX5_sure 100 = .ok (.invokevirtual 116, 3) := by decide +kernel
theorem dX5_sure_103 : decode cX5_sure 103 = .ok (.invokestatic 188, 3) := by decide +kernel
theorem dX5_sure_106 : decode cX5_sure 106 = .ok (.istore_n 3, 1) := by decide +kernel
theorem dX5_sure_107 : decode cX5_sure 107 = .ok (.iinc 4 1, 3) := by decide +kernel
theorem dX5_sure_110 : decode cX5_sure 110 = .ok (.goto (-66), 3) := by decide +kernel
theorem dX5_sure_113 : decode cX5_sure 113 = .ok (.iload_n 3, 1) := by decide +kernel
theorem dX5_sure_114 : decode cX5_sure 114 = .ok (.ireturn, 1) := by decide +kernel
theorem dX5_help_0 : decode cX5_help 0 = .ok (.aload_n 0, 1) := by decide +kernel
theorem dX5_help_1 : decode cX5_help 1 = .ok (.iload_n 1, 1) := by decide +kernel
theorem dX5_help_2 : decode cX5_help 2 = .ok (.invokevirtual 120, 3) := by decide +kernel
theorem dX5_help_5 : decode cX5_help 5 = .ok (.ifCond .eq 13, 3) := by decide +kernel
theorem dX5_help_8 : decode cX5_help 8 = .ok (.iload_n 2, 1) := by decide +kernel
theorem dX5_help_9 : decode cX5_help 9 = .ok (.ifCond .lt 9, 3) := by decide +kernel
theorem dX5_help_12 : decode cX5_help 12 = .ok (.iload_n 2, 1) := by decide +kernel
theorem dX5_help_13 : decode cX5_help 13 = .ok (.bipush 20, 2) := by decide +kernel
theorem dX5_help_15 : decode cX5_help 15 = .ok (.if_icmp .le 5, 3) := by decide +kernel
theorem dX5_help_18 : decode cX5_help 18 = .ok (.iconst (-1), 1) := by decide +kernel
theorem dX5_help_19 : decode cX5_help 19 = .ok (.ireturn, 1) := by decide +kernel
theorem dX5_help_20 : decode cX5_help 20 = .ok (.aload_n 0, 1) := by decide +kernel
theorem dX5_help_21 : decode cX5_help 21 = .ok (.iload_n 1, 1) := by decide +kernel
theorem dX5_help_22 : decode cX5_help 22 = .ok (.iconst 0, 1) := by decide +kernel
theorem dX5_help_23 : decode cX5_help 23 = .ok (.iload_n 2, 1) := by decide +kernel
theorem dX5_help_24 : decode cX5_help 24 = .ok (.invokevirtual 155, 3) := by decide +kernel
theorem dX5_help_27 : decode cX5_help 27 = .ok (.aload_n 0, 1) := by decide +kernel
theorem dX5_help_28 : decode cX5_help 28 = .ok (.aload_n 0, 1) := by decide +kernel
theorem dX5_help_29 : decode cX5_help 29 = .ok (.aload_n 0, 1) := by decide +kernel
theorem dX5_help_30 : decode cX5_help 30 = .ok (.getfield 45, 3) := by decide +kernel
theorem dX5_help_33 : decode cX5_help 33 = .ok (.getfield 89, 3) := by decide +kernel
theorem dX5_help_36 : decode cX5_help 36 = .ok (.invokevirtual 177, 3) := by decide +kernel
theorem dX5_help_39 : decode cX5_help 39 = .ok (.invokevirtual 180, 3) := by decide +kernel
theorem dX5_help_42 : decode cX5_help 42 = .ok (.istore_n 3, 1) := by decide +kernel
theorem dX5_help_43 : decode cX5_help 43 = .ok (.aload_n 0, 1) := by decide +kernel
theorem dX5_help_44 : decode cX5_help 44 = .ok (.iload_n 1, 1) := by decide +kernel
theorem dX5_help_45 : decode cX5_help 45 = .ok (.iconst 0, 1) := by decide +kernel
theorem dX5_help_46 : decode cX5_help 46 = .ok (.iconst 0, 1) := by decide +kernel
theorem dX5_help_47 : decode cX5_help 47 = .ok (.invokevirtual 155, 3) := by decide +kernel
theorem dX5_help_50 : decode cX5_help 50 = .ok (.iload_n 3, 1) := by decide +kernel
theorem dX5_help_51 : decode cX5_help 51 = .ok (.aload_n 0, 1) := by decide +kernel
theorem dX5_help_52 : decode cX5_help 52 = .ok (.aload_n 0, 1) := by decide +kernel
theorem dX5_help_53 : decode cX5_help 53 = .ok (.aload_n 0, 1) := by decide +kernel
theorem dX5_help_54 : decode cX5_help 54 = .ok (.getfield 45, 3) := by decide +kernel
theorem dX5_help_57 : decode cX5_help 57 = .ok (.getfield 89, 3) := by decide +kernel
theorem dX5_help_60 : decode cX5_help 60 = .ok (.invokevirtual 177, 3) := by decide +kernel
theorem dX5_help_63 : decode cX5_help 63 = .ok (.invokevirtual 180, 3) := by decide +kernel
theorem dX5_help_66 : decode cX5_help 66 = .ok (.isub, 1) := by decide +kernel
theorem dX5_help_67 : decode cX5_help 67 = .ok (.ireturn, 1) := by decide +kernel
theorem dX5_stuck_0 : decode cX5_stuck 0 = .ok (.aload_n 0, 1) := by decide +kernel
theorem dX5_stuck_1 : decode cX5_stuck 1 = .ok (.iload_n 1, 1) := by decide +kernel
theorem dX5_stuck_2 : decode cX5_stuck 2 = .ok (.invokevirtual 120, 3) := by decide +kernel
theorem dX5_stuck_5 : decode cX5_stuck 5 = .ok (.ifCond .eq 11, 3) := by decide +kernel
theorem dX5_stuck_8 : decode cX5_stuck 8 = .ok (.aload_n 0, 1) := by decide +kernel
theorem dX5_stuck_9 : decode cX5_stuck 9 = .ok (.iload_n 2, 1) := by decide +kernel
theorem dX5_stuck_10 : decode cX5_stuck 10 = .ok (.invokevirtual 105, 3) := by decide +kernel
theorem dX5_stuck_13 : decode cX5_stuck 13 = .ok (.ifCond .ne 5, 3) := by decide +kernel
theorem dX5_stuck_16 : decode cX5_stuck 16 = .ok (.iconst (-1), 1) := by decide +kernel
theorem dX5_stuck_17 : decode cX5_stuck 17 = .ok (.ireturn, 1) := by decide +kernel
theorem dX5_stuck_18 : decode cX5_stuck 18 = .ok (.iconst 0, 1) := by decide +kernel
theorem dX5_stuck_19 : decode cX5_stuck 19 = .ok (.istore_n 3, 1) := by decide +kernel
theorem dX5_stuck_20 : decode cX5_stuck 20 = .ok (.iload_n 3, 1) := by decide +kernel
theorem dX5_stuck_21 : decode cX5_stuck 21 = .ok (.bipush 30, 2) := by decide +kernel
theorem dX5_stuck_23 : decode cX5_stuck 23 = .ok (.if_icmp .gt 30, 3) := by decide +kernel
theorem dX5_stuck_26 : decode cX5_stuck 26 = .ok (.aload_n 0, 1) := by decide +kernel
theorem dX5_stuck_27 : decode cX5_stuck 27 = .ok (.iload_n 1, 1) := by decide +kernel
theorem dX5_stuck_28 : decode cX5_stuck 28 = .ok (.iload_n 3, 1) := by decide +kernel
theorem dX5_stuck_29 : decode cX5_stuck 29 = .ok (.aload_n 0, 1) := by decide +kernel
theorem dX5_stuck_30 : decode cX5_stuck 30 = .ok (.iconst 5, 1) := by decide +kernel
theorem dX5_stuck_31 : decode cX5_stuck 31 = .ok (.invokevirtual 142, 3) := by decide +kernel
theorem dX5_stuck_34 : decode cX5_stuck 34 = .ok (.invokevirtual 155, 3) := by decide +kernel
theorem dX5_stuck_37 : decode cX5_stuck 37 = .ok (.aload_n 0, 1) := by decide +kernel
theorem dX5_stuck_38 : decode cX5_stuck 38 = .ok (.iload_n 2, 1) := by decide +kernel
theorem dX5_stuck_39 : decode cX5_stuck 39 = .ok (.invokevirtual 193, 3) := by decide +kernel
theorem dX5_stuck_42 : decode cX5_stuck 42 = .ok (.ifCond .eq 5, 3) := by decide +kernel
theorem dX5_stuck_45 : decode cX5_stuck 45 = .ok (.iload_n 3, 1) := by decide +kernel
theorem dX5_stuck_46 : decode cX5_stuck 46 = .ok (.ireturn, 1) := by decide +kernel
theorem dX5_stuck_47 : decode cX5_stuck 47 = .ok (.iinc 3 1, 3) := by decide +kernel
theorem dX5_stuck_50 : decode cX5_stuck 50 = .ok (.goto (-30), 3) := by decide +kernel
theorem dX5_stuck_53 : decode cX5_stuck 53 = .ok (.bipush (-9), 2) := by decide +kernel
theorem dX5_stuck_55 : decode cX5_stuck 55 = .ok (.ireturn, 1) := by decide +kernel
theorem dX5_rubbed_0 : decode cX5_rubbed 0 = .ok (.aload_n 0, 1) := by decide +kernel
theorem dX5_rubbed_1 : decode cX5_rubbed 1 = .ok (.iload_n 1, 1) := by decide +kernel
theorem dX5_rubbed_2 : decode cX5_rubbed 2 = .ok (.invokevirtual 120, 3) := by decide +kernel
theorem dX5_rubbed_5 : decode cX5_rubbed 5 = .ok (.ifCond .eq 11, 3) := by decide +kernel
theorem dX5_rubbed_8 : decode cX5_rubbed 8 = .ok (.aload_n 0, 1) := by decide +kernel
theorem dX5_rubbed_9 : decode cX5_rubbed 9 = .ok (.iload_n 2, 1) := by decide +kernel
theorem dX5_rubbed_10 : decode cX5_rubbed 10 = .ok (.invokevirtual 105, 3) := by decide +kernel
theorem dX5_rubbed_13 : decode cX5_rubbed 13 = .ok (.ifCond .ne 7, 3) := by decide +kernel
theorem dX5_rubbed_16 : decode cX5_rubbed 16 = .ok (.ldc2_w 153, 3) := by decide +kernel
theorem dX5_rubbed_19 : decode cX5_rubbed 19 = .ok (.lreturn, 1) := by decide +kernel
theorem dX5_rubbed_20 : decode cX5_rubbed 20 = .ok (.aload_n 0, 1) := by decide +kernel
theorem dX5_rubbed_21 : decode cX5_rubbed 21 = .ok (.iload_n 1, 1) := by decide +kernel
theorem dX5_rubbed_22 : decode cX5_rubbed 22 = .ok (.iconst 0, 1) := by decide +kernel
theorem dX5_rubbed_23 : decode cX5_rubbed 23 = .ok (.aload_n 0, 1) := by decide +kernel
theorem dX5_rubbed_24 : decode cX5_rubbed 24 = .ok (.iconst 5, 1) := by decide +kernel
theorem dX5_rubbed_25 : decode cX5_rubbed 25 = .ok (.invokevirtual 142, 3) := by decide +kernel
theorem dX5_rubbed_28 : decode cX5_rubbed 28 = .ok (.invokevirtual 155, 3) := by decide +kernel
theorem dX5_rubbed_31 : decode cX5_rubbed 31 = .ok (.aload_n 0, 1) := by decide +kernel
theorem dX5_rubbed_32 : decode cX5_rubbed 32 = .ok (.getfield 31, 3) := by decide +kernel
theorem dX5_rubbed_35 : decode cX5_rubbed 35 = .ok (.aload_n 0, 1) := by decide +kernel
theorem dX5_rubbed_36 : decode cX5_rubbed 36 = .ok (.getfield 56, 3) := by decide +kernel
theorem dX5_rubbed_39 : decode cX5_rubbed 39 = .ok (.iload_n 2, 1) := by decide +kernel
theorem dX5_rubbed_40 : decode cX5_rubbed 40 = .ok (.iload_n 3, 1) := by decide +kernel
theorem dX5_rubbed_41 : decode cX5_rubbed 41 = .ok (.aload_n 0, 1) := by decide +kernel
theorem dX5_rubbed_42 : decode cX5_rubbed 42 = .ok (.getfield 56, 3) := by decide +kernel
theorem dX5_rubbed_45 : decode cX5_rubbed 45 = .ok (.invokevirtual 136, 3) := by decide +kernel
theorem dX5_rubbed_48 : decode cX5_rubbed 48 = .ok (.iand, 1) := by decide +kernel
theorem dX5_rubbed_49 : decode cX5_rubbed 49 = .ok (.invokevirtual 196, 3) := by decide +kernel
theorem dX5_rubbed_52 : decode cX5_rubbed 52 = .ok (.lreturn, 1) := by decide +kernel
theorem dX5_tried_0 : decode cX5_tried 0 = .ok (.aload_n 0, 1) := by decide +kernel
theorem dX5_tried_1 : decode cX5_tried 1 = .ok (.iload_n 1, 1) := by decide +kernel
theorem dX5_tried_2 : decode cX5_tried 2 = .ok (.invokevirtual 105, 3) := by decide +kernel
theorem dX5_tried_5 : decode cX5_tried 5 = .ok (.ifCond .eq 34, 3) := by decide +kernel
theorem dX5_tried_8 : decode cX5_tried 8 = .ok (.iload_n 2, 1) := by decide +kernel
theorem dX5_tried_9 : decode cX5_tried 9 = .ok (.ifCond .lt 30, 3) := by decide +kernel
theorem dX5_tried_12 : decode cX5_tried 12 = .ok (.iload_n 2, 1) := by decide +kernel
theorem dX5_tried_13 : decode cX5_tried 13 = .ok (.bipush 10, 2) := by decide +kernel
theorem dX5_tried_15 : decode cX5_tried 15 = .ok (.if_icmp .gt 24, 3) := by decide +kernel
theorem dX5_tried_18 : decode cX5_tried 18 = .ok (.iload_n 3, 1) := by decide +kernel
theorem dX5_tried_19 : decode cX5_tried 19 = .ok (.ifCond .lt 20, 3) := by decide +kernel
theorem dX5_tried_22 : decode cX5_tried 22 = .ok (.iload_n 3, 1) := by decide +kernel
theorem dX5_tried_23 : decode cX5_tried 23 = .ok (.bipush 9, 2) := by decide +kernel
theorem dX5_tried_25 : decode cX5_tried 25 = .ok (.if_icmp .gt 14, 3) := by decide +kernel
theorem dX5_tried_28 : decode cX5_tried 28 = .ok (.iload 4, 2) := by decide +kernel
theorem dX5_tried_30 : decode cX5_tried 30 = .ok (.ifCond .lt 9, 3) := by decide +kernel
theorem dX5_tried_33 : decode cX5_tried 33 = .ok (.iload 4, 2) := by decide +kernel
theorem dX5_tried_35 : decode cX5_tried 35 = .ok (.iconst 1, 1) := by decide +kernel
theorem dX5_tried_36 : decode cX5_tried 36 = .ok (.if_icmp .le 7, 3) := by decide +kernel
theorem dX5_tried_39 : decode cX5_tried 39 = .ok (.ldc2_w 153, 3) := by decide +kernel
theorem dX5_tried_42 : decode cX5_tried 42 = .ok (.lreturn, 1) := by decide +kernel
theorem dX5_tried_43 : decode cX5_tried 43 = .ok (.aload_n 0, 1) := by decide +kernel
theorem dX5_tried_44 : decode cX5_tried 44 = .ok (.iload_n 1, 1) := by decide +kernel
theorem dX5_tried_45 : decode cX5_tried 45 = .ok (.iload_n 3, 1) := by decide +kernel
theorem dX5_tried_46 : decode cX5_tried 46 = .ok (.invokevirtual 200, 3) := by decide +kernel
theorem dX5_tried_49 : decode cX5_tried 49 = .ok (.lstore 5, 2) := by decide +kernel
theorem dX5_tried_51 : decode cX5_tried 51 = .ok (.lload 5, 2) := by decide +kernel
theorem dX5_tried_53 : decode cX5_tried 53 = .ok (.lconst 1, 1) := by decide +kernel
theorem dX5_tried_54 : decode cX5_tried 54 = .ok (.lload 5, 2) := by decide +kernel
theorem dX5_tried_56 : decode cX5_tried 56 = .ok (.aload_n 0, 1) := by decide +kernel
theorem dX5_tried_57 : decode cX5_tried 57 = .ok (.iload_n 1, 1) := by decide +kernel
theorem dX5_tried_58 : decode cX5_tried 58 = .ok (.iload_n 2, 1) := by decide +kernel
theorem dX5_tried_59 : decode cX5_tried 59 = .ok (.iload_n 3, 1) := by decide +kernel
theorem dX5_tried_60 : decode cX5_tried 60 = .ok (.invokevirtual 204, 3) := by decide +kernel
theorem dX5_tried_63 : decode cX5_tried 63 = .ok (.ladd, 1) := by decide +kernel
theorem dX5_tried_64 : decode cX5_tried 64 = .ok (.invokestatic 208, 3) := by decide +kernel
theorem dX5_tried_67 : decode cX5_tried 67 = .ok (.iload 4, 2) := by decide +kernel
theorem dX5_tried_69 : decode cX5_tried 69 = .ok (.invokestatic 173, 3) := by decide +kernel
theorem dX5_tried_72 : decode cX5_tried 72 = .ok (.lreturn, 1) := by decide +kernel
theorem dX5_tries_0 : decode cX5_tries 0 = .ok (.aload_n 0, 1) := by decide +kernel
theorem dX5_tries_1 : decode cX5_tries 1 = .ok (.iload_n 1, 1) := by decide +kernel
theorem dX5_tries_2 : decode cX5_tries 2 = .ok (.invokevirtual 105, 3) := by decide +kernel
theorem dX5_tries_5 : decode cX5_tries 5 = .ok (.ifCond .eq 23, 3) := by decide +kernel
theorem dX5_tries_8 : decode cX5_tries 8 = .ok (.iload_n 2, 1) := by decide +kernel
theorem dX5_tries_9 : decode cX5_tries 9 = .ok (.ifCond .lt 19, 3) := by decide +kernel
theorem dX5_tries_12 : decode cX5_tries 12 = .ok (.iload_n 2, 1) := by decide +kernel
theorem dX5_tries_13 : decode cX5_tries 13 = .ok (.bipush 10, 2) := by decide +kernel
theorem dX5_tries_15 : decode cX5_tries 15 = .ok (.if_icmp .gt 13, 3) := by decide +kernel
theorem dX5_tries_18 : decode cX5_tries 18 = .ok (.iload_n 3, 1) := by decide +kernel
theorem dX5_tries_19 : decode cX5_tries 19 = .ok (.ifCond .lt 9, 3) := by decide +kernel
theorem dX5_tries_22 : decode cX5_tries 22 = .ok (.iload_n 3, 1) := by decide +kernel
theorem dX5_tries_23 : decode cX5_tries 23 = .ok (.bipush 100, 2) := by decide +kernel
theorem dX5_tries_25 : decode cX5_tries 25 = .ok (.if_icmp .le 5, 3) := by decide +kernel
theorem dX5_tries_28 : decode cX5_tries 28 = .ok (.iconst (-1), 1) := by decide +kernel
theorem dX5_tries_29 : decode cX5_tries 29 = .ok (.ireturn, 1) := by decide +kernel
theorem dX5_tries_30 : decode cX5_tries 30 = .ok (.iconst 0, 1) := by decide +kernel
theorem dX5_tries_31 : decode cX5_tries 31 = .ok (.istore 4, 2) := by decide +kernel
theorem dX5_tries_33 : decode cX5_tries 33 = .ok (.iload 4, 2) := by decide +kernel
theorem dX5_tries_35 : decode cX5_tries 35 = .ok (.bipush 9, 2) := by decide +kernel
theorem dX5_tries_37 : decode cX5_tries 37 = .ok (.if_icmp .gt 49, 3) := by decide +kernel
theorem dX5_tries_40 : decode cX5_tries 40 = .ok (.aload_n 0, 1) := by decide +kernel
theorem dX5_tries_41 : decode cX5_tries 41 = .ok (.iload_n 1, 1) := by decide +kernel
theorem dX5_tries_42 : decode cX5_tries 42 = .ok (.iload 4, 2) := by decide +kernel
theorem dX5_tries_44 : decode cX5_tries 44 = .ok (.invokevirtual 200, 3) := by decide +kernel
theorem dX5_tries_47 : decode cX5_tries 47 = .ok (.lstore 5, 2) := by decide +kernel
theorem dX5_tries_49 : decode cX5_tries 49 = .ok (.lload 5, 2) := by decide +kernel
theorem dX5_tries_51 : decode cX5_tries 51 = .ok (.ldc2_w 186, 3) := by decide +kernel
theorem dX5_tries_54 : decode cX5_tries 54 = .ok (.lmul, 1) := by decide +kernel
theorem dX5_tries_55 : decode cX5_tries 55 = .ok (.iload_n 3, 1) := by decide +kernel
theorem dX5_tries_56 : decode cX5_tries 56 = .ok (.i2l, 1) := by decide +kernel
theorem dX5_tries_57 : decode cX5_tries 57 = .ok (.lconst 1, 1) := by decide +kernel
theorem dX5_tries_58 : decode cX5_tries 58 = .ok (.lload 5, 2) := by decide +kernel
theorem dX5_tries_60 : decode cX5_tries 60 = .ok (.aload_n 0, 1) := by decide +kernel
theorem dX5_tries_61 : decode cX5_tries 61 = .ok (.iload_n 1, 1) := by decide +kernel
theorem dX5_tries_62 : decode cX5_tries 62 = .ok (.iload_n 2, 1) := by decide +kernel
theorem dX5_tries_63 : decode cX5_tries 63 = .ok (.iload 4, 2) := by decide +kernel
theorem dX5_tries_65 : decode cX5_tries 65 = .ok (.invokevirtual 204, 3) := by decide +kernel
theorem dX5_tries_68 : decode cX5_tries 68 = .ok (.ladd, 1) := by decide +kernel
theorem dX5_tries_69 : decode cX5_tries 69 = .ok (.invokestatic 208, 3) := by decide +kernel
theorem dX5_tries_72 : decode cX5_tries 72 = .ok (.lmul, 1) := by decide +kernel
theorem dX5_tries_73 : decode cX5_tries 73 = .ok (.lcmp, 1) := by decide +kernel
theorem dX5_tries_74 : decode cX5_tries 74 = .ok (.ifCond .lt 6, 3) := by decide +kernel
theorem dX5_tries_77 : decode cX5_tries 77 = .ok (.iload 4, 2) := by decide +kernel
theorem dX5_tries_79 : decode cX5_tries 79 = .ok (.ireturn, 1) := by decide +kernel
theorem dX5_tries_80 : decode cX5_tries 80 = .ok (.iinc 4 1, 3) := by decide +kernel
theorem dX5_tries_83 : decode cX5_tries 83 = .ok (.goto (-50), 3) := by decide +kernel
theorem dX5_tries_86 : decode cX5_tries 86 = .ok (.bipush (-9), 2) := by decide +kernel
theorem dX5_tries_88 : decode cX5_tries 88 = .ok (.ireturn, 1) := by decide +kernel
theorem dX5_sway_0 : decode cX5_sway 0 = .ok (.aload_n 0, 1) := by decide +kernel
theorem dX5_sway_1 : decode cX5_sway 1 = .ok (.iload_n 1, 1) := by decide +kernel
theorem dX5_sway_2 : decode cX5_sway 2 = .ok (.invokevirtual 120, 3) := by decide +kernel
theorem dX5_sway_5 : decode cX5_sway 5 = .ok (.ifCond .eq 31, 3) := by decide +kernel
theorem dX5_sway_8 : decode cX5_sway 8 = .ok (.aload_n 0, 1) := by decide +kernel
theorem dX5_sway_9 : decode cX5_sway 9 = .ok (.iload_n 2, 1) := by decide +kernel
theorem dX5_sway_10 : decode cX5_sway 10 = .ok (.invokevirtual 105, 3) := by decide +kernel
theorem dX5_sway_13 : decode cX5_sway 13 = .ok (.ifCond .eq 23, 3) := by decide +kernel
theorem dX5_sway_16 : decode cX5_sway 16 = .ok (.iload_n 3, 1) := by decide +kernel
theorem dX5_sway_17 : decode cX5_sway 17 = .ok (.ifCond .lt 19, 3) := by decide +kernel
theorem dX5_sway_20 : decode cX5_sway 20 = .ok (.iload_n 3, 1) := by decide +kernel
theorem dX5_sway_21 : decode cX5_sway 21 = .ok (.bipush 20, 2) := by decide +kernel
theorem dX5_sway_23 : decode cX5_sway 23 = .ok (.if_icmp .gt 13, 3) := by decide +kernel
theorem dX5_sway_26 : decode cX5_sway 26 = .ok (.aload_n 0, 1) := by decide +kernel
theorem dX5_sway_27 : decode cX5_sway 27 = .ok (.iload_n 1, 1) := by decide +kernel
theorem dX5_sway_28 : decode cX5_sway 28 = .ok (.iload_n 2, 1) := by decide +kernel
theorem dX5_sway_29 : decode cX5_sway 29 = .ok (.iload_n 3, 1) := by decide +kernel
theorem dX5_sway_30 : decode cX5_sway 30 = .ok (.invokevirtual 211, 3) := by decide +kernel
theorem dX5_sway_33 : decode cX5_sway 33 = .ok (.goto 4, 3) := by decide +kernel
theorem dX5_sway_36 : decode cX5_sway 36 = .ok (.iconst (-1), 1) := by decide +kernel
theorem dX5_sway_37 : decode cX5_sway 37 = .ok (.ireturn, 1) := by decide +kernel
theorem dX5_calm_0 : decode cX5_calm 0 = .ok (.aload_n 0, 1) := by decide +kernel
theorem dX5_calm_1 : decode cX5_calm 1 = .ok (.iload_n 1, 1) := by decide +kernel
theorem dX5_calm_2 : decode cX5_calm 2 = .ok (.invokevirtual 120, 3) := by decide +kernel
theorem dX5_calm_5 : decode cX5_calm 5 = .ok (.ifCond .eq 22, 3) := by decide +kernel
theorem dX5_calm_8 : decode cX5_calm 8 = .ok (.aload_n 0, 1) := by decide +kernel
theorem dX5_calm_9 : decode cX5_calm 9 = .ok (.iload_n 2, 1) := by decide +kernel
theorem dX5_calm_10 : decode cX5_calm 10 = .ok (.invokevirtual 105, 3) := by decide +kernel
theorem dX5_calm_13 : decode cX5_calm 13 = .ok (.ifCond .eq 14, 3) := by decide +kernel
theorem dX5_calm_16 : decode cX5_calm 16 = .ok (.iload_n 3, 1) := by decide +kernel
theorem dX5_calm_17 : decode cX5_calm 17 = .ok (.ifCond .lt 10, 3) := by decide +kernel
theorem dX5_calm_20 : decode cX5_calm 20 = .ok (.iload_n 3, 1) := by decide +kernel
theorem dX5_calm_21 : decode cX5_calm 21 = .ok (.sipush 9999, 3) := by decide +kernel
theorem dX5_calm_24 : decode cX5_calm 24 = .ok (.if_icmp .le 5, 3) := by decide +kernel
theorem dX5_calm_27 : decode cX5_calm 27 = .ok (.iconst (-1), 1) := by decide +kernel
theorem dX5_calm_28 : decode cX5_calm 28 = .ok (.ireturn, 1) := by decide +kernel
theorem dX5_calm_29 : decode cX5_calm 29 = .ok (.iconst 1, 1) := by decide +kernel
theorem dX5_calm_30 : decode cX5_calm 30 = .ok (.istore 4, 2) := by decide +kernel
theorem dX5_calm_32 : decode cX5_calm 32 = .ok (.iload 4, 2) := by decide +kernel
theorem dX5_calm_34 : decode cX5_calm 34 = .ok (.bipush 20, 2) := by decide +kernel
theorem dX5_calm_36 : decode cX5_calm 36 = .ok (.if_icmp .gt 26, 3) := by decide +kernel
theorem dX5_calm_39 : decode cX5_calm 39 = .ok (.aload_n 0, 1) := by decide +kernel
theorem dX5_calm_40 : decode cX5_calm 40 = .ok (.iload_n 1, 1) := by decide +kernel
theorem dX5_calm_41 : decode cX5_calm 41 = .ok (.iload_n 2, 1) := by decide +kernel
theorem dX5_calm_42 : decode cX5_calm 42 = .ok (.iload 4, 2) := by decide +kernel
theorem dX5_calm_44 : decode cX5_calm 44 = .ok (.invokevirtual 211, 3) := by decide +kernel
theorem dX5_calm_47 : decode cX5_calm 47 = .ok (.iload_n 3, 1) := by decide +kernel
theorem dX5_calm_48 : decode cX5_calm 48 = .ok (.if_icmp .le 8, 3) := by decide +kernel
theorem dX5_calm_51 : decode cX5_calm 51 = .ok (.iload 4, 2) := by decide +kernel
theorem dX5_calm_53 : decode cX5_calm 53 = .ok (.iconst 1, 1) := by decide +kernel
theorem dX5_calm_54 : decode cX5_calm 54 = .ok (.isub, 1) := by decide +kernel
theorem dX5_calm_55 : decode cX5_calm 55 = .ok (.ireturn, 1) := by decide +kernel
theorem dX5_calm_56 : decode cX5_calm 56 = .ok (.iinc 4 1, 3) := by decide +kernel
theorem dX5_calm_59 : decode cX5_calm 59 = .ok (.goto (-27), 3) := by decide +kernel
theorem dX5_calm_62 : decode cX5_calm 62 = .ok (.bipush 20, 2) := by decide +kernel
theorem dX5_calm_64 : decode cX5_calm 64 = .ok (.ireturn, 1) := by decide +kernel
theorem dX5_fall_0 : decode cX5_fall 0 = .ok (.aload_n 0, 1) := by decide +kernel
theorem dX5_fall_1 : decode cX5_fall 1 = .ok (.iload_n 1, 1) := by decide +kernel
theorem dX5_fall_2 : decode cX5_fall 2 = .ok (.invokevirtual 105, 3) := by decide +kernel
theorem dX5_fall_5 : decode cX5_fall 5 = .ok (.ifCond .eq 12, 3) := by decide +kernel
theorem dX5_fall_8 : decode cX5_fall 8 = .ok (.iload_n 2, 1) := by decide +kernel
theorem dX5_fall_9 : decode cX5_fall 9 = .ok (.ifCond .lt 8, 3) := by decide +kernel
theorem dX5_fall_12 : decode cX5_fall 12 = .ok (.iload_n 2, 1) := by decide +kernel
theorem dX5_fall_13 : decode cX5_fall 13 = .ok (.iconst 1, 1) := by decide +kernel
theorem dX5_fall_14 : decode cX5_fall 14 = .ok (.if_icmp .le 5, 3) := by decide +kernel
theorem dX5_fall_17 : decode cX5_fall 17 = .ok (.iconst (-1), 1) := by decide +kernel
theorem dX5_fall_18 : decode cX5_fall 18 = .ok (.ireturn, 1) := by decide +kernel
theorem dX5_fall_19 : decode cX5_fall 19 = .ok (.iload_n 2, 1) := by decide +kernel
theorem dX5_fall_20 : decode cX5_fall 20 = .ok (.ifCond .ne 18, 3) := by decide +kernel
theorem dX5_fall_23 : decode cX5_fall 23 = .ok (.aload_n 0, 1) := by decide +kernel
theorem dX5_fall_24 : decode cX5_fall 24 = .ok (.iload_n 1, 1) := by decide +kernel
theorem dX5_fall_25 : decode cX5_fall 25 = .ok (.aload_n 0, 1) := by decide +kernel
theorem dX5_fall_26 : decode cX5_fall 26 = .ok (.getfield 45, 3) := by decide +kernel
theorem dX5_fall_29 : decode cX5_fall 29 = .ok (.getfield 89, 3) := by decide +kernel
theorem dX5_fall_32 : decode cX5_fall 32 = .ok (.invokevirtual 215, 3) := by decide +kernel
theorem dX5_fall_35 : decode cX5_fall 35 = .ok (.goto 21, 3) := by decide +kernel
theorem dX5_fall_38 : decode cX5_fall 38 = .ok (.aload_n 0, 1) := by decide +kernel
theorem dX5_fall_39 : decode cX5_fall 39 = .ok (.getfield 56, 3) := by decide +kernel
theorem dX5_fall_42 : decode cX5_fall 42 = .ok (.iload_n 1, 1) := by decide +kernel
theorem dX5_fall_43 : decode cX5_fall 43 = .ok (.invokevirtual 218, 3) := by decide +kernel
theorem dX5_fall_46 : decode cX5_fall 46 = .ok (.aload_n 0, 1) := by decide +kernel
theorem dX5_fall_47 : decode cX5_fall 47 = .ok (.getfield 45, 3) := by decide +kernel
theorem dX5_fall_50 : decode cX5_fall 50 = .ok (.getfield 89, 3) := by decide +kernel
theorem dX5_fall_53 : decode cX5_fall 53 = .ok (.iconst (-1), 1) := by decide +kernel
theorem dX5_fall_54 : decode cX5_fall 54 = .ok (.ixor, 1) := by decide +kernel
theorem dX5_fall_55 : decode cX5_fall 55 = .ok (.iand, 1) := by decide +kernel
theorem dX5_fall_56 : decode cX5_fall 56 = .ok (.ireturn, 1) := by decide +kernel
theorem dX5_saw_0 : decode cX5_saw 0 = .ok (.iload_n 2, 1) := by decide +kernel
theorem dX5_saw_1 : decode cX5_saw 1 = .ok (.ifCond .lt 35, 3) := by decide +kernel
theorem dX5_saw_4 : decode cX5_saw 4 = .ok (.iload_n 2, 1) := by decide +kernel
theorem dX5_saw_5 : decode cX5_saw 5 = .ok (.sipush 9999, 3) := by decide +kernel
theorem dX5_saw_8 : decode cX5_saw 8 = .ok (.if_icmp .gt 28, 3) := by decide +kernel
theorem dX5_saw_11 : decode cX5_saw 11 = .ok (.iload_n 3, 1) := by decide +kernel
theorem dX5_saw_12 : decode cX5_saw 12 = .ok (.ifCond .lt 24, 3) := by decide +kernel
theorem dX5_saw_15 : decode cX5_saw 15 = .ok (.iload_n 3, 1) := by decide +kernel
theorem dX5_saw_16 : decode cX5_saw 16 = .ok (.bipush 99, 2) := by decide +kernel
theorem dX5_saw_18 : decode cX5_saw 18 = .ok (.if_icmp .gt 18, 3) := by decide +kernel
theorem dX5_saw_21 : decode cX5_saw 21 = .ok (.iload 4, 2) := by decide +kernel
theorem dX5_saw_23 : decode cX5_saw 23 = .ok (.ifCond .lt 13, 3) := by decide +kernel
theorem dX5_saw_26 : decode cX5_saw 26 = .ok (.iload 4, 2) := by decide +kernel
theorem dX5_saw_28 : decode cX5_saw 28 = .ok (.iconst 1, 1) := by decide +kernel
theorem dX5_saw_29 : decode cX5_saw 29 = .ok (.if_icmp .gt 7, 3) := by decide +kernel
theorem dX5_saw_32 : decode cX5_saw 32 = .ok (.iconst 1, 1) := by decide +kernel
theorem dX5_saw_33 : decode cX5_saw 33 = .ok (.goto 4, 3) := by decide +kernel
theorem dX5_saw_36 : decode cX5_saw 36 = .ok (.iconst 0, 1) := by decide +kernel
theorem dX5_saw_37 : decode cX5_saw 37 = .ok (.istore 5, 2) := by decide +kernel
theorem dX5_saw_39 : decode cX5_saw 39 = .ok (.aload_n 0, 1) := by decide +kernel
theorem dX5_saw_40 : decode cX5_saw 40 = .ok (.iload_n 1, 1) := by decide +kernel
theorem dX5_saw_41 : decode cX5_saw 41 = .ok (.invokevirtual 120, 3) := by decide +kernel
theorem dX5_saw_44 : decode cX5_saw 44 = .ok (.ifCond .eq 8, 3) := by decide +kernel
theorem dX5_saw_47 : decode cX5_saw 47 = .ok (.iload 5, 2) := by decide +kernel
theorem dX5_saw_49 : decode cX5_saw 49 = .ok (.ifCond .ne 5, 3) := by decide +kernel
theorem dX5_saw_52 : decode cX5_saw 52 = .ok (.iconst (-1), 1) := by decide +kernel
theorem dX5_saw_53 : decode cX5_saw 53 = .ok (.ireturn, 1) := by decide +kernel
theorem dX5_saw_54 : decode cX5_saw 54 = .ok (.aload_n 0, 1) := by decide +kernel
theorem dX5_saw_55 : decode cX5_saw 55 = .ok (.iload_n 1, 1) := by decide +kernel
theorem dX5_saw_56 : decode cX5_saw 56 = .ok (.iconst 0, 1) := by decide +kernel
theorem dX5_saw_57 : decode cX5_saw 57 = .ok (.aload_n 0, 1) := by decide +kernel
theorem dX5_saw_58 : decode cX5_saw 58 = .ok (.iconst 5, 1) := by decide +kernel
theorem dX5_saw_59 : decode cX5_saw 59 = .ok (.invokevirtual 142, 3) := by decide +kernel
theorem dX5_saw_62 : decode cX5_saw 62 = .ok (.invokevirtual 155, 3) := by decide +kernel
theorem dX5_saw_65 : decode cX5_saw 65 = .ok (.aload_n 0, 1) := by decide +kernel
theorem dX5_saw_66 : decode cX5_saw 66 = .ok (.iload_n 2, 1) := by decide +kernel
theorem dX5_saw_67 : decode cX5_saw 67 = .ok (.iload_n 3, 1) := by decide +kernel
theorem dX5_saw_68 : decode cX5_saw 68 = .ok (.invokevirtual 221, 3) := by decide +kernel
theorem dX5_saw_71 : decode cX5_saw 71 = .ok (.istore 6, 2) := by decide +kernel
theorem dX5_saw_73 : decode cX5_saw 73 = .ok (.iload 4, 2) := by decide +kernel
theorem dX5_saw_75 : decode cX5_saw 75 = .ok (.ifCond .eq 10, 3) := by decide +kernel
theorem dX5_saw_78 : decode cX5_saw 78 = .ok (.iload 6, 2) := by decide +kernel
theorem dX5_saw_80 : decode cX5_saw 80 = .ok (.bipush (-9), 2) := by decide +kernel
theorem dX5_saw_82 : decode cX5_saw 82 = .ok (.if_icmp .ne 8, 3) := by decide +kernel
theorem dX5_saw_85 : decode cX5_saw 85 = .ok (.iload 6, 2) := by decide +kernel
theorem dX5_saw_87 : decode cX5_saw 87 = .ok (.goto 8, 3) := by decide +kernel
theorem dX5_saw_90 : decode cX5_saw 90 = .ok (.iload 6, 2) := by decide +kernel
theorem dX5_saw_92 : decode cX5_saw 92 = .ok (.invokestatic 224, 3) := by decide +kernel
theorem dX5_saw_95 : decode cX5_saw 95 = .ok (.ireturn, 1) := by decide +kernel
theorem dX5_afternoon_0 : decode cX5_afternoon 0 = .ok (.aload_n 0, 1) := by decide +kernel
theorem dX5_afternoon_1 : decode cX5_afternoon 1 = .ok (.iload_n 1, 1) := by decide +kernel
theorem dX5_afternoon_2 : decode cX5_afternoon 2 = .ok (.invokevirtual 120, 3) := by decide +kernel
theorem dX5_afternoon_5 : decode cX5_afternoon 5 = .ok (.ifCond .eq 23, 3) := by decide +kernel
theorem dX5_afternoon_8 : decode cX5_afternoon 8 = .ok (.iload_n 2, 1) := by decide +kernel
theorem dX5_afternoon_9 : decode cX5_afternoon 9 = .ok (.ifCond .lt 19, 3) := by decide +kernel
theorem dX5_afternoon_12 : decode cX5_afternoon 12 = .ok (.iload_n 2, 1) := by decide +kernel
theorem dX5_afternoon_13 : decode cX5_afternoon 13 = .ok (.bipush 9, 2) := by decide +kernel
theorem dX5_afternoon_15 : decode cX5_afternoon 15 = .ok (.if_icmp .gt 13, 3) := by decide +kernel
theorem dX5_afternoon_18 : decode cX5_afternoon 18 = .ok (.iload_n 3, 1) := by decide +kernel
theorem dX5_afternoon_19 : decode cX5_afternoon 19 = .ok (.ifCond .lt 9, 3) := by decide +kernel
theorem dX5_afternoon_22 : decode cX5_afternoon 22 = .ok (.iload_n 3, 1) := by decide +kernel
theorem dX5_afternoon_23 : decode cX5_afternoon 23 = .ok (.bipush 99, 2) := by decide +kernel
theorem dX5_afternoon_25 : decode cX5_afternoon 25 = .ok (.if_icmp .le 5, 3) := by decide +kernel
theorem dX5_afternoon_28 : decode cX5_afternoon 28 = .ok (.iconst (-1), 1) := by decide +kernel
theorem dX5_afternoon_29 : decode cX5_afternoon 29 = .ok (.ireturn, 1) := by decide +kernel
theorem dX5_afternoon_30 : decode cX5_afternoon 30 = .ok (.aload_n 0, 1) := by decide +kernel
theorem dX5_afternoon_31 : decode cX5_afternoon 31 = .ok (.getfield 38, 3) := by decide +kernel
theorem dX5_afternoon_34 : decode cX5_afternoon 34 = .ok (.iload_n 1, 1) := by decide +kernel
theorem dX5_afternoon_35 : decode cX5_afternoon 35 = .ok (.iload_n 2, 1) := by decide +kernel
theorem dX5_afternoon_36 : decode cX5_afternoon 36 = .ok (.iload_n 3, 1) := by decide +kernel
theorem dX5_afternoon_37 : decode cX5_afternoon 37 = .ok (.invokevirtual 229, 3) := by decide +kernel
theorem dX5_afternoon_40 : decode cX5_afternoon 40 = .ok (.ifCond .eq 13, 3) := by decide +kernel
theorem dX5_afternoon_43 : decode cX5_afternoon 43 = .ok (.aload_n 0, 1) := by decide +kernel
theorem dX5_afternoon_44 : decode cX5_afternoon 44 = .ok (.getfield 38, 3) := by decide +kernel
theorem dX5_afternoon_47 : decode cX5_afternoon 47 = .ok (.getfield 92, 3) := by decide +kernel
theorem dX5_afternoon_50 : decode cX5_afternoon 50 = .ok (.goto 5, 3) := by decide +kernel
theorem dX5_afternoon_53 : decode cX5_afternoon 53 = .ok (.bipush (-3), 2) := by decide +kernel
theorem dX5_afternoon_55 : decode cX5_afternoon 55 = .ok (.ireturn, 1) := by decide +kernel
theorem dX5_dares_0 : decode cX5_dares 0 = .ok (.iload_n 2, 1) := by decide +kernel
theorem dX5_dares_1 : decode cX5_dares 1 = .ok (.ifCond .lt 34, 3) := by decide +kernel
theorem dX5_dares_4 : decode cX5_dares 4 = .ok (.iload_n 2, 1) := by decide +kernel
theorem dX5_dares_5 : decode cX5_dares 5 = .ok (.bipush 9, 2) := by decide +kernel
theorem dX5_dares_7 : decode cX5_dares 7 = .ok (.if_icmp .gt 28, 3) := by decide +kernel
theorem dX5_dares_10 : decode cX5_dares 10 = .ok (.iload_n 3, 1) := by decide +kernel
theorem dX5_dares_11 : decode cX5_dares 11 = .ok (.ifCond .lt 24, 3) := by decide +kernel
theorem dX5_dares_14 : decode cX5_dares 14 = .ok (.iload_n 3, 1) := by decide +kernel
theorem dX5_dares_15 : decode cX5_dares 15 = .ok (.bipush 99, 2) := by decide +kernel
theorem dX5_dares_17 : decode cX5_dares 17 = .ok (.if_icmp .gt 18, 3) := by decide +kernel
theorem dX5_dares_20 : decode cX5_dares 20 = .ok (.iload 4, 2) := by decide +kernel
theorem dX5_dares_22 : decode cX5_dares 22 = .ok (.ifCond .lt 13, 3) := by decide +kernel
theorem dX5_dares_25 : decode cX5_dares 25 = .ok (.iload 4, 2) := by decide +kernel
theorem dX5_dares_27 : decode cX5_dares 27 = .ok (.iconst 1, 1) := by decide +kernel
theorem dX5_dares_28 : decode cX5_dares 28 = .ok (.if_icmp .gt 7, 3) := by decide +kernel
theorem dX5_dares_31 : decode cX5_dares 31 = .ok (.iconst 1, 1) := by decide +kernel
theorem dX5_dares_32 : decode cX5_dares 32 = .ok (.goto 4, 3) := by decide +kernel
theorem dX5_dares_35 : decode cX5_dares 35 = .ok (.iconst 0, 1) := by decide +kernel
theorem dX5_dares_36 : decode cX5_dares 36 = .ok (.istore 5, 2) := by decide +kernel
theorem dX5_dares_38 : decode cX5_dares 38 = .ok (.aload_n 0, 1) := by decide +kernel
theorem dX5_dares_39 : decode cX5_dares 39 = .ok (.iload_n 1, 1) := by decide +kernel
theorem dX5_dares_40 : decode cX5_dares 40 = .ok (.invokevirtual 120, 3) := by decide +kernel
theorem dX5_dares_43 : decode cX5_dares 43 = .ok (.ifCond .eq 8, 3) := by decide +kernel
theorem dX5_dares_46 : decode cX5_dares 46 = .ok (.iload 5, 2) := by decide +kernel
theorem dX5_dares_48 : decode cX5_dares 48 = .ok (.ifCond .ne 5, 3) := by decide +kernel
theorem dX5_dares_51 : decode cX5_dares 51 = .ok (.iconst (-1), 1) := by decide +kernel
theorem dX5_dares_52 : decode cX5_dares 52 = .ok (.ireturn, 1) := by decide +kernel
theorem dX5_dares_53 : decode cX5_dares 53 = .ok (.aload_n 0, 1) := by decide +kernel
theorem dX5_dares_54 : decode cX5_dares 54 = .ok (.getfield 38, 3) := by decide +kernel
theorem dX5_dares_57 : decode cX5_dares 57 = .ok (.iload_n 1, 1) := by decide +kernel
theorem dX5_dares_58 : decode cX5_dares 58 = .ok (.iload_n 2, 1) := by decide +kernel
theorem dX5_dares_59 : decode cX5_dares 59 = .ok (.bipush 9, 2) := by decide +kernel
theorem dX5_dares_61 : decode cX5_dares 61 = .ok (.iconst 0, 1) := by decide +kernel
theorem dX5_dares_62 : decode cX5_dares 62 = .ok (.invokevirtual 233, 3) := by decide +kernel
theorem dX5_dares_65 : decode cX5_dares 65 = .ok (.istore 6, 2) := by decide +kernel
theorem dX5_dares_67 : decode cX5_dares 67 = .ok (.aload_n 0, 1) := by decide +kernel
theorem dX5_dares_68 : decode cX5_dares 68 = .ok (.getfield 38, 3) := by decide +kernel
theorem dX5_dares_71 : decode cX5_dares 71 = .ok (.iload_n 1, 1) := by decide +kernel
theorem dX5_dares_72 : decode cX5_dares 72 = .ok (.iload_n 2, 1) := by decide +kernel
theorem dX5_dares_73 : decode cX5_dares 73 = .ok (.bipush 9, 2) := by decide +kernel
theorem dX5_dares_75 : decode cX5_dares 75 = .ok (.iload_n 3, 1) := by decide +kernel
theorem dX5_dares_76 : decode cX5_dares 76 = .ok (.invokevirtual 233, 3) := by decide +kernel
theorem dX5_dares_79 : decode cX5_dares 79 = .ok (.i2l, 1) := by decide +kernel
theorem dX5_dares_80 : decode cX5_dares 80 = .ok (.iconst 1, 1) := by decide +kernel
theorem dX5_dares_81 : decode cX5_dares 81 = .ok (.iload 6, 2) := by decide +kernel
theorem dX5_dares_83 : decode cX5_dares 83 = .ok (.invokestatic 188, 3) := by decide +kernel
theorem dX5_dares_86 : decode cX5_dares 86 = .ok (.i2l, 1) := by decide +kernel
theorem dX5_dares_87 : decode cX5_dares 87 = .ok (.iload 4, 2) := by decide +kernel
theorem dX5_dares_89 : decode cX5_dares 89 = .ok (.invokestatic 173, 3) := by decide +kernel
theorem dX5_dares_92 : decode cX5_dares 92 = .ok (.l2i, 1) := by decide +kernel
theorem dX5_dares_93 : decode cX5_dares 93 = .ok (.ireturn, 1) := by decide +kernel
theorem dX5_looked_0 : decode cX5_looked 0 = .ok (.aload_n 0, 1) := by decide +kernel
theorem dX5_looked_1 : decode cX5_looked 1 = .ok (.iload_n 1, 1) := by decide +kernel
theorem dX5_looked_2 : decode cX5_looked 2 = .ok (.invokevirtual 120, 3) := by decide +kernel
theorem dX5_looked_5 : decode cX5_looked 5 = .ok (.ifCond .ne 6, 3) := by decide +kernel
theorem dX5_looked_8 : decode cX5_looked 8 = .ok (.ldc 237, 2) := by decide +kernel
theorem dX5_looked_10 : decode cX5_looked 10 = .ok (.ireturn, 1) := by decide +kernel
theorem dX5_looked_11 : decode cX5_looked 11 = .ok (.aload_n 0, 1) := by decide +kernel
theorem dX5_looked_12 : decode cX5_looked 12 = .ok (.getfield 38, 3) := by decide +kernel
theorem dX5_looked_15 : decode cX5_looked 15 = .ok (.iload_n 1, 1) := by decide +kernel
theorem dX5_looked_16 : decode cX5_looked 16 = .ok (.iconst 1, 1) := by decide +kernel
theorem dX5_looked_17 : decode cX5_looked 17 = .ok (.bipush 9, 2) := by decide +kernel
theorem dX5_looked_19 : decode cX5_looked 19 = .ok (.iconst 0, 1) := by decide +kernel
theorem dX5_looked_20 : decode cX5_looked 20 = .ok (.invokevirtual 233, 3) := by decide +kernel
theorem dX5_looked_23 : decode cX5_looked 23 = .ok (.istore_n 2, 1) := by decide +kernel
theorem dX5_looked_24 : decode cX5_looked 24 = .ok (.aload_n 0, 1) := by decide +kernel
theorem dX5_looked_25 : decode cX5_looked 25 = .ok (.getfield 38, 3) := by decide +kernel
theorem dX5_looked_28 : decode cX5_looked 28 = .ok (.iload_n 1, 1) := by decide +kernel
theorem dX5_looked_29 : decode cX5_looked 29 = .ok (.iconst 0, 1) := by decide +kernel
theorem dX5_looked_30 : decode cX5_looked 30 = .ok (.iconst 0, 1) := by decide +kernel
theorem dX5_looked_31 : decode cX5_looked 31 = .ok (.iconst 0, 1) := by decide +kernel
theorem dX5_looked_32 : decode cX5_looked 32 = .ok (.invokevirtual 233, 3) := by decide +kernel
theorem dX5_looked_35 : decode cX5_looked 35 = .ok (.istore_n 3, 1) := by decide +kernel
theorem dX5_looked_36 : decode cX5_looked 36 = .ok (.iload_n 2, 1) := by decide +kernel
theorem dX5_looked_37 : decode cX5_looked 37 = .ok (.iconst 1, 1) := by decide +kernel
theorem dX5_looked_38 : decode cX5_looked 38 = .ok (.if_icmp .lt 8, 3) := by decide +kernel
theorem dX5_looked_41 : decode cX5_looked 41 = .ok (.iload_n 3, 1) := by decide +kernel
theorem dX5_looked_42 : decode cX5_looked 42 = .ok (.iconst 1, 1) := by decide +kernel
theorem dX5_looked_43 : decode cX5_looked 43 = .ok (.if_icmp .ge 6, 3) := by decide +kernel
theorem dX5_looked_46 : decode cX5_looked 46 = .ok (.ldc 237, 2) := by decide +kernel
theorem dX5_looked_48 : decode cX5_looked 48 = .ok (.ireturn, 1) := by decide +kernel
theorem dX5_looked_49 : decode cX5_looked 49 = .ok (.aload_n 0, 1) := by decide +kernel
theorem dX5_looked_50 : decode cX5_looked 50 = .ok (.getfield 38, 3) := by decide +kernel
theorem dX5_looked_53 : decode cX5_looked 53 = .ok (.iload_n 1, 1) := by decide +kernel
theorem dX5_looked_54 : decode cX5_looked 54 = .ok (.iconst 1, 1) := by decide +kernel
theorem dX5_looked_55 : decode cX5_looked 55 = .ok (.bipush 9, 2) := by decide +kernel
theorem dX5_looked_57 : decode cX5_looked 57 = .ok (.invokevirtual 238, 3) := by decide +kernel
theorem dX5_looked_60 : decode cX5_looked 60 = .ok (.bipush 100, 2) := by decide +kernel
theorem dX5_looked_62 : decode cX5_looked 62 = .ok (.imul, 1) := by decide +kernel
theorem dX5_looked_63 : decode cX5_looked 63 = .ok (.iload_n 2, 1) := by decide +kernel
theorem dX5_looked_64 : decode cX5_looked 64 = .ok (.idiv, 1) := by decide +kernel
theorem dX5_looked_65 : decode cX5_looked 65 = .ok (.aload_n 0, 1) := by decide +kernel
theorem dX5_looked_66 : decode cX5_looked 66 = .ok (.getfield 38, 3) := by decide +kernel
theorem dX5_looked_69 : decode cX5_looked 69 = .ok (.iload_n 1, 1) := by decide +kernel
theorem dX5_looked_70 : decode cX5_looked 70 = .ok (.iconst 0, 1) := by decide +kernel
theorem dX5_looked_71 : decode cX5_looked 71 = .ok (.iconst 0, 1) := by decide +kernel
theorem dX5_looked_72 : decode cX5_looked 72 = .ok (.invokevirtual 238, 3) := by decide +kernel
theorem dX5_looked_75 : decode cX5_looked 75 = .ok (.bipush 100, 2) := by decide +kernel
theorem dX5_looked_77 : decode cX5_looked 77 = .ok (.imul, 1) := by decide +kernel
theorem dX5_looked_78 : decode cX5_looked 78 = .ok (.iload_n 3, 1) := by decide +kernel
theorem dX5_looked_79 : decode cX5_looked 79 = .ok (.idiv, 1) := by decide +kernel
theorem dX5_looked_80 : decode cX5_looked 80 = .ok (.isub, 1) := by decide +kernel
theorem dX5_looked_81 : decode cX5_looked 81 = .ok (.ireturn, 1) := by decide +kernel
theorem dX5_goes_0 : decode cX5_goes 0 = .ok (.aload_n 0, 1) := by decide +kernel
theorem dX5_goes_1 : decode cX5_goes 1 = .ok (.iload_n 1, 1) := by decide +kernel
theorem dX5_goes_2 : decode cX5_goes 2 = .ok (.invokevirtual 120, 3) := by decide +kernel
theorem dX5_goes_5 : decode cX5_goes 5 = .ok (.ifCond .ne 5, 3) := by decide +kernel
theorem dX5_goes_8 : decode cX5_goes 8 = .ok (.iconst (-1), 1) := by decide +kernel
theorem dX5_goes_9 : decode cX5_goes 9 = .ok (.ireturn, 1) := by decide +kernel
theorem dX5_goes_10 : decode cX5_goes 10 = .ok (.aload_n 0, 1) := by decide +kernel
theorem dX5_goes_11 : decode cX5_goes 11 = .ok (.getfield 45, 3) := by decide +kernel
theorem dX5_goes_14 : decode cX5_goes 14 = .ok (.getfield 241, 3) := by decide +kernel
theorem dX5_goes_17 : decode cX5_goes 17 = .ok (.istore_n 2, 1) := by decide +kernel
theorem dX5_goes_18 : decode cX5_goes 18 = .ok (.aload_n 0, 1) := by decide +kernel
theorem dX5_goes_19 : decode cX5_goes 19 = .ok (.getfield 45, 3) := by decide +kernel
theorem dX5_goes_22 : decode cX5_goes 22 = .ok (.iload_n 1, 1) := by decide +kernel
theorem dX5_goes_23 : decode cX5_goes 23 = .ok (.invokevirtual 85, 3) := by decide +kernel
theorem dX5_goes_26 : decode cX5_goes 26 = .ok (.iload_n 2, 1) := by decide +kernel
theorem dX5_goes_27 : decode cX5_goes 27 = .ok (.ireturn, 1) := by decide +kernel
theorem dX5_climb_0 : decode cX5_climb 0 = .ok (.aload_n 0, 1) := by decide +kernel
theorem dX5_climb_1 : decode cX5_climb 1 = .ok (.getfield 45, 3) := by decide +kernel
theorem dX5_climb_4 : decode cX5_climb 4 = .ok (.getfield 241, 3) := by decide +kernel
theorem dX5_climb_7 : decode cX5_climb 7 = .ok (.istore_n 2, 1) := by decide +kernel
theorem dX5_climb_8 : decode cX5_climb 8 = .ok (.aload_n 0, 1) := by decide +kernel
theorem dX5_climb_9 : decode cX5_climb 9 = .ok (.getfield 45, 3) := by decide +kernel
theorem dX5_climb_12 : decode cX5_climb 12 = .ok (.getfield 244, 3) := by decide +kernel
theorem dX5_climb_15 : decode cX5_climb 15 = .ok (.istore_n 3, 1) := by decide +kernel
theorem dX5_climb_16 : decode cX5_climb 16 = .ok (.aload_n 0, 1) := by decide +kernel
theorem dX5_climb_17 : decode cX5_climb 17 = .ok (.iload_n 2, 1) := by decide +kernel
theorem dX5_climb_18 : decode cX5_climb 18 = .ok (.invokevirtual 120, 3) := by decide +kernel
theorem dX5_climb_21 : decode cX5_climb 21 = .ok (.ifCond .eq 19, 3) := by decide +kernel
theorem dX5_climb_24 : decode cX5_climb 24 = .ok (.aload_n 0, 1) := by decide +kernel
theorem dX5_climb_25 : decode cX5_climb 25 = .ok (.iload_n 3, 1) := by decide +kernel
theorem dX5_climb_26 : decode cX5_climb 26 = .ok (.invokevirtual 139, 3) := by decide +kernel
theorem dX5_climb_29 : decode cX5_climb 29 = .ok (.ifCond .eq 11, 3) := by decide +kernel
theorem dX5_climb_32 : decode cX5_climb 32 = .ok (.aload_n 0, 1) := by decide +kernel
theorem dX5_climb_33 : decode cX5_climb 33 = .ok (.iload_n 1, 1) := by decide +kernel
theorem dX5_climb_34 : decode cX5_climb 34 = .ok (.invokevirtual 139, 3) := by decide +kernel
theorem dX5_climb_37 : decode cX5_climb 37 = .ok (.ifCond .ne 6, 3) := by decide +kernel
theorem dX5_climb_40 : decode cX5_climb 40 = .ok (.ldc 237, 2) := by decide +kernel
theorem dX5_climb_42 : decode cX5_climb 42 = .ok (.ireturn, 1) := by decide +kernel
theorem dX5_climb_43 : decode cX5_climb 43 = .ok (.aload_n 0, 1) := by decide +kernel
theorem dX5_climb_44 : decode cX5_climb 44 = .ok (.iload_n 2, 1) := by decide +kernel
theorem dX5_climb_45 : decode cX5_climb 45 = .ok (.iload_n 3, 1) := by decide +kernel
theorem dX5_climb_46 : decode cX5_climb 46 = .ok (.iload_n 1, 1) := by decide +kernel
theorem dX5_climb_47 : decode cX5_climb 47 = .ok (.aload_n 0, 1) := by decide +kernel
theorem dX5_climb_48 : decode cX5_climb 48 = .ok (.getfield 56, 3) := by decide +kernel
theorem dX5_climb_51 : decode cX5_climb 51 = .ok (.iload_n 2, 1) := by decide +kernel
theorem dX5_climb_52 : decode cX5_climb 52 = .ok (.iconst 0, 1) := by decide +kernel
theorem dX5_climb_53 : decode cX5_climb 53 = .ok (.invokevirtual 123, 3) := by decide +kernel
theorem dX5_climb_56 : decode cX5_climb 56 = .ok (.aload_n 0, 1) := by decide +kernel
theorem dX5_climb_57 : decode cX5_climb 57 = .ok (.iconst 5, 1) := by decide +kernel
theorem dX5_climb_58 : decode cX5_climb 58 = .ok (.invokevirtual 142, 3) := by decide +kernel
theorem dX5_climb_61 : decode cX5_climb 61 = .ok (.invokevirtual 146, 3) := by decide +kernel
theorem dX5_climb_64 : decode cX5_climb 64 = .ok (.ifCond .ne 6, 3) := by decide +kernel
theorem dX5_climb_67 : decode cX5_climb 67 = .ok (.ldc 237, 2) := by decide +kernel
theorem dX5_climb_69 : decode cX5_climb 69 = .ok (.ireturn, 1) := by decide +kernel
theorem dX5_climb_70 : decode cX5_climb 70 = .ok (.iload_n 1, 1) := by decide +kernel
theorem dX5_climb_71 : decode cX5_climb 71 = .ok (.iconst (-1), 1) := by decide +kernel
theorem dX5_climb_72 : decode cX5_climb 72 = .ok (.if_icmp .eq 19, 3) := by decide +kernel
theorem dX5_climb_75 : decode cX5_climb 75 = .ok (.aload_n 0, 1) := by decide +kernel
theorem dX5_climb_76 : decode cX5_climb 76 = .ok (.getfield 45, 3) := by decide +kernel
theorem dX5_climb_79 : decode cX5_climb 79 = .ok (.invokevirtual 247, 3) := by decide +kernel
theorem dX5_climb_82 : decode cX5_climb 82 = .ok (.aload_n 0, 1) := by decide +kernel
theorem dX5_climb_83 : decode cX5_climb 83 = .ok (.iload_n 2, 1) := by decide +kernel
theorem dX5_climb_84 : decode cX5_climb 84 = .ok (.iload_n 1, 1) := by decide +kernel
theorem dX5_climb_85 : decode cX5_climb 85 = .ok (.invokevirtual 150, 3) := by decide +kernel
theorem dX5_climb_88 : decode cX5_climb 88 = .ok (.if_icmp .ge 23, 3) := by decide +kernel
theorem dX5_climb_91 : decode cX5_climb 91 = .ok (.aload_n 0, 1) := by decide +kernel
theorem dX5_climb_92 : decode cX5_climb 92 = .ok (.getfield 45, 3) := by decide +kernel
theorem dX5_climb_95 : decode cX5_climb 95 = .ok (.iload_n 1, 1) := by decide +kernel
theorem dX5_climb_96 : decode cX5_climb 96 = .ok (.aload_n 0, 1) := by decide +kernel
theorem dX5_climb_97 : decode cX5_climb 97 = .ok (.getfield 56, 3) := by decide +kernel
theorem dX5_climb_100 : decode cX5_climb 100 = .ok (.iload_n 1, 1) := by decide +kernel
theorem dX5_climb_101 : decode cX5_climb 101 = .ok (.iconst 0, 1) := by decide +kernel
theorem dX5_climb_102 : decode cX5_climb 102 = .ok (.invokevirtual 116, 3) := by decide +kernel
theorem dX5_climb_105 : decode cX5_climb 105 = .ok (.invokevirtual 250, 3) := by decide +kernel
theorem dX5_climb_108 : decode cX5_climb 108 = .ok (.goto 22, 3) := by decide +kernel
theorem dX5_climb_111 : decode cX5_climb 111 = .ok (.aload_n 0, 1) := by decide +kernel
theorem dX5_climb_112 : decode cX5_climb 112 = .ok (.getfield 45, 3) := by decide +kernel
theorem dX5_climb_115 : decode cX5_climb 115 = .ok (.aload_n 0, 1) := by decide +kernel
theorem dX5_climb_116 : decode cX5_climb 116 = .ok (.iload_n 3, 1) := by decide +kernel
theorem dX5_climb_117 : decode cX5_climb 117 = .ok (.aload_n 0, 1) := by decide +kernel
theorem dX5_climb_118 : decode cX5_climb 118 = .ok (.getfield 45, 3) := by decide +kernel
theorem dX5_climb_121 : decode cX5_climb 121 = .ok (.getfield 89, 3) := by decide +kernel
theorem dX5_climb_124 : decode cX5_climb 124 = .ok (.invokevirtual 215, 3) := by decide +kernel
theorem dX5_climb_127 : decode cX5_climb 127 = .ok (.invokevirtual 254, 3) := by decide +kernel
theorem dX5_climb_130 : decode cX5_climb 130 = .ok (.aload_n 0, 1) := by decide +kernel
theorem dX5_climb_131 : decode cX5_climb 131 = .ok (.getfield 45, 3) := by decide +kernel
theorem dX5_climb_134 : decode cX5_climb 134 = .ok (.getfield 244, 3) := by decide +kernel
theorem dX5_climb_137 : decode cX5_climb 137 = .ok (.ireturn, 1) := by decide +kernel
theorem dX5_now_0 : decode cX5_now 0 = .ok (.iload_n 1, 1) := by decide +kernel
theorem dX5_now_1 : decode cX5_now 1 = .ok (.tableswitch 87 0 5 #[39, 47, 55, 63, 71, 79], 39) := by decide +kernel
theorem dX5_now_40 : decode cX5_now 40 = .ok (.aload_n 0, 1) := by decide +kernel
theorem dX5_now_41 : decode cX5_now 41 = .ok (.getfield 45, 3) := by decide +kernel
theorem dX5_now_44 : decode cX5_now 44 = .ok (.getfield 241, 3) := by decide +kernel
theorem dX5_now_47 : decode cX5_now 47 = .ok (.ireturn, 1) := by decide +kernel
theorem dX5_now_48 : decode cX5_now 48 = .ok (.aload_n 0, 1) := by decide +kernel
theorem dX5_now_49 : decode cX5_now 49 = .ok (.getfield 45, 3) := by decide +kernel
theorem dX5_now_52 : decode cX5_now 52 = .ok (.getfield 244, 3) := by decide +kernel
theorem dX5_now_55 : decode cX5_now 55 = .ok (.ireturn, 1) := by decide +kernel
theorem dX5_now_56 : decode cX5_now 56 = .ok (.aload_n 0, 1) := by decide +kernel
theorem dX5_now_57 : decode cX5_now 57 = .ok (.getfield 45, 3) := by decide +kernel
theorem dX5_now_60 : decode cX5_now 60 = .ok (.getfield 257, 3) := by decide +kernel
theorem dX5_now_63 : decode cX5_now 63 = .ok (.ireturn, 1) := by decide +kernel
theorem dX5_now_64 : decode cX5_now 64 = .ok (.aload_n 0, 1) := by decide +kernel
theorem dX5_now_65 : decode cX5_now 65 = .ok (.getfield 45, 3) := by decide +kernel
theorem dX5_now_68 : decode cX5_now 68 = .ok (.getfield 260, 3) := by decide +kernel
theorem dX5_now_71 : decode cX5_now 71 = .ok (.ireturn, 1) := by decide +kernel
theorem dX5_now_72 : decode cX5_now 72 = .ok (.aload_n 0, 1) := by decide +kernel
theorem dX5_now_73 : decode cX5_now 73 = .ok (.getfield 45, 3) := by decide +kernel
theorem dX5_now_76 : decode cX5_now 76 = .ok (.getfield 263, 3) := by decide +kernel
theorem dX5_now_79 : decode cX5_now 79 = .ok (.ireturn, 1) := by decide +kernel
theorem dX5_now_80 : decode cX5_now 80 = .ok (.aload_n 0, 1) := by decide +kernel
theorem dX5_now_81 : decode cX5_now 81 = .ok (.getfield 45, 3) := by decide +kernel
theorem dX5_now_84 : decode cX5_now 84 = .ok (.getfield 266, 3) := by decide +kernel
theorem dX5_now_87 : decode cX5_now 87 = .ok (.ireturn, 1) := by decide +kernel
theorem dX5_now_88 : decode cX5_now 88 = .ok (.ldc 237, 2) := by decide +kernel
theorem dX5_now_90 : decode cX5_now 90 = .ok (.ireturn, 1) := by decide +kernel
theorem dX5_lot_0 : decode cX5_lot 0 = .ok (.aload_n 0, 1) := by decide +kernel
theorem dX5_lot_1 : decode cX5_lot 1 = .ok (.getfield 45, 3) := by decide +kernel
theorem dX5_lot_4 : decode cX5_lot 4 = .ok (.getfield 67, 3) := by decide +kernel
theorem dX5_lot_7 : decode cX5_lot 7 = .ok (.istore_n 2, 1) := by decide +kernel
theorem dX5_lot_8 : decode cX5_lot 8 = .ok (.aload_n 0, 1) := by decide +kernel
theorem dX5_lot_9 : decode cX5_lot 9 = .ok (.getfield 45, 3) := by decide +kernel
theorem dX5_lot_12 : decode cX5_lot 12 = .ok (.iload_n 1, 1) := by decide +kernel
theorem dX5_lot_13 : decode cX5_lot 13 = .ok (.putfield 67, 3) := by decide +kernel
theorem dX5_lot_16 : decode cX5_lot 16 = .ok (.iload_n 2, 1) := by decide +kernel
theorem dX5_lot_17 : decode cX5_lot 17 = .ok (.ireturn, 1) := by decide +kernel
theorem dX5_mark_0 : decode cX5_mark 0 = .ok (.aload_n 0, 1) := by decide +kernel
theorem dX5_mark_1 : decode cX5_mark 1 = .ok (.iload_n 2, 1) := by decide +kernel
theorem dX5_mark_2 : decode cX5_mark 2 = .ok (.invokevirtual 105, 3) := by decide +kernel
theorem dX5_mark_5 : decode cX5_mark 5 = .ok (.ifCond .ne 6, 3) := by decide +kernel
theorem dX5_mark_8 : decode cX5_mark 8 = .ok (.ldc 237, 2) := by decide +kernel
theorem dX5_mark_10 : decode cX5_mark 10 = .ok (.ireturn, 1) := by decide +kernel
theorem dX5_mark_11 : decode cX5_mark 11 = .ok (.iload_n 1, 1) := by decide +kernel
theorem dX5_mark_12 : decode cX5_mark 12 = .ok (.tableswitch 76 0 5 #[40, 46, 52, 58, 64, 70], 40) := by decide +kernel
theorem dX5_mark_52 : decode cX5_mark 52 = .ok (.aload_n 0, 1) := by decide +kernel
theorem dX5_mark_53 : decode cX5_mark 53 = .ok (.iload_n 2, 1) := by decide +kernel
theorem dX5_mark_54 : decode cX5_mark 54 = .ok (.invokevirtual 269, 3) := by decide +kernel
theorem dX5_mark_57 : decode cX5_mark 57 = .ok (.ireturn, 1) := by decide +kernel
theorem dX5_mark_58 : decode cX5_mark 58 = .ok (.aload_n 0, 1) := by decide +kernel
theorem dX5_mark_59 : decode cX5_mark 59 = .ok (.iload_n 2, 1) := by decide +kernel
theorem dX5_mark_60 : decode cX5_mark 60 = .ok (.invokevirtual 272, 3) := by decide +kernel
theorem dX5_mark_63 : decode cX5_mark 63 = .ok (.ireturn, 1) := by decide +kernel
theorem dX5_mark_64 : decode cX5_mark 64 = .ok (.aload_n 0, 1) := by decide +kernel
theorem dX5_mark_65 : decode cX5_mark 65 = .ok (.iload_n 2, 1) := by decide +kernel
theorem dX5_mark_66 : decode cX5_mark 66 = .ok (.invokevirtual 275, 3) := by decide +kernel
theorem dX5_mark_69 : decode cX5_mark 69 = .ok (.ireturn, 1) := by decide +kernel
theorem dX5_mark_70 : decode cX5_mark 70 = .ok (.aload_n 0, 1) := by decide +kernel
theorem dX5_mark_71 : decode cX5_mark 71 = .ok (.iload_n 2, 1) := by decide +kernel
theorem dX5_mark_72 : decode cX5_mark 72 = .ok (.invokevirtual 278, 3) := by decide +kernel
theorem dX5_mark_75 : decode cX5_mark 75 = .ok (.ireturn, 1) := by decide +kernel
theorem dX5_mark_76 : decode cX5_mark 76 = .ok (.aload_n 0, 1) := by decide +kernel
theorem dX5_mark_77 : decode cX5_mark 77 = .ok (.iload_n 2, 1) := by decide +kernel
theorem dX5_mark_78 : decode cX5_mark 78 = .ok (.invokevirtual 281, 3) := by decide +kernel
theorem dX5_mark_81 : decode cX5_mark 81 = .ok (.ireturn, 1) := by decide +kernel
theorem dX5_mark_82 : decode cX5_mark 82 = .ok (.aload_n 0, 1) := by decide +kernel
theorem dX5_mark_83 : decode cX5_mark 83 = .ok (.iload_n 2, 1) := by decide +kernel
theorem dX5_mark_84 : decode cX5_mark 84 = .ok (.invokevirtual 284, 3) := by decide +kernel
theorem dX5_mark_87 : decode cX5_mark 87 = .ok (.ireturn, 1) := by decide +kernel
theorem dX5_mark_88 : decode cX5_mark 88 = .ok (.ldc 237, 2) := by decide +kernel
theorem dX5_mark_90 : decode cX5_mark 90 = .ok (.ireturn, 1) := by decide +kernel
theorem dX5_keep_0 : decode cX5_keep 0 = .ok (.iload_n 1, 1) := by decide +kernel
theorem dX5_keep_1 : decode cX5_keep 1 = .ok (.ifCond .lt 12, 3) := by decide +kernel
theorem dX5_keep_4 : decode cX5_keep 4 = .ok (.iload_n 1, 1) := by decide +kernel
theorem dX5_keep_5 : decode cX5_keep 5 = .ok (.aload_n 0, 1) := by decide +kernel
theorem dX5_keep_6 : decode cX5_keep 6 = .ok (.getfield 49, 3) := by decide +kernel
theorem dX5_keep_9 : decode cX5_keep 9 = .ok (.arraylength, 1) := by decide +kernel
theorem dX5_keep_10 : decode cX5_keep 10 = .ok (.if_icmp .lt 5, 3) := by decide +kernel
theorem dX5_keep_13 : decode cX5_keep 13 = .ok (.iconst (-1), 1) := by decide +kernel
theorem dX5_keep_14 : decode cX5_keep 14 = .ok (.ireturn, 1) := by decide +kernel
theorem dX5_keep_15 : decode cX5_keep 15 = .ok (.aload_n 0, 1) := by decide +kernel
theorem dX5_keep_16 : decode cX5_keep 16 = .ok (.getfield 49, 3) := by decide +kernel
theorem dX5_keep_19 : decode cX5_keep 19 = .ok (.iload_n 1, 1) := by decide +kernel
theorem dX5_keep_20 : decode cX5_keep 20 = .ok (.aaload, 1) := by decide +kernel
theorem dX5_keep_21 : decode cX5_keep 21 = .ok (.aload_n 0, 1) := by decide +kernel
theorem dX5_keep_22 : decode cX5_keep 22 = .ok (.getfield 45, 3) := by decide +kernel
theorem dX5_keep_25 : decode cX5_keep 25 = .ok (.invokevirtual 287, 3) := by decide +kernel
theorem dX5_keep_28 : decode cX5_keep 28 = .ok (.aload_n 0, 1) := by decide +kernel
theorem dX5_keep_29 : decode cX5_keep 29 = .ok (.getfield 49, 3) := by decide +kernel
theorem dX5_keep_32 : decode cX5_keep 32 = .ok (.iload_n 1, 1) := by decide +kernel
theorem dX5_keep_33 : decode cX5_keep 33 = .ok (.aaload, 1) := by decide +kernel
theorem dX5_keep_34 : decode cX5_keep 34 = .ok (.iconst 1, 1) := by decide +kernel
theorem dX5_keep_35 : decode cX5_keep 35 = .ok (.putfield 95, 3) := by decide +kernel
theorem dX5_keep_38 : decode cX5_keep 38 = .ok (.aload_n 0, 1) := by decide +kernel
theorem dX5_keep_39 : decode cX5_keep 39 = .ok (.getfield 45, 3) := by decide +kernel
theorem dX5_keep_42 : decode cX5_keep 42 = .ok (.getfield 257, 3) := by decide +kernel
theorem dX5_keep_45 : decode cX5_keep 45 = .ok (.ireturn, 1) := by decide +kernel
theorem dX5_back_0 : decode cX5_back 0 = .ok (.iload_n 1, 1) := by decide +kernel
theorem dX5_back_1 : decode cX5_back 1 = .ok (.ifCond .lt 12, 3) := by decide +kernel
theorem dX5_back_4 : decode cX5_back 4 = .ok (.iload_n 1, 1) := by decide +kernel
theorem dX5_back_5 : decode cX5_back 5 = .ok (.aload_n 0, 1) := by decide +kernel
theorem dX5_back_6 : decode cX5_back 6 = .ok (.getfield 49, 3) := by decide +kernel
theorem dX5_back_9 : decode cX5_back 9 = .ok (.arraylength, 1) := by decide +kernel
theorem dX5_back_10 : decode cX5_back 10 = .ok (.if_icmp .lt 5, 3) := by decide +kernel
theorem dX5_back_13 : decode cX5_back 13 = .ok (.iconst (-1), 1) := by decide +kernel
theorem dX5_back_14 : decode cX5_back 14 = .ok (.ireturn, 1) := by decide +kernel
theorem dX5_back_15 : decode cX5_back 15 = .ok (.aload_n 0, 1) := by decide +kernel
theorem dX5_back_16 : decode cX5_back 16 = .ok (.getfield 49, 3) := by decide +kernel
theorem dX5_back_19 : decode cX5_back 19 = .ok (.iload_n 1, 1) := by decide +kernel
theorem dX5_back_20 : decode cX5_back 20 = .ok (.aaload, 1) := by decide +kernel
theorem dX5_back_21 : decode cX5_back 21 = .ok (.getfield 95, 3) := by decide +kernel
theorem dX5_back_24 : decode cX5_back 24 = .ok (.ifCond .ne 6, 3) := by decide +kernel
theorem dX5_back_27 : decode cX5_back 27 = .ok (.bipush (-2), 2) := by decide +kernel
theorem dX5_back_29 : decode cX5_back 29 = .ok (.ireturn, 1) := by decide +kernel
theorem dX5_back_30 : decode cX5_back 30 = .ok (.aload_n 0, 1) := by decide +kernel
theorem dX5_back_31 : decode cX5_back 31 = .ok (.getfield 45, 3) := by decide +kernel
theorem dX5_back_34 : decode cX5_back 34 = .ok (.aload_n 0, 1) := by decide +kernel
theorem dX5_back_35 : decode cX5_back 35 = .ok (.getfield 49, 3) := by decide +kernel
theorem dX5_back_38 : decode cX5_back 38 = .ok (.iload_n 1, 1) := by decide +kernel
theorem dX5_back_39 : decode cX5_back 39 = .ok (.aaload, 1) := by decide +kernel
theorem dX5_back_40 : decode cX5_back 40 = .ok (.invokevirtual 287, 3) := by decide +kernel
theorem dX5_back_43 : decode cX5_back 43 = .ok (.aload_n 0, 1) := by decide +kernel
theorem dX5_back_44 : decode cX5_back 44 = .ok (.getfield 45, 3) := by decide +kernel
theorem dX5_back_47 : decode cX5_back 47 = .ok (.getfield 257, 3) := by decide +kernel
theorem dX5_back_50 : decode cX5_back 50 = .ok (.ireturn, 1) := by decide +kernel
theorem dX5_count_0 : decode cX5_count 0 = .ok (.iload_n 1, 1) := by decide +kernel
theorem dX5_count_1 : decode cX5_count 1 = .ok (.tableswitch 78 0 4 #[35, 43, 51, 59, 70], 35) := by decide +kernel
theorem dX5_count_36 : decode cX5_count 36 = .ok (.aload_n 0, 1) := by decide +kernel
theorem dX5_count_37 : decode cX5_count 37 = .ok (.getfield 56, 3) := by decide +kernel
theorem dX5_count_40 : decode cX5_count 40 = .ok (.getfield 99, 3) := by decide +kernel
theorem dX5_count_43 : decode cX5_count 43 = .ok (.ireturn, 1) := by decide +kernel
theorem dX5_count_44 : decode cX5_count 44 = .ok (.aload_n 0, 1) := by decide +kernel
theorem dX5_count_45 : decode cX5_count 45 = .ok (.getfield 56, 3) := by decide +kernel
theorem dX5_count_48 : decode cX5_count 48 = .ok (.getfield 102, 3) := by decide +kernel
theorem dX5_count_51 : decode cX5_count 51 = .ok (.ireturn, 1) := by decide +kernel
theorem dX5_count_52 : decode cX5_count 52 = .ok (.aload_n 0, 1) := by decide +kernel
theorem dX5_count_53 : decode cX5_count 53 = .ok (.getfield 38, 3) := by decide +kernel
theorem dX5_count_56 : decode cX5_count 56 = .ok (.getfield 92, 3) := by decide +kernel
theorem dX5_count_59 : decode cX5_count 59 = .ok (.ireturn, 1) := by decide +kernel
theorem dX5_count_60 : decode cX5_count 60 = .ok (.aload_n 0, 1) := by decide +kernel
theorem dX5_count_61 : decode cX5_count 61 = .ok (.getfield 45, 3) := by decide +kernel
theorem dX5_count_64 : decode cX5_count 64 = .ok (.getfield 89, 3) := by decide +kernel
theorem dX5_count_67 : decode cX5_count 67 = .ok (.invokestatic 224, 3) := by decide +kernel
theorem dX5_count_70 : decode cX5_count 70 = .ok (.ireturn, 1) := by decide +kernel
theorem dX5_count_71 : decode cX5_count 71 = .ok (.aload_n 0, 1) := by decide +kernel
theorem dX5_count_72 : decode cX5_count 72 = .ok (.getfield 24, 3) := by decide +kernel
theorem dX5_count_75 : decode cX5_count 75 = .ok (.getfield 75, 3) := by decide +kernel
theorem dX5_count_78 : decode cX5_count 78 = .ok (.ireturn, 1) := by decide +kernel
theorem dX5_count_79 : decode cX5_count 79 = .ok (.iconst (-1), 1) := by decide +kernel
theorem dX5_count_80 : decode cX5_count 80 = .ok (.ireturn, 1) := by decide +kernel
theorem dX5_trace_0 : decode cX5_trace 0 = .ok (.aload_n 0, 1) := by decide +kernel
theorem dX5_trace_1 : decode cX5_trace 1 = .ok (.getfield 63, 3) := by decide +kernel
theorem dX5_trace_4 : decode cX5_trace 4 = .ok (.lreturn, 1) := by decide +kernel
theorem dX5_isBranch_0 : decode cX5_isBranch 0 = .ok (.iload_n 1, 1) := by decide +kernel
theorem dX5_isBranch_1 : decode cX5_isBranch 1 = .ok (.ifCond .lt 18, 3) := by decide +kernel
theorem dX5_isBranch_4 : decode cX5_isBranch 4 = .ok (.iload_n 1, 1) := by decide +kernel
theorem dX5_isBranch_5 : decode cX5_isBranch 5 = .ok (.aload_n 0, 1) := by decide +kernel
theorem dX5_isBranch_6 : decode cX5_isBranch 6 = .ok (.getfield 56, 3) := by decide +kernel
theorem dX5_isBranch_9 : decode cX5_isBranch 9 = .ok (.getfield 99, 3) := by decide +kernel
theorem dX5_isBranch_12 : decode cX5_isBranch 12 = .ok (.if_icmp .ge 7, 3) := by decide +kernel
theorem dX5_isBranch_15 : decode cX5_isBranch 15 = .ok (.iconst 1, 1) := by decide +kernel
theorem dX5_isBranch_16 : decode cX5_isBranch 16 = .ok (.goto 4, 3) := by decide +kernel
theorem dX5_isBranch_19 : decode cX5_isBranch 19 = .ok (.iconst 0, 1) := by decide +kernel
theorem dX5_isBranch_20 : decode cX5_isBranch 20 = .ok (.ireturn, 1) := by decide +kernel
theorem dX5_isPlace_0 : decode cX5_isPlace 0 = .ok (.iload_n 1, 1) := by decide +kernel
theorem dX5_isPlace_1 : decode cX5_isPlace 1 = .ok (.iconst (-1), 1) := by decide +kernel
theorem dX5_isPlace_2 : decode cX5_isPlace 2 = .ok (.if_icmp .eq 11, 3) := by decide +kernel
theorem dX5_isPlace_5 : decode cX5_isPlace 5 = .ok (.aload_n 0, 1) := by decide +kernel
theorem dX5_isPlace_6 : decode cX5_isPlace 6 = .ok (.iload_n 1, 1) := by decide +kernel
theorem dX5_isPlace_7 : decode cX5_isPlace 7 = .ok (.invokevirtual 105, 3) := by decide +kernel
theorem dX5_isPlace_10 : decode cX5_isPlace 10 = .ok (.ifCond .eq 7, 3) := by decide +kernel
theorem dX5_isPlace_13 : decode cX5_isPlace 13 = .ok (.iconst 1, 1) := by decide +kernel
theorem dX5_isPlace_14 : decode cX5_isPlace 14 = .ok (.goto 4, 3) := by decide +kernel
theorem dX5_isPlace_17 : decode cX5_isPlace 17 = .ok (.iconst 0, 1) := by decide +kernel
theorem dX5_isPlace_18 : decode cX5_isPlace 18 = .ok (.ireturn, 1) := by decide +kernel
theorem dX5_isBody_0 : decode cX5_isBody 0 = .ok (.iload_n 1, 1) := by decide +kernel
theorem dX5_isBody_1 : decode cX5_isBody 1 = .ok (.ifCond .lt 18, 3) := by decide +kernel
theorem dX5_isBody_4 : decode cX5_isBody 4 = .ok (.iload_n 1, 1) := by decide +kernel
theorem dX5_isBody_5 : decode cX5_isBody 5 = .ok (.aload_n 0, 1) := by decide +kernel
theorem dX5_isBody_6 : decode cX5_isBody 6 = .ok (.getfield 56, 3) := by decide +kernel
theorem dX5_isBody_9 : decode cX5_isBody 9 = .ok (.getfield 102, 3) := by decide +kernel
theorem dX5_isBody_12 : decode cX5_isBody 12 = .ok (.if_icmp .ge 7, 3) := by decide +kernel
theorem dX5_isBody_15 : decode cX5_isBody 15 = .ok (.iconst 1, 1) := by decide +kernel
theorem dX5_isBody_16 : decode cX5_isBody 16 = .ok (.goto 4, 3) := by decide +kernel
theorem dX5_isBody_19 : decode cX5_isBody 19 = .ok (.iconst 0, 1) := by decide +kernel
theorem dX5_isBody_20 : decode cX5_isBody 20 = .ok (.ireturn, 1) := by decide +kernel
theorem dX5_isSawn_0 : decode cX5_isSawn 0 = .ok (.aload_n 0, 1) := by decide +kernel
theorem dX5_isSawn_1 : decode cX5_isSawn 1 = .ok (.getfield 45, 3) := by decide +kernel
theorem dX5_isSawn_4 : decode cX5_isSawn 4 = .ok (.getfield 89, 3) := by decide +kernel
theorem dX5_isSawn_7 : decode cX5_isSawn 7 = .ok (.iload_n 1, 1) := by decide +kernel
theorem dX5_isSawn_8 : decode cX5_isSawn 8 = .ok (.invokestatic 291, 3) := by decide +kernel
theorem dX5_isSawn_11 : decode cX5_isSawn 11 = .ok (.ireturn, 1) := by decide +kernel
theorem dX5_tuned_0 : decode cX5_tuned 0 = .ok (.iload_n 1, 1) := by decide +kernel
theorem dX5_tuned_1 : decode cX5_tuned 1 = .ok (.ifCond .lt 21, 3) := by decide +kernel
theorem dX5_tuned_4 : decode cX5_tuned 4 = .ok (.iload_n 1, 1) := by decide +kernel
theorem dX5_tuned_5 : decode cX5_tuned 5 = .ok (.aload_n 0, 1) := by decide +kernel
theorem dX5_tuned_6 : decode cX5_tuned 6 = .ok (.getfield 18, 3) := by decide +kernel
theorem dX5_tuned_9 : decode cX5_tuned 9 = .ok (.arraylength, 1) := by decide +kernel
theorem dX5_tuned_10 : decode cX5_tuned 10 = .ok (.if_icmp .ge 12, 3) := by decide +kernel
theorem dX5_tuned_13 : decode cX5_tuned 13 = .ok (.aload_n 0, 1) := by decide +kernel
theorem dX5_tuned_14 : decode cX5_tuned 14 = .ok (.getfield 18, 3) := by decide +kernel
theorem dX5_tuned_17 : decode cX5_tuned 17 = .ok (.iload_n 1, 1) := by decide +kernel
theorem dX5_tuned_18 : decode cX5_tuned 18 = .ok (.iaload, 1) := by decide +kernel
theorem dX5_tuned_19 : decode cX5_tuned 19 = .ok (.goto 4, 3) := by decide +kernel
theorem dX5_tuned_22 : decode cX5_tuned 22 = .ok (.iconst 0, 1) := by decide +kernel
theorem dX5_tuned_23 : decode cX5_tuned 23 = .ok (.ireturn, 1) := by decide +kernel
theorem dX5_has_0 : decode cX5_has 0 = .ok (.iload_n 1, 1) := by decide +kernel
theorem dX5_has_1 : decode cX5_has 1 = .ok (.ifCond .lt 21, 3) := by decide +kernel
theorem dX5_has_4 : decode cX5_has 4 = .ok (.iload_n 1, 1) := by decide +kernel
theorem dX5_has_5 : decode cX5_has 5 = .ok (.bipush 32, 2) := by decide +kernel
theorem dX5_has_7 : decode cX5_has 7 = .ok (.if_icmp .ge 15, 3) := by decide +kernel
theorem dX5_has_10 : decode cX5_has 10 = .ok (.iload_n 0, 1) := by decide +kernel
theorem dX5_has_11 : decode cX5_has 11 = .ok (.iload_n 1, 1) := by decide +kernel
theorem dX5_has_12 : decode cX5_has 12 = .ok (.iushr, 1) := by decide +kernel
theorem dX5_has_13 : decode cX5_has 13 = .ok (.iconst 1, 1) := by decide +kernel
theorem dX5_has_14 : decode cX5_has 14 = .ok (.iand, 1) := by decide +kernel
theorem dX5_has_15 : decode cX5_has 15 = .ok (.ifCond .eq 7, 3) := by decide +kernel
theorem dX5_has_18 : decode cX5_has 18 = .ok (.iconst 1, 1) := by decide +kernel
theorem dX5_has_19 : decode cX5_has 19 = .ok (.goto 4, 3) := by decide +kernel
theorem dX5_has_22 : decode cX5_has 22 = .ok (.iconst 0, 1) := by decide +kernel
theorem dX5_has_23 : decode cX5_has 23 = .ok (.ireturn, 1) := by decide +kernel
theorem dX5_bit_0 : decode cX5_bit 0 = .ok (.iload_n 0, 1) := by decide +kernel
theorem dX5_bit_1 : decode cX5_bit 1 = .ok (.ifCond .eq 7, 3) := by decide +kernel
theorem dX5_bit_4 : decode cX5_bit 4 = .ok (.iconst 1, 1) := by decide +kernel
theorem dX5_bit_5 : decode cX5_bit 5 = .ok (.goto 4, 3) := by decide +kernel
theorem dX5_bit_8 : decode cX5_bit 8 = .ok (.iconst 0, 1) := by decide +kernel
theorem dX5_bit_9 : decode cX5_bit 9 = .ok (.ireturn, 1) := by decide +kernel
theorem dX5_within_0 : decode cX5_within 0 = .ok (.iload_n 3, 1) := by decide +kernel
theorem dX5_within_1 : decode cX5_within 1 = .ok (.ifCond .lt 33, 3) := by decide +kernel
theorem dX5_within_4 : decode cX5_within 4 = .ok (.iload_n 3, 1) := by decide +kernel
theorem dX5_within_5 : decode cX5_within 5 = .ok (.aload_n 1, 1) := by decide +kernel
theorem dX5_within_6 : decode cX5_within 6 = .ok (.arraylength, 1) := by decide +kernel
theorem dX5_within_7 : decode cX5_within 7 = .ok (.if_icmp .ge 27, 3) := by decide +kernel
theorem dX5_within_10 : decode cX5_within 10 = .ok (.iload_n 3, 1) := by decide +kernel
theorem dX5_within_11 : decode cX5_within 11 = .ok (.aload_n 2, 1) := by decide +kernel
theorem dX5_within_12 : decode cX5_within 12 = .ok (.arraylength, 1) := by decide +kernel
theorem dX5_within_13 : decode cX5_within 13 = .ok (.if_icmp .ge 21, 3) := by decide +kernel
theorem dX5_within_16 : decode cX5_within 16 = .ok (.iload_n 0, 1) := by decide +kernel
theorem dX5_within_17 : decode cX5_within 17 = .ok (.aload_n 1, 1) := by decide +kernel
theorem dX5_within_18 : decode cX5_within 18 = .ok (.iload_n 3, 1) := by decide +kernel
theorem dX5_within_19 : decode cX5_within 19 = .ok (.iaload, 1) := by decide +kernel
theorem dX5_within_20 : decode cX5_within 20 = .ok (.if_icmp .lt 14, 3) := by decide +kernel
theorem dX5_within_23 : decode cX5_within 23 = .ok (.iload_n 0, 1) := by decide +kernel
theorem dX5_within_24 : decode cX5_within 24 = .ok (.aload_n 2, 1) := by decide +kernel
theorem dX5_within_25 : decode cX5_within 25 = .ok (.iload_n 3, 1) := by decide +kernel
theorem dX5_within_26 : decode cX5_within 26 = .ok (.iaload, 1) := by decide +kernel
theorem dX5_within_27 : decode cX5_within 27 = .ok (.if_icmp .gt 7, 3) := by decide +kernel
theorem dX5_within_30 : decode cX5_within 30 = .ok (.iconst 1, 1) := by decide +kernel
theorem dX5_within_31 : decode cX5_within 31 = .ok (.goto 4, 3) := by decide +kernel
theorem dX5_within_34 : decode cX5_within 34 = .ok (.iconst 0, 1) := by decide +kernel
theorem dX5_within_35 : decode cX5_within 35 = .ok (.ireturn, 1) := by decide +kernel
theorem dX5_readText_0 : decode cX5_readText 0 = .ok (.aload_n 0, 1) := by decide +kernel
theorem dX5_readText_1 : decode cX5_readText 1 = .ok (.getfield 60, 3) := by decide +kernel
theorem dX5_readText_4 : decode cX5_readText 4 = .ok (.invokevirtual 295, 3) := by decide +kernel
theorem dX5_readText_7 : decode cX5_readText 7 = .ok (.aload_n 0, 1) := by decide +kernel
theorem dX5_readText_8 : decode cX5_readText 8 = .ok (.getfield 24, 3) := by decide +kernel
theorem dX5_readText_11 : decode cX5_readText 11 = .ok (.invokevirtual 298, 3) := by decide +kernel
theorem dX5_readText_14 : decode cX5_readText 14 = .ok (.iconst 0, 1) := by decide +kernel
theorem dX5_readText_15 : decode cX5_readText 15 = .ok (.istore_n 1, 1) := by decide +kernel
theorem dX5_readText_16 : decode cX5_readText 16 = .ok (.iload_n 1, 1) := by decide +kernel
theorem dX5_readText_17 : decode cX5_readText 17 = .ok (.bipush 15, 2) := by decide +kernel
theorem dX5_readText_19 : decode cX5_readText 19 = .ok (.if_icmp .gt 97, 3) := by decide +kernel
theorem dX5_readText_22 : decode cX5_readText 22 = .ok (.aload_n 0, 1) := by decide +kernel
theorem dX5_readText_23 : decode cX5_readText 23 = .ok (.getfield 24, 3) := by decide +kernel
theorem dX5_readText_26 : decode cX5_readText 26 = .ok (.invokevirtual 301, 3) := by decide +kernel
theorem dX5_readText_29 : decode cX5_readText 29 = .ok (.aload_n 0, 1) := by decide +kernel
theorem dX5_readText_30 : decode cX5_readText 30 = .ok (.getfield 24, 3) := by decide +kernel
theorem dX5_readText_33 : decode cX5_readText 33 = .ok (.getfield 304, 3) := by decide +kernel
theorem dX5_readText_36 : decode cX5_readText 36 = .ok (.ifCond .ne 5, 3) := by decide +kernel
theorem dX5_readText_39 : decode cX5_readText 39 = .ok (.iconst (-1), 1) := by decide +kernel
theorem dX5_readText_40 : decode cX5_readText 40 = .ok (.ireturn, 1) := by decide +kernel
theorem dX5_readText_41 : decode cX5_readText 41 = .ok (.aload_n 0, 1) := by decide +kernel
theorem dX5_readText_42 : decode cX5_readText 42 = .ok (.getfield 24, 3) := by decide +kernel
theorem dX5_readText_45 : decode cX5_readText 45 = .ok (.getfield 304, 3) := by decide +kernel
theorem dX5_readText_48 : decode cX5_readText 48 = .ok (.iconst 3, 1) := by decide +kernel
theorem dX5_readText_49 : decode cX5_readText 49 = .ok (.if_icmp .ne 17, 3) := by decide +kernel
theorem dX5_readText_52 : decode cX5_readText 52 = .ok (.aload_n 0, 1) := by decide +kernel
theorem dX5_readText_53 : decode cX5_readText 53 = .ok (.aload_n 0, 1) := by decide +kernel
theorem dX5_readText_54 : decode cX5_readText 54 = .ok (.getfield 60, 3) := by decide +kernel
theorem dX5_readText_57 : decode cX5_readText 57 = .ok (.getfield 99, 3) := by decide +kernel
theorem dX5_readText_60 : decode cX5_readText 60 = .ok (.invokevirtual 307, 3) := by decide +kernel
theorem dX5_readText_63 : decode cX5_readText 63 = .ok (.goto 34, 3) := by decide +kernel
theorem dX5_readText_66 : decode cX5_readText 66 = .ok (.aload_n 0, 1) := by decide +kernel
theorem dX5_readText_67 : decode cX5_readText 67 = .ok (.getfield 24, 3) := by decide +kernel
theorem dX5_readText_70 : decode cX5_readText 70 = .ok (.getfield 304, 3) := by decide +kernel
theorem dX5_readText_73 : decode cX5_readText 73 = .ok (.bipush 6, 2) := by decide +kernel
theorem dX5_readText_75 : decode cX5_readText 75 = .ok (.if_icmp .ne 21, 3) := by decide +kernel
theorem dX5_readText_78 : decode cX5_readText 78 = .ok (.aload_n 0, 1) := by decide +kernel
theorem dX5_readText_79 : decode cX5_readText 79 = .ok (.aload_n 0, 1) := by decide +kernel
theorem dX5_readText_80 : decode cX5_readText 80 = .ok (.getfield 60, 3) := by decide +kernel
theorem dX5_readText_83 : decode cX5_readText 83 = .ok (.getfield 102, 3) := by decide +kernel
theorem dX5_readText_86 : decode cX5_readText 86 = .ok (.invokevirtual 310, 3) := by decide +kernel
theorem dX5_readText_89 : decode cX5_readText 89 = .ok (.ifCond .eq 7, 3) := by decide +kernel
theorem dX5_readText_92 : decode cX5_readText 92 = .ok (.iconst 1, 1) := by decide +kernel
theorem dX5_readText_93 : decode cX5_readText 93 = .ok (.goto 4, 3) := by decide +kernel
theorem dX5_readText_96 : decode cX5_readText 96 = .ok (.iconst 0, 1) := by decide +kernel
theorem dX5_readText_97 : decode cX5_readText 97 = .ok (.istore_n 2, 1) := by decide +kernel
theorem dX5_readText_98 : decode cX5_readText 98 = .ok (.iload_n 2, 1) := by decide +kernel
theorem dX5_readText_99 : decode cX5_readText 99 = .ok (.ifCond .ne 11, 3) := by decide +kernel
theorem dX5_readText_102 : decode cX5_readText 102 = .ok (.aload_n 0, 1) := by decide +kernel
theorem dX5_readText_103 : decode cX5_readText 103 = .ok (.getfield 24, 3) := by decide +kernel
theorem dX5_readText_106 : decode cX5_readText 106 = .ok (.getfield 313, 3) := by decide +kernel
theorem dX5_readText_109 : decode cX5_readText 109 = .ok (.ireturn, 1) := by decide +kernel
theorem dX5_readText_110 : decode cX5_readText 110 = .ok (.iinc 1 1, 3) := by decide +kernel
theorem dX5_readText_113 : decode cX5_readText 113 = .ok (.goto (-97), 3) := by decide +kernel
theorem dX5_readText_116 : decode cX5_readText 116 = .ok (.aload_n 0, 1) := by decide +kernel
theorem dX5_readText_117 : decode cX5_readText 117 = .ok (.getfield 24, 3) := by decide +kernel
theorem dX5_readText_120 : decode cX5_readText 120 = .ok (.getfield 313, 3) := by decide +kernel
theorem dX5_readText_123 : decode cX5_readText 123 = .ok (.ireturn, 1) := by decide +kernel
theorem dX5_readBranch_0 : decode cX5_readBranch 0 = .ok (.iload_n 1, 1) := by decide +kernel
theorem dX5_readBranch_1 : decode cX5_readBranch 1 = .ok (.bipush 12, 2) := by decide +kernel
theorem dX5_readBranch_3 : decode cX5_readBranch 3 = .ok (.if_icmp .lt 5, 3) := by decide +kernel
theorem dX5_readBranch_6 : decode cX5_readBranch 6 = .ok (.iconst 0, 1) := by decide +kernel
theorem dX5_readBranch_7 : decode cX5_readBranch 7 = .ok (.ireturn, 1) := by decide +kernel
theorem dX5_readBranch_8 : decode cX5_readBranch 8 = .ok (.iconst 0, 1) := by decide +kernel
theorem dX5_readBranch_9 : decode cX5_readBranch 9 = .ok (.istore_n 2, 1) := by decide +kernel
theorem dX5_readBranch_10 : decode cX5_readBranch 10 = .ok (.iload_n 2, 1) := by decide +kernel
theorem dX5_readBranch_11 : decode cX5_readBranch 11 = .ok (.iconst 3, 1) := by decide +kernel
theorem dX5_readBranch_12 : decode cX5_readBranch 12 = .ok (.if_icmp .gt 65, 3) := by decide +kernel
theorem dX5_readBranch_15 : decode cX5_readBranch 15 = .ok (.aload_n 0, 1) := by decide +kernel
theorem dX5_readBranch_16 : decode cX5_readBranch 16 = .ok (.getfield 24, 3) := by decide +kernel
theorem dX5_readBranch_19 : decode cX5_readBranch 19 = .ok (.invokevirtual 301, 3) := by decide +kernel
theorem dX5_readBranch_22 : decode cX5_readBranch 22 = .ok (.aload_n 0, 1) := by decide +kernel
theorem dX5_readBranch_23 : decode cX5_readBranch 23 = .ok (.getfield 24, 3) := by decide +kernel
theorem dX5_readBranch_26 : decode cX5_readBranch 26 = .ok (.getfield 304, 3) := by decide +kernel
theorem dX5_readBranch_29 : decode cX5_readBranch 29 = .ok (.iconst 2, 1) := by decide +kernel
theorem dX5_readBranch_30 : decode cX5_readBranch 30 = .ok (.if_icmp .ne 23, 3) := by decide +kernel
theorem dX5_readBranch_33 : decode cX5_readBranch 33 = .ok (.aload_n 0, 1) := by decide +kernel
theorem dX5_readBranch_34 : decode cX5_readBranch 34 = .ok (.getfield 24, 3) := by decide +kernel
theorem dX5_readBranch_37 : decode cX5_readBranch 37 = .ok (.getfield 316, 3) := by decide +kernel
theorem dX5_readBranch_40 : decode cX5_readBranch 40 = .ok (.getstatic 319, 3) := by decide +kernel
theorem dX5_readBranch_43 : decode cX5_readBranch 43 = .ok (.getstatic 322, 3) := by decide +kernel
theorem dX5_readBranch_46 : decode cX5_readBranch 46 = .ok (.iload_n 2, 1) := by decide +kernel
theorem dX5_readBranch_47 : decode cX5_readBranch 47 = .ok (.invokestatic 132, 3) := by decide +kernel
theorem dX5_readBranch_50 : decode cX5_readBranch 50 = .ok (.ifCond .ne 5, 3) := by decide +kernel
theorem dX5_readBranch_53 : decode cX5_readBranch 53 = .ok (.iconst 0, 1) := by decide +kernel
theorem dX5_readBranch_54 : decode cX5_readBranch 54 = .ok (.ireturn, 1) := by decide +kernel
theorem dX5_readBranch_55 : decode cX5_readBranch 55 = .ok (.aload_n 0, 1) := by decide +kernel
theorem dX5_readBranch_56 : decode cX5_readBranch 56 = .ok (.getfield 60, 3) := by decide +kernel
theorem dX5_readBranch_59 : decode cX5_readBranch 59 = .ok (.iload_n 1, 1) := by decide +kernel
theorem dX5_readBranch_60 : decode cX5_readBranch 60 = .ok (.iload_n 2, 1) := by decide +kernel
theorem dX5_readBranch_61 : decode cX5_readBranch 61 = .ok (.aload_n 0, 1) := by decide +kernel
theorem dX5_readBranch_62 : decode cX5_readBranch 62 = .ok (.getfield 24, 3) := by decide +kernel
theorem dX5_readBranch_65 : decode cX5_readBranch 65 = .ok (.getfield 316, 3) := by decide +kernel
theorem dX5_readBranch_68 : decode cX5_readBranch 68 = .ok (.invokevirtual 325, 3) := by decide +kernel
theorem dX5_readBranch_71 : decode cX5_readBranch 71 = .ok (.iinc 2 1, 3) := by decide +kernel
theorem dX5_readBranch_74 : decode cX5_readBranch 74 = .ok (.goto (-64), 3) := by decide +kernel
theorem dX5_readBranch_77 : decode cX5_readBranch 77 = .ok (.aload_n 0, 1) := by decide +kernel
theorem dX5_readBranch_78 : decode cX5_readBranch 78 = .ok (.getfield 24, 3) := by decide +kernel
theorem dX5_readBranch_81 : decode cX5_readBranch 81 = .ok (.invokevirtual 301, 3) := by decide +kernel
theorem dX5_readBranch_84 : decode cX5_readBranch 84 = .ok (.aload_n 0, 1) := by decide +kernel
theorem dX5_readBranch_85 : decode cX5_readBranch 85 = .ok (.getfield 24, 3) := by decide +kernel
theorem dX5_readBranch_88 : decode cX5_readBranch 88 = .ok (.getfield 304, 3) := by decide +kernel
theorem dX5_readBranch_91 : decode cX5_readBranch 91 = .ok (.iconst 4, 1) := by decide +kernel
theorem dX5_readBranch_92 : decode cX5_readBranch 92 = .ok (.if_icmp .ne 7, 3) := by decide +kernel
theorem dX5_readBranch_95 : decode cX5_readBranch 95 = .ok (.iconst 1, 1) := by decide +kernel
theorem dX5_readBranch_96 : decode cX5_readBranch 96 = .ok (.goto 4, 3) := by decide +kernel
theorem dX5_readBranch_99 : decode cX5_readBranch 99 = .ok (.iconst 0, 1) := by decide +kernel
theorem dX5_readBranch_100 : decode cX5_readBranch 100 = .ok (.istore_n 2, 1) := by decide +kernel
theorem dX5_readBranch_101 : decode cX5_readBranch 101 = .ok (.iload_n 2, 1) := by decide +kernel
theorem dX5_readBranch_102 : decode cX5_readBranch 102 = .ok (.ifCond .eq 10, 3) := by decide +kernel
theorem dX5_readBranch_105 : decode cX5_readBranch 105 = .ok (.aload_n 0, 1) := by decide +kernel
theorem dX5_readBranch_106 : decode cX5_readBranch 106 = .ok (.getfield 24, 3) := by decide +kernel
theorem dX5_readBranch_109 : decode cX5_readBranch 109 = .ok (.invokevirtual 301, 3) := by decide +kernel
theorem dX5_readBranch_112 : decode cX5_readBranch 112 = .ok (.aload_n 0, 1) := by decide +kernel
theorem dX5_readBranch_113 : decode cX5_readBranch 113 = .ok (.getfield 24, 3) := by decide +kernel
theorem dX5_readBranch_116 : decode cX5_readBranch 116 = .ok (.getfield 304, 3) := by decide +kernel
theorem dX5_readBranch_119 : decode cX5_readBranch 119 = .ok (.iconst 5, 1) := by decide +kernel
theorem dX5_readBranch_120 : decode cX5_readBranch 120 = .ok (.if_icmp .ne 7, 3) := by decide +kernel
theorem dX5_readBranch_123 : decode cX5_readBranch 123 = .ok (.iconst 1, 1) := by decide +kernel
theorem dX5_readBranch_124 : decode cX5_readBranch 124 = .ok (.goto 4, 3) := by decide +kernel
theorem dX5_readBranch_127 : decode cX5_readBranch 127 = .ok (.iconst 0, 1) := by decide +kernel
theorem dX5_readBranch_128 : decode cX5_readBranch 128 = .ok (.istore_n 3, 1) := by decide +kernel
theorem dX5_readBranch_129 : decode cX5_readBranch 129 = .ok (.iload_n 3, 1) := by decide +kernel
theorem dX5_readBranch_130 : decode cX5_readBranch 130 = .ok (.ifCond .eq 10, 3) := by decide +kernel
theorem dX5_readBranch_133 : decode cX5_readBranch 133 = .ok (.aload_n 0, 1) := by decide +kernel
theorem dX5_readBranch_134 : decode cX5_readBranch 134 = .ok (.getfield 24, 3) := by decide +kernel
theorem dX5_readBranch_137 : decode cX5_readBranch 137 = .ok (.invokevirtual 301, 3) := by decide +kernel
theorem dX5_readBranch_140 : decode cX5_readBranch 140 = .ok (.aload_n 0, 1) := by decide +kernel
theorem dX5_readBranch_141 : decode cX5_readBranch 141 = .ok (.getfield 60, 3) := by decide +kernel
theorem dX5_readBranch_144 : decode cX5_readBranch 144 = .ok (.iload_n 1, 1) := by decide +kernel
theorem dX5_readBranch_145 : decode cX5_readBranch 145 = .ok (.iconst 4, 1) := by decide +kernel
theorem dX5_readBranch_146 : decode cX5_readBranch 146 = .ok (.iload_n 2, 1) := by decide +kernel
theorem dX5_readBranch_147 : decode cX5_readBranch 147 = .ok (.invokestatic 112, 3) := by decide +kernel
theorem dX5_readBranch_150 : decode cX5_readBranch 150 = .ok (.invokevirtual 325, 3) := by decide +kernel
theorem dX5_readBranch_153 : decode cX5_readBranch 153 = .ok (.aload_n 0, 1) := by decide +kernel
theorem dX5_readBranch_154 : decode cX5_readBranch 154 = .ok (.getfield 60, 3) := by decide +kernel
theorem dX5_readBranch_157 : decode cX5_readBranch 157 = .ok (.iload_n 1, 1) := by decide +kernel
theorem dX5_readBranch_158 : decode cX5_readBranch 158 = .ok (.iconst 5, 1) := by decide +kernel
theorem dX5_readBranch_159 : decode cX5_readBranch 159 = .ok (.iload_n 3, 1) := by decide +kernel
theorem dX5_readBranch_160 : decode cX5_readBranch 160 = .ok (.invokestatic 112, 3) := by decide +kernel
theorem dX5_readBranch_163 : decode cX5_readBranch 163 = .ok (.invokevirtual 325, 3) := by decide +kernel
theorem dX5_readBranch_166 : decode cX5_readBranch 166 = .ok (.aload_n 0, 1) := by decide +kernel
theorem dX5_readBranch_167 : decode cX5_readBranch 167 = .ok (.getfield 60, 3) := by decide +kernel
theorem dX5_readBranch_170 : decode cX5_readBranch 170 = .ok (.iload_n 1, 1) := by decide +kernel
theorem dX5_readBranch_171 : decode cX5_readBranch 171 = .ok (.iconst 1, 1) := by decide +kernel
theorem dX5_readBranch_172 : decode cX5_readBranch 172 = .ok (.iadd, 1) := by decide +kernel
theorem dX5_readBranch_173 : decode cX5_readBranch 173 = .ok (.putfield 99, 3) := by decide +kernel
theorem dX5_readBranch_176 : decode cX5_readBranch 176 = .ok (.aload_n 0, 1) := by decide +kernel
theorem dX5_readBranch_177 : decode cX5_readBranch 177 = .ok (.getfield 24, 3) := by decide +kernel
theorem dX5_readBranch_180 : decode cX5_readBranch 180 = .ok (.getfield 304, 3) := by decide +kernel
theorem dX5_readBranch_183 : decode cX5_readBranch 183 = .ok (.iconst 1, 1) := by decide +kernel
theorem dX5_readBranch_184 : decode cX5_readBranch 184 = .ok (.if_icmp .ne 7, 3) := by decide +kernel
theorem dX5_readBranch_187 : decode cX5_readBranch 187 = .ok (.iconst 1, 1) := by decide +kernel
theorem dX5_readBranch_188 : decode cX5_readBranch 188 = .ok (.goto 4, 3) := by decide +kernel
theorem dX5_readBranch_191 : decode cX5_readBranch 191 = .ok (.iconst 0, 1) := by decide +kernel
theorem dX5_readBranch_192 : decode cX5_readBranch 192 = .ok (.ireturn, 1) := by decide +kernel
theorem dX5_readBody_0 : decode cX5_readBody 0 = .ok (.iload_n 1, 1) := by decide +kernel
theorem dX5_readBody_1 : decode cX5_readBody 1 = .ok (.iconst 3, 1) := by decide +kernel
theorem dX5_readBody_2 : decode cX5_readBody 2 = .ok (.if_icmp .lt 5, 3) := by decide +kernel
theorem dX5_readBody_5 : decode cX5_readBody 5 = .ok (.iconst 0, 1) := by decide +kernel
theorem dX5_readBody_6 : decode cX5_readBody 6 = .ok (.ireturn, 1) := by decide +kernel
theorem dX5_readBody_7 : decode cX5_readBody 7 = .ok (.iconst 0, 1) := by decide +kernel
theorem dX5_readBody_8 : decode cX5_readBody 8 = .ok (.istore_n 2, 1) := by decide +kernel
theorem dX5_readBody_9 : decode cX5_readBody 9 = .ok (.iload_n 2, 1) := by decide +kernel
theorem dX5_readBody_10 : decode cX5_readBody 10 = .ok (.iconst 2, 1) := by decide +kernel
theorem dX5_readBody_11 : decode cX5_readBody 11 = .ok (.if_icmp .gt 65, 3) := by decide +kernel
theorem dX5_readBody_14 : decode cX5_readBody 14 = .ok (.aload_n 0, 1) := by decide +kernel
theorem dX5_readBody_15 : decode cX5_readBody 15 = .ok (.getfield 24, 3) := by decide +kernel
theorem dX5_readBody_18 : decode cX5_readBody 18 = .ok (.invokevirtual 301, 3) := by decide +kernel
theorem dX5_readBody_21 : decode cX5_readBody 21 = .ok (.aload_n 0, 1) := by decide +kernel
theorem dX5_readBody_22 : decode cX5_readBody 22 = .ok (.getfield 24, 3) := by decide +kernel
theorem dX5_readBody_25 : decode cX5_readBody 25 = .ok (.getfield 304, 3) := by decide +kernel
theorem dX5_readBody_28 : decode cX5_readBody 28 = .ok (.iconst 2, 1) := by decide +kernel
theorem dX5_readBody_29 : decode cX5_readBody 29 = .ok (.if_icmp .ne 23, 3) := by decide +kernel
theorem dX5_readBody_32 : decode cX5_readBody 32 = .ok (.aload_n 0, 1) := by decide +kernel
theorem dX5_readBody_33 : decode cX5_readBody 33 = .ok (.getfield 24, 3) := by decide +kernel
theorem dX5_readBody_36 : decode cX5_readBody 36 = .ok (.getfield 316, 3) := by decide +kernel
theorem dX5_readBody_39 : decode cX5_readBody 39 = .ok (.getstatic 328, 3) := by decide +kernel
theorem dX5_readBody_42 : decode cX5_readBody 42 = .ok (.getstatic 331, 3) := by decide +kernel
theorem dX5_readBody_45 : decode cX5_readBody 45 = .ok (.iload_n 2, 1) := by decide +kernel
theorem dX5_readBody_46 : decode cX5_readBody 46 = .ok (.invokestatic 132, 3) := by decide +kernel
theorem dX5_readBody_49 : decode cX5_readBody 49 = .ok (.ifCond .ne 5, 3) := by decide +kernel
theorem dX5_readBody_52 : decode cX5_readBody 52 = .ok (.iconst 0, 1) := by decide +kernel
theorem dX5_readBody_53 : decode cX5_readBody 53 = .ok (.ireturn, 1) := by decide +kernel
theorem dX5_readBody_54 : decode cX5_readBody 54 = .ok (.aload_n 0, 1) := by decide +kernel
theorem dX5_readBody_55 : decode cX5_readBody 55 = .ok (.getfield 60, 3) := by decide +kernel
theorem dX5_readBody_58 : decode cX5_readBody 58 = .ok (.iload_n 1, 1) := by decide +kernel
theorem dX5_readBody_59 : decode cX5_readBody 59 = .ok (.iload_n 2, 1) := by decide +kernel
theorem dX5_readBody_60 : decode cX5_readBody 60 = .ok (.aload_n 0, 1) := by decide +kernel
theorem dX5_readBody_61 : decode cX5_readBody 61 = .ok (.getfield 24, 3) := by decide +kernel
theorem dX5_readBody_64 : decode cX5_readBody 64 = .ok (.getfield 316, 3) := by decide +kernel
theorem dX5_readBody_67 : decode cX5_readBody 67 = .ok (.invokevirtual 334, 3) := by decide +kernel
theorem dX5_readBody_70 : decode cX5_readBody 70 = .ok (.iinc 2 1, 3) := by decide +kernel
theorem dX5_readBody_73 : decode cX5_readBody 73 = .ok (.goto (-64), 3) := by decide +kernel
theorem dX5_readBody_76 : decode cX5_readBody 76 = .ok (.aload_n 0, 1) := by decide +kernel
theorem dX5_readBody_77 : decode cX5_readBody 77 = .ok (.getfield 24, 3) := by decide +kernel
theorem dX5_readBody_80 : decode cX5_readBody 80 = .ok (.invokevirtual 301, 3) := by decide +kernel
theorem dX5_readBody_83 : decode cX5_readBody 83 = .ok (.aload_n 0, 1) := by decide +kernel
theorem dX5_readBody_84 : decode cX5_readBody 84 = .ok (.getfield 60, 3) := by decide +kernel
theorem dX5_readBody_87 : decode cX5_readBody 87 = .ok (.iload_n 1, 1) := by decide +kernel
theorem dX5_readBody_88 : decode cX5_readBody 88 = .ok (.iconst 1, 1) := by decide +kernel
theorem dX5_readBody_89 : decode cX5_readBody 89 = .ok (.iadd, 1) := by decide +kernel
theorem dX5_readBody_90 : decode cX5_readBody 90 = .ok (.putfield 102, 3) := by decide +kernel
theorem dX5_readBody_93 : decode cX5_readBody 93 = .ok (.aload_n 0, 1) := by decide +kernel
theorem dX5_readBody_94 : decode cX5_readBody 94 = .ok (.getfield 24, 3) := by decide +kernel
theorem dX5_readBody_97 : decode cX5_readBody 97 = .ok (.getfield 304, 3) := by decide +kernel
theorem dX5_readBody_100 : decode cX5_readBody 100 = .ok (.iconst 1, 1) := by decide +kernel
theorem dX5_readBody_101 : decode cX5_readBody 101 = .ok (.if_icmp .ne 7, 3) := by decide +kernel
theorem dX5_readBody_104 : decode cX5_readBody 104 = .ok (.iconst 1, 1) := by decide +kernel
theorem dX5_readBody_105 : decode cX5_readBody 105 = .ok (.goto 4, 3) := by decide +kernel
theorem dX5_readBody_108 : decode cX5_readBody 108 = .ok (.iconst 0, 1) := by decide +kernel
theorem dX5_readBody_109 : decode cX5_readBody 109 = .ok (.ireturn, 1) := by decide +kernel
theorem dX5_standDraft_0 : decode cX5_standDraft 0 = .ok (.aload_n 0, 1) := by decide +kernel
theorem dX5_standDraft_1 : decode cX5_standDraft 1 = .ok (.getfield 56, 3) := by decide +kernel
theorem dX5_standDraft_4 : decode cX5_standDraft 4 = .ok (.astore_n 1, 1) := by decide +kernel
theorem dX5_standDraft_5 : decode cX5_standDraft 5 = .ok (.aload_n 0, 1) := by decide +kernel
theorem dX5_standDraft_6 : decode cX5_standDraft 6 = .ok (.aload_n 0, 1) := by decide +kernel
theorem dX5_standDraft_7 : decode cX5_standDraft 7 = .ok (.getfield 60, 3) := by decide +kernel
theorem dX5_standDraft_10 : decode cX5_standDraft 10 = .ok (.putfield 56, 3) := by decide +kernel
theorem dX5_standDraft_13 : decode cX5_standDraft 13 = .ok (.aload_n 0, 1) := by decide +kernel
theorem dX5_standDraft_14 : decode cX5_standDraft 14 = .ok (.aload_n 1, 1) := by decide +kernel
theorem dX5_standDraft_15 : decode cX5_standDraft 15 = .ok (.putfield 60, 3) := by decide +kernel
theorem dX5_standDraft_18 : decode cX5_standDraft 18 = .ok (.aload_n 0, 1) := by decide +kernel
theorem dX5_standDraft_19 : decode cX5_standDraft 19 = .ok (.getfield 56, 3) := by decide +kernel
theorem dX5_standDraft_22 : decode cX5_standDraft 22 = .ok (.invokevirtual 337, 3) := by decide +kernel
theorem dX5_standDraft_25 : decode cX5_standDraft 25 = .ok (.return_, 1) := by decide +kernel
theorem dX5_mayStep_0 : decode cX5_mayStep 0 = .ok (.iload_n 2, 1) := by decide +kernel
theorem dX5_mayStep_1 : decode cX5_mayStep 1 = .ok (.iload_n 3, 1) := by decide +kernel
theorem dX5_mayStep_2 : decode cX5_mayStep 2 = .ok (.if_icmp .eq 19, 3) := by decide +kernel
theorem dX5_mayStep_5 : decode cX5_mayStep 5 = .ok (.aload_n 0, 1) := by decide +kernel
theorem dX5_mayStep_6 : decode cX5_mayStep 6 = .ok (.iload_n 2, 1) := by decide +kernel
theorem dX5_mayStep_7 : decode cX5_mayStep 7 = .ok (.invokevirtual 109, 3) := by decide +kernel
theorem dX5_mayStep_10 : decode cX5_mayStep 10 = .ok (.ifCond .ne 11, 3) := by decide +kernel
theorem dX5_mayStep_13 : decode cX5_mayStep 13 = .ok (.aload_n 0, 1) := by decide +kernel
theorem dX5_mayStep_14 : decode cX5_mayStep 14 = .ok (.iload_n 3, 1) := by decide +kernel
theorem dX5_mayStep_15 : decode cX5_mayStep 15 = .ok (.invokevirtual 109, 3) := by decide +kernel
theorem dX5_mayStep_18 : decode cX5_mayStep 18 = .ok (.ifCond .eq 5, 3) := by decide +kernel
theorem dX5_mayStep_21 : decode cX5_mayStep 21 = .ok (.iconst 0, 1) := by decide +kernel
theorem dX5_mayStep_22 : decode cX5_mayStep 22 = .ok (.ireturn, 1) := by decide +kernel
theorem dX5_mayStep_23 : decode cX5_mayStep 23 = .ok (.aload_n 0, 1) := by decide +kernel
theorem dX5_mayStep_24 : decode cX5_mayStep 24 = .ok (.aload_n 0, 1) := by decide +kernel
theorem dX5_mayStep_25 : decode cX5_mayStep 25 = .ok (.getfield 56, 3) := by decide +kernel
theorem dX5_mayStep_28 : decode cX5_mayStep 28 = .ok (.iload_n 3, 1) := by decide +kernel
theorem dX5_mayStep_29 : decode cX5_mayStep 29 = .ok (.iconst 0, 1) := by decide +kernel
theorem dX5_mayStep_30 : decode cX5_mayStep 30 = .ok (.invokevirtual 116, 3) := by decide +kernel
theorem dX5_mayStep_33 : decode cX5_mayStep 33 = .ok (.aload_n 0, 1) := by decide +kernel
theorem dX5_mayStep_34 : decode cX5_mayStep 34 = .ok (.getfield 56, 3) := by decide +kernel
theorem dX5_mayStep_37 : decode cX5_mayStep 37 = .ok (.iload_n 2, 1) := by decide +kernel
theorem dX5_mayStep_38 : decode cX5_mayStep 38 = .ok (.iconst 0, 1) := by decide +kernel
theorem dX5_mayStep_39 : decode cX5_mayStep 39 = .ok (.invokevirtual 116, 3) := by decide +kernel
theorem dX5_mayStep_42 : decode cX5_mayStep 42 = .ok (.isub, 1) := by decide +kernel
theorem dX5_mayStep_43 : decode cX5_mayStep 43 = .ok (.iload_n 2, 1) := by decide +kernel
theorem dX5_mayStep_44 : decode cX5_mayStep 44 = .ok (.iload 4, 2) := by decide +kernel
theorem dX5_mayStep_46 : decode cX5_mayStep 46 = .ok (.iload 5, 2) := by decide +kernel
theorem dX5_mayStep_48 : decode cX5_mayStep 48 = .ok (.invokevirtual 340, 3) := by decide +kernel
theorem dX5_mayStep_51 : decode cX5_mayStep 51 = .ok (.ifCond .ne 5, 3) := by decide +kernel
theorem dX5_mayStep_54 : decode cX5_mayStep 54 = .ok (.iconst 0, 1) := by decide +kernel
theorem dX5_mayStep_55 : decode cX5_mayStep 55 = .ok (.ireturn, 1) := by decide +kernel
theorem dX5_mayStep_56 : decode cX5_mayStep 56 = .ok (.iload_n 2, 1) := by decide +kernel
theorem dX5_mayStep_57 : decode cX5_mayStep 57 = .ok (.iconst (-1), 1) := by decide +kernel
theorem dX5_mayStep_58 : decode cX5_mayStep 58 = .ok (.if_icmp .eq 8, 3) := by decide +kernel
theorem dX5_mayStep_61 : decode cX5_mayStep 61 = .ok (.iload_n 3, 1) := by decide +kernel
theorem dX5_mayStep_62 : decode cX5_mayStep 62 = .ok (.iconst (-1), 1) := by decide +kernel
theorem dX5_mayStep_63 : decode cX5_mayStep 63 = .ok (.if_icmp .ne 23, 3) := by decide +kernel
theorem dX5_mayStep_66 : decode cX5_mayStep 66 = .ok (.iload_n 3, 1) := by decide +kernel
theorem dX5_mayStep_67 : decode cX5_mayStep 67 = .ok (.iconst (-1), 1) := by decide +kernel
theorem dX5_mayStep_68 : decode cX5_mayStep 68 = .ok (.if_icmp .eq 12, 3) := by decide +kernel
theorem dX5_mayStep_71 : decode cX5_mayStep 71 = .ok (.aload_n 0, 1) := by decide +kernel
theorem dX5_mayStep_72 : decode cX5_mayStep 72 = .ok (.iload_n 1, 1) := by decide +kernel
theorem dX5_mayStep_73 : decode cX5_mayStep 73 = .ok (.iload_n 3, 1) := by decide +kernel
theorem dX5_mayStep_74 : decode cX5_mayStep 74 = .ok (.invokevirtual 344, 3) := by decide +kernel
theorem dX5_mayStep_77 : decode cX5_mayStep 77 = .ok (.ifCond .eq 7, 3) := by decide +kernel
theorem dX5_mayStep_80 : decode cX5_mayStep 80 = .ok (.iconst 1, 1) := by decide +kernel
theorem dX5_mayStep_81 : decode cX5_mayStep 81 = .ok (.goto 4, 3) := by decide +kernel
theorem dX5_mayStep_84 : decode cX5_mayStep 84 = .ok (.iconst 0, 1) := by decide +kernel
theorem dX5_mayStep_85 : decode cX5_mayStep 85 = .ok (.ireturn, 1) := by decide +kernel
theorem dX5_mayStep_86 : decode cX5_mayStep 86 = .ok (.aload_n 0, 1) := by decide +kernel
theorem dX5_mayStep_87 : decode cX5_mayStep 87 = .ok (.getfield 56, 3) := by decide +kernel
theorem dX5_mayStep_90 : decode cX5_mayStep 90 = .ok (.iload_n 2, 1) := by decide +kernel
theorem dX5_mayStep_91 : decode cX5_mayStep 91 = .ok (.iload_n 3, 1) := by decide +kernel
theorem dX5_mayStep_92 : decode cX5_mayStep 92 = .ok (.invokevirtual 347, 3) := by decide +kernel
theorem dX5_mayStep_95 : decode cX5_mayStep 95 = .ok (.aload_n 0, 1) := by decide +kernel
theorem dX5_mayStep_96 : decode cX5_mayStep 96 = .ok (.iconst 1, 1) := by decide +kernel
theorem dX5_mayStep_97 : decode cX5_mayStep 97 = .ok (.invokevirtual 142, 3) := by decide +kernel
theorem dX5_mayStep_100 : decode cX5_mayStep 100 = .ok (.if_icmp .gt 16, 3) := by decide +kernel
theorem dX5_mayStep_103 : decode cX5_mayStep 103 = .ok (.aload_n 0, 1) := by decide +kernel
theorem dX5_mayStep_104 : decode cX5_mayStep 104 = .ok (.iload_n 1, 1) := by decide +kernel
theorem dX5_mayStep_105 : decode cX5_mayStep 105 = .ok (.iload_n 3, 1) := by decide +kernel
theorem dX5_mayStep_106 : decode cX5_mayStep 106 = .ok (.invokevirtual 344, 3) := by decide +kernel
theorem dX5_mayStep_109 : decode cX5_mayStep 109 = .ok (.ifCond .eq 7, 3) := by decide +kernel
theorem dX5_mayStep_112 : decode cX5_mayStep 112 = .ok (.iconst 1, 1) := by decide +kernel
theorem dX5_mayStep_113 : decode cX5_mayStep 113 = .ok (.goto 4, 3) := by decide +kernel
theorem dX5_mayStep_116 : decode cX5_mayStep 116 = .ok (.iconst 0, 1) := by decide +kernel
theorem dX5_mayStep_117 : decode cX5_mayStep 117 = .ok (.ireturn, 1) := by decide +kernel
theorem dX5_inReach_0 : decode cX5_inReach 0 = .ok (.iload_n 1, 1) := by decide +kernel
theorem dX5_inReach_1 : decode cX5_inReach 1 = .ok (.ifCond .le 26, 3) := by decide +kernel
theorem dX5_inReach_4 : decode cX5_inReach 4 = .ok (.iload_n 1, 1) := by decide +kernel
theorem dX5_inReach_5 : decode cX5_inReach 5 = .ok (.iload_n 2, 1) := by decide +kernel
theorem dX5_inReach_6 : decode cX5_inReach 6 = .ok (.iconst (-1), 1) := by decide +kernel
theorem dX5_inReach_7 : decode cX5_inReach 7 = .ok (.if_icmp .ne 10, 3) := by decide +kernel
theorem dX5_inReach_10 : decode cX5_inReach 10 = .ok (.iload_n 3, 1) := by decide +kernel
theorem dX5_inReach_11 : decode cX5_inReach 11 = .ok (.iload 4, 2) := by decide +kernel
theorem dX5_inReach_13 : decode cX5_inReach 13 = .ok (.iadd, 1) := by decide +kernel
theorem dX5_inReach_14 : decode cX5_inReach 14 = .ok (.goto 4, 3) := by decide +kernel
theorem dX5_inReach_17 : decode cX5_inReach 17 = .ok (.iload_n 3, 1) := by decide +kernel
theorem dX5_inReach_18 : decode cX5_inReach 18 = .ok (.if_icmp .gt 7, 3) := by decide +kernel
theorem dX5_inReach_21 : decode cX5_inReach 21 = .ok (.iconst 1, 1) := by decide +kernel
theorem dX5_inReach_22 : decode cX5_inReach 22 = .ok (.goto 4, 3) := by decide +kernel
theorem dX5_inReach_25 : decode cX5_inReach 25 = .ok (.iconst 0, 1) := by decide +kernel
theorem dX5_inReach_26 : decode cX5_inReach 26 = .ok (.ireturn, 1) := by decide +kernel
theorem dX5_inReach_27 : decode cX5_inReach 27 = .ok (.iload_n 1, 1) := by decide +kernel
theorem dX5_inReach_28 : decode cX5_inReach 28 = .ok (.ifCond .eq 15, 3) := by decide +kernel
theorem dX5_inReach_31 : decode cX5_inReach 31 = .ok (.iload_n 1, 1) := by decide +kernel
theorem dX5_inReach_32 : decode cX5_inReach 32 = .ok (.ineg, 1) := by decide +kernel
theorem dX5_inReach_33 : decode cX5_inReach 33 = .ok (.iload_n 3, 1) := by decide +kernel
theorem dX5_inReach_34 : decode cX5_inReach 34 = .ok (.aload_n 0, 1) := by decide +kernel
theorem dX5_inReach_35 : decode cX5_inReach 35 = .ok (.iconst 2, 1) := by decide +kernel
theorem dX5_inReach_36 : decode cX5_inReach 36 = .ok (.invokevirtual 142, 3) := by decide +kernel
theorem dX5_inReach_39 : decode cX5_inReach 39 = .ok (.isub, 1) := by decide +kernel
theorem dX5_inReach_40 : decode cX5_inReach 40 = .ok (.if_icmp .gt 7, 3) := by decide +kernel
theorem dX5_inReach_43 : decode cX5_inReach 43 = .ok (.iconst 1, 1) := by decide +kernel
theorem dX5_inReach_44 : decode cX5_inReach 44 = .ok (.goto 4, 3) := by decide +kernel
theorem dX5_inReach_47 : decode cX5_inReach 47 = .ok (.iconst 0, 1) := by decide +kernel
theorem dX5_inReach_48 : decode cX5_inReach 48 = .ok (.ireturn, 1) := by decide +kernel
theorem dX5_bears_0 : decode cX5_bears 0 = .ok (.aload_n 0, 1) := by decide +kernel
theorem dX5_bears_1 : decode cX5_bears 1 = .ok (.getfield 56, 3) := by decide +kernel
theorem dX5_bears_4 : decode cX5_bears 4 = .ok (.iload_n 1, 1) := by decide +kernel
theorem dX5_bears_5 : decode cX5_bears 5 = .ok (.iconst 1, 1) := by decide +kernel
theorem dX5_bears_6 : decode cX5_bears 6 = .ok (.invokevirtual 123, 3) := by decide +kernel
theorem dX5_bears_9 : decode cX5_bears 9 = .ok (.aload_n 0, 1) := by decide +kernel
theorem dX5_bears_10 : decode cX5_bears 10 = .ok (.getfield 56, 3) := by decide +kernel
theorem dX5_bears_13 : decode cX5_bears 13 = .ok (.iload_n 2, 1) := by decide +kernel
theorem dX5_bears_14 : decode cX5_bears 14 = .ok (.iconst 2, 1) := by decide +kernel
theorem dX5_bears_15 : decode cX5_bears 15 = .ok (.invokevirtual 116, 3) := by decide +kernel
theorem dX5_bears_18 : decode cX5_bears 18 = .ok (.aload_n 0, 1) := by decide +kernel
theorem dX5_bears_19 : decode cX5_bears 19 = .ok (.iconst 0, 1) := by decide +kernel
theorem dX5_bears_20 : decode cX5_bears 20 = .ok (.invokevirtual 142, 3) := by decide +kernel
theorem dX5_bears_23 : decode cX5_bears 23 = .ok (.imul, 1) := by decide +kernel
theorem dX5_bears_24 : decode cX5_bears 24 = .ok (.if_icmp .gt 7, 3) := by decide +kernel
theorem dX5_bears_27 : decode cX5_bears 27 = .ok (.iconst 1, 1) := by decide +kernel
theorem dX5_bears_28 : decode cX5_bears 28 = .ok (.goto 4, 3) := by decide +kernel
theorem dX5_bears_31 : decode cX5_bears 31 = .ok (.iconst 0, 1) := by decide +kernel
theorem dX5_bears_32 : decode cX5_bears 32 = .ok (.ireturn, 1) := by decide +kernel
theorem dX5_tenths_0 : decode cX5_tenths 0 = .ok (.iload_n 2, 1) := by decide +kernel
theorem dX5_tenths_1 : decode cX5_tenths 1 = .ok (.iconst (-1), 1) := by decide +kernel
theorem dX5_tenths_2 : decode cX5_tenths 2 = .ok (.if_icmp .ne 6, 3) := by decide +kernel
theorem dX5_tenths_5 : decode cX5_tenths 5 = .ok (.bipush 10, 2) := by decide +kernel
theorem dX5_tenths_7 : decode cX5_tenths 7 = .ok (.ireturn, 1) := by decide +kernel
theorem dX5_tenths_8 : decode cX5_tenths 8 = .ok (.bipush 10, 2) := by decide +kernel
theorem dX5_tenths_10 : decode cX5_tenths 10 = .ok (.istore_n 3, 1) := by decide +kernel
theorem dX5_tenths_11 : decode cX5_tenths 11 = .ok (.aload_n 0, 1) := by decide +kernel
theorem dX5_tenths_12 : decode cX5_tenths 12 = .ok (.getfield 56, 3) := by decide +kernel
theorem dX5_tenths_15 : decode cX5_tenths 15 = .ok (.iload_n 1, 1) := by decide +kernel
theorem dX5_tenths_16 : decode cX5_tenths 16 = .ok (.iconst 1, 1) := by decide +kernel
theorem dX5_tenths_17 : decode cX5_tenths 17 = .ok (.invokevirtual 123, 3) := by decide +kernel
theorem dX5_tenths_20 : decode cX5_tenths 20 = .ok (.aload_n 0, 1) := by decide +kernel
theorem dX5_tenths_21 : decode cX5_tenths 21 = .ok (.getfield 56, 3) := by decide +kernel
theorem dX5_tenths_24 : decode cX5_tenths 24 = .ok (.iload_n 2, 1) := by decide +kernel
theorem dX5_tenths_25 : decode cX5_tenths 25 = .ok (.iconst 2, 1) := by decide +kernel
theorem dX5_tenths_26 : decode cX5_tenths 26 = .ok (.invokevirtual 116, 3) := by decide +kernel
theorem dX5_tenths_29 : decode cX5_tenths 29 = .ok (.if_icmp .le 13, 3) := by decide +kernel
theorem dX5_tenths_32 : decode cX5_tenths 32 = .ok (.aload_n 0, 1) := by decide +kernel
theorem dX5_tenths_33 : decode cX5_tenths 33 = .ok (.getfield 56, 3) := by decide +kernel
theorem dX5_tenths_36 : decode cX5_tenths 36 = .ok (.iload_n 2, 1) := by decide +kernel
theorem dX5_tenths_37 : decode cX5_tenths 37 = .ok (.iconst 3, 1) := by decide +kernel
theorem dX5_tenths_38 : decode cX5_tenths 38 = .ok (.invokevirtual 116, 3) := by decide +kernel
theorem dX5_tenths_41 : decode cX5_tenths 41 = .ok (.istore_n 3, 1) := by decide +kernel
theorem dX5_tenths_42 : decode cX5_tenths 42 = .ok (.aload_n 0, 1) := by decide +kernel
theorem dX5_tenths_43 : decode cX5_tenths 43 = .ok (.getfield 56, 3) := by decide +kernel
theorem dX5_tenths_46 : decode cX5_tenths 46 = .ok (.iload_n 2, 1) := by decide +kernel
theorem dX5_tenths_47 : decode cX5_tenths 47 = .ok (.iconst 4, 1) := by decide +kernel
theorem dX5_tenths_48 : decode cX5_tenths 48 = .ok (.invokevirtual 116, 3) := by decide +kernel
theorem dX5_tenths_51 : decode cX5_tenths 51 = .ok (.iconst 1, 1) := by decide +kernel
theorem dX5_tenths_52 : decode cX5_tenths 52 = .ok (.if_icmp .ne 25, 3) := by decide +kernel
theorem dX5_tenths_55 : decode cX5_tenths 55 = .ok (.iload_n 3, 1) := by decide +kernel
theorem dX5_tenths_56 : decode cX5_tenths 56 = .ok (.iconst 0, 1) := by decide +kernel
theorem dX5_tenths_57 : decode cX5_tenths 57 = .ok (.aload_n 0, 1) := by decide +kernel
theorem dX5_tenths_58 : decode cX5_tenths 58 = .ok (.iconst 3, 1) := by decide +kernel
theorem dX5_tenths_59 : decode cX5_tenths 59 = .ok (.invokevirtual 142, 3) := by decide +kernel
theorem dX5_tenths_62 : decode cX5_tenths 62 = .ok (.aload_n 0, 1) := by decide +kernel
theorem dX5_tenths_63 : decode cX5_tenths 63 = .ok (.getfield 56, 3) := by decide +kernel
theorem dX5_tenths_66 : decode cX5_tenths 66 = .ok (.iload_n 1, 1) := by decide +kernel
theorem dX5_tenths_67 : decode cX5_tenths 67 = .ok (.iconst 2, 1) := by decide +kernel
theorem dX5_tenths_68 : decode cX5_tenths 68 = .ok (.invokevirtual 123, 3) := by decide +kernel
theorem dX5_tenths_71 : decode cX5_tenths 71 = .ok (.isub, 1) := by decide +kernel
theorem dX5_tenths_72 : decode cX5_tenths 72 = .ok (.invokestatic 188, 3) := by decide +kernel
theorem dX5_tenths_75 : decode cX5_tenths 75 = .ok (.isub, 1) := by decide +kernel
theorem dX5_tenths_76 : decode cX5_tenths 76 = .ok (.istore_n 3, 1) := by decide +kernel
theorem dX5_tenths_77 : decode cX5_tenths 77 = .ok (.iconst 0, 1) := by decide +kernel
theorem dX5_tenths_78 : decode cX5_tenths 78 = .ok (.iload_n 3, 1) := by decide +kernel
theorem dX5_tenths_79 : decode cX5_tenths 79 = .ok (.invokestatic 188, 3) := by decide +kernel
theorem dX5_tenths_82 : decode cX5_tenths 82 = .ok (.ireturn, 1) := by decide +kernel
theorem dX5_look_0 : decode cX5_look 0 = .ok (.aload_n 0, 1) := by decide +kernel
theorem dX5_look_1 : decode cX5_look 1 = .ok (.getfield 56, 3) := by decide +kernel
theorem dX5_look_4 : decode cX5_look 4 = .ok (.iload_n 1, 1) := by decide +kernel
theorem dX5_look_5 : decode cX5_look 5 = .ok (.iconst 0, 1) := by decide +kernel
theorem dX5_look_6 : decode cX5_look 6 = .ok (.invokevirtual 123, 3) := by decide +kernel
theorem dX5_look_9 : decode cX5_look 9 = .ok (.iload_n 2, 1) := by decide +kernel
theorem dX5_look_10 : decode cX5_look 10 = .ok (.iadd, 1) := by decide +kernel
theorem dX5_look_11 : decode cX5_look 11 = .ok (.istore 4, 2) := by decide +kernel
theorem dX5_look_13 : decode cX5_look 13 = .ok (.aload_n 0, 1) := by decide +kernel
theorem dX5_look_14 : decode cX5_look 14 = .ok (.getfield 31, 3) := by decide +kernel
theorem dX5_look_17 : decode cX5_look 17 = .ok (.invokevirtual 350, 3) := by decide +kernel
theorem dX5_look_20 : decode cX5_look 20 = .ok (.iconst (-1), 1) := by decide +kernel
theorem dX5_look_21 : decode cX5_look 21 = .ok (.istore 5, 2) := by decide +kernel
theorem dX5_look_23 : decode cX5_look 23 = .ok (.iload 5, 2) := by decide +kernel
theorem dX5_look_25 : decode cX5_look 25 = .ok (.aload_n 0, 1) := by decide +kernel
theorem dX5_look_26 : decode cX5_look 26 = .ok (.getfield 56, 3) := by decide +kernel
theorem dX5_look_29 : decode cX5_look 29 = .ok (.getfield 99, 3) := by decide +kernel
theorem dX5_look_32 : decode cX5_look 32 = .ok (.if_icmp .ge 78, 3) := by decide +kernel
theorem dX5_look_35 : decode cX5_look 35 = .ok (.aload_n 0, 1) := by decide +kernel
theorem dX5_look_36 : decode cX5_look 36 = .ok (.getfield 31, 3) := by decide +kernel
theorem dX5_look_39 : decode cX5_look 39 = .ok (.iload 5, 2) := by decide +kernel
theorem dX5_look_41 : decode cX5_look 41 = .ok (.iconst 1, 1) := by decide +kernel
theorem dX5_look_42 : decode cX5_look 42 = .ok (.iadd, 1) := by decide +kernel
theorem dX5_look_43 : decode cX5_look 43 = .ok (.aload_n 0, 1) := by decide +kernel
theorem dX5_look_44 : decode cX5_look 44 = .ok (.iload_n 1, 1) := by decide +kernel
theorem dX5_look_45 : decode cX5_look 45 = .ok (.iload 5, 2) := by decide +kernel
theorem dX5_look_47 : decode cX5_look 47 = .ok (.invokevirtual 150, 3) := by decide +kernel
theorem dX5_look_50 : decode cX5_look 50 = .ok (.invokevirtual 353, 3) := by decide +kernel
theorem dX5_look_53 : decode cX5_look 53 = .ok (.iconst (-1), 1) := by decide +kernel
theorem dX5_look_54 : decode cX5_look 54 = .ok (.istore 6, 2) := by decide +kernel
theorem dX5_look_56 : decode cX5_look 56 = .ok (.iload 6, 2) := by decide +kernel
theorem dX5_look_58 : decode cX5_look 58 = .ok (.aload_n 0, 1) := by decide +kernel
theorem dX5_look_59 : decode cX5_look 59 = .ok (.getfield 56, 3) := by decide +kernel
theorem dX5_look_62 : decode cX5_look 62 = .ok (.getfield 99, 3) := by decide +kernel
theorem dX5_look_65 : decode cX5_look 65 = .ok (.if_icmp .ge 39, 3) := by decide +kernel
theorem dX5_look_68 : decode cX5_look 68 = .ok (.aload_n 0, 1) := by decide +kernel
theorem dX5_look_69 : decode cX5_look 69 = .ok (.iload_n 1, 1) := by decide +kernel
theorem dX5_look_70 : decode cX5_look 70 = .ok (.iload 5, 2) := by decide +kernel
theorem dX5_look_72 : decode cX5_look 72 = .ok (.iload 6, 2) := by decide +kernel
theorem dX5_look_74 : decode cX5_look 74 = .ok (.iload 4, 2) := by decide +kernel
theorem dX5_look_76 : decode cX5_look 76 = .ok (.iload_n 3, 1) := by decide +kernel
theorem dX5_look_77 : decode cX5_look 77 = .ok (.invokevirtual 146, 3) := by decide +kernel
theorem dX5_look_80 : decode cX5_look 80 = .ok (.ifCond .eq 18, 3) := by decide +kernel
theorem dX5_look_83 : decode cX5_look 83 = .ok (.aload_n 0, 1) := by decide +kernel
theorem dX5_look_84 : decode cX5_look 84 = .ok (.getfield 31, 3) := by decide +kernel
theorem dX5_look_87 : decode cX5_look 87 = .ok (.iload 5, 2) := by decide +kernel
theorem dX5_look_89 : decode cX5_look 89 = .ok (.iconst 1, 1) := by decide +kernel
theorem dX5_look_90 : decode cX5_look 90 = .ok (.iadd, 1) := by decide +kernel
theorem dX5_look_91 : decode cX5_look 91 = .ok (.iload 6, 2) := by decide +kernel
theorem dX5_look_93 : decode cX5_look 93 = .ok (.iconst 1, 1) := by decide +kernel
theorem dX5_look_94 : decode cX5_look 94 = .ok (.iadd, 1) := by decide +kernel
theorem dX5_look_95 : decode cX5_look 95 = .ok (.invokevirtual 356, 3) := by decide +kernel
theorem dX5_look_98 : decode cX5_look 98 = .ok (.iinc 6 1, 3) := by decide +kernel
theorem dX5_look_101 : decode cX5_look 101 = .ok (.goto (-45), 3) := by decide +kernel
theorem dX5_look_104 : decode cX5_look 104 = .ok (.iinc 5 1, 3) := by decide +kernel
theorem dX5_look_107 : decode cX5_look 107 = .ok (.goto (-84), 3) := by decide +kernel
theorem dX5_look_110 : decode cX5_look 110 = .ok (.return_, 1) := by decide +kernel
theorem dX5_reached_0 : decode cX5_reached 0 = .ok (.aload_n 0, 1) := by decide +kernel
theorem dX5_reached_1 : decode cX5_reached 1 = .ok (.getfield 31, 3) := by decide +kernel
theorem dX5_reached_4 : decode cX5_reached 4 = .ok (.iconst 0, 1) := by decide +kernel
theorem dX5_reached_5 : decode cX5_reached 5 = .ok (.iload_n 1, 1) := by decide +kernel
theorem dX5_reached_6 : decode cX5_reached 6 = .ok (.iconst 1, 1) := by decide +kernel
theorem dX5_reached_7 : decode cX5_reached 7 = .ok (.ishl, 1) := by decide +kernel
theorem dX5_reached_8 : decode cX5_reached 8 = .ok (.iconst (-1), 1) := by decide +kernel
theorem dX5_reached_9 : decode cX5_reached 9 = .ok (.ixor, 1) := by decide +kernel
theorem dX5_reached_10 : decode cX5_reached 10 = .ok (.invokevirtual 359, 3) := by decide +kernel
theorem dX5_reached_13 : decode cX5_reached 13 = .ok (.iconst 1, 1) := by decide +kernel
theorem dX5_reached_14 : decode cX5_reached 14 = .ok (.iushr, 1) := by decide +kernel
theorem dX5_reached_15 : decode cX5_reached 15 = .ok (.ireturn, 1) := by decide +kernel
theorem dX5_comesDown_0 : decode cX5_comesDown 0 = .ok (.aload_n 0, 1) := by decide +kernel
theorem dX5_comesDown_1 : decode cX5_comesDown 1 = .ok (.getfield 31, 3) := by decide +kernel
theorem dX5_comesDown_4 : decode cX5_comesDown 4 = .ok (.iload_n 1, 1) := by decide +kernel
theorem dX5_comesDown_5 : decode cX5_comesDown 5 = .ok (.iconst 1, 1) := by decide +kernel
theorem dX5_comesDown_6 : decode cX5_comesDown 6 = .ok (.iadd, 1) := by decide +kernel
theorem dX5_comesDown_7 : decode cX5_comesDown 7 = .ok (.iconst (-1), 1) := by decide +kernel
theorem dX5_comesDown_8 : decode cX5_comesDown 8 = .ok (.invokevirtual 359, 3) := by decide +kernel
theorem dX5_comesDown_11 : decode cX5_comesDown 11 = .ok (.iconst 0, 1) := by decide +kernel
theorem dX5_comesDown_12 : decode cX5_comesDown 12 = .ok (.invokestatic 291, 3) := by decide +kernel
theorem dX5_comesDown_15 : decode cX5_comesDown 15 = .ok (.ireturn, 1) := by decide +kernel
theorem dX5_returning_0 : decode cX5_returning 0 = .ok (.iconst 0, 1) := by decide +kernel
theorem dX5_returning_1 : decode cX5_returning 1 = .ok (.istore_n 2, 1) := by decide +kernel
theorem dX5_returning_2 : decode cX5_returning 2 = .ok (.iconst 0, 1) := by decide +kernel
theorem dX5_returning_3 : decode cX5_returning 3 = .ok (.istore_n 3, 1) := by decide +kernel
theorem dX5_returning_4 : decode cX5_returning 4 = .ok (.iload_n 3, 1) := by decide +kernel
theorem dX5_returning_5 : decode cX5_returning 5 = .ok (.aload_n 0, 1) := by decide +kernel
theorem dX5_returning_6 : decode cX5_returning 6 = .ok (.getfield 56, 3) := by decide +kernel
theorem dX5_returning_9 : decode cX5_returning 9 = .ok (.getfield 99, 3) := by decide +kernel
theorem dX5_returning_12 : decode cX5_returning 12 = .ok (.if_icmp .ge 31, 3) := by decide +kernel
theorem dX5_returning_15 : decode cX5_returning 15 = .ok (.iload_n 1, 1) := by decide +kernel
theorem dX5_returning_16 : decode cX5_returning 16 = .ok (.iload_n 3, 1) := by decide +kernel
theorem dX5_returning_17 : decode cX5_returning 17 = .ok (.invokestatic 291, 3) := by decide +kernel
theorem dX5_returning_20 : decode cX5_returning 20 = .ok (.ifCond .eq 17, 3) := by decide +kernel
theorem dX5_returning_23 : decode cX5_returning 23 = .ok (.aload_n 0, 1) := by decide +kernel
theorem dX5_returning_24 : decode cX5_returning 24 = .ok (.iload_n 3, 1) := by decide +kernel
theorem dX5_returning_25 : decode cX5_returning 25 = .ok (.invokevirtual 193, 3) := by decide +kernel
theorem dX5_returning_28 : decode cX5_returning 28 = .ok (.ifCond .eq 9, 3) := by decide +kernel
theorem dX5_returning_31 : decode cX5_returning 31 = .ok (.iload_n 2, 1) := by decide +kernel
theorem dX5_returning_32 : decode cX5_returning 32 = .ok (.iconst 1, 1) := by decide +kernel
theorem dX5_returning_33 : decode cX5_returning 33 = .ok (.iload_n 3, 1) := by decide +kernel
theorem dX5_returning_34 : decode cX5_returning 34 = .ok (.ishl, 1) := by decide +kernel
theorem dX5_returning_35 : decode cX5_returning 35 = .ok (.ior, 1) := by decide +kernel
theorem dX5_returning_36 : decode cX5_returning 36 = .ok (.istore_n 2, 1) := by decide +kernel
theorem dX5_returning_37 : decode cX5_returning 37 = .ok (.iinc 3 1, 3) := by decide +kernel
theorem dX5_returning_40 : decode cX5_returning 40 = .ok (.goto (-36), 3) := by decide +kernel
theorem dX5_returning_43 : decode cX5_returning 43 = .ok (.iload_n 2, 1) := by decide +kernel
theorem dX5_returning_44 : decode cX5_returning 44 = .ok (.ireturn, 1) := by decide +kernel
theorem dX5_highest_0 : decode cX5_highest 0 = .ok (.iconst 0, 1) := by decide +kernel
theorem dX5_highest_1 : decode cX5_highest 1 = .ok (.istore_n 2, 1) := by decide +kernel
theorem dX5_highest_2 : decode cX5_highest 2 = .ok (.iconst 0, 1) := by decide +kernel
theorem dX5_highest_3 : decode cX5_highest 3 = .ok (.istore_n 3, 1) := by decide +kernel
theorem dX5_highest_4 : decode cX5_highest 4 = .ok (.iload_n 3, 1) := by decide +kernel
theorem dX5_highest_5 : decode cX5_highest 5 = .ok (.aload_n 0, 1) := by decide +kernel
theorem dX5_highest_6 : decode cX5_highest 6 = .ok (.getfield 56, 3) := by decide +kernel
theorem dX5_highest_9 : decode cX5_highest 9 = .ok (.getfield 99, 3) := by decide +kernel
theorem dX5_highest_12 : decode cX5_highest 12 = .ok (.if_icmp .ge 31, 3) := by decide +kernel
theorem dX5_highest_15 : decode cX5_highest 15 = .ok (.iload_n 1, 1) := by decide +kernel
theorem dX5_highest_16 : decode cX5_highest 16 = .ok (.iload_n 3, 1) := by decide +kernel
theorem dX5_highest_17 : decode cX5_highest 17 = .ok (.invokestatic 291, 3) := by decide +kernel
theorem dX5_highest_20 : decode cX5_highest 20 = .ok (.ifCond .eq 17, 3) := by decide +kernel
theorem dX5_highest_23 : decode cX5_highest 23 = .ok (.iload_n 2, 1) := by decide +kernel
theorem dX5_highest_24 : decode cX5_highest 24 = .ok (.aload_n 0, 1) := by decide +kernel
theorem dX5_highest_25 : decode cX5_highest 25 = .ok (.getfield 56, 3) := by decide +kernel
theorem dX5_highest_28 : decode cX5_highest 28 = .ok (.iload_n 3, 1) := by decide +kernel
theorem dX5_highest_29 : decode cX5_highest 29 = .ok (.iconst 0, 1) := by decide +kernel
theorem dX5_highest_30 : decode cX5_highest 30 = .ok (.invokevirtual 116, 3) := by decide +kernel
theorem dX5_highest_33 : decode cX5_highest 33 = .ok (.invokestatic 188, 3) := by decide +kernel
theorem dX5_highest_36 : decode cX5_highest 36 = .ok (.istore_n 2, 1) := by decide +kernel
theorem dX5_highest_37 : decode cX5_highest 37 = .ok (.iinc 3 1, 3) := by decide +kernel
theorem dX5_highest_40 : decode cX5_highest 40 = .ok (.goto (-36), 3) := by decide +kernel
theorem dX5_highest_43 : decode cX5_highest 43 = .ok (.iload_n 2, 1) := by decide +kernel
theorem dX5_highest_44 : decode cX5_highest 44 = .ok (.ireturn, 1) := by decide +kernel
theorem dX5_soundShare_0 : decode cX5_soundShare 0 = .ok (.aload_n 0, 1) := by decide +kernel
theorem dX5_soundShare_1 : decode cX5_soundShare 1 = .ok (.getfield 56, 3) := by decide +kernel
theorem dX5_soundShare_4 : decode cX5_soundShare 4 = .ok (.iload_n 1, 1) := by decide +kernel
theorem dX5_soundShare_5 : decode cX5_soundShare 5 = .ok (.iconst 3, 1) := by decide +kernel
theorem dX5_soundShare_6 : decode cX5_soundShare 6 = .ok (.invokevirtual 116, 3) := by decide +kernel
theorem dX5_soundShare_9 : decode cX5_soundShare 9 = .ok (.i2l, 1) := by decide +kernel
theorem dX5_soundShare_10 : decode cX5_soundShare 10 = .ok (.bipush 10, 2) := by decide +kernel
theorem dX5_soundShare_12 : decode cX5_soundShare 12 = .ok (.iload_n 2, 1) := by decide +kernel
theorem dX5_soundShare_13 : decode cX5_soundShare 13 = .ok (.invokestatic 362, 3) := by decide +kernel
theorem dX5_soundShare_16 : decode cX5_soundShare 16 = .ok (.lmul, 1) := by decide +kernel
theorem dX5_soundShare_17 : decode cX5_soundShare 17 = .ok (.lreturn, 1) := by decide +kernel
theorem dX5_unsoundShare_0 : decode cX5_unsoundShare 0 = .ok (.bipush 10, 2) := by decide +kernel
theorem dX5_unsoundShare_2 : decode cX5_unsoundShare 2 = .ok (.aload_n 0, 1) := by decide +kernel
theorem dX5_unsoundShare_3 : decode cX5_unsoundShare 3 = .ok (.getfield 56, 3) := by decide +kernel
theorem dX5_unsoundShare_6 : decode cX5_unsoundShare 6 = .ok (.iload_n 1, 1) := by decide +kernel
theorem dX5_unsoundShare_7 : decode cX5_unsoundShare 7 = .ok (.iconst 3, 1) := by decide +kernel
theorem dX5_unsoundShare_8 : decode cX5_unsoundShare 8 = .ok (.invokevirtual 116, 3) := by decide +kernel
theorem dX5_unsoundShare_11 : decode cX5_unsoundShare 11 = .ok (.isub, 1) := by decide +kernel
theorem dX5_unsoundShare_12 : decode cX5_unsoundShare 12 = .ok (.i2l, 1) := by decide +kernel
theorem dX5_unsoundShare_13 : decode cX5_unsoundShare 13 = .ok (.bipush 10, 2) := by decide +kernel
theorem dX5_unsoundShare_15 : decode cX5_unsoundShare 15 = .ok (.iload_n 2, 1) := by decide +kernel
theorem dX5_unsoundShare_16 : decode cX5_unsoundShare 16 = .ok (.isub, 1) := by decide +kernel
theorem dX5_unsoundShare_17 : decode cX5_unsoundShare 17 = .ok (.iload_n 3, 1) := by decide +kernel
theorem dX5_unsoundShare_18 : decode cX5_unsoundShare 18 = .ok (.invokestatic 362, 3) := by decide +kernel
theorem dX5_unsoundShare_21 : decode cX5_unsoundShare 21 = .ok (.lmul, 1) := by decide +kernel
theorem dX5_unsoundShare_22 : decode cX5_unsoundShare 22 = .ok (.lreturn, 1) := by decide +kernel
theorem dX5_power_0 : decode cX5_power 0 = .ok (.lconst 1, 1) := by decide +kernel
theorem dX5_power_1 : decode cX5_power 1 = .ok (.lstore_n 2, 1) := by decide +kernel
theorem dX5_power_2 : decode cX5_power 2 = .ok (.iconst 0, 1) := by decide +kernel
theorem dX5_power_3 : decode cX5_power 3 = .ok (.istore 4, 2) := by decide +kernel
theorem dX5_power_5 : decode cX5_power 5 = .ok (.iload 4, 2) := by decide +kernel
theorem dX5_power_7 : decode cX5_power 7 = .ok (.iload_n 1, 1) := by decide +kernel
theorem dX5_power_8 : decode cX5_power 8 = .ok (.if_icmp .ge 14, 3) := by decide +kernel
theorem dX5_power_11 : decode cX5_power 11 = .ok (.lload_n 2, 1) := by decide +kernel
theorem dX5_power_12 : decode cX5_power 12 = .ok (.iload_n 0, 1) := by decide +kernel
theorem dX5_power_13 : decode cX5_power 13 = .ok (.i2l, 1) := by decide +kernel
theorem dX5_power_14 : decode cX5_power 14 = .ok (.lmul, 1) := by decide +kernel
theorem dX5_power_15 : decode cX5_power 15 = .ok (.lstore_n 2, 1) := by decide +kernel
theorem dX5_power_16 : decode cX5_power 16 = .ok (.iinc 4 1, 3) := by decide +kernel
theorem dX5_power_19 : decode cX5_power 19 = .ok (.goto (-14), 3) := by decide +kernel
theorem dX5_power_22 : decode cX5_power 22 = .ok (.lload_n 2, 1) := by decide +kernel
theorem dX5_power_23 : decode cX5_power 23 = .ok (.lreturn, 1) := by decide +kernel
theorem dX5_leastTerms_0 : decode cX5_leastTerms 0 = .ok (.lload_n 0, 1) := by decide +kernel
theorem dX5_leastTerms_1 : decode cX5_leastTerms 1 = .ok (.lload_n 2, 1) := by decide +kernel
theorem dX5_leastTerms_2 : decode cX5_leastTerms 2 = .ok (.invokestatic 364, 3) := by decide +kernel
theorem dX5_leastTerms_5 : decode cX5_leastTerms 5 = .ok (.lstore 5, 2) := by decide +kernel
theorem dX5_leastTerms_7 : decode cX5_leastTerms 7 = .ok (.lload 5, 2) := by decide +kernel
theorem dX5_leastTerms_9 : decode cX5_leastTerms 9 = .ok (.lconst 1, 1) := by decide +kernel
theorem dX5_leastTerms_10 : decode cX5_leastTerms 10 = .ok (.lcmp, 1) := by decide +kernel
theorem dX5_leastTerms_11 : decode cX5_leastTerms 11 = .ok (.ifCond .ge 5, 3) := by decide +kernel
theorem dX5_leastTerms_14 : decode cX5_leastTerms 14 = .ok (.lconst 0, 1) := by decide +kernel
theorem dX5_leastTerms_15 : decode cX5_leastTerms 15 = .ok (.lreturn, 1) := by decide +kernel
theorem dX5_leastTerms_16 : decode cX5_leastTerms 16 = .ok (.iload 4, 2) := by decide +kernel
theorem dX5_leastTerms_18 : decode cX5_leastTerms 18 = .ok (.ifCond .ne 10, 3) := by decide +kernel
theorem dX5_leastTerms_21 : decode cX5_leastTerms 21 = .ok (.lload_n 0, 1) := by decide +kernel
theorem dX5_leastTerms_22 : decode cX5_leastTerms 22 = .ok (.lload 5, 2) := by decide +kernel
theorem dX5_leastTerms_24 : decode cX5_leastTerms 24 = .ok (.ldiv, 1) := by decide +kernel
theorem dX5_leastTerms_25 : decode cX5_leastTerms 25 = .ok (.goto 7, 3) := by decide +kernel
theorem dX5_leastTerms_28 : decode cX5_leastTerms 28 = .ok (.lload_n 2, 1) := by decide +kernel
theorem dX5_leastTerms_29 : decode cX5_leastTerms 29 = .ok (.lload 5, 2) := by decide +kernel
theorem dX5_leastTerms_31 : decode cX5_leastTerms 31 = .ok (.ldiv, 1) := by decide +kernel
theorem dX5_leastTerms_32 : decode cX5_leastTerms 32 = .ok (.lreturn, 1) := by decide +kernel
theorem dX5_commonDivisor_0 : decode cX5_commonDivisor 0 = .ok (.iconst 0, 1) := by decide +kernel
theorem dX5_commonDivisor_1 : decode cX5_commonDivisor 1 = .ok (.istore 4, 2) := by decide +kernel
theorem dX5_commonDivisor_3 : decode cX5_commonDivisor 3 = .ok (.iload 4, 2) := by decide +kernel
theorem dX5_commonDivisor_5 : decode cX5_commonDivisor 5 = .ok (.bipush 100, 2) := by decide +kernel
theorem dX5_commonDivisor_7 : decode cX5_commonDivisor 7 = .ok (.if_icmp .ge 25, 3) := by decide +kernel
theorem dX5_commonDivisor_10 : decode cX5_commonDivisor 10 = .ok (.lload_n 2, 1) := by decide +kernel
theorem dX5_commonDivisor_11 : decode cX5_commonDivisor 11 = .ok (.lconst 0, 1) := by decide +kernel
theorem dX5_commonDivisor_12 : decode cX5_commonDivisor 12 = .ok (.lcmp, 1) := by decide +kernel
theorem dX5_commonDivisor_13 : decode cX5_commonDivisor 13 = .ok (.ifCond .eq 19, 3) := by decide +kernel
theorem dX5_commonDivisor_16 : decode cX5_commonDivisor 16 = .ok (.lload_n 0, 1) := by decide +kernel
theorem dX5_commonDivisor_17 : decode cX5_commonDivisor 17 = .ok (.lload_n 2, 1) := by decide +kernel
theorem dX5_commonDivisor_18 : decode cX5_commonDivisor 18 = .ok (.lrem, 1) := by decide +kernel
theorem dX5_commonDivisor_19 : decode cX5_commonDivisor 19 = .ok (.lstore 5, 2) := by decide +kernel
theorem dX5_commonDivisor_21 : decode cX5_commonDivisor 21 = .ok (.lload_n 2, 1) := by decide +kernel
theorem dX5_commonDivisor_22 : decode cX5_commonDivisor 22 = .ok (.lstore_n 0, 1) := by decide +kernel
theorem dX5_commonDivisor_23 : decode cX5_commonDivisor 23 = .ok (.lload 5, 2) := by decide +kernel
theorem dX5_commonDivisor_25 : decode cX5_commonDivisor 25 = .ok (.lstore_n 2, 1) := by decide +kernel
theorem dX5_commonDivisor_26 : decode cX5_commonDivisor 26 = .ok (.iinc 4 1, 3) := by decide +kernel
theorem dX5_commonDivisor_29 : decode cX5_commonDivisor 29 = .ok (.goto (-26), 3) := by decide +kernel
theorem dX5_commonDivisor_32 : decode cX5_commonDivisor 32 = .ok (.lload_n 0, 1) := by decide +kernel
theorem dX5_commonDivisor_33 : decode cX5_commonDivisor 33 = .ok (.lreturn, 1) := by decide +kernel
theorem dX5_swing_0 : decode cX5_swing 0 = .ok (.iload_n 3, 1) := by decide +kernel
theorem dX5_swing_1 : decode cX5_swing 1 = .ok (.aload_n 0, 1) := by decide +kernel
theorem dX5_swing_2 : decode cX5_swing 2 = .ok (.getfield 56, 3) := by decide +kernel
theorem dX5_swing_5 : decode cX5_swing 5 = .ok (.iload_n 2, 1) := by decide +kernel
theorem dX5_swing_6 : decode cX5_swing 6 = .ok (.iconst 0, 1) := by decide +kernel
theorem dX5_swing_7 : decode cX5_swing 7 = .ok (.invokevirtual 116, 3) := by decide +kernel
theorem dX5_swing_10 : decode cX5_swing 10 = .ok (.imul, 1) := by decide +kernel
theorem dX5_swing_11 : decode cX5_swing 11 = .ok (.bipush 10, 2) := by decide +kernel
theorem dX5_swing_13 : decode cX5_swing 13 = .ok (.idiv, 1) := by decide +kernel
theorem dX5_swing_14 : decode cX5_swing 14 = .ok (.istore 4, 2) := by decide +kernel
theorem dX5_swing_16 : decode cX5_swing 16 = .ok (.aload_n 0, 1) := by decide +kernel
theorem dX5_swing_17 : decode cX5_swing 17 = .ok (.getfield 56, 3) := by decide +kernel
theorem dX5_swing_20 : decode cX5_swing 20 = .ok (.iload_n 2, 1) := by decide +kernel
theorem dX5_swing_21 : decode cX5_swing 21 = .ok (.iconst 2, 1) := by decide +kernel
theorem dX5_swing_22 : decode cX5_swing 22 = .ok (.invokevirtual 116, 3) := by decide +kernel
theorem dX5_swing_25 : decode cX5_swing 25 = .ok (.istore 5, 2) := by decide +kernel
theorem dX5_swing_27 : decode cX5_swing 27 = .ok (.iconst 0, 1) := by decide +kernel
theorem dX5_swing_28 : decode cX5_swing 28 = .ok (.istore 6, 2) := by decide +kernel
theorem dX5_swing_30 : decode cX5_swing 30 = .ok (.iconst 0, 1) := by decide +kernel
theorem dX5_swing_31 : decode cX5_swing 31 = .ok (.istore 7, 2) := by decide +kernel
theorem dX5_swing_33 : decode cX5_swing 33 = .ok (.iconst 0, 1) := by decide +kernel
theorem dX5_swing_34 : decode cX5_swing 34 = .ok (.istore 8, 2) := by decide +kernel
theorem dX5_swing_36 : decode cX5_swing 36 = .ok (.iconst 0, 1) := by decide +kernel
theorem dX5_swing_37 : decode cX5_swing 37 = .ok (.istore 9, 2) := by decide +kernel
theorem dX5_swing_39 : decode cX5_swing 39 = .ok (.iload 9, 2) := by decide +kernel
theorem dX5_swing_41 : decode cX5_swing 41 = .ok (.bipush 24, 2) := by decide +kernel
theorem dX5_swing_43 : decode cX5_swing 43 = .ok (.if_icmp .ge 49, 3) := by decide +kernel
theorem dX5_swing_46 : decode cX5_swing 46 = .ok (.iload 7, 2) := by decide +kernel
theorem dX5_swing_48 : decode cX5_swing 48 = .ok (.iload 4, 2) := by decide +kernel
theorem dX5_swing_50 : decode cX5_swing 50 = .ok (.iload 6, 2) := by decide +kernel
theorem dX5_swing_52 : decode cX5_swing 52 = .ok (.iload 5, 2) := by decide +kernel
theorem dX5_swing_54 : decode cX5_swing 54 = .ok (.imul, 1) := by decide +kernel
theorem dX5_swing_55 : decode cX5_swing 55 = .ok (.bipush 10, 2) := by decide +kernel
theorem dX5_swing_57 : decode cX5_swing 57 = .ok (.idiv, 1) := by decide +kernel
theorem dX5_swing_58 : decode cX5_swing 58 = .ok (.isub, 1) := by decide +kernel
theorem dX5_swing_59 : decode cX5_swing 59 = .ok (.iload 7, 2) := by decide +kernel
theorem dX5_swing_61 : decode cX5_swing 61 = .ok (.iconst 4, 1) := by decide +kernel
theorem dX5_swing_62 : decode cX5_swing 62 = .ok (.idiv, 1) := by decide +kernel
theorem dX5_swing_63 : decode cX5_swing 63 = .ok (.isub, 1) := by decide +kernel
theorem dX5_swing_64 : decode cX5_swing 64 = .ok (.iadd, 1) := by decide +kernel
theorem dX5_swing_65 : decode cX5_swing 65 = .ok (.istore 7, 2) := by decide +kernel
theorem dX5_swing_67 : decode cX5_swing 67 = .ok (.iload 6, 2) := by decide +kernel
theorem dX5_swing_69 : decode cX5_swing 69 = .ok (.iload 7, 2) := by decide +kernel
theorem dX5_swing_71 : decode cX5_swing 71 = .ok (.iadd, 1) := by decide +kernel
theorem dX5_swing_72 : decode cX5_swing 72 = .ok (.istore 6, 2) := by decide +kernel
theorem dX5_swing_74 : decode cX5_swing 74 = .ok (.iload 8, 2) := by decide +kernel
theorem dX5_swing_76 : decode cX5_swing 76 = .ok (.iload 6, 2) := by decide +kernel
theorem dX5_swing_78 : decode cX5_swing 78 = .ok (.invokestatic 367, 3) := by decide +kernel
theorem dX5_swing_81 : decode cX5_swing 81 = .ok (.invokestatic 188, 3) := by decide +kernel
theorem dX5_swing_84 : decode cX5_swing 84 = .ok (.istore 8, 2) := by decide +kernel
theorem dX5_swing_86 : decode cX5_swing 86 = .ok (.iinc 9 1, 3) := by decide +kernel
theorem dX5_swing_89 : decode cX5_swing 89 = .ok (.goto (-50), 3) := by decide +kernel
theorem dX5_swing_92 : decode cX5_swing 92 = .ok (.iload 8, 2) := by decide +kernel
theorem dX5_swing_94 : decode cX5_swing 94 = .ok (.aload_n 0, 1) := by decide +kernel
theorem dX5_swing_95 : decode cX5_swing 95 = .ok (.getfield 56, 3) := by decide +kernel
theorem dX5_swing_98 : decode cX5_swing 98 = .ok (.iload_n 1, 1) := by decide +kernel
theorem dX5_swing_99 : decode cX5_swing 99 = .ok (.iconst 1, 1) := by decide +kernel
theorem dX5_swing_100 : decode cX5_swing 100 = .ok (.invokevirtual 123, 3) := by decide +kernel
theorem dX5_swing_103 : decode cX5_swing 103 = .ok (.imul, 1) := by decide +kernel
theorem dX5_swing_104 : decode cX5_swing 104 = .ok (.bipush 50, 2) := by decide +kernel
theorem dX5_swing_106 : decode cX5_swing 106 = .ok (.idiv, 1) := by decide +kernel
theorem dX5_swing_107 : decode cX5_swing 107 = .ok (.ireturn, 1) := by decide +kernel
theorem dX5_harm_0 : decode cX5_harm 0 = .ok (.aload_n 0, 1) := by decide +kernel
theorem dX5_harm_1 : decode cX5_harm 1 = .ok (.getfield 56, 3) := by decide +kernel
theorem dX5_harm_4 : decode cX5_harm 4 = .ok (.iload_n 1, 1) := by decide +kernel
theorem dX5_harm_5 : decode cX5_harm 5 = .ok (.invokevirtual 218, 3) := by decide +kernel
theorem dX5_harm_8 : decode cX5_harm 8 = .ok (.iload_n 2, 1) := by decide +kernel
theorem dX5_harm_9 : decode cX5_harm 9 = .ok (.iconst (-1), 1) := by decide +kernel
theorem dX5_harm_10 : decode cX5_harm 10 = .ok (.ixor, 1) := by decide +kernel
theorem dX5_harm_11 : decode cX5_harm 11 = .ok (.iand, 1) := by decide +kernel
theorem dX5_harm_12 : decode cX5_harm 12 = .ok (.istore_n 3, 1) := by decide +kernel
theorem dX5_harm_13 : decode cX5_harm 13 = .ok (.aload_n 0, 1) := by decide +kernel
theorem dX5_harm_14 : decode cX5_harm 14 = .ok (.getfield 56, 3) := by decide +kernel
theorem dX5_harm_17 : decode cX5_harm 17 = .ok (.iload_n 1, 1) := by decide +kernel
theorem dX5_harm_18 : decode cX5_harm 18 = .ok (.iconst 0, 1) := by decide +kernel
theorem dX5_harm_19 : decode cX5_harm 19 = .ok (.invokevirtual 116, 3) := by decide +kernel
theorem dX5_harm_22 : decode cX5_harm 22 = .ok (.istore 4, 2) := by decide +kernel
theorem dX5_harm_24 : decode cX5_harm 24 = .ok (.iconst 0, 1) := by decide +kernel
theorem dX5_harm_25 : decode cX5_harm 25 = .ok (.istore 5, 2) := by decide +kernel
theorem dX5_harm_27 : decode cX5_harm 27 = .ok (.iconst 0, 1) := by decide +kernel
theorem dX5_harm_28 : decode cX5_harm 28 = .ok (.istore 6, 2) := by decide +kernel
theorem dX5_harm_30 : decode cX5_harm 30 = .ok (.iconst 0, 1) := by decide +kernel
theorem dX5_harm_31 : decode cX5_harm 31 = .ok (.istore 7, 2) := by decide +kernel
theorem dX5_harm_33 : decode cX5_harm 33 = .ok (.iload 7, 2) := by decide +kernel
theorem dX5_harm_35 : decode cX5_harm 35 = .ok (.aload_n 0, 1) := by decide +kernel
theorem dX5_harm_36 : decode cX5_harm 36 = .ok (.getfield 56, 3) := by decide +kernel
theorem dX5_harm_39 : decode cX5_harm 39 = .ok (.getfield 99, 3) := by decide +kernel
theorem dX5_harm_42 : decode cX5_harm 42 = .ok (.if_icmp .ge 72, 3) := by decide +kernel
theorem dX5_harm_45 : decode cX5_harm 45 = .ok (.aload_n 0, 1) := by decide +kernel
theorem dX5_harm_46 : decode cX5_harm 46 = .ok (.getfield 56, 3) := by decide +kernel
theorem dX5_harm_49 : decode cX5_harm 49 = .ok (.iload 7, 2) := by decide +kernel
theorem dX5_harm_51 : decode cX5_harm 51 = .ok (.invokevirtual 370, 3) := by decide +kernel
theorem dX5_harm_54 : decode cX5_harm 54 = .ok (.istore 8, 2) := by decide +kernel
theorem dX5_harm_56 : decode cX5_harm 56 = .ok (.iload_n 3, 1) := by decide +kernel
theorem dX5_harm_57 : decode cX5_harm 57 = .ok (.iload 8, 2) := by decide +kernel
theorem dX5_harm_59 : decode cX5_harm 59 = .ok (.invokestatic 291, 3) := by decide +kernel
theorem dX5_harm_62 : decode cX5_harm 62 = .ok (.ifCond .eq 46, 3) := by decide +kernel
theorem dX5_harm_65 : decode cX5_harm 65 = .ok (.iload 5, 2) := by decide +kernel
theorem dX5_harm_67 : decode cX5_harm 67 = .ok (.iload 4, 2) := by decide +kernel
theorem dX5_harm_69 : decode cX5_harm 69 = .ok (.aload_n 0, 1) := by decide +kernel
theorem dX5_harm_70 : decode cX5_harm 70 = .ok (.getfield 56, 3) := by decide +kernel
theorem dX5_harm_73 : decode cX5_harm 73 = .ok (.iload 8, 2) := by decide +kernel
theorem dX5_harm_75 : decode cX5_harm 75 = .ok (.iconst 0, 1) := by decide +kernel
theorem dX5_harm_76 : decode cX5_harm 76 = .ok (.invokevirtual 116, 3) := by decide +kernel
theorem dX5_harm_79 : decode cX5_harm 79 = .ok (.isub, 1) := by decide +kernel
theorem dX5_harm_80 : decode cX5_harm 80 = .ok (.iadd, 1) := by decide +kernel
theorem dX5_harm_81 : decode cX5_harm 81 = .ok (.istore 5, 2) := by decide +kernel
theorem dX5_harm_83 : decode cX5_harm 83 = .ok (.aload_n 0, 1) := by decide +kernel
theorem dX5_harm_84 : decode cX5_harm 84 = .ok (.getfield 56, 3) := by decide +kernel
theorem dX5_harm_87 : decode cX5_harm 87 = .ok (.iload 8, 2) := by decide +kernel
theorem dX5_harm_89 : decode cX5_harm 89 = .ok (.iconst 0, 1) := by decide +kernel
theorem dX5_harm_90 : decode cX5_harm 90 = .ok (.invokevirtual 116, 3) := by decide +kernel
theorem dX5_harm_93 : decode cX5_harm 93 = .ok (.istore 4, 2) := by decide +kernel
theorem dX5_harm_95 : decode cX5_harm 95 = .ok (.iload 5, 2) := by decide +kernel
theorem dX5_harm_97 : decode cX5_harm 97 = .ok (.iconst 2, 1) := by decide +kernel
theorem dX5_harm_98 : decode cX5_harm 98 = .ok (.idiv, 1) := by decide +kernel
theorem dX5_harm_99 : decode cX5_harm 99 = .ok (.istore 5, 2) := by decide +kernel
theorem dX5_harm_101 : decode cX5_harm 101 = .ok (.iload 6, 2) := by decide +kernel
theorem dX5_harm_103 : decode cX5_harm 103 = .ok (.iload 5, 2) := by decide +kernel
theorem dX5_harm_105 : decode cX5_harm 105 = .ok (.iadd, 1) := by decide +kernel
theorem dX5_harm_106 : decode cX5_harm 106 = .ok (.istore 6, 2) := by decide +kernel
theorem dX5_harm_108 : decode cX5_harm 108 = .ok (.iinc 7 1, 3) := by decide +kernel
theorem dX5_harm_111 : decode cX5_harm 111 = .ok (.goto (-78), 3) := by decide +kernel
theorem dX5_harm_114 : decode cX5_harm 114 = .ok (.iload 6, 2) := by decide +kernel
theorem dX5_harm_116 : decode cX5_harm 116 = .ok (.iload 5, 2) := by decide +kernel
theorem dX5_harm_118 : decode cX5_harm 118 = .ok (.iload 4, 2) := by decide +kernel
theorem dX5_harm_120 : decode cX5_harm 120 = .ok (.iadd, 1) := by decide +kernel
theorem dX5_harm_121 : decode cX5_harm 121 = .ok (.aload_n 0, 1) := by decide +kernel
theorem dX5_harm_122 : decode cX5_harm 122 = .ok (.iconst 4, 1) := by decide +kernel
theorem dX5_harm_123 : decode cX5_harm 123 = .ok (.invokevirtual 142, 3) := by decide +kernel
theorem dX5_harm_126 : decode cX5_harm 126 = .ok (.imul, 1) := by decide +kernel
theorem dX5_harm_127 : decode cX5_harm 127 = .ok (.iadd, 1) := by decide +kernel
theorem dX5_harm_128 : decode cX5_harm 128 = .ok (.ireturn, 1) := by decide +kernel
theorem dX5_leastToSaw_0 : decode cX5_leastToSaw 0 = .ok (.bipush (-9), 2) := by decide +kernel
theorem dX5_leastToSaw_2 : decode cX5_leastToSaw 2 = .ok (.istore_n 3, 1) := by decide +kernel
theorem dX5_leastToSaw_3 : decode cX5_leastToSaw 3 = .ok (.iconst 4, 1) := by decide +kernel
theorem dX5_leastToSaw_4 : decode cX5_leastToSaw 4 = .ok (.istore 4, 2) := by decide +kernel
theorem dX5_leastToSaw_6 : decode cX5_leastToSaw 6 = .ok (.iconst 0, 1) := by decide +kernel
theorem dX5_leastToSaw_7 : decode cX5_leastToSaw 7 = .ok (.istore 5, 2) := by decide +kernel
theorem dX5_leastToSaw_9 : decode cX5_leastToSaw 9 = .ok (.iload 5, 2) := by decide +kernel
theorem dX5_leastToSaw_11 : decode cX5_leastToSaw 11 = .ok (.aload_n 0, 1) := by decide +kernel
theorem dX5_leastToSaw_12 : decode cX5_leastToSaw 12 = .ok (.getfield 56, 3) := by decide +kernel
theorem dX5_leastToSaw_15 : decode cX5_leastToSaw 15 = .ok (.invokevirtual 136, 3) := by decide +kernel
theorem dX5_leastToSaw_18 : decode cX5_leastToSaw 18 = .ok (.if_icmp .gt 62, 3) := by decide +kernel
theorem dX5_leastToSaw_21 : decode cX5_leastToSaw 21 = .ok (.iload 5, 2) := by decide +kernel
theorem dX5_leastToSaw_23 : decode cX5_leastToSaw 23 = .ok (.invokestatic 224, 3) := by decide +kernel
theorem dX5_leastToSaw_26 : decode cX5_leastToSaw 26 = .ok (.istore 6, 2) := by decide +kernel
theorem dX5_leastToSaw_28 : decode cX5_leastToSaw 28 = .ok (.iload 6, 2) := by decide +kernel
theorem dX5_leastToSaw_30 : decode cX5_leastToSaw 30 = .ok (.iload 4, 2) := by decide +kernel
theorem dX5_leastToSaw_32 : decode cX5_leastToSaw 32 = .ok (.if_icmp .ge 42, 3) := by decide +kernel
theorem dX5_leastToSaw_35 : decode cX5_leastToSaw 35 = .ok (.iload 5, 2) := by decide +kernel
theorem dX5_leastToSaw_37 : decode cX5_leastToSaw 37 = .ok (.aload_n 0, 1) := by decide +kernel
theorem dX5_leastToSaw_38 : decode cX5_leastToSaw 38 = .ok (.getfield 45, 3) := by decide +kernel
theorem dX5_leastToSaw_41 : decode cX5_leastToSaw 41 = .ok (.getfield 89, 3) := by decide +kernel
theorem dX5_leastToSaw_44 : decode cX5_leastToSaw 44 = .ok (.iand, 1) := by decide +kernel
theorem dX5_leastToSaw_45 : decode cX5_leastToSaw 45 = .ok (.ifCond .ne 29, 3) := by decide +kernel
theorem dX5_leastToSaw_48 : decode cX5_leastToSaw 48 = .ok (.aload_n 0, 1) := by decide +kernel
theorem dX5_leastToSaw_49 : decode cX5_leastToSaw 49 = .ok (.iload_n 1, 1) := by decide +kernel
theorem dX5_leastToSaw_50 : decode cX5_leastToSaw 50 = .ok (.iload_n 2, 1) := by decide +kernel
theorem dX5_leastToSaw_51 : decode cX5_leastToSaw 51 = .ok (.iload 5, 2) := by decide +kernel
theorem dX5_leastToSaw_53 : decode cX5_leastToSaw 53 = .ok (.aload_n 0, 1) := by decide +kernel
theorem dX5_leastToSaw_54 : decode cX5_leastToSaw 54 = .ok (.getfield 45, 3) := by decide +kernel
theorem dX5_leastToSaw_57 : decode cX5_leastToSaw 57 = .ok (.getfield 89, 3) := by decide +kernel
theorem dX5_leastToSaw_60 : decode cX5_leastToSaw 60 = .ok (.ior, 1) := by decide +kernel
theorem dX5_leastToSaw_61 : decode cX5_leastToSaw 61 = .ok (.invokevirtual 373, 3) := by decide +kernel
theorem dX5_leastToSaw_64 : decode cX5_leastToSaw 64 = .ok (.ifCond .eq 10, 3) := by decide +kernel
theorem dX5_leastToSaw_67 : decode cX5_leastToSaw 67 = .ok (.iload 5, 2) := by decide +kernel
theorem dX5_leastToSaw_69 : decode cX5_leastToSaw 69 = .ok (.istore_n 3, 1) := by decide +kernel
theorem dX5_leastToSaw_70 : decode cX5_leastToSaw 70 = .ok (.iload 6, 2) := by decide +kernel
theorem dX5_leastToSaw_72 : decode cX5_leastToSaw 72 = .ok (.istore 4, 2) := by decide +kernel
theorem dX5_leastToSaw_74 : decode cX5_leastToSaw 74 = .ok (.iinc 5 1, 3) := by decide +kernel
theorem dX5_leastToSaw_77 : decode cX5_leastToSaw 77 = .ok (.goto (-68), 3) := by decide +kernel
theorem dX5_leastToSaw_80 : decode cX5_leastToSaw 80 = .ok (.iload_n 3, 1) := by decide +kernel
theorem dX5_leastToSaw_81 : decode cX5_leastToSaw 81 = .ok (.ireturn, 1) := by decide +kernel
theorem dX5_isSafe_0 : decode cX5_isSafe 0 = .ok (.aload_n 0, 1) := by decide +kernel
theorem dX5_isSafe_1 : decode cX5_isSafe 1 = .ok (.iload_n 3, 1) := by decide +kernel
theorem dX5_isSafe_2 : decode cX5_isSafe 2 = .ok (.invokevirtual 177, 3) := by decide +kernel
theorem dX5_isSafe_5 : decode cX5_isSafe 5 = .ok (.istore 4, 2) := by decide +kernel
theorem dX5_isSafe_7 : decode cX5_isSafe 7 = .ok (.aload_n 0, 1) := by decide +kernel
theorem dX5_isSafe_8 : decode cX5_isSafe 8 = .ok (.iload 4, 2) := by decide +kernel
theorem dX5_isSafe_10 : decode cX5_isSafe 10 = .ok (.invokevirtual 180, 3) := by decide +kernel
theorem dX5_isSafe_13 : decode cX5_isSafe 13 = .ok (.iload_n 2, 1) := by decide +kernel
theorem dX5_isSafe_14 : decode cX5_isSafe 14 = .ok (.if_icmp .ge 5, 3) := by decide +kernel
theorem dX5_isSafe_17 : decode cX5_isSafe 17 = .ok (.iconst 0, 1) := by decide +kernel
theorem dX5_isSafe_18 : decode cX5_isSafe 18 = .ok (.ireturn, 1) := by decide +kernel
theorem dX5_isSafe_19 : decode cX5_isSafe 19 = .ok (.iconst 0, 1) := by decide +kernel
theorem dX5_isSafe_20 : decode cX5_isSafe 20 = .ok (.istore 5, 2) := by decide +kernel
theorem dX5_isSafe_22 : decode cX5_isSafe 22 = .ok (.iload 5, 2) := by decide +kernel
theorem dX5_isSafe_24 : decode cX5_isSafe 24 = .ok (.aload_n 0, 1) := by decide +kernel
theorem dX5_isSafe_25 : decode cX5_isSafe 25 = .ok (.getfield 56, 3) := by decide +kernel
theorem dX5_isSafe_28 : decode cX5_isSafe 28 = .ok (.getfield 99, 3) := by decide +kernel
theorem dX5_isSafe_31 : decode cX5_isSafe 31 = .ok (.if_icmp .ge 32, 3) := by decide +kernel
theorem dX5_isSafe_34 : decode cX5_isSafe 34 = .ok (.iload 4, 2) := by decide +kernel
theorem dX5_isSafe_36 : decode cX5_isSafe 36 = .ok (.iload 5, 2) := by decide +kernel
theorem dX5_isSafe_38 : decode cX5_isSafe 38 = .ok (.invokestatic 291, 3) := by decide +kernel
theorem dX5_isSafe_41 : decode cX5_isSafe 41 = .ok (.ifCond .eq 16, 3) := by decide +kernel
theorem dX5_isSafe_44 : decode cX5_isSafe 44 = .ok (.aload_n 0, 1) := by decide +kernel
theorem dX5_isSafe_45 : decode cX5_isSafe 45 = .ok (.iload 5, 2) := by decide +kernel
theorem dX5_isSafe_47 : decode cX5_isSafe 47 = .ok (.iload_n 3, 1) := by decide +kernel
theorem dX5_isSafe_48 : decode cX5_isSafe 48 = .ok (.invokevirtual 215, 3) := by decide +kernel
theorem dX5_isSafe_51 : decode cX5_isSafe 51 = .ok (.iload_n 1, 1) := by decide +kernel
theorem dX5_isSafe_52 : decode cX5_isSafe 52 = .ok (.if_icmp .le 5, 3) := by decide +kernel
theorem dX5_isSafe_55 : decode cX5_isSafe 55 = .ok (.iconst 0, 1) := by decide +kernel
theorem dX5_isSafe_56 : decode cX5_isSafe 56 = .ok (.ireturn, 1) := by decide +kernel
theorem dX5_isSafe_57 : decode cX5_isSafe 57 = .ok (.iinc 5 1, 3) := by decide +kernel
theorem dX5_isSafe_60 : decode cX5_isSafe 60 = .ok (.goto (-38), 3) := by decide +kernel
theorem dX5_isSafe_63 : decode cX5_isSafe 63 = .ok (.iconst 1, 1) := by decide +kernel
theorem dX5_isSafe_64 : decode cX5_isSafe 64 = .ok (.ireturn, 1) := by decide +kernel
theorem dX5_markBranch_0 : decode cX5_markBranch 0 = .ok (.aload_n 0, 1) := by decide +kernel
theorem dX5_markBranch_1 : decode cX5_markBranch 1 = .ok (.dup, 1) := by decide +kernel
theorem dX5_markBranch_2 : decode cX5_markBranch 2 = .ok (.getfield 63, 3) := by decide +kernel
theorem dX5_markBranch_5 : decode cX5_markBranch 5 = .ok (.lconst 1, 1) := by decide +kernel
theorem dX5_markBranch_6 : decode cX5_markBranch 6 = .ok (.ladd, 1) := by decide +kernel
theorem dX5_markBranch_7 : decode cX5_markBranch 7 = .ok (.putfield 63, 3) := by decide +kernel
theorem dX5_markBranch_10 : decode cX5_markBranch 10 = .ok (.aload_n 0, 1) := by decide +kernel
theorem dX5_markBranch_11 : decode cX5_markBranch 11 = .ok (.getfield 56, 3) := by decide +kernel
theorem dX5_markBranch_14 : decode cX5_markBranch 14 = .ok (.iload_n 1, 1) := by decide +kernel
theorem dX5_markBranch_15 : decode cX5_markBranch 15 = .ok (.iconst 0, 1) := by decide +kernel
theorem dX5_markBranch_16 : decode cX5_markBranch 16 = .ok (.invokevirtual 116, 3) := by decide +kernel
theorem dX5_markBranch_19 : decode cX5_markBranch 19 = .ok (.ireturn, 1) := by decide +kernel
theorem dX5_markSound_0 : decode cX5_markSound 0 = .ok (.aload_n 0, 1) := by decide +kernel
theorem dX5_markSound_1 : decode cX5_markSound 1 = .ok (.dup, 1) := by decide +kernel
theorem dX5_markSound_2 : decode cX5_markSound 2 = .ok (.getfield 63, 3) := by decide +kernel
theorem dX5_markSound_5 : decode cX5_markSound 5 = .ok (.ldc2_w 376, 3) := by decide +kernel
theorem dX5_markSound_8 : decode cX5_markSound 8 = .ok (.ladd, 1) := by decide +kernel
theorem dX5_markSound_9 : decode cX5_markSound 9 = .ok (.putfield 63, 3) := by decide +kernel
theorem dX5_markSound_12 : decode cX5_markSound 12 = .ok (.aload_n 0, 1) := by decide +kernel
theorem dX5_markSound_13 : decode cX5_markSound 13 = .ok (.iload_n 1, 1) := by decide +kernel
theorem dX5_markSound_14 : decode cX5_markSound 14 = .ok (.invokevirtual 269, 3) := by decide +kernel
theorem dX5_markSound_17 : decode cX5_markSound 17 = .ok (.aload_n 0, 1) := by decide +kernel
theorem dX5_markSound_18 : decode cX5_markSound 18 = .ok (.getfield 56, 3) := by decide +kernel
theorem dX5_markSound_21 : decode cX5_markSound 21 = .ok (.iload_n 1, 1) := by decide +kernel
theorem dX5_markSound_22 : decode cX5_markSound 22 = .ok (.iconst 2, 1) := by decide +kernel
theorem dX5_markSound_23 : decode cX5_markSound 23 = .ok (.invokevirtual 116, 3) := by decide +kernel
theorem dX5_markSound_26 : decode cX5_markSound 26 = .ok (.iadd, 1) := by decide +kernel
theorem dX5_markSound_27 : decode cX5_markSound 27 = .ok (.ireturn, 1) := by decide +kernel
theorem dX5_markDead_0 : decode cX5_markDead 0 = .ok (.aload_n 0, 1) := by decide +kernel
theorem dX5_markDead_1 : decode cX5_markDead 1 = .ok (.dup, 1) := by decide +kernel
theorem dX5_markDead_2 : decode cX5_markDead 2 = .ok (.getfield 63, 3) := by decide +kernel
theorem dX5_markDead_5 : decode cX5_markDead 5 = .ok (.ldc2_w 186, 3) := by decide +kernel
theorem dX5_markDead_8 : decode cX5_markDead 8 = .ok (.ladd, 1) := by decide +kernel
theorem dX5_markDead_9 : decode cX5_markDead 9 = .ok (.putfield 63, 3) := by decide +kernel
theorem dX5_markDead_12 : decode cX5_markDead 12 = .ok (.aload_n 0, 1) := by decide +kernel
theorem dX5_markDead_13 : decode cX5_markDead 13 = .ok (.iload_n 1, 1) := by decide +kernel
theorem dX5_markDead_14 : decode cX5_markDead 14 = .ok (.invokevirtual 269, 3) := by decide +kernel
theorem dX5_markDead_17 : decode cX5_markDead 17 = .ok (.bipush 10, 2) := by decide +kernel
theorem dX5_markDead_19 : decode cX5_markDead 19 = .ok (.aload_n 0, 1) := by decide +kernel
theorem dX5_markDead_20 : decode cX5_markDead 20 = .ok (.getfield 56, 3) := by decide +kernel
theorem dX5_markDead_23 : decode cX5_markDead 23 = .ok (.iload_n 1, 1) := by decide +kernel
theorem dX5_markDead_24 : decode cX5_markDead 24 = .ok (.iconst 3, 1) := by decide +kernel
theorem dX5_markDead_25 : decode cX5_markDead 25 = .ok (.invokevirtual 116, 3) := by decide +kernel
theorem dX5_markDead_28 : decode cX5_markDead 28 = .ok (.isub, 1) := by decide +kernel
theorem dX5_markDead_29 : decode cX5_markDead 29 = .ok (.isub, 1) := by decide +kernel
theorem dX5_markDead_30 : decode cX5_markDead 30 = .ok (.ireturn, 1) := by decide +kernel
theorem dX5_markSeeming_0 : decode cX5_markSeeming 0 = .ok (.aload_n 0, 1) := by decide +kernel
theorem dX5_markSeeming_1 : decode cX5_markSeeming 1 = .ok (.dup, 1) := by decide +kernel
theorem dX5_markSeeming_2 : decode cX5_markSeeming 2 = .ok (.getfield 63, 3) := by decide +kernel
theorem dX5_markSeeming_5 : decode cX5_markSeeming 5 = .ok (.ldc2_w 378, 3) := by decide +kernel
theorem dX5_markSeeming_8 : decode cX5_markSeeming 8 = .ok (.ladd, 1) := by decide +kernel
theorem dX5_markSeeming_9 : decode cX5_markSeeming 9 = .ok (.putfield 63, 3) := by decide +kernel
theorem dX5_markSeeming_12 : decode cX5_markSeeming 12 = .ok (.iconst 2, 1) := by decide +kernel
theorem dX5_markSeeming_13 : decode cX5_markSeeming 13 = .ok (.aload_n 0, 1) := by decide +kernel
theorem dX5_markSeeming_14 : decode cX5_markSeeming 14 = .ok (.iload_n 1, 1) := by decide +kernel
theorem dX5_markSeeming_15 : decode cX5_markSeeming 15 = .ok (.invokevirtual 275, 3) := by decide +kernel
theorem dX5_markSeeming_18 : decode cX5_markSeeming 18 = .ok (.imul, 1) := by decide +kernel
theorem dX5_markSeeming_19 : decode cX5_markSeeming 19 = .ok (.ireturn, 1) := by decide +kernel
theorem dX5_markBent_0 : decode cX5_markBent 0 = .ok (.aload_n 0, 1) := by decide +kernel
theorem dX5_markBent_1 : decode cX5_markBent 1 = .ok (.dup, 1) := by decide +kernel
theorem dX5_markBent_2 : decode cX5_markBent 2 = .ok (.getfield 63, 3) := by decide +kernel
theorem dX5_markBent_5 : decode cX5_markBent 5 = .ok (.ldc2_w 380, 3) := by decide +kernel
theorem dX5_markBent_8 : decode cX5_markBent 8 = .ok (.ladd, 1) := by decide +kernel
theorem dX5_markBent_9 : decode cX5_markBent 9 = .ok (.putfield 63, 3) := by decide +kernel
theorem dX5_markBent_12 : decode cX5_markBent 12 = .ok (.aload_n 0, 1) := by decide +kernel
theorem dX5_markBent_13 : decode cX5_markBent 13 = .ok (.iload_n 1, 1) := by decide +kernel
theorem dX5_markBent_14 : decode cX5_markBent 14 = .ok (.invokevirtual 272, 3) := by decide +kernel
theorem dX5_markBent_17 : decode cX5_markBent 17 = .ok (.aload_n 0, 1) := by decide +kernel
theorem dX5_markBent_18 : decode cX5_markBent 18 = .ok (.getfield 56, 3) := by decide +kernel
theorem dX5_markBent_21 : decode cX5_markBent 21 = .ok (.iload_n 1, 1) := by decide +kernel
theorem dX5_markBent_22 : decode cX5_markBent 22 = .ok (.iconst 1, 1) := by decide +kernel
theorem dX5_markBent_23 : decode cX5_markBent 23 = .ok (.invokevirtual 116, 3) := by decide +kernel
theorem dX5_markBent_26 : decode cX5_markBent 26 = .ok (.isub, 1) := by decide +kernel
theorem dX5_markBent_27 : decode cX5_markBent 27 = .ok (.ireturn, 1) := by decide +kernel
theorem dX5_markWet_0 : decode cX5_markWet 0 = .ok (.aload_n 0, 1) := by decide +kernel
theorem dX5_markWet_1 : decode cX5_markWet 1 = .ok (.dup, 1) := by decide +kernel
theorem dX5_markWet_2 : decode cX5_markWet 2 = .ok (.getfield 63, 3) := by decide +kernel
theorem dX5_markWet_5 : decode cX5_markWet 5 = .ok (.ldc2_w 382, 3) := by decide +kernel
theorem dX5_markWet_8 : decode cX5_markWet 8 = .ok (.ladd, 1) := by decide +kernel
theorem dX5_markWet_9 : decode cX5_markWet 9 = .ok (.putfield 63, 3) := by decide +kernel
theorem dX5_markWet_12 : decode cX5_markWet 12 = .ok (.aload_n 0, 1) := by decide +kernel
theorem dX5_markWet_13 : decode cX5_markWet 13 = .ok (.iload_n 1, 1) := by decide +kernel
theorem dX5_markWet_14 : decode cX5_markWet 14 = .ok (.invokevirtual 269, 3) := by decide +kernel
theorem dX5_markWet_17 : decode cX5_markWet 17 = .ok (.aload_n 0, 1) := by decide +kernel
theorem dX5_markWet_18 : decode cX5_markWet 18 = .ok (.getfield 56, 3) := by decide +kernel
theorem dX5_markWet_21 : decode cX5_markWet 21 = .ok (.iload_n 1, 1) := by decide +kernel
theorem dX5_markWet_22 : decode cX5_markWet 22 = .ok (.iconst 4, 1) := by decide +kernel
theorem dX5_markWet_23 : decode cX5_markWet 23 = .ok (.invokevirtual 116, 3) := by decide +kernel
theorem dX5_markWet_26 : decode cX5_markWet 26 = .ok (.iconst 1, 1) := by decide +kernel
theorem dX5_markWet_27 : decode cX5_markWet 27 = .ok (.if_icmp .ne 7, 3) := by decide +kernel
theorem dX5_markWet_30 : decode cX5_markWet 30 = .ok (.iconst 5, 1) := by decide +kernel
theorem dX5_markWet_31 : decode cX5_markWet 31 = .ok (.goto 4, 3) := by decide +kernel
theorem dX5_markWet_34 : decode cX5_markWet 34 = .ok (.iconst 0, 1) := by decide +kernel
theorem dX5_markWet_35 : decode cX5_markWet 35 = .ok (.iadd, 1) := by decide +kernel
theorem dX5_markWet_36 : decode cX5_markWet 36 = .ok (.ireturn, 1) := by decide +kernel
