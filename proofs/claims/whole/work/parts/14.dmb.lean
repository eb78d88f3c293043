theorem dX6_high_33 : decode cX6_high 33 = .ok (.ireturn, 1) := by decide +kernel
theorem dX6_high_34 : decode cX6_high 34 = .ok (.aload_n 0, 1) := by decide +kernel
theorem dX6_high_35 : decode cX6_high 35 = .ok (.invokevirtual 216, 3) := by decide +kernel
theorem dX6_high_38 : decode cX6_high 38 = .ok (.istore_n 3, 1) := by decide +kernel
theorem dX6_high_39 : decode cX6_high 39 = .ok (.iconst 0, 1) := by decide +kernel
theorem dX6_high_40 : decode cX6_high 40 = .ok (.istore 4, 2) := by decide +kernel
theorem dX6_high_42 : decode cX6_high 42 = .ok (.iconst 0, 1) := by decide +kernel
theorem dX6_high_43 : decode cX6_high 43 = .ok (.istore 5, 2) := by decide +kernel
theorem dX6_high_45 : decode cX6_high 45 = .ok (.iload 5, 2) := by decide +kernel
theorem dX6_high_47 : decode cX6_high 47 = .ok (.aload_n 0, 1) := by decide +kernel
theorem dX6_high_48 : decode cX6_high 48 = .ok (.getfield 13, 3) := by decide +kernel
theorem dX6_high_51 : decode cX6_high 51 = .ok (.iconst 0, 1) := by decide +kernel
theorem dX6_high_52 : decode cX6_high 52 = .ok (.iaload, 1) := by decide +kernel
theorem dX6_high_53 : decode cX6_high 53 = .ok (.if_icmp .ge 66, 3) := by decide +kernel
theorem dX6_high_56 : decode cX6_high 56 = .ok (.iload_n 3, 1) := by decide +kernel
theorem dX6_high_57 : decode cX6_high 57 = .ok (.iload 5, 2) := by decide +kernel
theorem dX6_high_59 : decode cX6_high 59 = .ok (.ishr, 1) := by decide +kernel
theorem dX6_high_60 : decode cX6_high 60 = .ok (.iconst 1, 1) := by decide +kernel
theorem dX6_high_61 : decode cX6_high 61 = .ok (.iand, 1) := by decide +kernel
theorem dX6_high_62 : decode cX6_high 62 = .ok (.iconst 1, 1) := by decide +kernel
theorem dX6_high_63 : decode cX6_high 63 = .ok (.if_icmp .ne 19, 3) := by decide +kernel
theorem dX6_high_66 : decode cX6_high 66 = .ok (.aload_n 0, 1) := by decide +kernel
theorem dX6_high_67 : decode cX6_high 67 = .ok (.iload 5, 2) := by decide +kernel
theorem dX6_high_69 : decode cX6_high 69 = .ok (.iconst 0, 1) := by decide +kernel
theorem dX6_high_70 : decode cX6_high 70 = .ok (.invokevirtual 146, 3) := by decide +kernel
theorem dX6_high_73 : decode cX6_high 73 = .ok (.iload 4, 2) := by decide +kernel
theorem dX6_high_75 : decode cX6_high 75 = .ok (.if_icmp .le 7, 3) := by decide +kernel
theorem dX6_high_78 : decode cX6_high 78 = .ok (.iconst 1, 1) := by decide +kernel
theorem dX6_high_79 : decode cX6_high 79 = .ok (.goto 4, 3) := by decide +kernel
theorem dX6_high_82 : decode cX6_high 82 = .ok (.iconst 0, 1) := by decide +kernel
theorem dX6_high_83 : decode cX6_high 83 = .ok (.istore 6, 2) := by decide +kernel
theorem dX6_high_85 : decode cX6_high 85 = .ok (.iload 6, 2) := by decide +kernel
theorem dX6_high_87 : decode cX6_high 87 = .ok (.ifCond .eq 22, 3) := by decide +kernel
theorem dX6_high_90 : decode cX6_high 90 = .ok (.aload_n 0, 1) := by decide +kernel
theorem dX6_high_91 : decode cX6_high 91 = .ok (.iload 5, 2) := by decide +kernel
theorem dX6_high_93 : decode cX6_high 93 = .ok (.invokevirtual 219, 3) := by decide +kernel
theorem dX6_high_96 : decode cX6_high 96 = .ok (.ifCond .eq 13, 3) := by decide +kernel
theorem dX6_high_99 : decode cX6_high 99 = .ok (.aload_n 0, 1) := by decide +kernel
theorem dX6_high_100 : decode cX6_high 100 = .ok (.iload 5, 2) := by decide +kernel
theorem dX6_high_102 : decode cX6_high 102 = .ok (.iconst 0, 1) := by decide +kernel
theorem dX6_high_103 : decode cX6_high 103 = .ok (.invokevirtual 146, 3) := by decide +kernel
theorem dX6_high_106 : decode cX6_high 106 = .ok (.goto 5, 3) := by decide +kernel
theorem dX6_high_109 : decode cX6_high 109 = .ok (.iload 4, 2) := by decide +kernel
theorem dX6_high_111 : decode cX6_high 111 = .ok (.istore 4, 2) := by decide +kernel
theorem dX6_high_113 : decode cX6_high 113 = .ok (.iinc 5 1, 3) := by decide +kernel
theorem dX6_high_116 : decode cX6_high 116 = .ok (.goto (-71), 3) := by decide +kernel
theorem dX6_high_119 : decode cX6_high 119 = .ok (.iload 4, 2) := by decide +kernel
theorem dX6_high_121 : decode cX6_high 121 = .ok (.ireturn, 1) := by decide +kernel
theorem dX6_sure_0 : decode cX6_sure 0 = .ok (.aload_n 0, 1) := by decide +kernel
theorem dX6_sure_1 : decode cX6_sure 1 = .ok (.iload_n 1, 1) := by decide +kernel
theorem dX6_sure_2 : decode cX6_sure 2 = .ok (.invokevirtual 149, 3) := by decide +kernel
theorem dX6_sure_5 : decode cX6_sure 5 = .ok (.ifCond .eq 13, 3) := by decide +kernel
theorem dX6_sure_8 : decode cX6_sure 8 = .ok (.iload_n 2, 1) := by decide +kernel
theorem dX6_sure_9 : decode cX6_sure 9 = .ok (.iconst 0, 1) := by decide +kernel
theorem dX6_sure_10 : decode cX6_sure 10 = .ok (.bipush 100, 2) := by decide +kernel
theorem dX6_sure_12 : decode cX6_sure 12 = .ok (.invokestatic 82, 3) := by decide +kernel
theorem dX6_sure_15 : decode cX6_sure 15 = .ok (.ifCond .ne 5, 3) := by decide +kernel
theorem dX6_sure_18 : decode cX6_sure 18 = .ok (.iconst (-1), 1) := by decide +kernel
theorem dX6_sure_19 : decode cX6_sure 19 = .ok (.ireturn, 1) := by decide +kernel
theorem dX6_sure_20 : decode cX6_sure 20 = .ok (.aload_n 0, 1) := by decide +kernel
theorem dX6_sure_21 : decode cX6_sure 21 = .ok (.iload_n 1, 1) := by decide +kernel
theorem dX6_sure_22 : decode cX6_sure 22 = .ok (.invokevirtual 179, 3) := by decide +kernel
theorem dX6_sure_25 : decode cX6_sure 25 = .ok (.aload_n 0, 1) := by decide +kernel
theorem dX6_sure_26 : decode cX6_sure 26 = .ok (.iload_n 2, 1) := by decide +kernel
theorem dX6_sure_27 : decode cX6_sure 27 = .ok (.invokevirtual 213, 3) := by decide +kernel
theorem dX6_sure_30 : decode cX6_sure 30 = .ok (.ireturn, 1) := by decide +kernel
theorem dX6_help_0 : decode cX6_help 0 = .ok (.aload_n 0, 1) := by decide +kernel
theorem dX6_help_1 : decode cX6_help 1 = .ok (.iload_n 1, 1) := by decide +kernel
theorem dX6_help_2 : decode cX6_help 2 = .ok (.invokevirtual 149, 3) := by decide +kernel
theorem dX6_help_5 : decode cX6_help 5 = .ok (.ifCond .eq 13, 3) := by decide +kernel
theorem dX6_help_8 : decode cX6_help 8 = .ok (.iload_n 2, 1) := by decide +kernel
theorem dX6_help_9 : decode cX6_help 9 = .ok (.iconst 0, 1) := by decide +kernel
theorem dX6_help_10 : decode cX6_help 10 = .ok (.bipush 20, 2) := by decide +kernel
theorem dX6_help_12 : decode cX6_help 12 = .ok (.invokestatic 82, 3) := by decide +kernel
theorem dX6_help_15 : decode cX6_help 15 = .ok (.ifCond .ne 5, 3) := by decide +kernel
theorem dX6_help_18 : decode cX6_help 18 = .ok (.iconst (-1), 1) := by decide +kernel
theorem dX6_help_19 : decode cX6_help 19 = .ok (.ireturn, 1) := by decide +kernel
theorem dX6_help_20 : decode cX6_help 20 = .ok (.aload_n 0, 1) := by decide +kernel
theorem dX6_help_21 : decode cX6_help 21 = .ok (.iload_n 1, 1) := by decide +kernel
theorem dX6_help_22 : decode cX6_help 22 = .ok (.invokevirtual 179, 3) := by decide +kernel
theorem dX6_help_25 : decode cX6_help 25 = .ok (.aload_n 0, 1) := by decide +kernel
theorem dX6_help_26 : decode cX6_help 26 = .ok (.iload_n 2, 1) := by decide +kernel
theorem dX6_help_27 : decode cX6_help 27 = .ok (.putfield 167, 3) := by decide +kernel
theorem dX6_help_30 : decode cX6_help 30 = .ok (.aload_n 0, 1) := by decide +kernel
theorem dX6_help_31 : decode cX6_help 31 = .ok (.iconst 0, 1) := by decide +kernel
theorem dX6_help_32 : decode cX6_help 32 = .ok (.invokevirtual 213, 3) := by decide +kernel
theorem dX6_help_35 : decode cX6_help 35 = .ok (.istore_n 3, 1) := by decide +kernel
theorem dX6_help_36 : decode cX6_help 36 = .ok (.aload_n 0, 1) := by decide +kernel
theorem dX6_help_37 : decode cX6_help 37 = .ok (.iconst 0, 1) := by decide +kernel
theorem dX6_help_38 : decode cX6_help 38 = .ok (.putfield 167, 3) := by decide +kernel
theorem dX6_help_41 : decode cX6_help 41 = .ok (.iload_n 3, 1) := by decide +kernel
theorem dX6_help_42 : decode cX6_help 42 = .ok (.aload_n 0, 1) := by decide +kernel
theorem dX6_help_43 : decode cX6_help 43 = .ok (.iconst 0, 1) := by decide +kernel
theorem dX6_help_44 : decode cX6_help 44 = .ok (.invokevirtual 213, 3) := by decide +kernel
theorem dX6_help_47 : decode cX6_help 47 = .ok (.isub, 1) := by decide +kernel
theorem dX6_help_48 : decode cX6_help 48 = .ok (.ireturn, 1) := by decide +kernel
theorem dX6_stuck_0 : decode cX6_stuck 0 = .ok (.aload_n 0, 1) := by decide +kernel
theorem dX6_stuck_1 : decode cX6_stuck 1 = .ok (.iload_n 1, 1) := by decide +kernel
theorem dX6_stuck_2 : decode cX6_stuck 2 = .ok (.invokevirtual 149, 3) := by decide +kernel
theorem dX6_stuck_5 : decode cX6_stuck 5 = .ok (.ifCond .eq 11, 3) := by decide +kernel
theorem dX6_stuck_8 : decode cX6_stuck 8 = .ok (.aload_n 0, 1) := by decide +kernel
theorem dX6_stuck_9 : decode cX6_stuck 9 = .ok (.iload_n 2, 1) := by decide +kernel
theorem dX6_stuck_10 : decode cX6_stuck 10 = .ok (.invokevirtual 139, 3) := by decide +kernel
theorem dX6_stuck_13 : decode cX6_stuck 13 = .ok (.ifCond .ne 5, 3) := by decide +kernel
theorem dX6_stuck_16 : decode cX6_stuck 16 = .ok (.iconst (-1), 1) := by decide +kernel
theorem dX6_stuck_17 : decode cX6_stuck 17 = .ok (.ireturn, 1) := by decide +kernel
theorem dX6_stuck_18 : decode cX6_stuck 18 = .ok (.aload_n 0, 1) := by decide +kernel
theorem dX6_stuck_19 : decode cX6_stuck 19 = .ok (.iload_n 1, 1) := by decide +kernel
theorem dX6_stuck_20 : decode cX6_stuck 20 = .ok (.invokevirtual 179, 3) := by decide +kernel
theorem dX6_stuck_23 : decode cX6_stuck 23 = .ok (.aload_n 0, 1) := by decide +kernel
theorem dX6_stuck_24 : decode cX6_stuck 24 = .ok (.getfield 158, 3) := by decide +kernel
theorem dX6_stuck_27 : decode cX6_stuck 27 = .ok (.istore_n 3, 1) := by decide +kernel
theorem dX6_stuck_28 : decode cX6_stuck 28 = .ok (.iconst 0, 1) := by decide +kernel
theorem dX6_stuck_29 : decode cX6_stuck 29 = .ok (.istore 4, 2) := by decide +kernel
theorem dX6_stuck_31 : decode cX6_stuck 31 = .ok (.iload 4, 2) := by decide +kernel
theorem dX6_stuck_33 : decode cX6_stuck 33 = .ok (.bipush 30, 2) := by decide +kernel
theorem dX6_stuck_35 : decode cX6_stuck 35 = .ok (.if_icmp .gt 28, 3) := by decide +kernel
theorem dX6_stuck_38 : decode cX6_stuck 38 = .ok (.aload_n 0, 1) := by decide +kernel
theorem dX6_stuck_39 : decode cX6_stuck 39 = .ok (.iload_n 3, 1) := by decide +kernel
theorem dX6_stuck_40 : decode cX6_stuck 40 = .ok (.iload 4, 2) := by decide +kernel
theorem dX6_stuck_42 : decode cX6_stuck 42 = .ok (.iadd, 1) := by decide +kernel
theorem dX6_stuck_43 : decode cX6_stuck 43 = .ok (.putfield 158, 3) := by decide +kernel
theorem dX6_stuck_46 : decode cX6_stuck 46 = .ok (.aload_n 0, 1) := by decide +kernel
theorem dX6_stuck_47 : decode cX6_stuck 47 = .ok (.iload_n 2, 1) := by decide +kernel
theorem dX6_stuck_48 : decode cX6_stuck 48 = .ok (.invokevirtual 219, 3) := by decide +kernel
theorem dX6_stuck_51 : decode cX6_stuck 51 = .ok (.ifCond .eq 6, 3) := by decide +kernel
theorem dX6_stuck_54 : decode cX6_stuck 54 = .ok (.iload 4, 2) := by decide +kernel
theorem dX6_stuck_56 : decode cX6_stuck 56 = .ok (.ireturn, 1) := by decide +kernel
theorem dX6_stuck_57 : decode cX6_stuck 57 = .ok (.iinc 4 1, 3) := by decide +kernel
theorem dX6_stuck_60 : decode cX6_stuck 60 = .ok (.goto (-29), 3) := by decide +kernel
theorem dX6_stuck_63 : decode cX6_stuck 63 = .ok (.bipush (-9), 2) := by decide +kernel
theorem dX6_stuck_65 : decode cX6_stuck 65 = .ok (.ireturn, 1) := by decide +kernel
theorem dX6_countUps_0 : decode cX6_countUps 0 = .ok (.iconst 0, 1) := by decide +kernel
theorem dX6_countUps_1 : decode cX6_countUps 1 = .ok (.istore_n 2, 1) := by decide +kernel
theorem dX6_countUps_2 : decode cX6_countUps 2 = .ok (.iload_n 2, 1) := by decide +kernel
theorem dX6_countUps_3 : decode cX6_countUps 3 = .ok (.bipush 13, 2) := by decide +kernel
theorem dX6_countUps_5 : decode cX6_countUps 5 = .ok (.if_icmp .ge 25, 3) := by decide +kernel
theorem dX6_countUps_8 : decode cX6_countUps 8 = .ok (.aload_n 0, 1) := by decide +kernel
theorem dX6_countUps_9 : decode cX6_countUps 9 = .ok (.getfield 45, 3) := by decide +kernel
theorem dX6_countUps_12 : decode cX6_countUps 12 = .ok (.iload_n 2, 1) := by decide +kernel
theorem dX6_countUps_13 : decode cX6_countUps 13 = .ok (.iload_n 2, 1) := by decide +kernel
theorem dX6_countUps_14 : decode cX6_countUps 14 = .ok (.iload_n 1, 1) := by decide +kernel
theorem dX6_countUps_15 : decode cX6_countUps 15 = .ok (.if_icmp .ne 7, 3) := by decide +kernel
theorem dX6_countUps_18 : decode cX6_countUps 18 = .ok (.lconst 1, 1) := by decide +kernel
theorem dX6_countUps_19 : decode cX6_countUps 19 = .ok (.goto 4, 3) := by decide +kernel
theorem dX6_countUps_22 : decode cX6_countUps 22 = .ok (.lconst 0, 1) := by decide +kernel
theorem dX6_countUps_23 : decode cX6_countUps 23 = .ok (.lastore, 1) := by decide +kernel
theorem dX6_countUps_24 : decode cX6_countUps 24 = .ok (.iinc 2 1, 3) := by decide +kernel
theorem dX6_countUps_27 : decode cX6_countUps 27 = .ok (.goto (-25), 3) := by decide +kernel
theorem dX6_countUps_30 : decode cX6_countUps 30 = .ok (.aload_n 0, 1) := by decide +kernel
theorem dX6_countUps_31 : decode cX6_countUps 31 = .ok (.iload_n 1, 1) := by decide +kernel
theorem dX6_countUps_32 : decode cX6_countUps 32 = .ok (.invokevirtual 173, 3) := by decide +kernel
theorem dX6_countUps_35 : decode cX6_countUps 35 = .ok (.iconst 1, 1) := by decide +kernel
theorem dX6_countUps_36 : decode cX6_countUps 36 = .ok (.iadd, 1) := by decide +kernel
theorem dX6_countUps_37 : decode cX6_countUps 37 = .ok (.istore_n 2, 1) := by decide +kernel
theorem dX6_countUps_38 : decode cX6_countUps 38 = .ok (.iload_n 2, 1) := by decide +kernel
theorem dX6_countUps_39 : decode cX6_countUps 39 = .ok (.bipush 100, 2) := by decide +kernel
theorem dX6_countUps_41 : decode cX6_countUps 41 = .ok (.if_icmp .ge 105, 3) := by decide +kernel
theorem dX6_countUps_44 : decode cX6_countUps 44 = .ok (.iconst 0, 1) := by decide +kernel
theorem dX6_countUps_45 : decode cX6_countUps 45 = .ok (.istore_n 3, 1) := by decide +kernel
theorem dX6_countUps_46 : decode cX6_countUps 46 = .ok (.iload_n 3, 1) := by decide +kernel
theorem dX6_countUps_47 : decode cX6_countUps 47 = .ok (.aload_n 0, 1) := by decide +kernel
theorem dX6_countUps_48 : decode cX6_countUps 48 = .ok (.getfield 13, 3) := by decide +kernel
theorem dX6_countUps_51 : decode cX6_countUps 51 = .ok (.iconst 0, 1) := by decide +kernel
theorem dX6_countUps_52 : decode cX6_countUps 52 = .ok (.iaload, 1) := by decide +kernel
theorem dX6_countUps_53 : decode cX6_countUps 53 = .ok (.if_icmp .ge 87, 3) := by decide +kernel
theorem dX6_countUps_56 : decode cX6_countUps 56 = .ok (.aload_n 0, 1) := by decide +kernel
theorem dX6_countUps_57 : decode cX6_countUps 57 = .ok (.iload_n 3, 1) := by decide +kernel
theorem dX6_countUps_58 : decode cX6_countUps 58 = .ok (.iconst 0, 1) := by decide +kernel
theorem dX6_countUps_59 : decode cX6_countUps 59 = .ok (.invokevirtual 146, 3) := by decide +kernel
theorem dX6_countUps_62 : decode cX6_countUps 62 = .ok (.iload_n 2, 1) := by decide +kernel
theorem dX6_countUps_63 : decode cX6_countUps 63 = .ok (.if_icmp .ne 71, 3) := by decide +kernel
theorem dX6_countUps_66 : decode cX6_countUps 66 = .ok (.iconst 0, 1) := by decide +kernel
theorem dX6_countUps_67 : decode cX6_countUps 67 = .ok (.istore 4, 2) := by decide +kernel
theorem dX6_countUps_69 : decode cX6_countUps 69 = .ok (.iload 4, 2) := by decide +kernel
theorem dX6_countUps_71 : decode cX6_countUps 71 = .ok (.bipush 13, 2) := by decide +kernel
theorem dX6_countUps_73 : decode cX6_countUps 73 = .ok (.if_icmp .ge 61, 3) := by decide +kernel
theorem dX6_countUps_76 : decode cX6_countUps 76 = .ok (.aload_n 0, 1) := by decide +kernel
theorem dX6_countUps_77 : decode cX6_countUps 77 = .ok (.getfield 45, 3) := by decide +kernel
theorem dX6_countUps_80 : decode cX6_countUps 80 = .ok (.iload_n 3, 1) := by decide +kernel
theorem dX6_countUps_81 : decode cX6_countUps 81 = .ok (.dup2, 1) := by decide +kernel
theorem dX6_countUps_82 : decode cX6_countUps 82 = .ok (.laload, 1) := by decide +kernel
theorem dX6_countUps_83 : decode cX6_countUps 83 = .ok (.aload_n 0, 1) := by decide +kernel
theorem dX6_countUps_84 : decode cX6_countUps 84 = .ok (.getfield 45, 3) := by decide +kernel
theorem dX6_countUps_87 : decode cX6_countUps 87 = .ok (.iload 4, 2) := by decide +kernel
theorem dX6_countUps_89 : decode cX6_countUps 89 = .ok (.laload, 1) := by decide +kernel
theorem dX6_countUps_90 : decode cX6_countUps 90 = .ok (.lconst 0, 1) := by decide +kernel
theorem dX6_countUps_91 : decode cX6_countUps 91 = .ok (.lcmp, 1) := by decide +kernel
theorem dX6_countUps_92 : decode cX6_countUps 92 = .ok (.ifCond .le 33, 3) := by decide +kernel
theorem dX6_countUps_95 : decode cX6_countUps 95 = .ok (.aload_n 0, 1) := by decide +kernel
theorem dX6_countUps_96 : decode cX6_countUps 96 = .ok (.iload 4, 2) := by decide +kernel
theorem dX6_countUps_98 : decode cX6_countUps 98 = .ok (.invokevirtual 173, 3) := by decide +kernel
theorem dX6_countUps_101 : decode cX6_countUps 101 = .ok (.iload_n 2, 1) := by decide +kernel
theorem dX6_countUps_102 : decode cX6_countUps 102 = .ok (.if_icmp .ge 23, 3) := by decide +kernel
theorem dX6_countUps_105 : decode cX6_countUps 105 = .ok (.aload_n 0, 1) := by decide +kernel
theorem dX6_countUps_106 : decode cX6_countUps 106 = .ok (.iload 4, 2) := by decide +kernel
theorem dX6_countUps_108 : decode cX6_countUps 108 = .ok (.iload_n 3, 1) := by decide +kernel
theorem dX6_countUps_109 : decode cX6_countUps 109 = .ok (.invokevirtual 182, 3) := by decide +kernel
theorem dX6_countUps_112 : decode cX6_countUps 112 = .ok (.ifCond .eq 13, 3) := by decide +kernel
theorem dX6_countUps_115 : decode cX6_countUps 115 = .ok (.aload_n 0, 1) := by decide +kernel
theorem dX6_countUps_116 : decode cX6_countUps 116 = .ok (.getfield 45, 3) := by decide +kernel
theorem dX6_countUps_119 : decode cX6_countUps 119 = .ok (.iload 4, 2) := by decide +kernel
theorem dX6_countUps_121 : decode cX6_countUps 121 = .ok (.laload, 1) := by decide +kernel
theorem dX6_countUps_122 : decode cX6_countUps 122 = .ok (.goto 4, 3) := by decide +kernel
theorem dX6_countUps_125 : decode cX6_countUps 125 = .ok (.lconst 0, 1) := by decide +kernel
theorem dX6_countUps_126 : decode cX6_countUps 126 = .ok (.ladd, 1) := by decide +kernel
theorem dX6_countUps_127 : decode cX6_countUps 127 = .ok (.lastore, 1) := by decide +kernel
theorem dX6_countUps_128 : decode cX6_countUps 128 = .ok (.iinc 4 1, 3) := by decide +kernel
theorem dX6_countUps_131 : decode cX6_countUps 131 = .ok (.goto (-62), 3) := by decide +kernel
theorem dX6_countUps_134 : decode cX6_countUps 134 = .ok (.iinc 3 1, 3) := by decide +kernel
theorem dX6_countUps_137 : decode cX6_countUps 137 = .ok (.goto (-91), 3) := by decide +kernel
theorem dX6_countUps_140 : decode cX6_countUps 140 = .ok (.iinc 2 1, 3) := by decide +kernel
theorem dX6_countUps_143 : decode cX6_countUps 143 = .ok (.goto (-105), 3) := by decide +kernel
theorem dX6_countUps_146 : decode cX6_countUps 146 = .ok (.return_, 1) := by decide +kernel
theorem dX6_rubbed_0 : decode cX6_rubbed 0 = .ok (.aload_n 0, 1) := by decide +kernel
theorem dX6_rubbed_1 : decode cX6_rubbed 1 = .ok (.iload_n 1, 1) := by decide +kernel
theorem dX6_rubbed_2 : decode cX6_rubbed 2 = .ok (.invokevirtual 149, 3) := by decide +kernel
theorem dX6_rubbed_5 : decode cX6_rubbed 5 = .ok (.ifCond .eq 11, 3) := by decide +kernel
theorem dX6_rubbed_8 : decode cX6_rubbed 8 = .ok (.aload_n 0, 1) := by decide +kernel
theorem dX6_rubbed_9 : decode cX6_rubbed 9 = .ok (.iload_n 2, 1) := by decide +kernel
theorem dX6_rubbed_10 : decode cX6_rubbed 10 = .ok (.invokevirtual 139, 3) := by decide +kernel
theorem dX6_rubbed_13 : decode cX6_rubbed 13 = .ok (.ifCond .ne 7, 3) := by decide +kernel
theorem dX6_rubbed_16 : decode cX6_rubbed 16 = .ok (.ldc2_w 200, 3) := by decide +kernel
theorem dX6_rubbed_19 : decode cX6_rubbed 19 = .ok (.lreturn, 1) := by decide +kernel
theorem dX6_rubbed_20 : decode cX6_rubbed 20 = .ok (.aload_n 0, 1) := by decide +kernel
theorem dX6_rubbed_21 : decode cX6_rubbed 21 = .ok (.iload_n 1, 1) := by decide +kernel
theorem dX6_rubbed_22 : decode cX6_rubbed 22 = .ok (.invokevirtual 179, 3) := by decide +kernel
theorem dX6_rubbed_25 : decode cX6_rubbed 25 = .ok (.iload_n 3, 1) := by decide +kernel
theorem dX6_rubbed_26 : decode cX6_rubbed 26 = .ok (.iconst 1, 1) := by decide +kernel
theorem dX6_rubbed_27 : decode cX6_rubbed 27 = .ok (.aload_n 0, 1) := by decide +kernel
theorem dX6_rubbed_28 : decode cX6_rubbed 28 = .ok (.getfield 13, 3) := by decide +kernel
theorem dX6_rubbed_31 : decode cX6_rubbed 31 = .ok (.iconst 0, 1) := by decide +kernel
theorem dX6_rubbed_32 : decode cX6_rubbed 32 = .ok (.iaload, 1) := by decide +kernel
theorem dX6_rubbed_33 : decode cX6_rubbed 33 = .ok (.ishl, 1) := by decide +kernel
theorem dX6_rubbed_34 : decode cX6_rubbed 34 = .ok (.iconst 1, 1) := by decide +kernel
theorem dX6_rubbed_35 : decode cX6_rubbed 35 = .ok (.isub, 1) := by decide +kernel
theorem dX6_rubbed_36 : decode cX6_rubbed 36 = .ok (.iand, 1) := by decide +kernel
theorem dX6_rubbed_37 : decode cX6_rubbed 37 = .ok (.iconst 1, 1) := by decide +kernel
theorem dX6_rubbed_38 : decode cX6_rubbed 38 = .ok (.iload_n 2, 1) := by decide +kernel
theorem dX6_rubbed_39 : decode cX6_rubbed 39 = .ok (.ishl, 1) := by decide +kernel
theorem dX6_rubbed_40 : decode cX6_rubbed 40 = .ok (.ior, 1) := by decide +kernel
theorem dX6_rubbed_41 : decode cX6_rubbed 41 = .ok (.istore 4, 2) := by decide +kernel
theorem dX6_rubbed_43 : decode cX6_rubbed 43 = .ok (.bipush 12, 2) := by decide +kernel
theorem dX6_rubbed_45 : decode cX6_rubbed 45 = .ok (.istore 5, 2) := by decide +kernel
theorem dX6_rubbed_47 : decode cX6_rubbed 47 = .ok (.lconst 1, 1) := by decide +kernel
theorem dX6_rubbed_48 : decode cX6_rubbed 48 = .ok (.lstore 6, 2) := by decide +kernel
theorem dX6_rubbed_50 : decode cX6_rubbed 50 = .ok (.iload 4, 2) := by decide +kernel
theorem dX6_rubbed_52 : decode cX6_rubbed 52 = .ok (.ifCond .eq 119, 3) := by decide +kernel
theorem dX6_rubbed_55 : decode cX6_rubbed 55 = .ok (.bipush (-9), 2) := by decide +kernel
theorem dX6_rubbed_57 : decode cX6_rubbed 57 = .ok (.istore 8, 2) := by decide +kernel
theorem dX6_rubbed_59 : decode cX6_rubbed 59 = .ok (.iconst 0, 1) := by decide +kernel
theorem dX6_rubbed_60 : decode cX6_rubbed 60 = .ok (.istore 9, 2) := by decide +kernel
theorem dX6_rubbed_62 : decode cX6_rubbed 62 = .ok (.iload 9, 2) := by decide +kernel
theorem dX6_rubbed_64 : decode cX6_rubbed 64 = .ok (.aload_n 0, 1) := by decide +kernel
theorem dX6_rubbed_65 : decode cX6_rubbed 65 = .ok (.getfield 13, 3) := by decide +kernel
theorem dX6_rubbed_68 : decode cX6_rubbed 68 = .ok (.iconst 0, 1) := by decide +kernel
theorem dX6_rubbed_69 : decode cX6_rubbed 69 = .ok (.iaload, 1) := by decide +kernel
theorem dX6_rubbed_70 : decode cX6_rubbed 70 = .ok (.if_icmp .ge 65, 3) := by decide +kernel
theorem dX6_rubbed_73 : decode cX6_rubbed 73 = .ok (.iload 4, 2) := by decide +kernel
theorem dX6_rubbed_75 : decode cX6_rubbed 75 = .ok (.iload 9, 2) := by decide +kernel
theorem dX6_rubbed_77 : decode cX6_rubbed 77 = .ok (.ishr, 1) := by decide +kernel
theorem dX6_rubbed_78 : decode cX6_rubbed 78 = .ok (.iconst 1, 1) := by decide +kernel
theorem dX6_rubbed_79 : decode cX6_rubbed 79 = .ok (.iand, 1) := by decide +kernel
theorem dX6_rubbed_80 : decode cX6_rubbed 80 = .ok (.iconst 1, 1) := by decide +kernel
theorem dX6_rubbed_81 : decode cX6_rubbed 81 = .ok (.if_icmp .ne 31, 3) := by decide +kernel
theorem dX6_rubbed_84 : decode cX6_rubbed 84 = .ok (.iload 8, 2) := by decide +kernel
theorem dX6_rubbed_86 : decode cX6_rubbed 86 = .ok (.bipush (-9), 2) := by decide +kernel
theorem dX6_rubbed_88 : decode cX6_rubbed 88 = .ok (.if_icmp .eq 20, 3) := by decide +kernel
theorem dX6_rubbed_91 : decode cX6_rubbed 91 = .ok (.aload_n 0, 1) := by decide +kernel
theorem dX6_rubbed_92 : decode cX6_rubbed 92 = .ok (.iload 9, 2) := by decide +kernel
theorem dX6_rubbed_94 : decode cX6_rubbed 94 = .ok (.iconst 0, 1) := by decide +kernel
theorem dX6_rubbed_95 : decode cX6_rubbed 95 = .ok (.invokevirtual 146, 3) := by decide +kernel
theorem dX6_rubbed_98 : decode cX6_rubbed 98 = .ok (.aload_n 0, 1) := by decide +kernel
theorem dX6_rubbed_99 : decode cX6_rubbed 99 = .ok (.iload 8, 2) := by decide +kernel
theorem dX6_rubbed_101 : decode cX6_rubbed 101 = .ok (.iconst 0, 1) := by decide +kernel
theorem dX6_rubbed_102 : decode cX6_rubbed 102 = .ok (.invokevirtual 146, 3) := by decide +kernel
theorem dX6_rubbed_105 : decode cX6_rubbed 105 = .ok (.if_icmp .ge 7, 3) := by decide +kernel
theorem dX6_rubbed_108 : decode cX6_rubbed 108 = .ok (.iconst 1, 1) := by decide +kernel
theorem dX6_rubbed_109 : decode cX6_rubbed 109 = .ok (.goto 4, 3) := by decide +kernel
theorem dX6_rubbed_112 : decode cX6_rubbed 112 = .ok (.iconst 0, 1) := by decide +kernel
theorem dX6_rubbed_113 : decode cX6_rubbed 113 = .ok (.istore 10, 2) := by decide +kernel
theorem dX6_rubbed_115 : decode cX6_rubbed 115 = .ok (.iload 10, 2) := by decide +kernel
theorem dX6_rubbed_117 : decode cX6_rubbed 117 = .ok (.ifCond .eq 8, 3) := by decide +kernel
theorem dX6_rubbed_120 : decode cX6_rubbed 120 = .ok (.iload 9, 2) := by decide +kernel
theorem dX6_rubbed_122 : decode cX6_rubbed 122 = .ok (.goto 5, 3) := by decide +kernel
theorem dX6_rubbed_125 : decode cX6_rubbed 125 = .ok (.iload 8, 2) := by decide +kernel
theorem dX6_rubbed_127 : decode cX6_rubbed 127 = .ok (.istore 8, 2) := by decide +kernel
theorem dX6_rubbed_129 : decode cX6_rubbed 129 = .ok (.iinc 9 1, 3) := by decide +kernel
theorem dX6_rubbed_132 : decode cX6_rubbed 132 = .ok (.goto (-70), 3) := by decide +kernel
theorem dX6_rubbed_135 : decode cX6_rubbed 135 = .ok (.aload_n 0, 1) := by decide +kernel
theorem dX6_rubbed_136 : decode cX6_rubbed 136 = .ok (.iload 5, 2) := by decide +kernel
theorem dX6_rubbed_138 : decode cX6_rubbed 138 = .ok (.invokevirtual 222, 3) := by decide +kernel
theorem dX6_rubbed_141 : decode cX6_rubbed 141 = .ok (.lload 6, 2) := by decide +kernel
theorem dX6_rubbed_143 : decode cX6_rubbed 143 = .ok (.aload_n 0, 1) := by decide +kernel
theorem dX6_rubbed_144 : decode cX6_rubbed 144 = .ok (.getfield 45, 3) := by decide +kernel
theorem dX6_rubbed_147 : decode cX6_rubbed 147 = .ok (.iload 8, 2) := by decide +kernel
theorem dX6_rubbed_149 : decode cX6_rubbed 149 = .ok (.laload, 1) := by decide +kernel
theorem dX6_rubbed_150 : decode cX6_rubbed 150 = .ok (.lmul, 1) := by decide +kernel
theorem dX6_rubbed_151 : decode cX6_rubbed 151 = .ok (.lstore 6, 2) := by decide +kernel
theorem dX6_rubbed_153 : decode cX6_rubbed 153 = .ok (.iload 4, 2) := by decide +kernel
theorem dX6_rubbed_155 : decode cX6_rubbed 155 = .ok (.iconst 1, 1) := by decide +kernel
theorem dX6_rubbed_156 : decode cX6_rubbed 156 = .ok (.iload 8, 2) := by decide +kernel
theorem dX6_rubbed_158 : decode cX6_rubbed 158 = .ok (.ishl, 1) := by decide +kernel
theorem dX6_rubbed_159 : decode cX6_rubbed 159 = .ok (.iconst (-1), 1) := by decide +kernel
theorem dX6_rubbed_160 : decode cX6_rubbed 160 = .ok (.ixor, 1) := by decide +kernel
theorem dX6_rubbed_161 : decode cX6_rubbed 161 = .ok (.iand, 1) := by decide +kernel
theorem dX6_rubbed_162 : decode cX6_rubbed 162 = .ok (.istore 4, 2) := by decide +kernel
theorem dX6_rubbed_164 : decode cX6_rubbed 164 = .ok (.iload 8, 2) := by decide +kernel
theorem dX6_rubbed_166 : decode cX6_rubbed 166 = .ok (.istore 5, 2) := by decide +kernel
theorem dX6_rubbed_168 : decode cX6_rubbed 168 = .ok (.goto (-118), 3) := by decide +kernel
theorem dX6_rubbed_171 : decode cX6_rubbed 171 = .ok (.iload 5, 2) := by decide +kernel
theorem dX6_rubbed_173 : decode cX6_rubbed 173 = .ok (.iload_n 2, 1) := by decide +kernel
theorem dX6_rubbed_174 : decode cX6_rubbed 174 = .ok (.if_icmp .ne 8, 3) := by decide +kernel
theorem dX6_rubbed_177 : decode cX6_rubbed 177 = .ok (.lload 6, 2) := by decide +kernel
theorem dX6_rubbed_179 : decode cX6_rubbed 179 = .ok (.goto 4, 3) := by decide +kernel
theorem dX6_rubbed_182 : decode cX6_rubbed 182 = .ok (.lconst 0, 1) := by decide +kernel
theorem dX6_rubbed_183 : decode cX6_rubbed 183 = .ok (.lreturn, 1) := by decide +kernel
theorem dX6_power_0 : decode cX6_power 0 = .ok (.lconst 1, 1) := by decide +kernel
theorem dX6_power_1 : decode cX6_power 1 = .ok (.lstore_n 2, 1) := by decide +kernel
theorem dX6_power_2 : decode cX6_power 2 = .ok (.iconst 0, 1) := by decide +kernel
theorem dX6_power_3 : decode cX6_power 3 = .ok (.istore 4, 2) := by decide +kernel
theorem dX6_power_5 : decode cX6_power 5 = .ok (.iload 4, 2) := by decide +kernel
theorem dX6_power_7 : decode cX6_power 7 = .ok (.iload_n 1, 1) := by decide +kernel
theorem dX6_power_8 : decode cX6_power 8 = .ok (.if_icmp .ge 14, 3) := by decide +kernel
theorem dX6_power_11 : decode cX6_power 11 = .ok (.lload_n 2, 1) := by decide +kernel
theorem dX6_power_12 : decode cX6_power 12 = .ok (.iload_n 0, 1) := by decide +kernel
theorem dX6_power_13 : decode cX6_power 13 = .ok (.i2l, 1) := by decide +kernel
theorem dX6_power_14 : decode cX6_power 14 = .ok (.lmul, 1) := by decide +kernel
theorem dX6_power_15 : decode cX6_power 15 = .ok (.lstore_n 2, 1) := by decide +kernel
theorem dX6_power_16 : decode cX6_power 16 = .ok (.iinc 4 1, 3) := by decide +kernel
theorem dX6_power_19 : decode cX6_power 19 = .ok (.goto (-14), 3) := by decide +kernel
theorem dX6_power_22 : decode cX6_power 22 = .ok (.lload_n 2, 1) := by decide +kernel
theorem dX6_power_23 : decode cX6_power 23 = .ok (.lreturn, 1) := by decide +kernel
theorem dX6_soundBy_0 : decode cX6_soundBy 0 = .ok (.aload_n 0, 1) := by decide +kernel
theorem dX6_soundBy_1 : decode cX6_soundBy 1 = .ok (.iload_n 1, 1) := by decide +kernel
theorem dX6_soundBy_2 : decode cX6_soundBy 2 = .ok (.iconst 3, 1) := by decide +kernel
theorem dX6_soundBy_3 : decode cX6_soundBy 3 = .ok (.invokevirtual 146, 3) := by decide +kernel
theorem dX6_soundBy_6 : decode cX6_soundBy 6 = .ok (.i2l, 1) := by decide +kernel
theorem dX6_soundBy_7 : decode cX6_soundBy 7 = .ok (.bipush 10, 2) := by decide +kernel
theorem dX6_soundBy_9 : decode cX6_soundBy 9 = .ok (.iload_n 2, 1) := by decide +kernel
theorem dX6_soundBy_10 : decode cX6_soundBy 10 = .ok (.invokestatic 225, 3) := by decide +kernel
theorem dX6_soundBy_13 : decode cX6_soundBy 13 = .ok (.lmul, 1) := by decide +kernel
theorem dX6_soundBy_14 : decode cX6_soundBy 14 = .ok (.lreturn, 1) := by decide +kernel
theorem dX6_allBy_0 : decode cX6_allBy 0 = .ok (.aload_n 0, 1) := by decide +kernel
theorem dX6_allBy_1 : decode cX6_allBy 1 = .ok (.iload_n 1, 1) := by decide +kernel
theorem dX6_allBy_2 : decode cX6_allBy 2 = .ok (.iload_n 3, 1) := by decide +kernel
theorem dX6_allBy_3 : decode cX6_allBy 3 = .ok (.invokevirtual 229, 3) := by decide +kernel
theorem dX6_allBy_6 : decode cX6_allBy 6 = .ok (.bipush 10, 2) := by decide +kernel
theorem dX6_allBy_8 : decode cX6_allBy 8 = .ok (.aload_n 0, 1) := by decide +kernel
theorem dX6_allBy_9 : decode cX6_allBy 9 = .ok (.iload_n 1, 1) := by decide +kernel
theorem dX6_allBy_10 : decode cX6_allBy 10 = .ok (.iconst 3, 1) := by decide +kernel
theorem dX6_allBy_11 : decode cX6_allBy 11 = .ok (.invokevirtual 146, 3) := by decide +kernel
theorem dX6_allBy_14 : decode cX6_allBy 14 = .ok (.isub, 1) := by decide +kernel
theorem dX6_allBy_15 : decode cX6_allBy 15 = .ok (.i2l, 1) := by decide +kernel
theorem dX6_allBy_16 : decode cX6_allBy 16 = .ok (.bipush 10, 2) := by decide +kernel
theorem dX6_allBy_18 : decode cX6_allBy 18 = .ok (.iload_n 2, 1) := by decide +kernel
theorem dX6_allBy_19 : decode cX6_allBy 19 = .ok (.isub, 1) := by decide +kernel
theorem dX6_allBy_20 : decode cX6_allBy 20 = .ok (.iload_n 3, 1) := by decide +kernel
theorem dX6_allBy_21 : decode cX6_allBy 21 = .ok (.invokestatic 225, 3) := by decide +kernel
theorem dX6_allBy_24 : decode cX6_allBy 24 = .ok (.lmul, 1) := by decide +kernel
theorem dX6_allBy_25 : decode cX6_allBy 25 = .ok (.ladd, 1) := by decide +kernel
theorem dX6_allBy_26 : decode cX6_allBy 26 = .ok (.lreturn, 1) := by decide +kernel
theorem dX6_tried_0 : decode cX6_tried 0 = .ok (.aload_n 0, 1) := by decide +kernel
theorem dX6_tried_1 : decode cX6_tried 1 = .ok (.iload_n 1, 1) := by decide +kernel
theorem dX6_tried_2 : decode cX6_tried 2 = .ok (.invokevirtual 139, 3) := by decide +kernel
theorem dX6_tried_5 : decode cX6_tried 5 = .ok (.ifCond .eq 33, 3) := by decide +kernel
theorem dX6_tried_8 : decode cX6_tried 8 = .ok (.iload_n 2, 1) := by decide +kernel
theorem dX6_tried_9 : decode cX6_tried 9 = .ok (.iconst 0, 1) := by decide +kernel
theorem dX6_tried_10 : decode cX6_tried 10 = .ok (.bipush 10, 2) := by decide +kernel
theorem dX6_tried_12 : decode cX6_tried 12 = .ok (.invokestatic 82, 3) := by decide +kernel
theorem dX6_tried_15 : decode cX6_tried 15 = .ok (.ifCond .eq 23, 3) := by decide +kernel
theorem dX6_tried_18 : decode cX6_tried 18 = .ok (.iload_n 3, 1) := by decide +kernel
theorem dX6_tried_19 : decode cX6_tried 19 = .ok (.iconst 0, 1) := by decide +kernel
theorem dX6_tried_20 : decode cX6_tried 20 = .ok (.bipush 9, 2) := by decide +kernel
theorem dX6_tried_22 : decode cX6_tried 22 = .ok (.invokestatic 82, 3) := by decide +kernel
theorem dX6_tried_25 : decode cX6_tried 25 = .ok (.ifCond .eq 13, 3) := by decide +kernel
theorem dX6_tried_28 : decode cX6_tried 28 = .ok (.iload 4, 2) := by decide +kernel
theorem dX6_tried_30 : decode cX6_tried 30 = .ok (.iconst 0, 1) := by decide +kernel
theorem dX6_tried_31 : decode cX6_tried 31 = .ok (.iconst 1, 1) := by decide +kernel
theorem dX6_tried_32 : decode cX6_tried 32 = .ok (.invokestatic 82, 3) := by decide +kernel
theorem dX6_tried_35 : decode cX6_tried 35 = .ok (.ifCond .ne 7, 3) := by decide +kernel
theorem dX6_tried_38 : decode cX6_tried 38 = .ok (.ldc2_w 200, 3) := by decide +kernel
theorem dX6_tried_41 : decode cX6_tried 41 = .ok (.lreturn, 1) := by decide +kernel
theorem dX6_tried_42 : decode cX6_tried 42 = .ok (.aload_n 0, 1) := by decide +kernel
theorem dX6_tried_43 : decode cX6_tried 43 = .ok (.iload_n 1, 1) := by decide +kernel
theorem dX6_tried_44 : decode cX6_tried 44 = .ok (.iload_n 3, 1) := by decide +kernel
theorem dX6_tried_45 : decode cX6_tried 45 = .ok (.invokevirtual 229, 3) := by decide +kernel
theorem dX6_tried_48 : decode cX6_tried 48 = .ok (.aload_n 0, 1) := by decide +kernel
theorem dX6_tried_49 : decode cX6_tried 49 = .ok (.iload_n 1, 1) := by decide +kernel
theorem dX6_tried_50 : decode cX6_tried 50 = .ok (.iload_n 2, 1) := by decide +kernel
theorem dX6_tried_51 : decode cX6_tried 51 = .ok (.iload_n 3, 1) := by decide +kernel
theorem dX6_tried_52 : decode cX6_tried 52 = .ok (.invokevirtual 232, 3) := by decide +kernel
theorem dX6_tried_55 : decode cX6_tried 55 = .ok (.iload 4, 2) := by decide +kernel
theorem dX6_tried_57 : decode cX6_tried 57 = .ok (.invokestatic 207, 3) := by decide +kernel
theorem dX6_tried_60 : decode cX6_tried 60 = .ok (.lreturn, 1) := by decide +kernel
theorem dX6_tries_0 : decode cX6_tries 0 = .ok (.aload_n 0, 1) := by decide +kernel
theorem dX6_tries_1 : decode cX6_tries 1 = .ok (.iload_n 1, 1) := by decide +kernel
theorem dX6_tries_2 : decode cX6_tries 2 = .ok (.invokevirtual 139, 3) := by decide +kernel
theorem dX6_tries_5 : decode cX6_tries 5 = .ok (.ifCond .eq 23, 3) := by decide +kernel
theorem dX6_tries_8 : decode cX6_tries 8 = .ok (.iload_n 2, 1) := by decide +kernel
theorem dX6_tries_9 : decode cX6_tries 9 = .ok (.iconst 0, 1) := by decide +kernel
theorem dX6_tries_10 : decode cX6_tries 10 = .ok (.bipush 10, 2) := by decide +kernel
theorem dX6_tries_12 : decode cX6_tries 12 = .ok (.invokestatic 82, 3) := by decide +kernel
theorem dX6_tries_15 : decode cX6_tries 15 = .ok (.ifCond .eq 13, 3) := by decide +kernel
theorem dX6_tries_18 : decode cX6_tries 18 = .ok (.iload_n 3, 1) := by decide +kernel
theorem dX6_tries_19 : decode cX6_tries 19 = .ok (.iconst 0, 1) := by decide +kernel
theorem dX6_tries_20 : decode cX6_tries 20 = .ok (.bipush 100, 2) := by decide +kernel
theorem dX6_tries_22 : decode cX6_tries 22 = .ok (.invokestatic 82, 3) := by decide +kernel
theorem dX6_tries_25 : decode cX6_tries 25 = .ok (.ifCond .ne 5, 3) := by decide +kernel
theorem dX6_tries_28 : decode cX6_tries 28 = .ok (.iconst (-1), 1) := by decide +kernel
theorem dX6_tries_29 : decode cX6_tries 29 = .ok (.ireturn, 1) := by decide +kernel
theorem dX6_tries_30 : decode cX6_tries 30 = .ok (.iconst 0, 1) := by decide +kernel
theorem dX6_tries_31 : decode cX6_tries 31 = .ok (.istore 4, 2) := by decide +kernel
theorem dX6_tries_33 : decode cX6_tries 33 = .ok (.iload 4, 2) := by decide +kernel
theorem dX6_tries_35 : decode cX6_tries 35 = .ok (.bipush 10, 2) := by decide +kernel
theorem dX6_tries_37 : decode cX6_tries 37 = .ok (.if_icmp .ge 56, 3) := by decide +kernel
theorem dX6_tries_40 : decode cX6_tries 40 = .ok (.aload_n 0, 1) := by decide +kernel
theorem dX6_tries_41 : decode cX6_tries 41 = .ok (.iload_n 1, 1) := by decide +kernel
theorem dX6_tries_42 : decode cX6_tries 42 = .ok (.iload_n 2, 1) := by decide +kernel
theorem dX6_tries_43 : decode cX6_tries 43 = .ok (.iload 4, 2) := by decide +kernel
theorem dX6_tries_45 : decode cX6_tries 45 = .ok (.invokevirtual 232, 3) := by decide +kernel
theorem dX6_tries_48 : decode cX6_tries 48 = .ok (.lstore 5, 2) := by decide +kernel
theorem dX6_tries_50 : decode cX6_tries 50 = .ok (.lload 5, 2) := by decide +kernel
theorem dX6_tries_52 : decode cX6_tries 52 = .ok (.lconst 0, 1) := by decide +kernel
theorem dX6_tries_53 : decode cX6_tries 53 = .ok (.lcmp, 1) := by decide +kernel
theorem dX6_tries_54 : decode cX6_tries 54 = .ok (.ifCond .ne 10, 3) := by decide +kernel
theorem dX6_tries_57 : decode cX6_tries 57 = .ok (.iload_n 3, 1) := by decide +kernel
theorem dX6_tries_58 : decode cX6_tries 58 = .ok (.ifCond .ne 29, 3) := by decide +kernel
theorem dX6_tries_61 : decode cX6_tries 61 = .ok (.goto 23, 3) := by decide +kernel
theorem dX6_tries_64 : decode cX6_tries 64 = .ok (.ldc2_w 211, 3) := by decide +kernel
theorem dX6_tries_67 : decode cX6_tries 67 = .ok (.aload_n 0, 1) := by decide +kernel
theorem dX6_tries_68 : decode cX6_tries 68 = .ok (.iload_n 1, 1) := by decide +kernel
theorem dX6_tries_69 : decode cX6_tries 69 = .ok (.iload 4, 2) := by decide +kernel
theorem dX6_tries_71 : decode cX6_tries 71 = .ok (.invokevirtual 229, 3) := by decide +kernel
theorem dX6_tries_74 : decode cX6_tries 74 = .ok (.lmul, 1) := by decide +kernel
theorem dX6_tries_75 : decode cX6_tries 75 = .ok (.iload_n 3, 1) := by decide +kernel
theorem dX6_tries_76 : decode cX6_tries 76 = .ok (.i2l, 1) := by decide +kernel
theorem dX6_tries_77 : decode cX6_tries 77 = .ok (.lload 5, 2) := by decide +kernel
theorem dX6_tries_79 : decode cX6_tries 79 = .ok (.lmul, 1) := by decide +kernel
theorem dX6_tries_80 : decode cX6_tries 80 = .ok (.lcmp, 1) := by decide +kernel
theorem dX6_tries_81 : decode cX6_tries 81 = .ok (.ifCond .lt 6, 3) := by decide +kernel
theorem dX6_tries_84 : decode cX6_tries 84 = .ok (.iload 4, 2) := by decide +kernel
theorem dX6_tries_86 : decode cX6_tries 86 = .ok (.ireturn, 1) := by decide +kernel
theorem dX6_tries_87 : decode cX6_tries 87 = .ok (.iinc 4 1, 3) := by decide +kernel
theorem dX6_tries_90 : decode cX6_tries 90 = .ok (.goto (-57), 3) := by decide +kernel
theorem dX6_tries_93 : decode cX6_tries 93 = .ok (.bipush (-9), 2) := by decide +kernel
theorem dX6_tries_95 : decode cX6_tries 95 = .ok (.ireturn, 1) := by decide +kernel
theorem dX6_swayOn_0 : decode cX6_swayOn 0 = .ok (.iload_n 2, 1) := by decide +kernel
theorem dX6_swayOn_1 : decode cX6_swayOn 1 = .ok (.aload_n 0, 1) := by decide +kernel
theorem dX6_swayOn_2 : decode cX6_swayOn 2 = .ok (.iload_n 1, 1) := by decide +kernel
theorem dX6_swayOn_3 : decode cX6_swayOn 3 = .ok (.iconst 0, 1) := by decide +kernel
theorem dX6_swayOn_4 : decode cX6_swayOn 4 = .ok (.invokevirtual 146, 3) := by decide +kernel
theorem dX6_swayOn_7 : decode cX6_swayOn 7 = .ok (.imul, 1) := by decide +kernel
theorem dX6_swayOn_8 : decode cX6_swayOn 8 = .ok (.bipush 10, 2) := by decide +kernel
theorem dX6_swayOn_10 : decode cX6_swayOn 10 = .ok (.idiv, 1) := by decide +kernel
theorem dX6_swayOn_11 : decode cX6_swayOn 11 = .ok (.istore_n 3, 1) := by decide +kernel
theorem dX6_swayOn_12 : decode cX6_swayOn 12 = .ok (.iconst 0, 1) := by decide +kernel
theorem dX6_swayOn_13 : decode cX6_swayOn 13 = .ok (.istore 4, 2) := by decide +kernel
theorem dX6_swayOn_15 : decode cX6_swayOn 15 = .ok (.iconst 0, 1) := by decide +kernel
theorem dX6_swayOn_16 : decode cX6_swayOn 16 = .ok (.istore 5, 2) := by decide +kernel
theorem dX6_swayOn_18 : decode cX6_swayOn 18 = .ok (.iconst 0, 1) := by decide +kernel
theorem dX6_swayOn_19 : decode cX6_swayOn 19 = .ok (.istore 6, 2) := by decide +kernel
theorem dX6_swayOn_21 : decode cX6_swayOn 21 = .ok (.iconst 0, 1) := by decide +kernel
theorem dX6_swayOn_22 : decode cX6_swayOn 22 = .ok (.istore 7, 2) := by decide +kernel
theorem dX6_swayOn_24 : decode cX6_swayOn 24 = .ok (.iload 7, 2) := by decide +kernel
theorem dX6_swayOn_26 : decode cX6_swayOn 26 = .ok (.bipush 24, 2) := by decide +kernel
theorem dX6_swayOn_28 : decode cX6_swayOn 28 = .ok (.if_icmp .ge 71, 3) := by decide +kernel
theorem dX6_swayOn_31 : decode cX6_swayOn 31 = .ok (.iload 5, 2) := by decide +kernel
theorem dX6_swayOn_33 : decode cX6_swayOn 33 = .ok (.iload_n 3, 1) := by decide +kernel
theorem dX6_swayOn_34 : decode cX6_swayOn 34 = .ok (.iload 4, 2) := by decide +kernel
theorem dX6_swayOn_36 : decode cX6_swayOn 36 = .ok (.aload_n 0, 1) := by decide +kernel
theorem dX6_swayOn_37 : decode cX6_swayOn 37 = .ok (.iload_n 1, 1) := by decide +kernel
theorem dX6_swayOn_38 : decode cX6_swayOn 38 = .ok (.iconst 2, 1) := by decide +kernel
theorem dX6_swayOn_39 : decode cX6_swayOn 39 = .ok (.invokevirtual 146, 3) := by decide +kernel
theorem dX6_swayOn_42 : decode cX6_swayOn 42 = .ok (.imul, 1) := by decide +kernel
theorem dX6_swayOn_43 : decode cX6_swayOn 43 = .ok (.bipush 10, 2) := by decide +kernel
theorem dX6_swayOn_45 : decode cX6_swayOn 45 = .ok (.idiv, 1) := by decide +kernel
theorem dX6_swayOn_46 : decode cX6_swayOn 46 = .ok (.isub, 1) := by decide +kernel
theorem dX6_swayOn_47 : decode cX6_swayOn 47 = .ok (.iload 5, 2) := by decide +kernel
theorem dX6_swayOn_49 : decode cX6_swayOn 49 = .ok (.iconst 4, 1) := by decide +kernel
theorem dX6_swayOn_50 : decode cX6_swayOn 50 = .ok (.idiv, 1) := by decide +kernel
theorem dX6_swayOn_51 : decode cX6_swayOn 51 = .ok (.isub, 1) := by decide +kernel
theorem dX6_swayOn_52 : decode cX6_swayOn 52 = .ok (.iadd, 1) := by decide +kernel
theorem dX6_swayOn_53 : decode cX6_swayOn 53 = .ok (.istore 5, 2) := by decide +kernel
theorem dX6_swayOn_55 : decode cX6_swayOn 55 = .ok (.iload 4, 2) := by decide +kernel
theorem dX6_swayOn_57 : decode cX6_swayOn 57 = .ok (.iload 5, 2) := by decide +kernel
theorem dX6_swayOn_59 : decode cX6_swayOn 59 = .ok (.iadd, 1) := by decide +kernel
theorem dX6_swayOn_60 : decode cX6_swayOn 60 = .ok (.istore 4, 2) := by decide +kernel
theorem dX6_swayOn_62 : decode cX6_swayOn 62 = .ok (.iload 4, 2) := by decide +kernel
theorem dX6_swayOn_64 : decode cX6_swayOn 64 = .ok (.ifCond .ge 9, 3) := by decide +kernel
theorem dX6_swayOn_67 : decode cX6_swayOn 67 = .ok (.iload 4, 2) := by decide +kernel
theorem dX6_swayOn_69 : decode cX6_swayOn 69 = .ok (.ineg, 1) := by decide +kernel
theorem dX6_swayOn_70 : decode cX6_swayOn 70 = .ok (.goto 5, 3) := by decide +kernel
theorem dX6_swayOn_73 : decode cX6_swayOn 73 = .ok (.iload 4, 2) := by decide +kernel
theorem dX6_swayOn_75 : decode cX6_swayOn 75 = .ok (.istore 8, 2) := by decide +kernel
theorem dX6_swayOn_77 : decode cX6_swayOn 77 = .ok (.iload 8, 2) := by decide +kernel
theorem dX6_swayOn_79 : decode cX6_swayOn 79 = .ok (.iload 6, 2) := by decide +kernel
theorem dX6_swayOn_81 : decode cX6_swayOn 81 = .ok (.if_icmp .le 8, 3) := by decide +kernel
theorem dX6_swayOn_84 : decode cX6_swayOn 84 = .ok (.iload 8, 2) := by decide +kernel
theorem dX6_swayOn_86 : decode cX6_swayOn 86 = .ok (.goto 5, 3) := by decide +kernel
theorem dX6_swayOn_89 : decode cX6_swayOn 89 = .ok (.iload 6, 2) := by decide +kernel
theorem dX6_swayOn_91 : decode cX6_swayOn 91 = .ok (.istore 6, 2) := by decide +kernel
theorem dX6_swayOn_93 : decode cX6_swayOn 93 = .ok (.iinc 7 1, 3) := by decide +kernel
theorem dX6_swayOn_96 : decode cX6_swayOn 96 = .ok (.goto (-72), 3) := by decide +kernel
theorem dX6_swayOn_99 : decode cX6_swayOn 99 = .ok (.iload 6, 2) := by decide +kernel
theorem dX6_swayOn_101 : decode cX6_swayOn 101 = .ok (.aload_n 0, 1) := by decide +kernel
theorem dX6_swayOn_102 : decode cX6_swayOn 102 = .ok (.getfield 161, 3) := by decide +kernel
theorem dX6_swayOn_105 : decode cX6_swayOn 105 = .ok (.imul, 1) := by decide +kernel
theorem dX6_swayOn_106 : decode cX6_swayOn 106 = .ok (.bipush 50, 2) := by decide +kernel
theorem dX6_swayOn_108 : decode cX6_swayOn 108 = .ok (.idiv, 1) := by decide +kernel
theorem dX6_swayOn_109 : decode cX6_swayOn 109 = .ok (.ireturn, 1) := by decide +kernel
theorem dX6_sway_0 : decode cX6_sway 0 = .ok (.aload_n 0, 1) := by decide +kernel
theorem dX6_sway_1 : decode cX6_sway 1 = .ok (.iload_n 1, 1) := by decide +kernel
theorem dX6_sway_2 : decode cX6_sway 2 = .ok (.invokevirtual 149, 3) := by decide +kernel
theorem dX6_sway_5 : decode cX6_sway 5 = .ok (.ifCond .eq 21, 3) := by decide +kernel
theorem dX6_sway_8 : decode cX6_sway 8 = .ok (.aload_n 0, 1) := by decide +kernel
theorem dX6_sway_9 : decode cX6_sway 9 = .ok (.iload_n 2, 1) := by decide +kernel
theorem dX6_sway_10 : decode cX6_sway 10 = .ok (.invokevirtual 139, 3) := by decide +kernel
theorem dX6_sway_13 : decode cX6_sway 13 = .ok (.ifCond .eq 13, 3) := by decide +kernel
theorem dX6_sway_16 : decode cX6_sway 16 = .ok (.iload_n 3, 1) := by decide +kernel
theorem dX6_sway_17 : decode cX6_sway 17 = .ok (.iconst 0, 1) := by decide +kernel
theorem dX6_sway_18 : decode cX6_sway 18 = .ok (.bipush 20, 2) := by decide +kernel
theorem dX6_sway_20 : decode cX6_sway 20 = .ok (.invokestatic 82, 3) := by decide +kernel
theorem dX6_sway_23 : decode cX6_sway 23 = .ok (.ifCond .ne 5, 3) := by decide +kernel
theorem dX6_sway_26 : decode cX6_sway 26 = .ok (.iconst (-1), 1) := by decide +kernel
theorem dX6_sway_27 : decode cX6_sway 27 = .ok (.ireturn, 1) := by decide +kernel
theorem dX6_sway_28 : decode cX6_sway 28 = .ok (.aload_n 0, 1) := by decide +kernel
theorem dX6_sway_29 : decode cX6_sway 29 = .ok (.iload_n 1, 1) := by decide +kernel
theorem dX6_sway_30 : decode cX6_sway 30 = .ok (.invokevirtual 179, 3) := by decide +kernel
theorem dX6_sway_33 : decode cX6_sway 33 = .ok (.aload_n 0, 1) := by decide +kernel
theorem dX6_sway_34 : decode cX6_sway 34 = .ok (.iload_n 2, 1) := by decide +kernel
theorem dX6_sway_35 : decode cX6_sway 35 = .ok (.iload_n 3, 1) := by decide +kernel
theorem dX6_sway_36 : decode cX6_sway 36 = .ok (.invokevirtual 236, 3) := by decide +kernel
theorem dX6_sway_39 : decode cX6_sway 39 = .ok (.ireturn, 1) := by decide +kernel
theorem dX6_calm_0 : decode cX6_calm 0 = .ok (.aload_n 0, 1) := by decide +kernel
theorem dX6_calm_1 : decode cX6_calm 1 = .ok (.iload_n 1, 1) := by decide +kernel
theorem dX6_calm_2 : decode cX6_calm 2 = .ok (.invokevirtual 149, 3) := by decide +kernel
theorem dX6_calm_5 : decode cX6_calm 5 = .ok (.ifCond .eq 22, 3) := by decide +kernel
theorem dX6_calm_8 : decode cX6_calm 8 = .ok (.aload_n 0, 1) := by decide +kernel
theorem dX6_calm_9 : decode cX6_calm 9 = .ok (.iload_n 2, 1) := by decide +kernel
theorem dX6_calm_10 : decode cX6_calm 10 = .ok (.invokevirtual 139, 3) := by decide +kernel
theorem dX6_calm_13 : decode cX6_calm 13 = .ok (.ifCond .eq 14, 3) := by decide +kernel
theorem dX6_calm_16 : decode cX6_calm 16 = .ok (.iload_n 3, 1) := by decide +kernel
theorem dX6_calm_17 : decode cX6_calm 17 = .ok (.iconst 0, 1) := by decide +kernel
theorem dX6_calm_18 : decode cX6_calm 18 = .ok (.sipush 9999, 3) := by decide +kernel
theorem dX6_calm_21 : decode cX6_calm 21 = .ok (.invokestatic 82, 3) := by decide +kernel
theorem dX6_calm_24 : decode cX6_calm 24 = .ok (.ifCond .ne 5, 3) := by decide +kernel
theorem dX6_calm_27 : decode cX6_calm 27 = .ok (.iconst (-1), 1) := by decide +kernel
theorem dX6_calm_28 : decode cX6_calm 28 = .ok (.ireturn, 1) := by decide +kernel
theorem dX6_calm_29 : decode cX6_calm 29 = .ok (.aload_n 0, 1) := by decide +kernel
theorem dX6_calm_30 : decode cX6_calm 30 = .ok (.iload_n 1, 1) := by decide +kernel
theorem dX6_calm_31 : decode cX6_calm 31 = .ok (.invokevirtual 179, 3) := by decide +kernel
theorem dX6_calm_34 : decode cX6_calm 34 = .ok (.iconst 0, 1) := by decide +kernel
theorem dX6_calm_35 : decode cX6_calm 35 = .ok (.istore 4, 2) := by decide +kernel
theorem dX6_calm_37 : decode cX6_calm 37 = .ok (.iload 4, 2) := by decide +kernel
theorem dX6_calm_39 : decode cX6_calm 39 = .ok (.bipush 20, 2) := by decide +kernel
theorem dX6_calm_41 : decode cX6_calm 41 = .ok (.if_icmp .ge 22, 3) := by decide +kernel
theorem dX6_calm_44 : decode cX6_calm 44 = .ok (.aload_n 0, 1) := by decide +kernel
theorem dX6_calm_45 : decode cX6_calm 45 = .ok (.iload_n 2, 1) := by decide +kernel
theorem dX6_calm_46 : decode cX6_calm 46 = .ok (.iload 4, 2) := by decide +kernel
theorem dX6_calm_48 : decode cX6_calm 48 = .ok (.iconst 1, 1) := by decide +kernel
theorem dX6_calm_49 : decode cX6_calm 49 = .ok (.iadd, 1) := by decide +kernel
theorem dX6_calm_50 : decode cX6_calm 50 = .ok (.invokevirtual 236, 3) := by decide +kernel
theorem dX6_calm_53 : decode cX6_calm 53 = .ok (.iload_n 3, 1) := by decide +kernel
theorem dX6_calm_54 : decode cX6_calm 54 = .ok (.if_icmp .gt 9, 3) := by decide +kernel
theorem dX6_calm_57 : decode cX6_calm 57 = .ok (.iinc 4 1, 3) := by decide +kernel
theorem dX6_calm_60 : decode cX6_calm 60 = .ok (.goto (-23), 3) := by decide +kernel
theorem dX6_calm_63 : decode cX6_calm 63 = .ok (.iload 4, 2) := by decide +kernel
theorem dX6_calm_65 : decode cX6_calm 65 = .ok (.ireturn, 1) := by decide +kernel
theorem dX6_harmFrom_0 : decode cX6_harmFrom 0 = .ok (.aload_n 0, 1) := by decide +kernel
theorem dX6_harmFrom_1 : decode cX6_harmFrom 1 = .ok (.iload_n 1, 1) := by decide +kernel
theorem dX6_harmFrom_2 : decode cX6_harmFrom 2 = .ok (.iconst 0, 1) := by decide +kernel
theorem dX6_harmFrom_3 : decode cX6_harmFrom 3 = .ok (.invokevirtual 146, 3) := by decide +kernel
theorem dX6_harmFrom_6 : decode cX6_harmFrom 6 = .ok (.istore_n 2, 1) := by decide +kernel
theorem dX6_harmFrom_7 : decode cX6_harmFrom 7 = .ok (.iconst 0, 1) := by decide +kernel
theorem dX6_harmFrom_8 : decode cX6_harmFrom 8 = .ok (.istore_n 3, 1) := by decide +kernel
theorem dX6_harmFrom_9 : decode cX6_harmFrom 9 = .ok (.iconst 0, 1) := by decide +kernel
theorem dX6_harmFrom_10 : decode cX6_harmFrom 10 = .ok (.istore 4, 2) := by decide +kernel
theorem dX6_harmFrom_12 : decode cX6_harmFrom 12 = .ok (.aload_n 0, 1) := by decide +kernel
theorem dX6_harmFrom_13 : decode cX6_harmFrom 13 = .ok (.iconst 0, 1) := by decide +kernel
theorem dX6_harmFrom_14 : decode cX6_harmFrom 14 = .ok (.putfield 239, 3) := by decide +kernel
theorem dX6_harmFrom_17 : decode cX6_harmFrom 17 = .ok (.iload_n 2, 1) := by decide +kernel
theorem dX6_harmFrom_18 : decode cX6_harmFrom 18 = .ok (.iconst 1, 1) := by decide +kernel
theorem dX6_harmFrom_19 : decode cX6_harmFrom 19 = .ok (.isub, 1) := by decide +kernel
theorem dX6_harmFrom_20 : decode cX6_harmFrom 20 = .ok (.istore 5, 2) := by decide +kernel
theorem dX6_harmFrom_22 : decode cX6_harmFrom 22 = .ok (.iload 5, 2) := by decide +kernel
theorem dX6_harmFrom_24 : decode cX6_harmFrom 24 = .ok (.ifCond .le 96, 3) := by decide +kernel
theorem dX6_harmFrom_27 : decode cX6_harmFrom 27 = .ok (.iconst 0, 1) := by decide +kernel
theorem dX6_harmFrom_28 : decode cX6_harmFrom 28 = .ok (.istore 6, 2) := by decide +kernel
theorem dX6_harmFrom_30 : decode cX6_harmFrom 30 = .ok (.iload 6, 2) := by decide +kernel
theorem dX6_harmFrom_32 : decode cX6_harmFrom 32 = .ok (.aload_n 0, 1) := by decide +kernel
theorem dX6_harmFrom_33 : decode cX6_harmFrom 33 = .ok (.getfield 13, 3) := by decide +kernel
theorem dX6_harmFrom_36 : decode cX6_harmFrom 36 = .ok (.iconst 0, 1) := by decide +kernel
theorem dX6_harmFrom_37 : decode cX6_harmFrom 37 = .ok (.iaload, 1) := by decide +kernel
theorem dX6_harmFrom_38 : decode cX6_harmFrom 38 = .ok (.if_icmp .ge 76, 3) := by decide +kernel
theorem dX6_harmFrom_41 : decode cX6_harmFrom 41 = .ok (.aload_n 0, 1) := by decide +kernel
theorem dX6_harmFrom_42 : decode cX6_harmFrom 42 = .ok (.iload 6, 2) := by decide +kernel
theorem dX6_harmFrom_44 : decode cX6_harmFrom 44 = .ok (.iconst 0, 1) := by decide +kernel
theorem dX6_harmFrom_45 : decode cX6_harmFrom 45 = .ok (.invokevirtual 146, 3) := by decide +kernel
theorem dX6_harmFrom_48 : decode cX6_harmFrom 48 = .ok (.iload 5, 2) := by decide +kernel
theorem dX6_harmFrom_50 : decode cX6_harmFrom 50 = .ok (.if_icmp .ne 58, 3) := by decide +kernel
theorem dX6_harmFrom_53 : decode cX6_harmFrom 53 = .ok (.aload_n 0, 1) := by decide +kernel
theorem dX6_harmFrom_54 : decode cX6_harmFrom 54 = .ok (.iload 6, 2) := by decide +kernel
theorem dX6_harmFrom_56 : decode cX6_harmFrom 56 = .ok (.invokevirtual 143, 3) := by decide +kernel
theorem dX6_harmFrom_59 : decode cX6_harmFrom 59 = .ok (.ifCond .ne 49, 3) := by decide +kernel
theorem dX6_harmFrom_62 : decode cX6_harmFrom 62 = .ok (.aload_n 0, 1) := by decide +kernel
theorem dX6_harmFrom_63 : decode cX6_harmFrom 63 = .ok (.iload_n 1, 1) := by decide +kernel
theorem dX6_harmFrom_64 : decode cX6_harmFrom 64 = .ok (.iload 6, 2) := by decide +kernel
theorem dX6_harmFrom_66 : decode cX6_harmFrom 66 = .ok (.invokevirtual 170, 3) := by decide +kernel
theorem dX6_harmFrom_69 : decode cX6_harmFrom 69 = .ok (.iconst 1, 1) := by decide +kernel
theorem dX6_harmFrom_70 : decode cX6_harmFrom 70 = .ok (.if_icmp .gt 38, 3) := by decide +kernel
theorem dX6_harmFrom_73 : decode cX6_harmFrom 73 = .ok (.iload_n 3, 1) := by decide +kernel
theorem dX6_harmFrom_74 : decode cX6_harmFrom 74 = .ok (.iload_n 2, 1) := by decide +kernel
theorem dX6_harmFrom_75 : decode cX6_harmFrom 75 = .ok (.iload 5, 2) := by decide +kernel
theorem dX6_harmFrom_77 : decode cX6_harmFrom 77 = .ok (.isub, 1) := by decide +kernel
theorem dX6_harmFrom_78 : decode cX6_harmFrom 78 = .ok (.iadd, 1) := by decide +kernel
theorem dX6_harmFrom_79 : decode cX6_harmFrom 79 = .ok (.istore_n 3, 1) := by decide +kernel
theorem dX6_harmFrom_80 : decode cX6_harmFrom 80 = .ok (.iload 4, 2) := by decide +kernel
theorem dX6_harmFrom_82 : decode cX6_harmFrom 82 = .ok (.iload_n 3, 1) := by decide +kernel
theorem dX6_harmFrom_83 : decode cX6_harmFrom 83 = .ok (.iconst 2, 1) := by decide +kernel
theorem dX6_harmFrom_84 : decode cX6_harmFrom 84 = .ok (.idiv, 1) := by decide +kernel
theorem dX6_harmFrom_85 : decode cX6_harmFrom 85 = .ok (.iadd, 1) := by decide +kernel
theorem dX6_harmFrom_86 : decode cX6_harmFrom 86 = .ok (.istore 4, 2) := by decide +kernel
theorem dX6_harmFrom_88 : decode cX6_harmFrom 88 = .ok (.iload_n 3, 1) := by decide +kernel
theorem dX6_harmFrom_89 : decode cX6_harmFrom 89 = .ok (.iconst 2, 1) := by decide +kernel
theorem dX6_harmFrom_90 : decode cX6_harmFrom 90 = .ok (.idiv, 1) := by decide +kernel
theorem dX6_harmFrom_91 : decode cX6_harmFrom 91 = .ok (.istore_n 3, 1) := by decide +kernel
theorem dX6_harmFrom_92 : decode cX6_harmFrom 92 = .ok (.iload 5, 2) := by decide +kernel
theorem dX6_harmFrom_94 : decode cX6_harmFrom 94 = .ok (.istore_n 2, 1) := by decide +kernel
theorem dX6_harmFrom_95 : decode cX6_harmFrom 95 = .ok (.aload_n 0, 1) := by decide +kernel
theorem dX6_harmFrom_96 : decode cX6_harmFrom 96 = .ok (.dup, 1) := by decide +kernel
theorem dX6_harmFrom_97 : decode cX6_harmFrom 97 = .ok (.getfield 239, 3) := by decide +kernel
theorem dX6_harmFrom_100 : decode cX6_harmFrom 100 = .ok (.iconst 1, 1) := by decide +kernel
theorem dX6_harmFrom_101 : decode cX6_harmFrom 101 = .ok (.iload 6, 2) := by decide +kernel
theorem dX6_harmFrom_103 : decode cX6_harmFrom 103 = .ok (.ishl, 1) := by decide +kernel
theorem dX6_harmFrom_104 : decode cX6_harmFrom 104 = .ok (.ior, 1) := by decide +kernel
theorem dX6_harmFrom_105 : decode cX6_harmFrom 105 = .ok (.putfield 239, 3) := by decide +kernel
theorem dX6_harmFrom_108 : decode cX6_harmFrom 108 = .ok (.iinc 6 1, 3) := by decide +kernel
theorem dX6_harmFrom_111 : decode cX6_harmFrom 111 = .ok (.goto (-81), 3) := by decide +kernel
theorem dX6_harmFrom_114 : decode cX6_harmFrom 114 = .ok (.iinc 5 (-1), 3) := by decide +kernel
theorem dX6_harmFrom_117 : decode cX6_harmFrom 117 = .ok (.goto (-95), 3) := by decide +kernel
theorem dX6_harmFrom_120 : decode cX6_harmFrom 120 = .ok (.iload 4, 2) := by decide +kernel
theorem dX6_harmFrom_122 : decode cX6_harmFrom 122 = .ok (.iload_n 3, 1) := by decide +kernel
theorem dX6_harmFrom_123 : decode cX6_harmFrom 123 = .ok (.iload_n 2, 1) := by decide +kernel
theorem dX6_harmFrom_124 : decode cX6_harmFrom 124 = .ok (.iadd, 1) := by decide +kernel
theorem dX6_harmFrom_125 : decode cX6_harmFrom 125 = .ok (.aload_n 0, 1) := by decide +kernel
theorem dX6_harmFrom_126 : decode cX6_harmFrom 126 = .ok (.getfield 26, 3) := by decide +kernel
theorem dX6_harmFrom_129 : decode cX6_harmFrom 129 = .ok (.iconst 4, 1) := by decide +kernel
theorem dX6_harmFrom_130 : decode cX6_harmFrom 130 = .ok (.iaload, 1) := by decide +kernel
theorem dX6_harmFrom_131 : decode cX6_harmFrom 131 = .ok (.imul, 1) := by decide +kernel
theorem dX6_harmFrom_132 : decode cX6_harmFrom 132 = .ok (.iadd, 1) := by decide +kernel
theorem dX6_harmFrom_133 : decode cX6_harmFrom 133 = .ok (.ireturn, 1) := by decide +kernel
theorem dX6_fall_0 : decode cX6_fall 0 = .ok (.aload_n 0, 1) := by decide +kernel
theorem dX6_fall_1 : decode cX6_fall 1 = .ok (.iload_n 1, 1) := by decide +kernel
theorem dX6_fall_2 : decode cX6_fall 2 = .ok (.invokevirtual 139, 3) := by decide +kernel
theorem dX6_fall_5 : decode cX6_fall 5 = .ok (.ifCond .eq 12, 3) := by decide +kernel
theorem dX6_fall_8 : decode cX6_fall 8 = .ok (.iload_n 2, 1) := by decide +kernel
theorem dX6_fall_9 : decode cX6_fall 9 = .ok (.iconst 0, 1) := by decide +kernel
theorem dX6_fall_10 : decode cX6_fall 10 = .ok (.iconst 1, 1) := by decide +kernel
theorem dX6_fall_11 : decode cX6_fall 11 = .ok (.invokestatic 82, 3) := by decide +kernel
theorem dX6_fall_14 : decode cX6_fall 14 = .ok (.ifCond .ne 5, 3) := by decide +kernel
theorem dX6_fall_17 : decode cX6_fall 17 = .ok (.iconst (-1), 1) := by decide +kernel
theorem dX6_fall_18 : decode cX6_fall 18 = .ok (.ireturn, 1) := by decide +kernel
theorem dX6_fall_19 : decode cX6_fall 19 = .ok (.aload_n 0, 1) := by decide +kernel
theorem dX6_fall_20 : decode cX6_fall 20 = .ok (.iload_n 1, 1) := by decide +kernel
theorem dX6_fall_21 : decode cX6_fall 21 = .ok (.invokevirtual 242, 3) := by decide +kernel
theorem dX6_fall_24 : decode cX6_fall 24 = .ok (.istore_n 3, 1) := by decide +kernel
theorem dX6_fall_25 : decode cX6_fall 25 = .ok (.iload_n 2, 1) := by decide +kernel
theorem dX6_fall_26 : decode cX6_fall 26 = .ok (.ifCond .ne 7, 3) := by decide +kernel
theorem dX6_fall_29 : decode cX6_fall 29 = .ok (.iload_n 3, 1) := by decide +kernel
theorem dX6_fall_30 : decode cX6_fall 30 = .ok (.goto 7, 3) := by decide +kernel
theorem dX6_fall_33 : decode cX6_fall 33 = .ok (.aload_n 0, 1) := by decide +kernel
theorem dX6_fall_34 : decode cX6_fall 34 = .ok (.getfield 239, 3) := by decide +kernel
theorem dX6_fall_37 : decode cX6_fall 37 = .ok (.ireturn, 1) := by decide +kernel
theorem dX6_bitsIn_0 : decode cX6_bitsIn 0 = .ok (.iconst 0, 1) := by decide +kernel
theorem dX6_bitsIn_1 : decode cX6_bitsIn 1 = .ok (.istore_n 1, 1) := by decide +kernel
theorem dX6_bitsIn_2 : decode cX6_bitsIn 2 = .ok (.iconst 0, 1) := by decide +kernel
theorem dX6_bitsIn_3 : decode cX6_bitsIn 3 = .ok (.istore_n 2, 1) := by decide +kernel
theorem dX6_bitsIn_4 : decode cX6_bitsIn 4 = .ok (.iload_n 2, 1) := by decide +kernel
theorem dX6_bitsIn_5 : decode cX6_bitsIn 5 = .ok (.bipush 12, 2) := by decide +kernel
theorem dX6_bitsIn_7 : decode cX6_bitsIn 7 = .ok (.if_icmp .ge 17, 3) := by decide +kernel
theorem dX6_bitsIn_10 : decode cX6_bitsIn 10 = .ok (.iload_n 1, 1) := by decide +kernel
theorem dX6_bitsIn_11 : decode cX6_bitsIn 11 = .ok (.iload_n 0, 1) := by decide +kernel
theorem dX6_bitsIn_12 : decode cX6_bitsIn 12 = .ok (.iload_n 2, 1) := by decide +kernel
theorem dX6_bitsIn_13 : decode cX6_bitsIn 13 = .ok (.ishr, 1) := by decide +kernel
theorem dX6_bitsIn_14 : decode cX6_bitsIn 14 = .ok (.iconst 1, 1) := by decide +kernel
theorem dX6_bitsIn_15 : decode cX6_bitsIn 15 = .ok (.iand, 1) := by decide +kernel
theorem dX6_bitsIn_16 : decode cX6_bitsIn 16 = .ok (.iadd, 1) := by decide +kernel
theorem dX6_bitsIn_17 : decode cX6_bitsIn 17 = .ok (.istore_n 1, 1) := by decide +kernel
theorem dX6_bitsIn_18 : decode cX6_bitsIn 18 = .ok (.iinc 2 1, 3) := by decide +kernel
theorem dX6_bitsIn_21 : decode cX6_bitsIn 21 = .ok (.goto (-17), 3) := by decide +kernel
theorem dX6_bitsIn_24 : decode cX6_bitsIn 24 = .ok (.iload_n 1, 1) := by decide +kernel
theorem dX6_bitsIn_25 : decode cX6_bitsIn 25 = .ok (.ireturn, 1) := by decide +kernel
theorem dX6_isSafe_0 : decode cX6_isSafe 0 = .ok (.aload_n 0, 1) := by decide +kernel
theorem dX6_isSafe_1 : decode cX6_isSafe 1 = .ok (.iconst 0, 1) := by decide +kernel
theorem dX6_isSafe_2 : decode cX6_isSafe 2 = .ok (.invokevirtual 213, 3) := by decide +kernel
theorem dX6_isSafe_5 : decode cX6_isSafe 5 = .ok (.iload_n 2, 1) := by decide +kernel
theorem dX6_isSafe_6 : decode cX6_isSafe 6 = .ok (.if_icmp .ge 5, 3) := by decide +kernel
theorem dX6_isSafe_9 : decode cX6_isSafe 9 = .ok (.iconst 0, 1) := by decide +kernel
theorem dX6_isSafe_10 : decode cX6_isSafe 10 = .ok (.ireturn, 1) := by decide +kernel
theorem dX6_isSafe_11 : decode cX6_isSafe 11 = .ok (.aload_n 0, 1) := by decide +kernel
theorem dX6_isSafe_12 : decode cX6_isSafe 12 = .ok (.invokevirtual 216, 3) := by decide +kernel
theorem dX6_isSafe_15 : decode cX6_isSafe 15 = .ok (.istore_n 3, 1) := by decide +kernel
theorem dX6_isSafe_16 : decode cX6_isSafe 16 = .ok (.iconst 1, 1) := by decide +kernel
theorem dX6_isSafe_17 : decode cX6_isSafe 17 = .ok (.istore 4, 2) := by decide +kernel
theorem dX6_isSafe_19 : decode cX6_isSafe 19 = .ok (.iconst 0, 1) := by decide +kernel
theorem dX6_isSafe_20 : decode cX6_isSafe 20 = .ok (.istore 5, 2) := by decide +kernel
theorem dX6_isSafe_22 : decode cX6_isSafe 22 = .ok (.iload 5, 2) := by decide +kernel
theorem dX6_isSafe_24 : decode cX6_isSafe 24 = .ok (.aload_n 0, 1) := by decide +kernel
theorem dX6_isSafe_25 : decode cX6_isSafe 25 = .ok (.getfield 13, 3) := by decide +kernel
theorem dX6_isSafe_28 : decode cX6_isSafe 28 = .ok (.iconst 0, 1) := by decide +kernel
theorem dX6_isSafe_29 : decode cX6_isSafe 29 = .ok (.iaload, 1) := by decide +kernel
theorem dX6_isSafe_30 : decode cX6_isSafe 30 = .ok (.if_icmp .ge 40, 3) := by decide +kernel
theorem dX6_isSafe_33 : decode cX6_isSafe 33 = .ok (.iload 4, 2) := by decide +kernel
theorem dX6_isSafe_35 : decode cX6_isSafe 35 = .ok (.ifCond .eq 35, 3) := by decide +kernel
theorem dX6_isSafe_38 : decode cX6_isSafe 38 = .ok (.iload_n 3, 1) := by decide +kernel
theorem dX6_isSafe_39 : decode cX6_isSafe 39 = .ok (.iload 5, 2) := by decide +kernel
theorem dX6_isSafe_41 : decode cX6_isSafe 41 = .ok (.ishr, 1) := by decide +kernel
theorem dX6_isSafe_42 : decode cX6_isSafe 42 = .ok (.iconst 1, 1) := by decide +kernel
theorem dX6_isSafe_43 : decode cX6_isSafe 43 = .ok (.iand, 1) := by decide +kernel
theorem dX6_isSafe_44 : decode cX6_isSafe 44 = .ok (.ifCond .eq 13, 3) := by decide +kernel
theorem dX6_isSafe_47 : decode cX6_isSafe 47 = .ok (.aload_n 0, 1) := by decide +kernel
theorem dX6_isSafe_48 : decode cX6_isSafe 48 = .ok (.iload 5, 2) := by decide +kernel
theorem dX6_isSafe_50 : decode cX6_isSafe 50 = .ok (.invokevirtual 242, 3) := by decide +kernel
theorem dX6_isSafe_53 : decode cX6_isSafe 53 = .ok (.iload_n 1, 1) := by decide +kernel
theorem dX6_isSafe_54 : decode cX6_isSafe 54 = .ok (.if_icmp .gt 7, 3) := by decide +kernel
theorem dX6_isSafe_57 : decode cX6_isSafe 57 = .ok (.iconst 1, 1) := by decide +kernel
theorem dX6_isSafe_58 : decode cX6_isSafe 58 = .ok (.goto 4, 3) := by decide +kernel
theorem dX6_isSafe_61 : decode cX6_isSafe 61 = .ok (.iconst 0, 1) := by decide +kernel
theorem dX6_isSafe_62 : decode cX6_isSafe 62 = .ok (.istore 4, 2) := by decide +kernel
theorem dX6_isSafe_64 : decode cX6_isSafe 64 = .ok (.iinc 5 1, 3) := by decide +kernel
theorem dX6_isSafe_67 : decode cX6_isSafe 67 = .ok (.goto (-45), 3) := by decide +kernel
theorem dX6_isSafe_70 : decode cX6_isSafe 70 = .ok (.iload 4, 2) := by decide +kernel
theorem dX6_isSafe_72 : decode cX6_isSafe 72 = .ok (.ireturn, 1) := by decide +kernel
theorem dX6_saw_0 : decode cX6_saw 0 = .ok (.aload_n 0, 1) := by decide +kernel
theorem dX6_saw_1 : decode cX6_saw 1 = .ok (.iload_n 1, 1) := by decide +kernel
theorem dX6_saw_2 : decode cX6_saw 2 = .ok (.invokevirtual 149, 3) := by decide +kernel
theorem dX6_saw_5 : decode cX6_saw 5 = .ok (.ifCond .eq 34, 3) := by decide +kernel
theorem dX6_saw_8 : decode cX6_saw 8 = .ok (.iload_n 2, 1) := by decide +kernel
theorem dX6_saw_9 : decode cX6_saw 9 = .ok (.iconst 0, 1) := by decide +kernel
theorem dX6_saw_10 : decode cX6_saw 10 = .ok (.sipush 9999, 3) := by decide +kernel
theorem dX6_saw_13 : decode cX6_saw 13 = .ok (.invokestatic 82, 3) := by decide +kernel
theorem dX6_saw_16 : decode cX6_saw 16 = .ok (.ifCond .eq 23, 3) := by decide +kernel
theorem dX6_saw_19 : decode cX6_saw 19 = .ok (.iload_n 3, 1) := by decide +kernel
theorem dX6_saw_20 : decode cX6_saw 20 = .ok (.iconst 0, 1) := by decide +kernel
theorem dX6_saw_21 : decode cX6_saw 21 = .ok (.bipush 99, 2) := by decide +kernel
theorem dX6_saw_23 : decode cX6_saw 23 = .ok (.invokestatic 82, 3) := by decide +kernel
theorem dX6_saw_26 : decode cX6_saw 26 = .ok (.ifCond .eq 13, 3) := by decide +kernel
theorem dX6_saw_29 : decode cX6_saw 29 = .ok (.iload 4, 2) := by decide +kernel
theorem dX6_saw_31 : decode cX6_saw 31 = .ok (.iconst 0, 1) := by decide +kernel
theorem dX6_saw_32 : decode cX6_saw 32 = .ok (.iconst 1, 1) := by decide +kernel
theorem dX6_saw_33 : decode cX6_saw 33 = .ok (.invokestatic 82, 3) := by decide +kernel
theorem dX6_saw_36 : decode cX6_saw 36 = .ok (.ifCond .ne 5, 3) := by decide +kernel
theorem dX6_saw_39 : decode cX6_saw 39 = .ok (.iconst (-1), 1) := by decide +kernel
theorem dX6_saw_40 : decode cX6_saw 40 = .ok (.ireturn, 1) := by decide +kernel
theorem dX6_saw_41 : decode cX6_saw 41 = .ok (.aload_n 0, 1) := by decide +kernel
theorem dX6_saw_42 : decode cX6_saw 42 = .ok (.iload_n 1, 1) := by decide +kernel
theorem dX6_saw_43 : decode cX6_saw 43 = .ok (.invokevirtual 179, 3) := by decide +kernel
theorem dX6_saw_46 : decode cX6_saw 46 = .ok (.aload_n 0, 1) := by decide +kernel
theorem dX6_saw_47 : decode cX6_saw 47 = .ok (.getfield 29, 3) := by decide +kernel
theorem dX6_saw_50 : decode cX6_saw 50 = .ok (.iconst 0, 1) := by decide +kernel
theorem dX6_saw_51 : decode cX6_saw 51 = .ok (.iaload, 1) := by decide +kernel
theorem dX6_saw_52 : decode cX6_saw 52 = .ok (.istore 5, 2) := by decide +kernel
theorem dX6_saw_54 : decode cX6_saw 54 = .ok (.bipush (-9), 2) := by decide +kernel
theorem dX6_saw_56 : decode cX6_saw 56 = .ok (.istore 6, 2) := by decide +kernel
theorem dX6_saw_58 : decode cX6_saw 58 = .ok (.iconst 0, 1) := by decide +kernel
theorem dX6_saw_59 : decode cX6_saw 59 = .ok (.istore 7, 2) := by decide +kernel
theorem dX6_saw_61 : decode cX6_saw 61 = .ok (.iload 7, 2) := by decide +kernel
theorem dX6_saw_63 : decode cX6_saw 63 = .ok (.iconst 3, 1) := by decide +kernel
theorem dX6_saw_64 : decode cX6_saw 64 = .ok (.if_icmp .gt 92, 3) := by decide +kernel
theorem dX6_saw_67 : decode cX6_saw 67 = .ok (.iload 6, 2) := by decide +kernel
theorem dX6_saw_69 : decode cX6_saw 69 = .ok (.bipush (-9), 2) := by decide +kernel
theorem dX6_saw_71 : decode cX6_saw 71 = .ok (.if_icmp .ne 85, 3) := by decide +kernel
theorem dX6_saw_74 : decode cX6_saw 74 = .ok (.iconst 0, 1) := by decide +kernel
theorem dX6_saw_75 : decode cX6_saw 75 = .ok (.istore 8, 2) := by decide +kernel
theorem dX6_saw_77 : decode cX6_saw 77 = .ok (.iload 8, 2) := by decide +kernel
theorem dX6_saw_79 : decode cX6_saw 79 = .ok (.iconst 1, 1) := by decide +kernel
theorem dX6_saw_80 : decode cX6_saw 80 = .ok (.aload_n 0, 1) := by decide +kernel
theorem dX6_saw_81 : decode cX6_saw 81 = .ok (.getfield 13, 3) := by decide +kernel
theorem dX6_saw_84 : decode cX6_saw 84 = .ok (.iconst 0, 1) := by decide +kernel
theorem dX6_saw_85 : decode cX6_saw 85 = .ok (.iaload, 1) := by decide +kernel
theorem dX6_saw_86 : decode cX6_saw 86 = .ok (.ishl, 1) := by decide +kernel
theorem dX6_saw_87 : decode cX6_saw 87 = .ok (.if_icmp .ge 63, 3) := by decide +kernel
theorem dX6_saw_90 : decode cX6_saw 90 = .ok (.iload 6, 2) := by decide +kernel
theorem dX6_saw_92 : decode cX6_saw 92 = .ok (.bipush (-9), 2) := by decide +kernel
theorem dX6_saw_94 : decode cX6_saw 94 = .ok (.if_icmp .ne 56, 3) := by decide +kernel
theorem dX6_saw_97 : decode cX6_saw 97 = .ok (.iload 8, 2) := by decide +kernel
theorem dX6_saw_99 : decode cX6_saw 99 = .ok (.invokestatic 245, 3) := by decide +kernel
theorem dX6_saw_102 : decode cX6_saw 102 = .ok (.iload 7, 2) := by decide +kernel
theorem dX6_saw_104 : decode cX6_saw 104 = .ok (.if_icmp .ne 40, 3) := by decide +kernel
theorem dX6_saw_107 : decode cX6_saw 107 = .ok (.iload 8, 2) := by decide +kernel
theorem dX6_saw_109 : decode cX6_saw 109 = .ok (.iload 5, 2) := by decide +kernel
theorem dX6_saw_111 : decode cX6_saw 111 = .ok (.iand, 1) := by decide +kernel
theorem dX6_saw_112 : decode cX6_saw 112 = .ok (.ifCond .ne 32, 3) := by decide +kernel
theorem dX6_saw_115 : decode cX6_saw 115 = .ok (.aload_n 0, 1) := by decide +kernel
theorem dX6_saw_116 : decode cX6_saw 116 = .ok (.getfield 29, 3) := by decide +kernel
theorem dX6_saw_119 : decode cX6_saw 119 = .ok (.iconst 0, 1) := by decide +kernel
theorem dX6_saw_120 : decode cX6_saw 120 = .ok (.iload 5, 2) := by decide +kernel
theorem dX6_saw_122 : decode cX6_saw 122 = .ok (.iload 8, 2) := by decide +kernel
theorem dX6_saw_124 : decode cX6_saw 124 = .ok (.ior, 1) := by decide +kernel
theorem dX6_saw_125 : decode cX6_saw 125 = .ok (.iastore, 1) := by decide +kernel
theorem dX6_saw_126 : decode cX6_saw 126 = .ok (.aload_n 0, 1) := by decide +kernel
theorem dX6_saw_127 : decode cX6_saw 127 = .ok (.iload_n 2, 1) := by decide +kernel
theorem dX6_saw_128 : decode cX6_saw 128 = .ok (.iload_n 3, 1) := by decide +kernel
theorem dX6_saw_129 : decode cX6_saw 129 = .ok (.invokevirtual 248, 3) := by decide +kernel
theorem dX6_saw_132 : decode cX6_saw 132 = .ok (.ifCond .eq 8, 3) := by decide +kernel
theorem dX6_saw_135 : decode cX6_saw 135 = .ok (.iload 8, 2) := by decide +kernel
theorem dX6_saw_137 : decode cX6_saw 137 = .ok (.goto 5, 3) := by decide +kernel
theorem dX6_saw_140 : decode cX6_saw 140 = .ok (.bipush (-9), 2) := by decide +kernel
theorem dX6_saw_142 : decode cX6_saw 142 = .ok (.istore 6, 2) := by decide +kernel
theorem dX6_saw_144 : decode cX6_saw 144 = .ok (.iinc 8 1, 3) := by decide +kernel
theorem dX6_saw_147 : decode cX6_saw 147 = .ok (.goto (-70), 3) := by decide +kernel
theorem dX6_saw_150 : decode cX6_saw 150 = .ok (.iinc 7 1, 3) := by decide +kernel
theorem dX6_saw_153 : decode cX6_saw 153 = .ok (.goto (-92), 3) := by decide +kernel
theorem dX6_saw_156 : decode cX6_saw 156 = .ok (.aload_n 0, 1) := by decide +kernel
theorem dX6_saw_157 : decode cX6_saw 157 = .ok (.getfield 29, 3) := by decide +kernel
theorem dX6_saw_160 : decode cX6_saw 160 = .ok (.iconst 0, 1) := by decide +kernel
theorem dX6_saw_161 : decode cX6_saw 161 = .ok (.iload 5, 2) := by decide +kernel
theorem dX6_saw_163 : decode cX6_saw 163 = .ok (.iastore, 1) := by decide +kernel
theorem dX6_saw_164 : decode cX6_saw 164 = .ok (.iload 6, 2) := by decide +kernel
theorem dX6_saw_166 : decode cX6_saw 166 = .ok (.bipush (-9), 2) := by decide +kernel
theorem dX6_saw_168 : decode cX6_saw 168 = .ok (.if_icmp .eq 8, 3) := by decide +kernel
theorem dX6_saw_171 : decode cX6_saw 171 = .ok (.iload 4, 2) := by decide +kernel
theorem dX6_saw_173 : decode cX6_saw 173 = .ok (.ifCond .ne 8, 3) := by decide +kernel
theorem dX6_saw_176 : decode cX6_saw 176 = .ok (.iload 6, 2) := by decide +kernel
theorem dX6_saw_178 : decode cX6_saw 178 = .ok (.goto 8, 3) := by decide +kernel
theorem dX6_saw_181 : decode cX6_saw 181 = .ok (.iload 6, 2) := by decide +kernel
theorem dX6_saw_183 : decode cX6_saw 183 = .ok (.invokestatic 245, 3) := by decide +kernel
theorem dX6_saw_186 : decode cX6_saw 186 = .ok (.ireturn, 1) := by decide +kernel
theorem dX6_afternoon_0 : decode cX6_afternoon 0 = .ok (.aload_n 0, 1) := by decide +kernel
theorem dX6_afternoon_1 : decode cX6_afternoon 1 = .ok (.iload_n 1, 1) := by decide +kernel
theorem dX6_afternoon_2 : decode cX6_afternoon 2 = .ok (.invokevirtual 149, 3) := by decide +kernel
theorem dX6_afternoon_5 : decode cX6_afternoon 5 = .ok (.ifCond .eq 23, 3) := by decide +kernel
theorem dX6_afternoon_8 : decode cX6_afternoon 8 = .ok (.iload_n 2, 1) := by decide +kernel
theorem dX6_afternoon_9 : decode cX6_afternoon 9 = .ok (.iconst 0, 1) := by decide +kernel
theorem dX6_afternoon_10 : decode cX6_afternoon 10 = .ok (.bipush 9, 2) := by decide +kernel
theorem dX6_afternoon_12 : decode cX6_afternoon 12 = .ok (.invokestatic 82, 3) := by decide +kernel
theorem dX6_afternoon_15 : decode cX6_afternoon 15 = .ok (.ifCond .eq 13, 3) := by decide +kernel
theorem dX6_afternoon_18 : decode cX6_afternoon 18 = .ok (.iload_n 3, 1) := by decide +kernel
theorem dX6_afternoon_19 : decode cX6_afternoon 19 = .ok (.iconst 0, 1) := by decide +kernel
theorem dX6_afternoon_20 : decode cX6_afternoon 20 = .ok (.bipush 99, 2) := by decide +kernel
theorem dX6_afternoon_22 : decode cX6_afternoon 22 = .ok (.invokestatic 82, 3) := by decide +kernel
theorem dX6_afternoon_25 : decode cX6_afternoon 25 = .ok (.ifCond .ne 5, 3) := by decide +kernel
theorem dX6_afternoon_28 : decode cX6_afternoon 28 = .ok (.iconst (-1), 1) := by decide +kernel
theorem dX6_afternoon_29 : decode cX6_afternoon 29 = .ok (.ireturn, 1) := by decide +kernel
theorem dX6_afternoon_30 : decode cX6_afternoon 30 = .ok (.aload_n 0, 1) := by decide +kernel
theorem dX6_afternoon_31 : decode cX6_afternoon 31 = .ok (.getfield 136, 3) := by decide +kernel
theorem dX6_afternoon_34 : decode cX6_afternoon 34 = .ok (.bipush 40, 2) := by decide +kernel
theorem dX6_afternoon_36 : decode cX6_afternoon 36 = .ok (.if_icmp .ne 6, 3) := by decide +kernel
theorem dX6_afternoon_39 : decode cX6_afternoon 39 = .ok (.bipush (-3), 2) := by decide +kernel
theorem dX6_afternoon_41 : decode cX6_afternoon 41 = .ok (.ireturn, 1) := by decide +kernel
theorem dX6_afternoon_42 : decode cX6_afternoon 42 = .ok (.aload_n 0, 1) := by decide +kernel
theorem dX6_afternoon_43 : decode cX6_afternoon 43 = .ok (.getfield 48, 3) := by decide +kernel
theorem dX6_afternoon_46 : decode cX6_afternoon 46 = .ok (.aload_n 0, 1) := by decide +kernel
theorem dX6_afternoon_47 : decode cX6_afternoon 47 = .ok (.getfield 136, 3) := by decide +kernel
theorem dX6_afternoon_50 : decode cX6_afternoon 50 = .ok (.iload_n 1, 1) := by decide +kernel
theorem dX6_afternoon_51 : decode cX6_afternoon 51 = .ok (.iastore, 1) := by decide +kernel
theorem dX6_afternoon_52 : decode cX6_afternoon 52 = .ok (.aload_n 0, 1) := by decide +kernel
theorem dX6_afternoon_53 : decode cX6_afternoon 53 = .ok (.getfield 51, 3) := by decide +kernel
theorem dX6_afternoon_56 : decode cX6_afternoon 56 = .ok (.aload_n 0, 1) := by decide +kernel
theorem dX6_afternoon_57 : decode cX6_afternoon 57 = .ok (.getfield 136, 3) := by decide +kernel
theorem dX6_afternoon_60 : decode cX6_afternoon 60 = .ok (.iload_n 2, 1) := by decide +kernel
theorem dX6_afternoon_61 : decode cX6_afternoon 61 = .ok (.iastore, 1) := by decide +kernel
theorem dX6_afternoon_62 : decode cX6_afternoon 62 = .ok (.aload_n 0, 1) := by decide +kernel
theorem dX6_afternoon_63 : decode cX6_afternoon 63 = .ok (.getfield 54, 3) := by decide +kernel
theorem dX6_afternoon_66 : decode cX6_afternoon 66 = .ok (.aload_n 0, 1) := by decide +kernel
theorem dX6_afternoon_67 : decode cX6_afternoon 67 = .ok (.getfield 136, 3) := by decide +kernel
theorem dX6_afternoon_70 : decode cX6_afternoon 70 = .ok (.iload_n 3, 1) := by decide +kernel
theorem dX6_afternoon_71 : decode cX6_afternoon 71 = .ok (.iastore, 1) := by decide +kernel
theorem dX6_afternoon_72 : decode cX6_afternoon 72 = .ok (.aload_n 0, 1) := by decide +kernel
theorem dX6_afternoon_73 : decode cX6_afternoon 73 = .ok (.dup, 1) := by decide +kernel
theorem dX6_afternoon_74 : decode cX6_afternoon 74 = .ok (.getfield 136, 3) := by decide +kernel
theorem dX6_afternoon_77 : decode cX6_afternoon 77 = .ok (.iconst 1, 1) := by decide +kernel
theorem dX6_afternoon_78 : decode cX6_afternoon 78 = .ok (.iadd, 1) := by decide +kernel
theorem dX6_afternoon_79 : decode cX6_afternoon 79 = .ok (.putfield 136, 3) := by decide +kernel
theorem dX6_afternoon_82 : decode cX6_afternoon 82 = .ok (.aload_n 0, 1) := by decide +kernel
theorem dX6_afternoon_83 : decode cX6_afternoon 83 = .ok (.getfield 136, 3) := by decide +kernel
theorem dX6_afternoon_86 : decode cX6_afternoon 86 = .ok (.ireturn, 1) := by decide +kernel
theorem dX6_dares_0 : decode cX6_dares 0 = .ok (.aload_n 0, 1) := by decide +kernel
theorem dX6_dares_1 : decode cX6_dares 1 = .ok (.iload_n 1, 1) := by decide +kernel
theorem dX6_dares_2 : decode cX6_dares 2 = .ok (.invokevirtual 149, 3) := by decide +kernel
theorem dX6_dares_5 : decode cX6_dares 5 = .ok (.ifCond .eq 33, 3) := by decide +kernel
theorem dX6_dares_8 : decode cX6_dares 8 = .ok (.iload_n 2, 1) := by decide +kernel
theorem dX6_dares_9 : decode cX6_dares 9 = .ok (.iconst 0, 1) := by decide +kernel
theorem dX6_dares_10 : decode cX6_dares 10 = .ok (.bipush 9, 2) := by decide +kernel
theorem dX6_dares_12 : decode cX6_dares 12 = .ok (.invokestatic 82, 3) := by decide +kernel
theorem dX6_dares_15 : decode cX6_dares 15 = .ok (.ifCond .eq 23, 3) := by decide +kernel
theorem dX6_dares_18 : decode cX6_dares 18 = .ok (.iload_n 3, 1) := by decide +kernel
theorem dX6_dares_19 : decode cX6_dares 19 = .ok (.iconst 0, 1) := by decide +kernel
theorem dX6_dares_20 : decode cX6_dares 20 = .ok (.bipush 99, 2) := by decide +kernel
theorem dX6_dares_22 : decode cX6_dares 22 = .ok (.invokestatic 82, 3) := by decide +kernel
theorem dX6_dares_25 : decode cX6_dares 25 = .ok (.ifCond .eq 13, 3) := by decide +kernel
theorem dX6_dares_28 : decode cX6_dares 28 = .ok (.iload 4, 2) := by decide +kernel
theorem dX6_dares_30 : decode cX6_dares 30 = .ok (.iconst 0, 1) := by decide +kernel
theorem dX6_dares_31 : decode cX6_dares 31 = .ok (.iconst 1, 1) := by decide +kernel
theorem dX6_dares_32 : decode cX6_dares 32 = .ok (.invokestatic 82, 3) := by decide +kernel
theorem dX6_dares_35 : decode cX6_dares 35 = .ok (.ifCond .ne 5, 3) := by decide +kernel
theorem dX6_dares_38 : decode cX6_dares 38 = .ok (.iconst (-1), 1) := by decide +kernel
theorem dX6_dares_39 : decode cX6_dares 39 = .ok (.ireturn, 1) := by decide +kernel
theorem dX6_dares_40 : decode cX6_dares 40 = .ok (.iconst 0, 1) := by decide +kernel
theorem dX6_dares_41 : decode cX6_dares 41 = .ok (.istore 5, 2) := by decide +kernel
theorem dX6_dares_43 : decode cX6_dares 43 = .ok (.iconst 0, 1) := by decide +kernel
theorem dX6_dares_44 : decode cX6_dares 44 = .ok (.istore 6, 2) := by decide +kernel
theorem dX6_dares_46 : decode cX6_dares 46 = .ok (.iconst 0, 1) := by decide +kernel
theorem dX6_dares_47 : decode cX6_dares 47 = .ok (.istore 7, 2) := by decide +kernel
theorem dX6_dares_49 : decode cX6_dares 49 = .ok (.iload 7, 2) := by decide +kernel
theorem dX6_dares_51 : decode cX6_dares 51 = .ok (.aload_n 0, 1) := by decide +kernel
theorem dX6_dares_52 : decode cX6_dares 52 = .ok (.getfield 136, 3) := by decide +kernel
theorem dX6_dares_55 : decode cX6_dares 55 = .ok (.if_icmp .ge 79, 3) := by decide +kernel
theorem dX6_dares_58 : decode cX6_dares 58 = .ok (.aload_n 0, 1) := by decide +kernel
theorem dX6_dares_59 : decode cX6_dares 59 = .ok (.getfield 48, 3) := by decide +kernel
theorem dX6_dares_62 : decode cX6_dares 62 = .ok (.iload 7, 2) := by decide +kernel
theorem dX6_dares_64 : decode cX6_dares 64 = .ok (.iaload, 1) := by decide +kernel
theorem dX6_dares_65 : decode cX6_dares 65 = .ok (.iload_n 1, 1) := by decide +kernel
theorem dX6_dares_66 : decode cX6_dares 66 = .ok (.if_icmp .ne 18, 3) := by decide +kernel
theorem dX6_dares_69 : decode cX6_dares 69 = .ok (.aload_n 0, 1) := by decide +kernel
theorem dX6_dares_70 : decode cX6_dares 70 = .ok (.getfield 51, 3) := by decide +kernel
theorem dX6_dares_73 : decode cX6_dares 73 = .ok (.iload 7, 2) := by decide +kernel
theorem dX6_dares_75 : decode cX6_dares 75 = .ok (.iaload, 1) := by decide +kernel
theorem dX6_dares_76 : decode cX6_dares 76 = .ok (.iload_n 2, 1) := by decide +kernel
theorem dX6_dares_77 : decode cX6_dares 77 = .ok (.if_icmp .lt 7, 3) := by decide +kernel
theorem dX6_dares_80 : decode cX6_dares 80 = .ok (.iconst 1, 1) := by decide +kernel
theorem dX6_dares_81 : decode cX6_dares 81 = .ok (.goto 4, 3) := by decide +kernel
theorem dX6_dares_84 : decode cX6_dares 84 = .ok (.iconst 0, 1) := by decide +kernel
theorem dX6_dares_85 : decode cX6_dares 85 = .ok (.istore 8, 2) := by decide +kernel
theorem dX6_dares_87 : decode cX6_dares 87 = .ok (.iload 5, 2) := by decide +kernel
theorem dX6_dares_89 : decode cX6_dares 89 = .ok (.iload 8, 2) := by decide +kernel
theorem dX6_dares_91 : decode cX6_dares 91 = .ok (.ifCond .eq 7, 3) := by decide +kernel
theorem dX6_dares_94 : decode cX6_dares 94 = .ok (.iconst 1, 1) := by decide +kernel
theorem dX6_dares_95 : decode cX6_dares 95 = .ok (.goto 4, 3) := by decide +kernel
theorem dX6_dares_98 : decode cX6_dares 98 = .ok (.iconst 0, 1) := by decide +kernel
theorem dX6_dares_99 : decode cX6_dares 99 = .ok (.iadd, 1) := by decide +kernel
theorem dX6_dares_100 : decode cX6_dares 100 = .ok (.istore 5, 2) := by decide +kernel
theorem dX6_dares_102 : decode cX6_dares 102 = .ok (.iload 6, 2) := by decide +kernel
theorem dX6_dares_104 : decode cX6_dares 104 = .ok (.iload 8, 2) := by decide +kernel
theorem dX6_dares_106 : decode cX6_dares 106 = .ok (.ifCond .eq 18, 3) := by decide +kernel
theorem dX6_dares_109 : decode cX6_dares 109 = .ok (.aload_n 0, 1) := by decide +kernel
theorem dX6_dares_110 : decode cX6_dares 110 = .ok (.getfield 54, 3) := by decide +kernel
theorem dX6_dares_113 : decode cX6_dares 113 = .ok (.iload 7, 2) := by decide +kernel
theorem dX6_dares_115 : decode cX6_dares 115 = .ok (.iaload, 1) := by decide +kernel
theorem dX6_dares_116 : decode cX6_dares 116 = .ok (.iload_n 3, 1) := by decide +kernel
theorem dX6_dares_117 : decode cX6_dares 117 = .ok (.if_icmp .lt 7, 3) := by decide +kernel
theorem dX6_dares_120 : decode cX6_dares 120 = .ok (.iconst 1, 1) := by decide +kernel
theorem dX6_dares_121 : decode cX6_dares 121 = .ok (.goto 4, 3) := by decide +kernel
theorem dX6_dares_124 : decode cX6_dares 124 = .ok (.iconst 0, 1) := by decide +kernel
theorem dX6_dares_125 : decode cX6_dares 125 = .ok (.iadd, 1) := by decide +kernel
theorem dX6_dares_126 : decode cX6_dares 126 = .ok (.istore 6, 2) := by decide +kernel
theorem dX6_dares_128 : decode cX6_dares 128 = .ok (.iinc 7 1, 3) := by decide +kernel
theorem dX6_dares_131 : decode cX6_dares 131 = .ok (.goto (-82), 3) := by decide +kernel
theorem dX6_dares_134 : decode cX6_dares 134 = .ok (.iload 6, 2) := by decide +kernel
theorem dX6_dares_136 : decode cX6_dares 136 = .ok (.i2l, 1) := by decide +kernel
theorem dX6_dares_137 : decode cX6_dares 137 = .ok (.iload 5, 2) := by decide +kernel
theorem dX6_dares_139 : decode cX6_dares 139 = .ok (.i2l, 1) := by decide +kernel
theorem dX6_dares_140 : decode cX6_dares 140 = .ok (.iload 4, 2) := by decide +kernel
theorem dX6_dares_142 : decode cX6_dares 142 = .ok (.invokestatic 207, 3) := by decide +kernel
theorem dX6_dares_145 : decode cX6_dares 145 = .ok (.l2i, 1) := by decide +kernel
theorem dX6_dares_146 : decode cX6_dares 146 = .ok (.ireturn, 1) := by decide +kernel
theorem dX6_looked_0 : decode cX6_looked 0 = .ok (.aload_n 0, 1) := by decide +kernel
theorem dX6_looked_1 : decode cX6_looked 1 = .ok (.iload_n 1, 1) := by decide +kernel
theorem dX6_looked_2 : decode cX6_looked 2 = .ok (.invokevirtual 149, 3) := by decide +kernel
theorem dX6_looked_5 : decode cX6_looked 5 = .ok (.ifCond .ne 6, 3) := by decide +kernel
theorem dX6_looked_8 : decode cX6_looked 8 = .ok (.ldc 251, 2) := by decide +kernel
theorem dX6_looked_10 : decode cX6_looked 10 = .ok (.ireturn, 1) := by decide +kernel
theorem dX6_looked_11 : decode cX6_looked 11 = .ok (.iconst 0, 1) := by decide +kernel
theorem dX6_looked_12 : decode cX6_looked 12 = .ok (.istore_n 2, 1) := by decide +kernel
theorem dX6_looked_13 : decode cX6_looked 13 = .ok (.iconst 0, 1) := by decide +kernel
theorem dX6_looked_14 : decode cX6_looked 14 = .ok (.istore_n 3, 1) := by decide +kernel
theorem dX6_looked_15 : decode cX6_looked 15 = .ok (.iconst 0, 1) := by decide +kernel
theorem dX6_looked_16 : decode cX6_looked 16 = .ok (.istore 4, 2) := by decide +kernel
theorem dX6_looked_18 : decode cX6_looked 18 = .ok (.iconst 0, 1) := by decide +kernel
theorem dX6_looked_19 : decode cX6_looked 19 = .ok (.istore 5, 2) := by decide +kernel
theorem dX6_looked_21 : decode cX6_looked 21 = .ok (.iconst 0, 1) := by decide +kernel
theorem dX6_looked_22 : decode cX6_looked 22 = .ok (.istore 6, 2) := by decide +kernel
theorem dX6_looked_24 : decode cX6_looked 24 = .ok (.iload 6, 2) := by decide +kernel
theorem dX6_looked_26 : decode cX6_looked 26 = .ok (.aload_n 0, 1) := by decide +kernel
theorem dX6_looked_27 : decode cX6_looked 27 = .ok (.getfield 136, 3) := by decide +kernel
theorem dX6_looked_30 : decode cX6_looked 30 = .ok (.if_icmp .ge 135, 3) := by decide +kernel
theorem dX6_looked_33 : decode cX6_looked 33 = .ok (.aload_n 0, 1) := by decide +kernel
theorem dX6_looked_34 : decode cX6_looked 34 = .ok (.getfield 48, 3) := by decide +kernel
theorem dX6_looked_37 : decode cX6_looked 37 = .ok (.iload 6, 2) := by decide +kernel
theorem dX6_looked_39 : decode cX6_looked 39 = .ok (.iaload, 1) := by decide +kernel
theorem dX6_looked_40 : decode cX6_looked 40 = .ok (.iload_n 1, 1) := by decide +kernel
theorem dX6_looked_41 : decode cX6_looked 41 = .ok (.if_icmp .ne 7, 3) := by decide +kernel
theorem dX6_looked_44 : decode cX6_looked 44 = .ok (.iconst 1, 1) := by decide +kernel
theorem dX6_looked_45 : decode cX6_looked 45 = .ok (.goto 4, 3) := by decide +kernel
theorem dX6_looked_48 : decode cX6_looked 48 = .ok (.iconst 0, 1) := by decide +kernel
theorem dX6_looked_49 : decode cX6_looked 49 = .ok (.istore 7, 2) := by decide +kernel
theorem dX6_looked_51 : decode cX6_looked 51 = .ok (.iload_n 2, 1) := by decide +kernel
theorem dX6_looked_52 : decode cX6_looked 52 = .ok (.iload 7, 2) := by decide +kernel
theorem dX6_looked_54 : decode cX6_looked 54 = .ok (.ifCond .eq 17, 3) := by decide +kernel
theorem dX6_looked_57 : decode cX6_looked 57 = .ok (.aload_n 0, 1) := by decide +kernel
theorem dX6_looked_58 : decode cX6_looked 58 = .ok (.getfield 51, 3) := by decide +kernel
theorem dX6_looked_61 : decode cX6_looked 61 = .ok (.iload 6, 2) := by decide +kernel
theorem dX6_looked_63 : decode cX6_looked 63 = .ok (.iaload, 1) := by decide +kernel
theorem dX6_looked_64 : decode cX6_looked 64 = .ok (.ifCond .le 7, 3) := by decide +kernel
theorem dX6_looked_67 : decode cX6_looked 67 = .ok (.iconst 1, 1) := by decide +kernel
theorem dX6_looked_68 : decode cX6_looked 68 = .ok (.goto 4, 3) := by decide +kernel
theorem dX6_looked_71 : decode cX6_looked 71 = .ok (.iconst 0, 1) := by decide +kernel
theorem dX6_looked_72 : decode cX6_looked 72 = .ok (.iadd, 1) := by decide +kernel
theorem dX6_looked_73 : decode cX6_looked 73 = .ok (.istore_n 2, 1) := by decide +kernel
theorem dX6_looked_74 : decode cX6_looked 74 = .ok (.iload_n 3, 1) := by decide +kernel
theorem dX6_looked_75 : decode cX6_looked 75 = .ok (.iload 7, 2) := by decide +kernel
theorem dX6_looked_77 : decode cX6_looked 77 = .ok (.ifCond .eq 17, 3) := by decide +kernel
theorem dX6_looked_80 : decode cX6_looked 80 = .ok (.aload_n 0, 1) := by decide +kernel
theorem dX6_looked_81 : decode cX6_looked 81 = .ok (.getfield 51, 3) := by decide +kernel
theorem dX6_looked_84 : decode cX6_looked 84 = .ok (.iload 6, 2) := by decide +kernel
theorem dX6_looked_86 : decode cX6_looked 86 = .ok (.iaload, 1) := by decide +kernel
theorem dX6_looked_87 : decode cX6_looked 87 = .ok (.ifCond .ne 7, 3) := by decide +kernel
theorem dX6_looked_90 : decode cX6_looked 90 = .ok (.iconst 1, 1) := by decide +kernel
theorem dX6_looked_91 : decode cX6_looked 91 = .ok (.goto 4, 3) := by decide +kernel
theorem dX6_looked_94 : decode cX6_looked 94 = .ok (.iconst 0, 1) := by decide +kernel
theorem dX6_looked_95 : decode cX6_looked 95 = .ok (.iadd, 1) := by decide +kernel
theorem dX6_looked_96 : decode cX6_looked 96 = .ok (.istore_n 3, 1) := by decide +kernel
theorem dX6_looked_97 : decode cX6_looked 97 = .ok (.iload 4, 2) := by decide +kernel
theorem dX6_looked_99 : decode cX6_looked 99 = .ok (.iload 7, 2) := by decide +kernel
theorem dX6_looked_101 : decode cX6_looked 101 = .ok (.ifCond .eq 23, 3) := by decide +kernel
theorem dX6_looked_104 : decode cX6_looked 104 = .ok (.aload_n 0, 1) := by decide +kernel
theorem dX6_looked_105 : decode cX6_looked 105 = .ok (.getfield 51, 3) := by decide +kernel
theorem dX6_looked_108 : decode cX6_looked 108 = .ok (.iload 6, 2) := by decide +kernel
theorem dX6_looked_110 : decode cX6_looked 110 = .ok (.iaload, 1) := by decide +kernel
theorem dX6_looked_111 : decode cX6_looked 111 = .ok (.ifCond .le 13, 3) := by decide +kernel
theorem dX6_looked_114 : decode cX6_looked 114 = .ok (.aload_n 0, 1) := by decide +kernel
theorem dX6_looked_115 : decode cX6_looked 115 = .ok (.getfield 54, 3) := by decide +kernel
theorem dX6_looked_118 : decode cX6_looked 118 = .ok (.iload 6, 2) := by decide +kernel
theorem dX6_looked_120 : decode cX6_looked 120 = .ok (.iaload, 1) := by decide +kernel
theorem dX6_looked_121 : decode cX6_looked 121 = .ok (.goto 4, 3) := by decide +kernel
theorem dX6_looked_124 : decode cX6_looked 124 = .ok (.iconst 0, 1) := by decide +kernel
theorem dX6_looked_125 : decode cX6_looked 125 = .ok (.iadd, 1) := by decide +kernel
theorem dX6_looked_126 : decode cX6_looked 126 = .ok (.istore 4, 2) := by decide +kernel
theorem dX6_looked_128 : decode cX6_looked 128 = .ok (.iload 5, 2) := by decide +kernel
theorem dX6_looked_130 : decode cX6_looked 130 = .ok (.iload 7, 2) := by decide +kernel
theorem dX6_looked_132 : decode cX6_looked 132 = .ok (.ifCond .eq 23, 3) := by decide +kernel
theorem dX6_looked_135 : decode cX6_looked 135 = .ok (.aload_n 0, 1) := by decide +kernel
theorem dX6_looked_136 : decode cX6_looked 136 = .ok (.getfield 51, 3) := by decide +kernel
theorem dX6_looked_139 : decode cX6_looked 139 = .ok (.iload 6, 2) := by decide +kernel
theorem dX6_looked_141 : decode cX6_looked 141 = .ok (.iaload, 1) := by decide +kernel
theorem dX6_looked_142 : decode cX6_looked 142 = .ok (.ifCond .ne 13, 3) := by decide +kernel
theorem dX6_looked_145 : decode cX6_looked 145 = .ok (.aload_n 0, 1) := by decide +kernel
theorem dX6_looked_146 : decode cX6_looked 146 = .ok (.getfield 54, 3) := by decide +kernel
theorem dX6_looked_149 : decode cX6_looked 149 = .ok (.iload 6, 2) := by decide +kernel
theorem dX6_looked_151 : decode cX6_looked 151 = .ok (.iaload, 1) := by decide +kernel
theorem dX6_looked_152 : decode cX6_looked 152 = .ok (.goto 4, 3) := by decide +kernel
theorem dX6_looked_155 : decode cX6_looked 155 = .ok (.iconst 0, 1) := by decide +kernel
theorem dX6_looked_156 : decode cX6_looked 156 = .ok (.iadd, 1) := by decide +kernel
theorem dX6_looked_157 : decode cX6_looked 157 = .ok (.istore 5, 2) := by decide +kernel
theorem dX6_looked_159 : decode cX6_looked 159 = .ok (.iinc 6 1, 3) := by decide +kernel
theorem dX6_looked_162 : decode cX6_looked 162 = .ok (.goto (-138), 3) := by decide +kernel
theorem dX6_looked_165 : decode cX6_looked 165 = .ok (.iload_n 2, 1) := by decide +kernel
theorem dX6_looked_166 : decode cX6_looked 166 = .ok (.ifCond .eq 7, 3) := by decide +kernel
theorem dX6_looked_169 : decode cX6_looked 169 = .ok (.iload_n 3, 1) := by decide +kernel
theorem dX6_looked_170 : decode cX6_looked 170 = .ok (.ifCond .ne 8, 3) := by decide +kernel
theorem dX6_looked_173 : decode cX6_looked 173 = .ok (.ldc 251, 2) := by decide +kernel
theorem dX6_looked_175 : decode cX6_looked 175 = .ok (.goto 18, 3) := by decide +kernel
theorem dX6_looked_178 : decode cX6_looked 178 = .ok (.bipush 100, 2) := by decide +kernel
theorem dX6_looked_180 : decode cX6_looked 180 = .ok (.iload 4, 2) := by decide +kernel
theorem dX6_looked_182 : decode cX6_looked 182 = .ok (.imul, 1) := by decide +kernel
theorem dX6_looked_183 : decode cX6_looked 183 = .ok (.iload_n 2, 1) := by decide +kernel
theorem dX6_looked_184 : decode cX6_looked 184 = .ok (.idiv, 1) := by decide +kernel
theorem dX6_looked_185 : decode cX6_looked 185 = .ok (.bipush 100, 2) := by decide +kernel
theorem dX6_looked_187 : decode cX6_looked 187 = .ok (.iload 5, 2) := by decide +kernel
theorem dX6_looked_189 : decode cX6_looked 189 = .ok (.imul, 1) := by decide +kernel
theorem dX6_looked_190 : decode cX6_looked 190 = .ok (.iload_n 3, 1) := by decide +kernel
theorem dX6_looked_191 : decode cX6_looked 191 = .ok (.idiv, 1) := by decide +kernel
theorem dX6_looked_192 : decode cX6_looked 192 = .ok (.isub, 1) := by decide +kernel
theorem dX6_looked_193 : decode cX6_looked 193 = .ok (.ireturn, 1) := by decide +kernel
theorem dX6_begin_0 : decode cX6_begin 0 = .ok (.aload_n 0, 1) := by decide +kernel
theorem dX6_begin_1 : decode cX6_begin 1 = .ok (.getfield 57, 3) := by decide +kernel
theorem dX6_begin_4 : decode cX6_begin 4 = .ok (.iconst 0, 1) := by decide +kernel
theorem dX6_begin_5 : decode cX6_begin 5 = .ok (.iload_n 1, 1) := by decide +kernel
theorem dX6_begin_6 : decode cX6_begin 6 = .ok (.iastore, 1) := by decide +kernel
theorem dX6_begin_7 : decode cX6_begin 7 = .ok (.aload_n 0, 1) := by decide +kernel
theorem dX6_begin_8 : decode cX6_begin 8 = .ok (.getfield 60, 3) := by decide +kernel
theorem dX6_begin_11 : decode cX6_begin 11 = .ok (.iconst 0, 1) := by decide +kernel
theorem dX6_begin_12 : decode cX6_begin 12 = .ok (.bipush 12, 2) := by decide +kernel
theorem dX6_begin_14 : decode cX6_begin 14 = .ok (.iastore, 1) := by decide +kernel
theorem dX6_begin_15 : decode cX6_begin 15 = .ok (.aload_n 0, 1) := by decide +kernel
theorem dX6_begin_16 : decode cX6_begin 16 = .ok (.getfield 63, 3) := by decide +kernel
theorem dX6_begin_19 : decode cX6_begin 19 = .ok (.iconst 0, 1) := by decide +kernel
theorem dX6_begin_20 : decode cX6_begin 20 = .ok (.iconst 0, 1) := by decide +kernel
theorem dX6_begin_21 : decode cX6_begin 21 = .ok (.iastore, 1) := by decide +kernel
theorem dX6_begin_22 : decode cX6_begin 22 = .ok (.aload_n 0, 1) := by decide +kernel
theorem dX6_begin_23 : decode cX6_begin 23 = .ok (.getfield 66, 3) := by decide +kernel
theorem dX6_begin_26 : decode cX6_begin 26 = .ok (.iconst 0, 1) := by decide +kernel
theorem dX6_begin_27 : decode cX6_begin 27 = .ok (.iconst 0, 1) := by decide +kernel
theorem dX6_begin_28 : decode cX6_begin 28 = .ok (.iastore, 1) := by decide +kernel
theorem dX6_begin_29 : decode cX6_begin 29 = .ok (.aload_n 0, 1) := by decide +kernel
theorem dX6_begin_30 : decode cX6_begin 30 = .ok (.getfield 69, 3) := by decide +kernel
theorem dX6_begin_33 : decode cX6_begin 33 = .ok (.iconst 0, 1) := by decide +kernel
theorem dX6_begin_34 : decode cX6_begin 34 = .ok (.iconst 0, 1) := by decide +kernel
theorem dX6_begin_35 : decode cX6_begin 35 = .ok (.iastore, 1) := by decide +kernel
theorem dX6_begin_36 : decode cX6_begin 36 = .ok (.aload_n 0, 1) := by decide +kernel
theorem dX6_begin_37 : decode cX6_begin 37 = .ok (.getfield 72, 3) := by decide +kernel
theorem dX6_begin_40 : decode cX6_begin 40 = .ok (.iconst 0, 1) := by decide +kernel
theorem dX6_begin_41 : decode cX6_begin 41 = .ok (.iconst 0, 1) := by decide +kernel
theorem dX6_begin_42 : decode cX6_begin 42 = .ok (.iastore, 1) := by decide +kernel
theorem dX6_begin_43 : decode cX6_begin 43 = .ok (.return_, 1) := by decide +kernel
theorem dX6_goes_0 : decode cX6_goes 0 = .ok (.aload_n 0, 1) := by decide +kernel
theorem dX6_goes_1 : decode cX6_goes 1 = .ok (.iload_n 1, 1) := by decide +kernel
theorem dX6_goes_2 : decode cX6_goes 2 = .ok (.invokevirtual 149, 3) := by decide +kernel
theorem dX6_goes_5 : decode cX6_goes 5 = .ok (.ifCond .ne 5, 3) := by decide +kernel
theorem dX6_goes_8 : decode cX6_goes 8 = .ok (.iconst (-1), 1) := by decide +kernel
theorem dX6_goes_9 : decode cX6_goes 9 = .ok (.ireturn, 1) := by decide +kernel
theorem dX6_goes_10 : decode cX6_goes 10 = .ok (.aload_n 0, 1) := by decide +kernel
theorem dX6_goes_11 : decode cX6_goes 11 = .ok (.getfield 57, 3) := by decide +kernel
theorem dX6_goes_14 : decode cX6_goes 14 = .ok (.iconst 0, 1) := by decide +kernel
theorem dX6_goes_15 : decode cX6_goes 15 = .ok (.iaload, 1) := by decide +kernel
theorem dX6_goes_16 : decode cX6_goes 16 = .ok (.istore_n 2, 1) := by decide +kernel
theorem dX6_goes_17 : decode cX6_goes 17 = .ok (.aload_n 0, 1) := by decide +kernel
theorem dX6_goes_18 : decode cX6_goes 18 = .ok (.iload_n 1, 1) := by decide +kernel
theorem dX6_goes_19 : decode cX6_goes 19 = .ok (.invokevirtual 133, 3) := by decide +kernel
theorem dX6_goes_22 : decode cX6_goes 22 = .ok (.iload_n 2, 1) := by decide +kernel
theorem dX6_goes_23 : decode cX6_goes 23 = .ok (.ireturn, 1) := by decide +kernel
theorem dX6_placeNow_0 : decode cX6_placeNow 0 = .ok (.aload_n 0, 1) := by decide +kernel
theorem dX6_placeNow_1 : decode cX6_placeNow 1 = .ok (.getfield 60, 3) := by decide +kernel
theorem dX6_placeNow_4 : decode cX6_placeNow 4 = .ok (.iconst 0, 1) := by decide +kernel
theorem dX6_placeNow_5 : decode cX6_placeNow 5 = .ok (.iaload, 1) := by decide +kernel
theorem dX6_placeNow_6 : decode cX6_placeNow 6 = .ok (.bipush 12, 2) := by decide +kernel
theorem dX6_placeNow_8 : decode cX6_placeNow 8 = .ok (.if_icmp .ne 7, 3) := by decide +kernel
theorem dX6_placeNow_11 : decode cX6_placeNow 11 = .ok (.iconst (-1), 1) := by decide +kernel
theorem dX6_placeNow_12 : decode cX6_placeNow 12 = .ok (.goto 9, 3) := by decide +kernel
theorem dX6_placeNow_15 : decode cX6_placeNow 15 = .ok (.aload_n 0, 1) := by decide +kernel
theorem dX6_placeNow_16 : decode cX6_placeNow 16 = .ok (.getfield 60, 3) := by decide +kernel
theorem dX6_placeNow_19 : decode cX6_placeNow 19 = .ok (.iconst 0, 1) := by decide +kernel
theorem dX6_placeNow_20 : decode cX6_placeNow 20 = .ok (.iaload, 1) := by decide +kernel
theorem dX6_placeNow_21 : decode cX6_placeNow 21 = .ok (.ireturn, 1) := by decide +kernel
theorem dX6_climb_0 : decode cX6_climb 0 = .ok (.aload_n 0, 1) := by decide +kernel
theorem dX6_climb_1 : decode cX6_climb 1 = .ok (.iload_n 1, 1) := by decide +kernel
theorem dX6_climb_2 : decode cX6_climb 2 = .ok (.invokevirtual 176, 3) := by decide +kernel
theorem dX6_climb_5 : decode cX6_climb 5 = .ok (.ifCond .eq 12, 3) := by decide +kernel
theorem dX6_climb_8 : decode cX6_climb 8 = .ok (.aload_n 0, 1) := by decide +kernel
theorem dX6_climb_9 : decode cX6_climb 9 = .ok (.getfield 20, 3) := by decide +kernel
theorem dX6_climb_12 : decode cX6_climb 12 = .ok (.iconst 0, 1) := by decide +kernel
theorem dX6_climb_13 : decode cX6_climb 13 = .ok (.iaload, 1) := by decide +kernel
theorem dX6_climb_14 : decode cX6_climb 14 = .ok (.ifCond .ne 6, 3) := by decide +kernel
theorem dX6_climb_17 : decode cX6_climb 17 = .ok (.ldc 251, 2) := by decide +kernel
theorem dX6_climb_19 : decode cX6_climb 19 = .ok (.ireturn, 1) := by decide +kernel
theorem dX6_climb_20 : decode cX6_climb 20 = .ok (.iload_n 1, 1) := by decide +kernel
theorem dX6_climb_21 : decode cX6_climb 21 = .ok (.iconst (-1), 1) := by decide +kernel
theorem dX6_climb_22 : decode cX6_climb 22 = .ok (.if_icmp .ne 8, 3) := by decide +kernel
theorem dX6_climb_25 : decode cX6_climb 25 = .ok (.bipush 12, 2) := by decide +kernel
theorem dX6_climb_27 : decode cX6_climb 27 = .ok (.goto 4, 3) := by decide +kernel
theorem dX6_climb_30 : decode cX6_climb 30 = .ok (.iload_n 1, 1) := by decide +kernel
theorem dX6_climb_31 : decode cX6_climb 31 = .ok (.istore_n 2, 1) := by decide +kernel
theorem dX6_climb_32 : decode cX6_climb 32 = .ok (.aload_n 0, 1) := by decide +kernel
theorem dX6_climb_33 : decode cX6_climb 33 = .ok (.aload_n 0, 1) := by decide +kernel
theorem dX6_climb_34 : decode cX6_climb 34 = .ok (.getfield 57, 3) := by decide +kernel
theorem dX6_climb_37 : decode cX6_climb 37 = .ok (.iconst 0, 1) := by decide +kernel
theorem dX6_climb_38 : decode cX6_climb 38 = .ok (.iaload, 1) := by decide +kernel
theorem dX6_climb_39 : decode cX6_climb 39 = .ok (.invokevirtual 179, 3) := by decide +kernel
theorem dX6_climb_42 : decode cX6_climb 42 = .ok (.aload_n 0, 1) := by decide +kernel
theorem dX6_climb_43 : decode cX6_climb 43 = .ok (.aload_n 0, 1) := by decide +kernel
theorem dX6_climb_44 : decode cX6_climb 44 = .ok (.getfield 60, 3) := by decide +kernel
theorem dX6_climb_47 : decode cX6_climb 47 = .ok (.iconst 0, 1) := by decide +kernel
theorem dX6_climb_48 : decode cX6_climb 48 = .ok (.iaload, 1) := by decide +kernel
theorem dX6_climb_49 : decode cX6_climb 49 = .ok (.iload_n 2, 1) := by decide +kernel
theorem dX6_climb_50 : decode cX6_climb 50 = .ok (.invokevirtual 182, 3) := by decide +kernel
theorem dX6_climb_53 : decode cX6_climb 53 = .ok (.ifCond .ne 6, 3) := by decide +kernel
theorem dX6_climb_56 : decode cX6_climb 56 = .ok (.ldc 251, 2) := by decide +kernel
theorem dX6_climb_58 : decode cX6_climb 58 = .ok (.ireturn, 1) := by decide +kernel
theorem dX6_climb_59 : decode cX6_climb 59 = .ok (.iconst 1, 1) := by decide +kernel
theorem dX6_climb_60 : decode cX6_climb 60 = .ok (.istore_n 3, 1) := by decide +kernel
theorem dX6_climb_61 : decode cX6_climb 61 = .ok (.iload_n 2, 1) := by decide +kernel
theorem dX6_climb_62 : decode cX6_climb 62 = .ok (.bipush 12, 2) := by decide +kernel
theorem dX6_climb_64 : decode cX6_climb 64 = .ok (.if_icmp .eq 48, 3) := by decide +kernel
theorem dX6_climb_67 : decode cX6_climb 67 = .ok (.aload_n 0, 1) := by decide +kernel
theorem dX6_climb_68 : decode cX6_climb 68 = .ok (.getfield 75, 3) := by decide +kernel
theorem dX6_climb_71 : decode cX6_climb 71 = .ok (.iconst 0, 1) := by decide +kernel
theorem dX6_climb_72 : decode cX6_climb 72 = .ok (.aload_n 0, 1) := by decide +kernel
theorem dX6_climb_73 : decode cX6_climb 73 = .ok (.getfield 75, 3) := by decide +kernel
theorem dX6_climb_76 : decode cX6_climb 76 = .ok (.iconst 0, 1) := by decide +kernel
theorem dX6_climb_77 : decode cX6_climb 77 = .ok (.iaload, 1) := by decide +kernel
theorem dX6_climb_78 : decode cX6_climb 78 = .ok (.ldc 252, 2) := by decide +kernel
theorem dX6_climb_80 : decode cX6_climb 80 = .ok (.imul, 1) := by decide +kernel
theorem dX6_climb_81 : decode cX6_climb 81 = .ok (.sipush 12345, 3) := by decide +kernel
theorem dX6_climb_84 : decode cX6_climb 84 = .ok (.iadd, 1) := by decide +kernel
theorem dX6_climb_85 : decode cX6_climb 85 = .ok (.iastore, 1) := by decide +kernel
theorem dX6_climb_86 : decode cX6_climb 86 = .ok (.aload_n 0, 1) := by decide +kernel
theorem dX6_climb_87 : decode cX6_climb 87 = .ok (.getfield 75, 3) := by decide +kernel
theorem dX6_climb_90 : decode cX6_climb 90 = .ok (.iconst 0, 1) := by decide +kernel
theorem dX6_climb_91 : decode cX6_climb 91 = .ok (.iaload, 1) := by decide +kernel
theorem dX6_climb_92 : decode cX6_climb 92 = .ok (.bipush 16, 2) := by decide +kernel
theorem dX6_climb_94 : decode cX6_climb 94 = .ok (.iushr, 1) := by decide +kernel
theorem dX6_climb_95 : decode cX6_climb 95 = .ok (.bipush 10, 2) := by decide +kernel
theorem dX6_climb_97 : decode cX6_climb 97 = .ok (.irem, 1) := by decide +kernel
theorem dX6_climb_98 : decode cX6_climb 98 = .ok (.aload_n 0, 1) := by decide +kernel
theorem dX6_climb_99 : decode cX6_climb 99 = .ok (.iload_n 2, 1) := by decide +kernel
theorem dX6_climb_100 : decode cX6_climb 100 = .ok (.invokevirtual 186, 3) := by decide +kernel
theorem dX6_climb_103 : decode cX6_climb 103 = .ok (.if_icmp .ge 7, 3) := by decide +kernel
theorem dX6_climb_106 : decode cX6_climb 106 = .ok (.iconst 1, 1) := by decide +kernel
theorem dX6_climb_107 : decode cX6_climb 107 = .ok (.goto 4, 3) := by decide +kernel
theorem dX6_climb_110 : decode cX6_climb 110 = .ok (.iconst 0, 1) := by decide +kernel
theorem dX6_climb_111 : decode cX6_climb 111 = .ok (.istore_n 3, 1) := by decide +kernel
theorem dX6_climb_112 : decode cX6_climb 112 = .ok (.iload_n 3, 1) := by decide +kernel
theorem dX6_climb_113 : decode cX6_climb 113 = .ok (.ifCond .eq 57, 3) := by decide +kernel
theorem dX6_climb_116 : decode cX6_climb 116 = .ok (.aload_n 0, 1) := by decide +kernel
theorem dX6_climb_117 : decode cX6_climb 117 = .ok (.getfield 60, 3) := by decide +kernel
theorem dX6_climb_120 : decode cX6_climb 120 = .ok (.iconst 0, 1) := by decide +kernel
theorem dX6_climb_121 : decode cX6_climb 121 = .ok (.iload_n 2, 1) := by decide +kernel
theorem dX6_climb_122 : decode cX6_climb 122 = .ok (.iastore, 1) := by decide +kernel
theorem dX6_climb_123 : decode cX6_climb 123 = .ok (.aload_n 0, 1) := by decide +kernel
theorem dX6_climb_124 : decode cX6_climb 124 = .ok (.getfield 69, 3) := by decide +kernel
theorem dX6_climb_127 : decode cX6_climb 127 = .ok (.iconst 0, 1) := by decide +kernel
theorem dX6_climb_128 : decode cX6_climb 128 = .ok (.dup2, 1) := by decide +kernel
theorem dX6_climb_129 : decode cX6_climb 129 = .ok (.iaload, 1) := by decide +kernel
theorem dX6_climb_130 : decode cX6_climb 130 = .ok (.iconst 1, 1) := by decide +kernel
theorem dX6_climb_131 : decode cX6_climb 131 = .ok (.iadd, 1) := by decide +kernel
theorem dX6_climb_132 : decode cX6_climb 132 = .ok (.iastore, 1) := by decide +kernel
theorem dX6_climb_133 : decode cX6_climb 133 = .ok (.aload_n 0, 1) := by decide +kernel
theorem dX6_climb_134 : decode cX6_climb 134 = .ok (.getfield 66, 3) := by decide +kernel
theorem dX6_climb_137 : decode cX6_climb 137 = .ok (.iconst 0, 1) := by decide +kernel
theorem dX6_climb_138 : decode cX6_climb 138 = .ok (.aload_n 0, 1) := by decide +kernel
theorem dX6_climb_139 : decode cX6_climb 139 = .ok (.iload_n 2, 1) := by decide +kernel
theorem dX6_climb_140 : decode cX6_climb 140 = .ok (.invokevirtual 173, 3) := by decide +kernel
theorem dX6_climb_143 : decode cX6_climb 143 = .ok (.aload_n 0, 1) := by decide +kernel
theorem dX6_climb_144 : decode cX6_climb 144 = .ok (.getfield 66, 3) := by decide +kernel
theorem dX6_climb_147 : decode cX6_climb 147 = .ok (.iconst 0, 1) := by decide +kernel
theorem dX6_climb_148 : decode cX6_climb 148 = .ok (.iaload, 1) := by decide +kernel
theorem dX6_climb_149 : decode cX6_climb 149 = .ok (.if_icmp .le 11, 3) := by decide +kernel
theorem dX6_climb_152 : decode cX6_climb 152 = .ok (.aload_n 0, 1) := by decide +kernel
theorem dX6_climb_153 : decode cX6_climb 153 = .ok (.iload_n 2, 1) := by decide +kernel
theorem dX6_climb_154 : decode cX6_climb 154 = .ok (.invokevirtual 173, 3) := by decide +kernel
theorem dX6_climb_157 : decode cX6_climb 157 = .ok (.goto 9, 3) := by decide +kernel
theorem dX6_climb_160 : decode cX6_climb 160 = .ok (.aload_n 0, 1) := by decide +kernel
theorem dX6_climb_161 : decode cX6_climb 161 = .ok (.getfield 66, 3) := by decide +kernel
theorem dX6_climb_164 : decode cX6_climb 164 = .ok (.iconst 0, 1) := by decide +kernel
theorem dX6_climb_165 : decode cX6_climb 165 = .ok (.iaload, 1) := by decide +kernel
theorem dX6_climb_166 : decode cX6_climb 166 = .ok (.iastore, 1) := by decide +kernel
theorem dX6_climb_167 : decode cX6_climb 167 = .ok (.goto 55, 3) := by decide +kernel
theorem dX6_climb_170 : decode cX6_climb 170 = .ok (.aload_n 0, 1) := by decide +kernel
theorem dX6_climb_171 : decode cX6_climb 171 = .ok (.getfield 63, 3) := by decide +kernel
theorem dX6_climb_174 : decode cX6_climb 174 = .ok (.iconst 0, 1) := by decide +kernel
theorem dX6_climb_175 : decode cX6_climb 175 = .ok (.dup2, 1) := by decide +kernel
theorem dX6_climb_176 : decode cX6_climb 176 = .ok (.iaload, 1) := by decide +kernel
theorem dX6_climb_177 : decode cX6_climb 177 = .ok (.aload_n 0, 1) := by decide +kernel
theorem dX6_climb_178 : decode cX6_climb 178 = .ok (.getfield 60, 3) := by decide +kernel
theorem dX6_climb_181 : decode cX6_climb 181 = .ok (.iconst 0, 1) := by decide +kernel
theorem dX6_climb_182 : decode cX6_climb 182 = .ok (.iaload, 1) := by decide +kernel
theorem dX6_climb_183 : decode cX6_climb 183 = .ok (.bipush 12, 2) := by decide +kernel
theorem dX6_climb_185 : decode cX6_climb 185 = .ok (.if_icmp .ne 7, 3) := by decide +kernel
theorem dX6_climb_188 : decode cX6_climb 188 = .ok (.iconst 0, 1) := by decide +kernel
theorem dX6_climb_189 : decode cX6_climb 189 = .ok (.goto 13, 3) := by decide +kernel
theorem dX6_climb_192 : decode cX6_climb 192 = .ok (.aload_n 0, 1) := by decide +kernel
theorem dX6_climb_193 : decode cX6_climb 193 = .ok (.aload_n 0, 1) := by decide +kernel
theorem dX6_climb_194 : decode cX6_climb 194 = .ok (.getfield 60, 3) := by decide +kernel
theorem dX6_climb_197 : decode cX6_climb 197 = .ok (.iconst 0, 1) := by decide +kernel
theorem dX6_climb_198 : decode cX6_climb 198 = .ok (.iaload, 1) := by decide +kernel
theorem dX6_climb_199 : decode cX6_climb 199 = .ok (.invokevirtual 242, 3) := by decide +kernel
theorem dX6_climb_202 : decode cX6_climb 202 = .ok (.iadd, 1) := by decide +kernel
theorem dX6_climb_203 : decode cX6_climb 203 = .ok (.iastore, 1) := by decide +kernel
theorem dX6_climb_204 : decode cX6_climb 204 = .ok (.aload_n 0, 1) := by decide +kernel
theorem dX6_climb_205 : decode cX6_climb 205 = .ok (.getfield 60, 3) := by decide +kernel
theorem dX6_climb_208 : decode cX6_climb 208 = .ok (.iconst 0, 1) := by decide +kernel
theorem dX6_climb_209 : decode cX6_climb 209 = .ok (.bipush 12, 2) := by decide +kernel
theorem dX6_climb_211 : decode cX6_climb 211 = .ok (.iastore, 1) := by decide +kernel
theorem dX6_climb_212 : decode cX6_climb 212 = .ok (.aload_n 0, 1) := by decide +kernel
theorem dX6_climb_213 : decode cX6_climb 213 = .ok (.getfield 72, 3) := by decide +kernel
theorem dX6_climb_216 : decode cX6_climb 216 = .ok (.iconst 0, 1) := by decide +kernel
theorem dX6_climb_217 : decode cX6_climb 217 = .ok (.dup2, 1) := by decide +kernel
theorem dX6_climb_218 : decode cX6_climb 218 = .ok (.iaload, 1) := by decide +kernel
theorem dX6_climb_219 : decode cX6_climb 219 = .ok (.iconst 1, 1) := by decide +kernel
theorem dX6_climb_220 : decode cX6_climb 220 = .ok (.iadd, 1) := by decide +kernel
theorem dX6_climb_221 : decode cX6_climb 221 = .ok (.iastore, 1) := by decide +kernel
theorem dX6_climb_222 : decode cX6_climb 222 = .ok (.aload_n 0, 1) := by decide +kernel
theorem dX6_climb_223 : decode cX6_climb 223 = .ok (.invokevirtual 253, 3) := by decide +kernel
theorem dX6_climb_226 : decode cX6_climb 226 = .ok (.ireturn, 1) := by decide +kernel
theorem dX6_now_0 : decode cX6_now 0 = .ok (.iload_n 1, 1) := by decide +kernel
theorem dX6_now_1 : decode cX6_now 1 = .ok (.tableswitch 79 0 5 #[39, 46, 51, 58, 65, 72], 39) := by decide +kernel
theorem dX6_now_40 : decode cX6_now 40 = .ok (.aload_n 0, 1) := by decide +kernel
theorem dX6_now_41 : decode cX6_now 41 = .ok (.getfield 57, 3) := by decide +kernel
theorem dX6_now_44 : decode cX6_now 44 = .ok (.iconst 0, 1) := by decide +kernel
theorem dX6_now_45 : decode cX6_now 45 = .ok (.iaload, 1) := by decide +kernel
theorem dX6_now_46 : decode cX6_now 46 = .ok (.ireturn, 1) := by decide +kernel
theorem dX6_now_47 : decode cX6_now 47 = .ok (.aload_n 0, 1) := by decide +kernel
theorem dX6_now_48 : decode cX6_now 48 = .ok (.invokevirtual 253, 3) := by decide +kernel
theorem dX6_now_51 : decode cX6_now 51 = .ok (.ireturn, 1) := by decide +kernel
theorem dX6_now_52 : decode cX6_now 52 = .ok (.aload_n 0, 1) := by decide +kernel
theorem dX6_now_53 : decode cX6_now 53 = .ok (.getfield 63, 3) := by decide +kernel
theorem dX6_now_56 : decode cX6_now 56 = .ok (.iconst 0, 1) := by decide +kernel
theorem dX6_now_57 : decode cX6_now 57 = .ok (.iaload, 1) := by decide +kernel
theorem dX6_now_58 : decode cX6_now 58 = .ok (.ireturn, 1) := by decide +kernel
theorem dX6_now_59 : decode cX6_now 59 = .ok (.aload_n 0, 1) := by decide +kernel
theorem dX6_now_60 : decode cX6_now 60 = .ok (.getfield 66, 3) := by decide +kernel
theorem dX6_now_63 : decode cX6_now 63 = .ok (.iconst 0, 1) := by decide +kernel
theorem dX6_now_64 : decode cX6_now 64 = .ok (.iaload, 1) := by decide +kernel
theorem dX6_now_65 : decode cX6_now 65 = .ok (.ireturn, 1) := by decide +kernel
theorem dX6_now_66 : decode cX6_now 66 = .ok (.aload_n 0, 1) := by decide +kernel
theorem dX6_now_67 : decode cX6_now 67 = .ok (.getfield 69, 3) := by decide +kernel
theorem dX6_now_70 : decode cX6_now 70 = .ok (.iconst 0, 1) := by decide +kernel
theorem dX6_now_71 : decode cX6_now 71 = .ok (.iaload, 1) := by decide +kernel
theorem dX6_now_72 : decode cX6_now 72 = .ok (.ireturn, 1) := by decide +kernel
theorem dX6_now_73 : decode cX6_now 73 = .ok (.aload_n 0, 1) := by decide +kernel
theorem dX6_now_74 : decode cX6_now 74 = .ok (.getfield 72, 3) := by decide +kernel
theorem dX6_now_77 : decode cX6_now 77 = .ok (.iconst 0, 1) := by decide +kernel
theorem dX6_now_78 : decode cX6_now 78 = .ok (.iaload, 1) := by decide +kernel
theorem dX6_now_79 : decode cX6_now 79 = .ok (.ireturn, 1) := by decide +kernel
theorem dX6_now_80 : decode cX6_now 80 = .ok (.ldc 251, 2) := by decide +kernel
theorem dX6_now_82 : decode cX6_now 82 = .ok (.ireturn, 1) := by decide +kernel
theorem dX6_lot_0 : decode cX6_lot 0 = .ok (.aload_n 0, 1) := by decide +kernel
theorem dX6_lot_1 : decode cX6_lot 1 = .ok (.getfield 75, 3) := by decide +kernel
theorem dX6_lot_4 : decode cX6_lot 4 = .ok (.iconst 0, 1) := by decide +kernel
theorem dX6_lot_5 : decode cX6_lot 5 = .ok (.iaload, 1) := by decide +kernel
theorem dX6_lot_6 : decode cX6_lot 6 = .ok (.istore_n 2, 1) := by decide +kernel
theorem dX6_lot_7 : decode cX6_lot 7 = .ok (.aload_n 0, 1) := by decide +kernel
theorem dX6_lot_8 : decode cX6_lot 8 = .ok (.getfield 75, 3) := by decide +kernel
theorem dX6_lot_11 : decode cX6_lot 11 = .ok (.iconst 0, 1) := by decide +kernel
theorem dX6_lot_12 : decode cX6_lot 12 = .ok (.iload_n 1, 1) := by decide +kernel
theorem dX6_lot_13 : decode cX6_lot 13 = .ok (.iastore, 1) := by decide +kernel
theorem dX6_lot_14 : decode cX6_lot 14 = .ok (.iload_n 2, 1) := by decide +kernel
theorem dX6_lot_15 : decode cX6_lot 15 = .ok (.ireturn, 1) := by decide +kernel
theorem dX6_mark_0 : decode cX6_mark 0 = .ok (.iload_n 1, 1) := by decide +kernel
theorem dX6_mark_1 : decode cX6_mark 1 = .ok (.iconst 0, 1) := by decide +kernel
theorem dX6_mark_2 : decode cX6_mark 2 = .ok (.iconst 5, 1) := by decide +kernel
theorem dX6_mark_3 : decode cX6_mark 3 = .ok (.invokestatic 82, 3) := by decide +kernel
theorem dX6_mark_6 : decode cX6_mark 6 = .ok (.ifCond .eq 11, 3) := by decide +kernel
theorem dX6_mark_9 : decode cX6_mark 9 = .ok (.aload_n 0, 1) := by decide +kernel
theorem dX6_mark_10 : decode cX6_mark 10 = .ok (.iload_n 2, 1) := by decide +kernel
theorem dX6_mark_11 : decode cX6_mark 11 = .ok (.invokevirtual 139, 3) := by decide +kernel
theorem dX6_mark_14 : decode cX6_mark 14 = .ok (.ifCond .ne 6, 3) := by decide +kernel
theorem dX6_mark_17 : decode cX6_mark 17 = .ok (.ldc 251, 2) := by decide +kernel
theorem dX6_mark_19 : decode cX6_mark 19 = .ok (.ireturn, 1) := by decide +kernel
theorem dX6_mark_20 : decode cX6_mark 20 = .ok (.aload_n 0, 1) := by decide +kernel
theorem dX6_mark_21 : decode cX6_mark 21 = .ok (.iload_n 2, 1) := by decide +kernel
theorem dX6_mark_22 : decode cX6_mark 22 = .ok (.iconst 0, 1) := by decide +kernel
theorem dX6_mark_23 : decode cX6_mark 23 = .ok (.invokevirtual 146, 3) := by decide +kernel
theorem dX6_mark_26 : decode cX6_mark 26 = .ok (.istore_n 3, 1) := by decide +kernel
theorem dX6_mark_27 : decode cX6_mark 27 = .ok (.iload_n 3, 1) := by decide +kernel
theorem dX6_mark_28 : decode cX6_mark 28 = .ok (.bipush 10, 2) := by decide +kernel
theorem dX6_mark_30 : decode cX6_mark 30 = .ok (.aload_n 0, 1) := by decide +kernel
theorem dX6_mark_31 : decode cX6_mark 31 = .ok (.iload_n 2, 1) := by decide +kernel
theorem dX6_mark_32 : decode cX6_mark 32 = .ok (.iconst 3, 1) := by decide +kernel
theorem dX6_mark_33 : decode cX6_mark 33 = .ok (.invokevirtual 146, 3) := by decide +kernel
theorem dX6_mark_36 : decode cX6_mark 36 = .ok (.isub, 1) := by decide +kernel
theorem dX6_mark_37 : decode cX6_mark 37 = .ok (.isub, 1) := by decide +kernel
theorem dX6_mark_38 : decode cX6_mark 38 = .ok (.istore 4, 2) := by decide +kernel
theorem dX6_mark_40 : decode cX6_mark 40 = .ok (.iload_n 1, 1) := by decide +kernel
theorem dX6_mark_41 : decode cX6_mark 41 = .ok (.tableswitch 128 0 4 #[35, 47, 68, 83, 100], 35) := by decide +kernel
theorem dX6_mark_76 : decode cX6_mark 76 = .ok (.aload_n 0, 1) := by decide +kernel
theorem dX6_mark_77 : decode cX6_mark 77 = .ok (.dup, 1) := by decide +kernel
theorem dX6_mark_78 : decode cX6_mark 78 = .ok (.getfield 256, 3) := by decide +kernel
theorem dX6_mark_81 : decode cX6_mark 81 = .ok (.lconst 1, 1) := by decide +kernel
theorem dX6_mark_82 : decode cX6_mark 82 = .ok (.ladd, 1) := by decide +kernel
theorem dX6_mark_83 : decode cX6_mark 83 = .ok (.putfield 256, 3) := by decide +kernel
theorem dX6_mark_86 : decode cX6_mark 86 = .ok (.iload_n 3, 1) := by decide +kernel
theorem dX6_mark_87 : decode cX6_mark 87 = .ok (.ireturn, 1) := by decide +kernel
theorem dX6_mark_88 : decode cX6_mark 88 = .ok (.aload_n 0, 1) := by decide +kernel
theorem dX6_mark_89 : decode cX6_mark 89 = .ok (.dup, 1) := by decide +kernel
theorem dX6_mark_90 : decode cX6_mark 90 = .ok (.getfield 256, 3) := by decide +kernel
theorem dX6_mark_93 : decode cX6_mark 93 = .ok (.ldc2_w 260, 3) := by decide +kernel
theorem dX6_mark_96 : decode cX6_mark 96 = .ok (.ladd, 1) := by decide +kernel
theorem dX6_mark_97 : decode cX6_mark 97 = .ok (.putfield 256, 3) := by decide +kernel
theorem dX6_mark_100 : decode cX6_mark 100 = .ok (.iload_n 3, 1) := by decide +kernel
theorem dX6_mark_101 : decode cX6_mark 101 = .ok (.aload_n 0, 1) := by decide +kernel
theorem dX6_mark_102 : decode cX6_mark 102 = .ok (.iload_n 2, 1) := by decide +kernel
theorem dX6_mark_103 : decode cX6_mark 103 = .ok (.iconst 2, 1) := by decide +kernel
theorem dX6_mark_104 : decode cX6_mark 104 = .ok (.invokevirtual 146, 3) := by decide +kernel
theorem dX6_mark_107 : decode cX6_mark 107 = .ok (.iadd, 1) := by decide +kernel
theorem dX6_mark_108 : decode cX6_mark 108 = .ok (.ireturn, 1) := by decide +kernel
theorem dX6_mark_109 : decode cX6_mark 109 = .ok (.aload_n 0, 1) := by decide +kernel
theorem dX6_mark_110 : decode cX6_mark 110 = .ok (.dup, 1) := by decide +kernel
theorem dX6_mark_111 : decode cX6_mark 111 = .ok (.getfield 256, 3) := by decide +kernel
theorem dX6_mark_114 : decode cX6_mark 114 = .ok (.ldc2_w 262, 3) := by decide +kernel
theorem dX6_mark_117 : decode cX6_mark 117 = .ok (.ladd, 1) := by decide +kernel
theorem dX6_mark_118 : decode cX6_mark 118 = .ok (.putfield 256, 3) := by decide +kernel
theorem dX6_mark_121 : decode cX6_mark 121 = .ok (.iload 4, 2) := by decide +kernel
theorem dX6_mark_123 : decode cX6_mark 123 = .ok (.ireturn, 1) := by decide +kernel
theorem dX6_mark_124 : decode cX6_mark 124 = .ok (.aload_n 0, 1) := by decide +kernel
theorem dX6_mark_125 : decode cX6_mark 125 = .ok (.dup, 1) := by decide +kernel
theorem dX6_mark_126 : decode cX6_mark 126 = .ok (.getfield 256, 3) := by decide +kernel
theorem dX6_mark_129 : decode cX6_mark 129 = .ok (.ldc2_w 264, 3) := by decide +kernel
theorem dX6_mark_132 : decode cX6_mark 132 = .ok (.ladd, 1) := by decide +kernel
theorem dX6_mark_133 : decode cX6_mark 133 = .ok (.putfield 256, 3) := by decide +kernel
theorem dX6_mark_136 : decode cX6_mark 136 = .ok (.iconst 2, 1) := by decide +kernel
theorem dX6_mark_137 : decode cX6_mark 137 = .ok (.iload 4, 2) := by decide +kernel
theorem dX6_mark_139 : decode cX6_mark 139 = .ok (.imul, 1) := by decide +kernel
theorem dX6_mark_140 : decode cX6_mark 140 = .ok (.ireturn, 1) := by decide +kernel
theorem dX6_mark_141 : decode cX6_mark 141 = .ok (.aload_n 0, 1) := by decide +kernel
theorem dX6_mark_142 : decode cX6_mark 142 = .ok (.dup, 1) := by decide +kernel
theorem dX6_mark_143 : decode cX6_mark 143 = .ok (.getfield 256, 3) := by decide +kernel
theorem dX6_mark_146 : decode cX6_mark 146 = .ok (.ldc2_w 266, 3) := by decide +kernel
theorem dX6_mark_149 : decode cX6_mark 149 = .ok (.ladd, 1) := by decide +kernel
theorem dX6_mark_150 : decode cX6_mark 150 = .ok (.putfield 256, 3) := by decide +kernel
theorem dX6_mark_153 : decode cX6_mark 153 = .ok (.iload_n 3, 1) := by decide +kernel
theorem dX6_mark_154 : decode cX6_mark 154 = .ok (.aload_n 0, 1) := by decide +kernel
theorem dX6_mark_155 : decode cX6_mark 155 = .ok (.iload_n 2, 1) := by decide +kernel
theorem dX6_mark_156 : decode cX6_mark 156 = .ok (.iconst 2, 1) := by decide +kernel
theorem dX6_mark_157 : decode cX6_mark 157 = .ok (.invokevirtual 146, 3) := by decide +kernel
theorem dX6_mark_160 : decode cX6_mark 160 = .ok (.iadd, 1) := by decide +kernel
theorem dX6_mark_161 : decode cX6_mark 161 = .ok (.aload_n 0, 1) := by decide +kernel
theorem dX6_mark_162 : decode cX6_mark 162 = .ok (.iload_n 2, 1) := by decide +kernel
theorem dX6_mark_163 : decode cX6_mark 163 = .ok (.iconst 1, 1) := by decide +kernel
theorem dX6_mark_164 : decode cX6_mark 164 = .ok (.invokevirtual 146, 3) := by decide +kernel
theorem dX6_mark_167 : decode cX6_mark 167 = .ok (.isub, 1) := by decide +kernel
theorem dX6_mark_168 : decode cX6_mark 168 = .ok (.ireturn, 1) := by decide +kernel
theorem dX6_mark_169 : decode cX6_mark 169 = .ok (.aload_n 0, 1) := by decide +kernel
theorem dX6_mark_170 : decode cX6_mark 170 = .ok (.dup, 1) := by decide +kernel
theorem dX6_mark_171 : decode cX6_mark 171 = .ok (.getfield 256, 3) := by decide +kernel
theorem dX6_mark_174 : decode cX6_mark 174 = .ok (.ldc2_w 268, 3) := by decide +kernel
theorem dX6_mark_177 : decode cX6_mark 177 = .ok (.ladd, 1) := by decide +kernel
theorem dX6_mark_178 : decode cX6_mark 178 = .ok (.putfield 256, 3) := by decide +kernel
theorem dX6_mark_181 : decode cX6_mark 181 = .ok (.iload_n 3, 1) := by decide +kernel
theorem dX6_mark_182 : decode cX6_mark 182 = .ok (.iconst 5, 1) := by decide +kernel
theorem dX6_mark_183 : decode cX6_mark 183 = .ok (.aload_n 0, 1) := by decide +kernel
theorem dX6_mark_184 : decode cX6_mark 184 = .ok (.iload_n 2, 1) := by decide +kernel
theorem dX6_mark_185 : decode cX6_mark 185 = .ok (.iconst 4, 1) := by decide +kernel
theorem dX6_mark_186 : decode cX6_mark 186 = .ok (.invokevirtual 146, 3) := by decide +kernel
theorem dX6_mark_189 : decode cX6_mark 189 = .ok (.imul, 1) := by decide +kernel
theorem dX6_mark_190 : decode cX6_mark 190 = .ok (.iadd, 1) := by decide +kernel
theorem dX6_mark_191 : decode cX6_mark 191 = .ok (.ireturn, 1) := by decide +kernel
theorem dX6_copy_0 : decode cX6_copy 0 = .ok (.aload_n 0, 1) := by decide +kernel
theorem dX6_copy_1 : decode cX6_copy 1 = .ok (.getfield 57, 3) := by decide +kernel
theorem dX6_copy_4 : decode cX6_copy 4 = .ok (.iload_n 2, 1) := by decide +kernel
theorem dX6_copy_5 : decode cX6_copy 5 = .ok (.aload_n 0, 1) := by decide +kernel
theorem dX6_copy_6 : decode cX6_copy 6 = .ok (.getfield 57, 3) := by decide +kernel
theorem dX6_copy_9 : decode cX6_copy 9 = .ok (.iload_n 1, 1) := by decide +kernel
theorem dX6_copy_10 : decode cX6_copy 10 = .ok (.iaload, 1) := by decide +kernel
theorem dX6_copy_11 : decode cX6_copy 11 = .ok (.iastore, 1) := by decide +kernel
theorem dX6_copy_12 : decode cX6_copy 12 = .ok (.aload_n 0, 1) := by decide +kernel
theorem dX6_copy_13 : decode cX6_copy 13 = .ok (.getfield 60, 3) := by decide +kernel
theorem dX6_copy_16 : decode cX6_copy 16 = .ok (.iload_n 2, 1) := by decide +kernel
theorem dX6_copy_17 : decode cX6_copy 17 = .ok (.aload_n 0, 1) := by decide +kernel
theorem dX6_copy_18 : decode cX6_copy 18 = .ok (.getfield 60, 3) := by decide +kernel
theorem dX6_copy_21 : decode cX6_copy 21 = .ok (.iload_n 1, 1) := by decide +kernel
theorem dX6_copy_22 : decode cX6_copy 22 = .ok (.iaload, 1) := by decide +kernel
theorem dX6_copy_23 : decode cX6_copy 23 = .ok (.iastore, 1) := by decide +kernel
theorem dX6_copy_24 : decode cX6_copy 24 = .ok (.aload_n 0, 1) := by decide +kernel
theorem dX6_copy_25 : decode cX6_copy 25 = .ok (.getfield 63, 3) := by decide +kernel
theorem dX6_copy_28 : decode cX6_copy 28 = .ok (.iload_n 2, 1) := by decide +kernel
theorem dX6_copy_29 : decode cX6_copy 29 = .ok (.aload_n 0, 1) := by decide +kernel
theorem dX6_copy_30 : decode cX6_copy 30 = .ok (.getfield 63, 3) := by decide +kernel
theorem dX6_copy_33 : decode cX6_copy 33 = .ok (.iload_n 1, 1) := by decide +kernel
theorem dX6_copy_34 : decode cX6_copy 34 = .ok (.iaload, 1) := by decide +kernel
theorem dX6_copy_35 : decode cX6_copy 35 = .ok (.iastore, 1) := by decide +kernel
theorem dX6_copy_36 : decode cX6_copy 36 = .ok (.aload_n 0, 1) := by decide +kernel
theorem dX6_copy_37 : decode cX6_copy 37 = .ok (.getfield 66, 3) := by decide +kernel
theorem dX6_copy_40 : decode cX6_copy 40 = .ok (.iload_n 2, 1) := by decide +kernel
theorem dX6_copy_41 : decode cX6_copy 41 = .ok (.aload_n 0, 1) := by decide +kernel
theorem dX6_copy_42 : decode cX6_copy 42 = .ok (.getfield 66, 3) := by decide +kernel
theorem dX6_copy_45 : decode cX6_copy 45 = .ok (.iload_n 1, 1) := by decide +kernel
theorem dX6_copy_46 : decode cX6_copy 46 = .ok (.iaload, 1) := by decide +kernel
theorem dX6_copy_47 : decode cX6_copy 47 = .ok (.iastore, 1) := by decide +kernel
theorem dX6_copy_48 : decode cX6_copy 48 = .ok (.aload_n 0, 1) := by decide +kernel
theorem dX6_copy_49 : decode cX6_copy 49 = .ok (.getfield 69, 3) := by decide +kernel
theorem dX6_copy_52 : decode cX6_copy 52 = .ok (.iload_n 2, 1) := by decide +kernel
theorem dX6_copy_53 : decode cX6_copy 53 = .ok (.aload_n 0, 1) := by decide +kernel
theorem dX6_copy_54 : decode cX6_copy 54 = .ok (.getfield 69, 3) := by decide +kernel
theorem dX6_copy_57 : decode cX6_copy 57 = .ok (.iload_n 1, 1) := by decide +kernel
theorem dX6_copy_58 : decode cX6_copy 58 = .ok (.iaload, 1) := by decide +kernel
theorem dX6_copy_59 : decode cX6_copy 59 = .ok (.iastore, 1) := by decide +kernel
theorem dX6_copy_60 : decode cX6_copy 60 = .ok (.aload_n 0, 1) := by decide +kernel
theorem dX6_copy_61 : decode cX6_copy 61 = .ok (.getfield 72, 3) := by decide +kernel
theorem dX6_copy_64 : decode cX6_copy 64 = .ok (.iload_n 2, 1) := by decide +kernel
theorem dX6_copy_65 : decode cX6_copy 65 = .ok (.aload_n 0, 1) := by decide +kernel
theorem dX6_copy_66 : decode cX6_copy 66 = .ok (.getfield 72, 3) := by decide +kernel
theorem dX6_copy_69 : decode cX6_copy 69 = .ok (.iload_n 1, 1) := by decide +kernel
theorem dX6_copy_70 : decode cX6_copy 70 = .ok (.iaload, 1) := by decide +kernel
theorem dX6_copy_71 : decode cX6_copy 71 = .ok (.iastore, 1) := by decide +kernel
theorem dX6_copy_72 : decode cX6_copy 72 = .ok (.aload_n 0, 1) := by decide +kernel
theorem dX6_copy_73 : decode cX6_copy 73 = .ok (.getfield 75, 3) := by decide +kernel
theorem dX6_copy_76 : decode cX6_copy 76 = .ok (.iload_n 2, 1) := by decide +kernel
theorem dX6_copy_77 : decode cX6_copy 77 = .ok (.aload_n 0, 1) := by decide +kernel
theorem dX6_copy_78 : decode cX6_copy 78 = .ok (.getfield 75, 3) := by decide +kernel
theorem dX6_copy_81 : decode cX6_copy 81 = .ok (.iload_n 1, 1) := by decide +kernel
theorem dX6_copy_82 : decode cX6_copy 82 = .ok (.iaload, 1) := by decide +kernel
theorem dX6_copy_83 : decode cX6_copy 83 = .ok (.iastore, 1) := by decide +kernel
theorem dX6_copy_84 : decode cX6_copy 84 = .ok (.aload_n 0, 1) := by decide +kernel
theorem dX6_copy_85 : decode cX6_copy 85 = .ok (.getfield 29, 3) := by decide +kernel
theorem dX6_copy_88 : decode cX6_copy 88 = .ok (.iload_n 2, 1) := by decide +kernel
theorem dX6_copy_89 : decode cX6_copy 89 = .ok (.aload_n 0, 1) := by decide +kernel
theorem dX6_copy_90 : decode cX6_copy 90 = .ok (.getfield 29, 3) := by decide +kernel
theorem dX6_copy_93 : decode cX6_copy 93 = .ok (.iload_n 1, 1) := by decide +kernel
theorem dX6_copy_94 : decode cX6_copy 94 = .ok (.iaload, 1) := by decide +kernel
theorem dX6_copy_95 : decode cX6_copy 95 = .ok (.iastore, 1) := by decide +kernel
theorem dX6_copy_96 : decode cX6_copy 96 = .ok (.return_, 1) := by decide +kernel
theorem dX6_keep_0 : decode cX6_keep 0 = .ok (.iload_n 1, 1) := by decide +kernel
theorem dX6_keep_1 : decode cX6_keep 1 = .ok (.iconst 0, 1) := by decide +kernel
theorem dX6_keep_2 : decode cX6_keep 2 = .ok (.iconst 1, 1) := by decide +kernel
theorem dX6_keep_3 : decode cX6_keep 3 = .ok (.invokestatic 82, 3) := by decide +kernel
theorem dX6_keep_6 : decode cX6_keep 6 = .ok (.ifCond .ne 5, 3) := by decide +kernel
theorem dX6_keep_9 : decode cX6_keep 9 = .ok (.iconst (-1), 1) := by decide +kernel
theorem dX6_keep_10 : decode cX6_keep 10 = .ok (.ireturn, 1) := by decide +kernel
theorem dX6_keep_11 : decode cX6_keep 11 = .ok (.aload_n 0, 1) := by decide +kernel
theorem dX6_keep_12 : decode cX6_keep 12 = .ok (.iconst 0, 1) := by decide +kernel
theorem dX6_keep_13 : decode cX6_keep 13 = .ok (.iconst 1, 1) := by decide +kernel
theorem dX6_keep_14 : decode cX6_keep 14 = .ok (.iload_n 1, 1) := by decide +kernel
theorem dX6_keep_15 : decode cX6_keep 15 = .ok (.iadd, 1) := by decide +kernel
theorem dX6_keep_16 : decode cX6_keep 16 = .ok (.invokevirtual 270, 3) := by decide +kernel
theorem dX6_keep_19 : decode cX6_keep 19 = .ok (.aload_n 0, 1) := by decide +kernel
theorem dX6_keep_20 : decode cX6_keep 20 = .ok (.getfield 78, 3) := by decide +kernel
theorem dX6_keep_23 : decode cX6_keep 23 = .ok (.iload_n 1, 1) := by decide +kernel
theorem dX6_keep_24 : decode cX6_keep 24 = .ok (.iconst 1, 1) := by decide +kernel
theorem dX6_keep_25 : decode cX6_keep 25 = .ok (.bastore, 1) := by decide +kernel
theorem dX6_keep_26 : decode cX6_keep 26 = .ok (.aload_n 0, 1) := by decide +kernel
theorem dX6_keep_27 : decode cX6_keep 27 = .ok (.getfield 63, 3) := by decide +kernel
theorem dX6_keep_30 : decode cX6_keep 30 = .ok (.iconst 0, 1) := by decide +kernel
theorem dX6_keep_31 : decode cX6_keep 31 = .ok (.iaload, 1) := by decide +kernel
theorem dX6_keep_32 : decode cX6_keep 32 = .ok (.ireturn, 1) := by decide +kernel
theorem dX6_back_0 : decode cX6_back 0 = .ok (.iload_n 1, 1) := by decide +kernel
theorem dX6_back_1 : decode cX6_back 1 = .ok (.iconst 0, 1) := by decide +kernel
theorem dX6_back_2 : decode cX6_back 2 = .ok (.iconst 1, 1) := by decide +kernel
theorem dX6_back_3 : decode cX6_back 3 = .ok (.invokestatic 82, 3) := by decide +kernel
theorem dX6_back_6 : decode cX6_back 6 = .ok (.ifCond .ne 5, 3) := by decide +kernel
theorem dX6_back_9 : decode cX6_back 9 = .ok (.iconst (-1), 1) := by decide +kernel
theorem dX6_back_10 : decode cX6_back 10 = .ok (.ireturn, 1) := by decide +kernel
theorem dX6_back_11 : decode cX6_back 11 = .ok (.aload_n 0, 1) := by decide +kernel
theorem dX6_back_12 : decode cX6_back 12 = .ok (.getfield 78, 3) := by decide +kernel
theorem dX6_back_15 : decode cX6_back 15 = .ok (.iload_n 1, 1) := by decide +kernel
theorem dX6_back_16 : decode cX6_back 16 = .ok (.baload, 1) := by decide +kernel
theorem dX6_back_17 : decode cX6_back 17 = .ok (.ifCond .ne 6, 3) := by decide +kernel
theorem dX6_back_20 : decode cX6_back 20 = .ok (.bipush (-2), 2) := by decide +kernel
theorem dX6_back_22 : decode cX6_back 22 = .ok (.ireturn, 1) := by decide +kernel
theorem dX6_back_23 : decode cX6_back 23 = .ok (.aload_n 0, 1) := by decide +kernel
theorem dX6_back_24 : decode cX6_back 24 = .ok (.iconst 1, 1) := by decide +kernel
theorem dX6_back_25 : decode cX6_back 25 = .ok (.iload_n 1, 1) := by decide +kernel
theorem dX6_back_26 : decode cX6_back 26 = .ok (.iadd, 1) := by decide +kernel
theorem dX6_back_27 : decode cX6_back 27 = .ok (.iconst 0, 1) := by decide +kernel
theorem dX6_back_28 : decode cX6_back 28 = .ok (.invokevirtual 270, 3) := by decide +kernel
theorem dX6_back_31 : decode cX6_back 31 = .ok (.aload_n 0, 1) := by decide +kernel
theorem dX6_back_32 : decode cX6_back 32 = .ok (.getfield 63, 3) := by decide +kernel
theorem dX6_back_35 : decode cX6_back 35 = .ok (.iconst 0, 1) := by decide +kernel
theorem dX6_back_36 : decode cX6_back 36 = .ok (.iaload, 1) := by decide +kernel
theorem dX6_back_37 : decode cX6_back 37 = .ok (.ireturn, 1) := by decide +kernel
theorem dX6_count_0 : decode cX6_count 0 = .ok (.iload_n 1, 1) := by decide +kernel
theorem dX6_count_1 : decode cX6_count 1 = .ok (.tableswitch 69 0 4 #[35, 42, 49, 54, 64], 35) := by decide +kernel
theorem dX6_count_36 : decode cX6_count 36 = .ok (.aload_n 0, 1) := by decide +kernel
theorem dX6_count_37 : decode cX6_count 37 = .ok (.getfield 13, 3) := by decide +kernel
theorem dX6_count_40 : decode cX6_count 40 = .ok (.iconst 0, 1) := by decide +kernel
theorem dX6_count_41 : decode cX6_count 41 = .ok (.iaload, 1) := by decide +kernel
theorem dX6_count_42 : decode cX6_count 42 = .ok (.ireturn, 1) := by decide +kernel
theorem dX6_count_43 : decode cX6_count 43 = .ok (.aload_n 0, 1) := by decide +kernel
theorem dX6_count_44 : decode cX6_count 44 = .ok (.getfield 20, 3) := by decide +kernel
theorem dX6_count_47 : decode cX6_count 47 = .ok (.iconst 0, 1) := by decide +kernel
theorem dX6_count_48 : decode cX6_count 48 = .ok (.iaload, 1) := by decide +kernel
theorem dX6_count_49 : decode cX6_count 49 = .ok (.ireturn, 1) := by decide +kernel
theorem dX6_count_50 : decode cX6_count 50 = .ok (.aload_n 0, 1) := by decide +kernel
theorem dX6_count_51 : decode cX6_count 51 = .ok (.getfield 136, 3) := by decide +kernel
theorem dX6_count_54 : decode cX6_count 54 = .ok (.ireturn, 1) := by decide +kernel
theorem dX6_count_55 : decode cX6_count 55 = .ok (.aload_n 0, 1) := by decide +kernel
theorem dX6_count_56 : decode cX6_count 56 = .ok (.getfield 29, 3) := by decide +kernel
theorem dX6_count_59 : decode cX6_count 59 = .ok (.iconst 0, 1) := by decide +kernel
theorem dX6_count_60 : decode cX6_count 60 = .ok (.iaload, 1) := by decide +kernel
theorem dX6_count_61 : decode cX6_count 61 = .ok (.invokestatic 245, 3) := by decide +kernel
theorem dX6_count_64 : decode cX6_count 64 = .ok (.ireturn, 1) := by decide +kernel
theorem dX6_count_65 : decode cX6_count 65 = .ok (.aload_n 0, 1) := by decide +kernel
theorem dX6_count_66 : decode cX6_count 66 = .ok (.getfield 86, 3) := by decide +kernel
theorem dX6_count_69 : decode cX6_count 69 = .ok (.ireturn, 1) := by decide +kernel
theorem dX6_count_70 : decode cX6_count 70 = .ok (.iconst (-1), 1) := by decide +kernel
theorem dX6_count_71 : decode cX6_count 71 = .ok (.ireturn, 1) := by decide +kernel
theorem dX6_trace_0 : decode cX6_trace 0 = .ok (.aload_n 0, 1) := by decide +kernel
theorem dX6_trace_1 : decode cX6_trace 1 = .ok (.getfield 256, 3) := by decide +kernel
theorem dX6_trace_4 : decode cX6_trace 4 = .ok (.lreturn, 1) := by decide +kernel
