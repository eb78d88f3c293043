theorem dX0_init_0 : decode cX0_init 0 = .ok (.aload_n 0, 1) := by decide +kernel
theorem dX0_init_1 : decode cX0_init 1 = .ok (.invokespecial 3, 3) := by decide +kernel
theorem dX0_init_4 : decode cX0_init 4 = .ok (.aload_n 0, 1) := by decide +kernel
theorem dX0_init_5 : decode cX0_init 5 = .ok (.iconst 0, 1) := by decide +kernel
theorem dX0_init_6 : decode cX0_init 6 = .ok (.putfield 9, 3) := by decide +kernel
theorem dX0_init_9 : decode cX0_init 9 = .ok (.aload_n 0, 1) := by decide +kernel
theorem dX0_init_10 : decode cX0_init 10 = .ok (.bipush 40, 2) := by decide +kernel
theorem dX0_init_12 : decode cX0_init 12 = .ok (.newarray .int, 2) := by decide +kernel
theorem dX0_init_14 : decode cX0_init 14 = .ok (.putfield 15, 3) := by decide +kernel
theorem dX0_init_17 : decode cX0_init 17 = .ok (.aload_n 0, 1) := by decide +kernel
theorem dX0_init_18 : decode cX0_init 18 = .ok (.bipush 40, 2) := by decide +kernel
theorem dX0_init_20 : decode cX0_init 20 = .ok (.newarray .int, 2) := by decide +kernel
theorem dX0_init_22 : decode cX0_init 22 = .ok (.putfield 19, 3) := by decide +kernel
theorem dX0_init_25 : decode cX0_init 25 = .ok (.aload_n 0, 1) := by decide +kernel
theorem dX0_init_26 : decode cX0_init 26 = .ok (.bipush 40, 2) := by decide +kernel
theorem dX0_init_28 : decode cX0_init 28 = .ok (.newarray .int, 2) := by decide +kernel
theorem dX0_init_30 : decode cX0_init 30 = .ok (.putfield 22, 3) := by decide +kernel
theorem dX0_init_33 : decode cX0_init 33 = .ok (.return_, 1) := by decide +kernel
theorem dX0_write_0 : decode cX0_write 0 = .ok (.aload_n 0, 1) := by decide +kernel
theorem dX0_write_1 : decode cX0_write 1 = .ok (.getfield 9, 3) := by decide +kernel
theorem dX0_write_4 : decode cX0_write 4 = .ok (.ifCond .lt 12, 3) := by decide +kernel
theorem dX0_write_7 : decode cX0_write 7 = .ok (.aload_n 0, 1) := by decide +kernel
theorem dX0_write_8 : decode cX0_write 8 = .ok (.getfield 9, 3) := by decide +kernel
theorem dX0_write_11 : decode cX0_write 11 = .ok (.bipush 40, 2) := by decide +kernel
theorem dX0_write_13 : decode cX0_write 13 = .ok (.if_icmp .lt 5, 3) := by decide +kernel
theorem dX0_write_16 : decode cX0_write 16 = .ok (.iconst 0, 1) := by decide +kernel
theorem dX0_write_17 : decode cX0_write 17 = .ok (.ireturn, 1) := by decide +kernel
theorem dX0_write_18 : decode cX0_write 18 = .ok (.aload_n 0, 1) := by decide +kernel
theorem dX0_write_19 : decode cX0_write 19 = .ok (.getfield 15, 3) := by decide +kernel
theorem dX0_write_22 : decode cX0_write 22 = .ok (.aload_n 0, 1) := by decide +kernel
theorem dX0_write_23 : decode cX0_write 23 = .ok (.getfield 9, 3) := by decide +kernel
theorem dX0_write_26 : decode cX0_write 26 = .ok (.iload_n 1, 1) := by decide +kernel
theorem dX0_write_27 : decode cX0_write 27 = .ok (.iastore, 1) := by decide +kernel
theorem dX0_write_28 : decode cX0_write 28 = .ok (.aload_n 0, 1) := by decide +kernel
theorem dX0_write_29 : decode cX0_write 29 = .ok (.getfield 19, 3) := by decide +kernel
theorem dX0_write_32 : decode cX0_write 32 = .ok (.aload_n 0, 1) := by decide +kernel
theorem dX0_write_33 : decode cX0_write 33 = .ok (.getfield 9, 3) := by decide +kernel
theorem dX0_write_36 : decode cX0_write 36 = .ok (.iload_n 2, 1) := by decide +kernel
theorem dX0_write_37 : decode cX0_write 37 = .ok (.iastore, 1) := by decide +kernel
theorem dX0_write_38 : decode cX0_write 38 = .ok (.aload_n 0, 1) := by decide +kernel
theorem dX0_write_39 : decode cX0_write 39 = .ok (.getfield 22, 3) := by decide +kernel
theorem dX0_write_42 : decode cX0_write 42 = .ok (.aload_n 0, 1) := by decide +kernel
theorem dX0_write_43 : decode cX0_write 43 = .ok (.getfield 9, 3) := by decide +kernel
theorem dX0_write_46 : decode cX0_write 46 = .ok (.iload_n 3, 1) := by decide +kernel
theorem dX0_write_47 : decode cX0_write 47 = .ok (.iastore, 1) := by decide +kernel
theorem dX0_write_48 : decode cX0_write 48 = .ok (.aload_n 0, 1) := by decide +kernel
theorem dX0_write_49 : decode cX0_write 49 = .ok (.dup, 1) := by decide +kernel
theorem dX0_write_50 : decode cX0_write 50 = .ok (.getfield 9, 3) := by decide +kernel
theorem dX0_write_53 : decode cX0_write 53 = .ok (.iconst 1, 1) := by decide +kernel
theorem dX0_write_54 : decode cX0_write 54 = .ok (.iadd, 1) := by decide +kernel
theorem dX0_write_55 : decode cX0_write 55 = .ok (.putfield 9, 3) := by decide +kernel
theorem dX0_write_58 : decode cX0_write 58 = .ok (.iconst 1, 1) := by decide +kernel
theorem dX0_write_59 : decode cX0_write 59 = .ok (.ireturn, 1) := by decide +kernel
theorem dX0_howMany_0 : decode cX0_howMany 0 = .ok (.iconst 0, 1) := by decide +kernel
theorem dX0_howMany_1 : decode cX0_howMany 1 = .ok (.istore 5, 2) := by decide +kernel
theorem dX0_howMany_3 : decode cX0_howMany 3 = .ok (.iconst 0, 1) := by decide +kernel
theorem dX0_howMany_4 : decode cX0_howMany 4 = .ok (.istore 6, 2) := by decide +kernel
theorem dX0_howMany_6 : decode cX0_howMany 6 = .ok (.iload 6, 2) := by decide +kernel
theorem dX0_howMany_8 : decode cX0_howMany 8 = .ok (.aload_n 0, 1) := by decide +kernel
theorem dX0_howMany_9 : decode cX0_howMany 9 = .ok (.getfield 9, 3) := by decide +kernel
theorem dX0_howMany_12 : decode cX0_howMany 12 = .ok (.if_icmp .ge 43, 3) := by decide +kernel
theorem dX0_howMany_15 : decode cX0_howMany 15 = .ok (.iload 6, 2) := by decide +kernel
theorem dX0_howMany_17 : decode cX0_howMany 17 = .ok (.bipush 40, 2) := by decide +kernel
theorem dX0_howMany_19 : decode cX0_howMany 19 = .ok (.if_icmp .ge 36, 3) := by decide +kernel
theorem dX0_howMany_22 : decode cX0_howMany 22 = .ok (.aload_n 0, 1) := by decide +kernel
theorem dX0_howMany_23 : decode cX0_howMany 23 = .ok (.iload 6, 2) := by decide +kernel
theorem dX0_howMany_25 : decode cX0_howMany 25 = .ok (.iload_n 1, 1) := by decide +kernel
theorem dX0_howMany_26 : decode cX0_howMany 26 = .ok (.iload_n 2, 1) := by decide +kernel
theorem dX0_howMany_27 : decode cX0_howMany 27 = .ok (.iload_n 3, 1) := by decide +kernel
theorem dX0_howMany_28 : decode cX0_howMany 28 = .ok (.invokevirtual 25, 3) := by decide +kernel
theorem dX0_howMany_31 : decode cX0_howMany 31 = .ok (.ifCond .eq 18, 3) := by decide +kernel
theorem dX0_howMany_34 : decode cX0_howMany 34 = .ok (.aload_n 0, 1) := by decide +kernel
theorem dX0_howMany_35 : decode cX0_howMany 35 = .ok (.getfield 22, 3) := by decide +kernel
theorem dX0_howMany_38 : decode cX0_howMany 38 = .ok (.iload 6, 2) := by decide +kernel
theorem dX0_howMany_40 : decode cX0_howMany 40 = .ok (.iaload, 1) := by decide +kernel
theorem dX0_howMany_41 : decode cX0_howMany 41 = .ok (.iload 4, 2) := by decide +kernel
theorem dX0_howMany_43 : decode cX0_howMany 43 = .ok (.if_icmp .lt 6, 3) := by decide +kernel
theorem dX0_howMany_46 : decode cX0_howMany 46 = .ok (.iinc 5 1, 3) := by decide +kernel
theorem dX0_howMany_49 : decode cX0_howMany 49 = .ok (.iinc 6 1, 3) := by decide +kernel
theorem dX0_howMany_52 : decode cX0_howMany 52 = .ok (.goto (-46), 3) := by decide +kernel
theorem dX0_howMany_55 : decode cX0_howMany 55 = .ok (.iload 5, 2) := by decide +kernel
theorem dX0_howMany_57 : decode cX0_howMany 57 = .ok (.ireturn, 1) := by decide +kernel
theorem dX0_heights_0 : decode cX0_heights 0 = .ok (.iconst 0, 1) := by decide +kernel
theorem dX0_heights_1 : decode cX0_heights 1 = .ok (.istore 4, 2) := by decide +kernel
theorem dX0_heights_3 : decode cX0_heights 3 = .ok (.iconst 0, 1) := by decide +kernel
theorem dX0_heights_4 : decode cX0_heights 4 = .ok (.istore 5, 2) := by decide +kernel
theorem dX0_heights_6 : decode cX0_heights 6 = .ok (.iload 5, 2) := by decide +kernel
theorem dX0_heights_8 : decode cX0_heights 8 = .ok (.aload_n 0, 1) := by decide +kernel
theorem dX0_heights_9 : decode cX0_heights 9 = .ok (.getfield 9, 3) := by decide +kernel
theorem dX0_heights_12 : decode cX0_heights 12 = .ok (.if_icmp .ge 40, 3) := by decide +kernel
theorem dX0_heights_15 : decode cX0_heights 15 = .ok (.iload 5, 2) := by decide +kernel
theorem dX0_heights_17 : decode cX0_heights 17 = .ok (.bipush 40, 2) := by decide +kernel
theorem dX0_heights_19 : decode cX0_heights 19 = .ok (.if_icmp .ge 33, 3) := by decide +kernel
theorem dX0_heights_22 : decode cX0_heights 22 = .ok (.aload_n 0, 1) := by decide +kernel
theorem dX0_heights_23 : decode cX0_heights 23 = .ok (.iload 5, 2) := by decide +kernel
theorem dX0_heights_25 : decode cX0_heights 25 = .ok (.iload_n 1, 1) := by decide +kernel
theorem dX0_heights_26 : decode cX0_heights 26 = .ok (.iload_n 2, 1) := by decide +kernel
theorem dX0_heights_27 : decode cX0_heights 27 = .ok (.iload_n 3, 1) := by decide +kernel
theorem dX0_heights_28 : decode cX0_heights 28 = .ok (.invokevirtual 25, 3) := by decide +kernel
theorem dX0_heights_31 : decode cX0_heights 31 = .ok (.ifCond .eq 15, 3) := by decide +kernel
theorem dX0_heights_34 : decode cX0_heights 34 = .ok (.iload 4, 2) := by decide +kernel
theorem dX0_heights_36 : decode cX0_heights 36 = .ok (.aload_n 0, 1) := by decide +kernel
theorem dX0_heights_37 : decode cX0_heights 37 = .ok (.getfield 22, 3) := by decide +kernel
theorem dX0_heights_40 : decode cX0_heights 40 = .ok (.iload 5, 2) := by decide +kernel
theorem dX0_heights_42 : decode cX0_heights 42 = .ok (.iaload, 1) := by decide +kernel
theorem dX0_heights_43 : decode cX0_heights 43 = .ok (.iadd, 1) := by decide +kernel
theorem dX0_heights_44 : decode cX0_heights 44 = .ok (.istore 4, 2) := by decide +kernel
theorem dX0_heights_46 : decode cX0_heights 46 = .ok (.iinc 5 1, 3) := by decide +kernel
theorem dX0_heights_49 : decode cX0_heights 49 = .ok (.goto (-43), 3) := by decide +kernel
theorem dX0_heights_52 : decode cX0_heights 52 = .ok (.iload 4, 2) := by decide +kernel
theorem dX0_heights_54 : decode cX0_heights 54 = .ok (.ireturn, 1) := by decide +kernel
theorem dX0_isOf_0 : decode cX0_isOf 0 = .ok (.iload_n 1, 1) := by decide +kernel
theorem dX0_isOf_1 : decode cX0_isOf 1 = .ok (.ifCond .lt 19, 3) := by decide +kernel
theorem dX0_isOf_4 : decode cX0_isOf 4 = .ok (.iload_n 1, 1) := by decide +kernel
theorem dX0_isOf_5 : decode cX0_isOf 5 = .ok (.bipush 40, 2) := by decide +kernel
theorem dX0_isOf_7 : decode cX0_isOf 7 = .ok (.if_icmp .ge 13, 3) := by decide +kernel
theorem dX0_isOf_10 : decode cX0_isOf 10 = .ok (.aload_n 0, 1) := by decide +kernel
theorem dX0_isOf_11 : decode cX0_isOf 11 = .ok (.getfield 15, 3) := by decide +kernel
theorem dX0_isOf_14 : decode cX0_isOf 14 = .ok (.iload_n 1, 1) := by decide +kernel
theorem dX0_isOf_15 : decode cX0_isOf 15 = .ok (.iaload, 1) := by decide +kernel
theorem dX0_isOf_16 : decode cX0_isOf 16 = .ok (.iload_n 2, 1) := by decide +kernel
theorem dX0_isOf_17 : decode cX0_isOf 17 = .ok (.if_icmp .eq 5, 3) := by decide +kernel
theorem dX0_isOf_20 : decode cX0_isOf 20 = .ok (.iconst 0, 1) := by decide +kernel
theorem dX0_isOf_21 : decode cX0_isOf 21 = .ok (.ireturn, 1) := by decide +kernel
theorem dX0_isOf_22 : decode cX0_isOf 22 = .ok (.aload_n 0, 1) := by decide +kernel
theorem dX0_isOf_23 : decode cX0_isOf 23 = .ok (.getfield 19, 3) := by decide +kernel
theorem dX0_isOf_26 : decode cX0_isOf 26 = .ok (.iload_n 1, 1) := by decide +kernel
theorem dX0_isOf_27 : decode cX0_isOf 27 = .ok (.iaload, 1) := by decide +kernel
theorem dX0_isOf_28 : decode cX0_isOf 28 = .ok (.iload_n 3, 1) := by decide +kernel
theorem dX0_isOf_29 : decode cX0_isOf 29 = .ok (.if_icmp .lt 18, 3) := by decide +kernel
theorem dX0_isOf_32 : decode cX0_isOf 32 = .ok (.aload_n 0, 1) := by decide +kernel
theorem dX0_isOf_33 : decode cX0_isOf 33 = .ok (.getfield 19, 3) := by decide +kernel
theorem dX0_isOf_36 : decode cX0_isOf 36 = .ok (.iload_n 1, 1) := by decide +kernel
theorem dX0_isOf_37 : decode cX0_isOf 37 = .ok (.iaload, 1) := by decide +kernel
theorem dX0_isOf_38 : decode cX0_isOf 38 = .ok (.iload 4, 2) := by decide +kernel
theorem dX0_isOf_40 : decode cX0_isOf 40 = .ok (.if_icmp .gt 7, 3) := by decide +kernel
theorem dX0_isOf_43 : decode cX0_isOf 43 = .ok (.iconst 1, 1) := by decide +kernel
theorem dX0_isOf_44 : decode cX0_isOf 44 = .ok (.goto 4, 3) := by decide +kernel
theorem dX0_isOf_47 : decode cX0_isOf 47 = .ok (.iconst 0, 1) := by decide +kernel
theorem dX0_isOf_48 : decode cX0_isOf 48 = .ok (.ireturn, 1) := by decide +kernel
theorem dX1_init_0 : decode cX1_init 0 = .ok (.aload_n 0, 1) := by decide +kernel
theorem dX1_init_1 : decode cX1_init 1 = .ok (.invokespecial 3, 3) := by decide +kernel
theorem dX1_init_4 : decode cX1_init 4 = .ok (.aload_n 0, 1) := by decide +kernel
theorem dX1_init_5 : decode cX1_init 5 = .ok (.iconst 0, 1) := by decide +kernel
theorem dX1_init_6 : decode cX1_init 6 = .ok (.putfield 9, 3) := by decide +kernel
theorem dX1_init_9 : decode cX1_init 9 = .ok (.aload_n 0, 1) := by decide +kernel
theorem dX1_init_10 : decode cX1_init 10 = .ok (.iconst (-1), 1) := by decide +kernel
theorem dX1_init_11 : decode cX1_init 11 = .ok (.putfield 15, 3) := by decide +kernel
theorem dX1_init_14 : decode cX1_init 14 = .ok (.aload_n 0, 1) := by decide +kernel
theorem dX1_init_15 : decode cX1_init 15 = .ok (.iconst 0, 1) := by decide +kernel
theorem dX1_init_16 : decode cX1_init 16 = .ok (.putfield 18, 3) := by decide +kernel
theorem dX1_init_19 : decode cX1_init 19 = .ok (.aload_n 0, 1) := by decide +kernel
theorem dX1_init_20 : decode cX1_init 20 = .ok (.iconst 0, 1) := by decide +kernel
theorem dX1_init_21 : decode cX1_init 21 = .ok (.putfield 21, 3) := by decide +kernel
theorem dX1_init_24 : decode cX1_init 24 = .ok (.aload_n 0, 1) := by decide +kernel
theorem dX1_init_25 : decode cX1_init 25 = .ok (.iconst 0, 1) := by decide +kernel
theorem dX1_init_26 : decode cX1_init 26 = .ok (.putfield 24, 3) := by decide +kernel
theorem dX1_init_29 : decode cX1_init 29 = .ok (.aload_n 0, 1) := by decide +kernel
theorem dX1_init_30 : decode cX1_init 30 = .ok (.iconst 0, 1) := by decide +kernel
theorem dX1_init_31 : decode cX1_init 31 = .ok (.putfield 27, 3) := by decide +kernel
theorem dX1_init_34 : decode cX1_init 34 = .ok (.aload_n 0, 1) := by decide +kernel
theorem dX1_init_35 : decode cX1_init 35 = .ok (.iconst 0, 1) := by decide +kernel
theorem dX1_init_36 : decode cX1_init 36 = .ok (.putfield 30, 3) := by decide +kernel
theorem dX1_init_39 : decode cX1_init 39 = .ok (.aload_n 0, 1) := by decide +kernel
theorem dX1_init_40 : decode cX1_init 40 = .ok (.iconst 0, 1) := by decide +kernel
theorem dX1_init_41 : decode cX1_init 41 = .ok (.putfield 33, 3) := by decide +kernel
theorem dX1_init_44 : decode cX1_init 44 = .ok (.aload_n 0, 1) := by decide +kernel
theorem dX1_init_45 : decode cX1_init 45 = .ok (.iconst 0, 1) := by decide +kernel
theorem dX1_init_46 : decode cX1_init 46 = .ok (.putfield 36, 3) := by decide +kernel
theorem dX1_init_49 : decode cX1_init 49 = .ok (.return_, 1) := by decide +kernel
theorem dX1_begin_0 : decode cX1_begin 0 = .ok (.aload_n 0, 1) := by decide +kernel
theorem dX1_begin_1 : decode cX1_begin 1 = .ok (.iload_n 1, 1) := by decide +kernel
theorem dX1_begin_2 : decode cX1_begin 2 = .ok (.putfield 9, 3) := by decide +kernel
theorem dX1_begin_5 : decode cX1_begin 5 = .ok (.aload_n 0, 1) := by decide +kernel
theorem dX1_begin_6 : decode cX1_begin 6 = .ok (.iconst (-1), 1) := by decide +kernel
theorem dX1_begin_7 : decode cX1_begin 7 = .ok (.putfield 15, 3) := by decide +kernel
theorem dX1_begin_10 : decode cX1_begin 10 = .ok (.aload_n 0, 1) := by decide +kernel
theorem dX1_begin_11 : decode cX1_begin 11 = .ok (.iconst 0, 1) := by decide +kernel
theorem dX1_begin_12 : decode cX1_begin 12 = .ok (.putfield 18, 3) := by decide +kernel
theorem dX1_begin_15 : decode cX1_begin 15 = .ok (.aload_n 0, 1) := by decide +kernel
theorem dX1_begin_16 : decode cX1_begin 16 = .ok (.iconst 0, 1) := by decide +kernel
theorem dX1_begin_17 : decode cX1_begin 17 = .ok (.putfield 21, 3) := by decide +kernel
theorem dX1_begin_20 : decode cX1_begin 20 = .ok (.aload_n 0, 1) := by decide +kernel
theorem dX1_begin_21 : decode cX1_begin 21 = .ok (.iconst 0, 1) := by decide +kernel
theorem dX1_begin_22 : decode cX1_begin 22 = .ok (.putfield 24, 3) := by decide +kernel
theorem dX1_begin_25 : decode cX1_begin 25 = .ok (.aload_n 0, 1) := by decide +kernel
theorem dX1_begin_26 : decode cX1_begin 26 = .ok (.iconst 0, 1) := by decide +kernel
theorem dX1_begin_27 : decode cX1_begin 27 = .ok (.putfield 27, 3) := by decide +kernel
theorem dX1_begin_30 : decode cX1_begin 30 = .ok (.return_, 1) := by decide +kernel
theorem dX1_become_0 : decode cX1_become 0 = .ok (.aload_n 0, 1) := by decide +kernel
theorem dX1_become_1 : decode cX1_become 1 = .ok (.aload_n 1, 1) := by decide +kernel
theorem dX1_become_2 : decode cX1_become 2 = .ok (.getfield 9, 3) := by decide +kernel
theorem dX1_become_5 : decode cX1_become 5 = .ok (.putfield 9, 3) := by decide +kernel
theorem dX1_become_8 : decode cX1_become 8 = .ok (.aload_n 0, 1) := by decide +kernel
theorem dX1_become_9 : decode cX1_become 9 = .ok (.aload_n 1, 1) := by decide +kernel
theorem dX1_become_10 : decode cX1_become 10 = .ok (.getfield 15, 3) := by decide +kernel
theorem dX1_become_13 : decode cX1_become 13 = .ok (.putfield 15, 3) := by decide +kernel
theorem dX1_become_16 : decode cX1_become 16 = .ok (.aload_n 0, 1) := by decide +kernel
theorem dX1_become_17 : decode cX1_become 17 = .ok (.aload_n 1, 1) := by decide +kernel
theorem dX1_become_18 : decode cX1_become 18 = .ok (.getfield 18, 3) := by decide +kernel
theorem dX1_become_21 : decode cX1_become 21 = .ok (.putfield 18, 3) := by decide +kernel
theorem dX1_become_24 : decode cX1_become 24 = .ok (.aload_n 0, 1) := by decide +kernel
theorem dX1_become_25 : decode cX1_become 25 = .ok (.aload_n 1, 1) := by decide +kernel
theorem dX1_become_26 : decode cX1_become 26 = .ok (.getfield 21, 3) := by decide +kernel
theorem dX1_become_29 : decode cX1_become 29 = .ok (.putfield 21, 3) := by decide +kernel
theorem dX1_become_32 : decode cX1_become 32 = .ok (.aload_n 0, 1) := by decide +kernel
theorem dX1_become_33 : decode cX1_become 33 = .ok (.aload_n 1, 1) := by decide +kernel
theorem dX1_become_34 : decode cX1_become 34 = .ok (.getfield 24, 3) := by decide +kernel
theorem dX1_become_37 : decode cX1_become 37 = .ok (.putfield 24, 3) := by decide +kernel
theorem dX1_become_40 : decode cX1_become 40 = .ok (.aload_n 0, 1) := by decide +kernel
theorem dX1_become_41 : decode cX1_become 41 = .ok (.aload_n 1, 1) := by decide +kernel
theorem dX1_become_42 : decode cX1_become 42 = .ok (.getfield 27, 3) := by decide +kernel
theorem dX1_become_45 : decode cX1_become 45 = .ok (.putfield 27, 3) := by decide +kernel
theorem dX1_become_48 : decode cX1_become 48 = .ok (.aload_n 0, 1) := by decide +kernel
theorem dX1_become_49 : decode cX1_become 49 = .ok (.aload_n 1, 1) := by decide +kernel
theorem dX1_become_50 : decode cX1_become 50 = .ok (.getfield 30, 3) := by decide +kernel
theorem dX1_become_53 : decode cX1_become 53 = .ok (.putfield 30, 3) := by decide +kernel
theorem dX1_become_56 : decode cX1_become 56 = .ok (.aload_n 0, 1) := by decide +kernel
theorem dX1_become_57 : decode cX1_become 57 = .ok (.aload_n 1, 1) := by decide +kernel
theorem dX1_become_58 : decode cX1_become 58 = .ok (.getfield 33, 3) := by decide +kernel
theorem dX1_become_61 : decode cX1_become 61 = .ok (.putfield 33, 3) := by decide +kernel
theorem dX1_become_64 : decode cX1_become 64 = .ok (.return_, 1) := by decide +kernel
theorem dX1_draw_0 : decode cX1_draw 0 = .ok (.aload_n 0, 1) := by decide +kernel
theorem dX1_draw_1 : decode cX1_draw 1 = .ok (.aload_n 0, 1) := by decide +kernel
theorem dX1_draw_2 : decode cX1_draw 2 = .ok (.getfield 30, 3) := by decide +kernel
theorem dX1_draw_5 : decode cX1_draw 5 = .ok (.ldc 40, 2) := by decide +kernel
theorem dX1_draw_7 : decode cX1_draw 7 = .ok (.imul, 1) := by decide +kernel
theorem dX1_draw_8 : decode cX1_draw 8 = .ok (.sipush 12345, 3) := by decide +kernel
theorem dX1_draw_11 : decode cX1_draw 11 = .ok (.iadd, 1) := by decide +kernel
theorem dX1_draw_12 : decode cX1_draw 12 = .ok (.putfield 30, 3) := by decide +kernel
theorem dX1_draw_15 : decode cX1_draw 15 = .ok (.aload_n 0, 1) := by decide +kernel
theorem dX1_draw_16 : decode cX1_draw 16 = .ok (.getfield 30, 3) := by decide +kernel
theorem dX1_draw_19 : decode cX1_draw 19 = .ok (.bipush 16, 2) := by decide +kernel
theorem dX1_draw_21 : decode cX1_draw 21 = .ok (.iushr, 1) := by decide +kernel
theorem dX1_draw_22 : decode cX1_draw 22 = .ok (.bipush 10, 2) := by decide +kernel
theorem dX1_draw_24 : decode cX1_draw 24 = .ok (.irem, 1) := by decide +kernel
theorem dX1_draw_25 : decode cX1_draw 25 = .ok (.ireturn, 1) := by decide +kernel
theorem dX1_arrive_0 : decode cX1_arrive 0 = .ok (.aload_n 0, 1) := by decide +kernel
theorem dX1_arrive_1 : decode cX1_arrive 1 = .ok (.iload_n 1, 1) := by decide +kernel
theorem dX1_arrive_2 : decode cX1_arrive 2 = .ok (.putfield 15, 3) := by decide +kernel
theorem dX1_arrive_5 : decode cX1_arrive 5 = .ok (.aload_n 0, 1) := by decide +kernel
theorem dX1_arrive_6 : decode cX1_arrive 6 = .ok (.aload_n 0, 1) := by decide +kernel
theorem dX1_arrive_7 : decode cX1_arrive 7 = .ok (.getfield 21, 3) := by decide +kernel
theorem dX1_arrive_10 : decode cX1_arrive 10 = .ok (.iload_n 2, 1) := by decide +kernel
theorem dX1_arrive_11 : decode cX1_arrive 11 = .ok (.invokestatic 41, 3) := by decide +kernel
theorem dX1_arrive_14 : decode cX1_arrive 14 = .ok (.putfield 21, 3) := by decide +kernel
theorem dX1_arrive_17 : decode cX1_arrive 17 = .ok (.aload_n 0, 1) := by decide +kernel
theorem dX1_arrive_18 : decode cX1_arrive 18 = .ok (.dup, 1) := by decide +kernel
theorem dX1_arrive_19 : decode cX1_arrive 19 = .ok (.getfield 24, 3) := by decide +kernel
theorem dX1_arrive_22 : decode cX1_arrive 22 = .ok (.iconst 1, 1) := by decide +kernel
theorem dX1_arrive_23 : decode cX1_arrive 23 = .ok (.iadd, 1) := by decide +kernel
theorem dX1_arrive_24 : decode cX1_arrive 24 = .ok (.putfield 24, 3) := by decide +kernel
theorem dX1_arrive_27 : decode cX1_arrive 27 = .ok (.return_, 1) := by decide +kernel
theorem dX1_drop_0 : decode cX1_drop 0 = .ok (.aload_n 0, 1) := by decide +kernel
theorem dX1_drop_1 : decode cX1_drop 1 = .ok (.iconst (-1), 1) := by decide +kernel
theorem dX1_drop_2 : decode cX1_drop 2 = .ok (.putfield 15, 3) := by decide +kernel
theorem dX1_drop_5 : decode cX1_drop 5 = .ok (.aload_n 0, 1) := by decide +kernel
theorem dX1_drop_6 : decode cX1_drop 6 = .ok (.dup, 1) := by decide +kernel
theorem dX1_drop_7 : decode cX1_drop 7 = .ok (.getfield 18, 3) := by decide +kernel
theorem dX1_drop_10 : decode cX1_drop 10 = .ok (.iload_n 1, 1) := by decide +kernel
theorem dX1_drop_11 : decode cX1_drop 11 = .ok (.iadd, 1) := by decide +kernel
theorem dX1_drop_12 : decode cX1_drop 12 = .ok (.putfield 18, 3) := by decide +kernel
theorem dX1_drop_15 : decode cX1_drop 15 = .ok (.aload_n 0, 1) := by decide +kernel
theorem dX1_drop_16 : decode cX1_drop 16 = .ok (.dup, 1) := by decide +kernel
theorem dX1_drop_17 : decode cX1_drop 17 = .ok (.getfield 27, 3) := by decide +kernel
theorem dX1_drop_20 : decode cX1_drop 20 = .ok (.iconst 1, 1) := by decide +kernel
theorem dX1_drop_21 : decode cX1_drop 21 = .ok (.iadd, 1) := by decide +kernel
theorem dX1_drop_22 : decode cX1_drop 22 = .ok (.putfield 27, 3) := by decide +kernel
theorem dX1_drop_25 : decode cX1_drop 25 = .ok (.return_, 1) := by decide +kernel
theorem dX2_init_0 : decode cX2_init 0 = .ok (.aload_n 0, 1) := by decide +kernel
theorem dX2_init_1 : decode cX2_init 1 = .ok (.invokespecial 3, 3) := by decide +kernel
theorem dX2_init_4 : decode cX2_init 4 = .ok (.aload_n 0, 1) := by decide +kernel
theorem dX2_init_5 : decode cX2_init 5 = .ok (.sipush 400, 3) := by decide +kernel
theorem dX2_init_8 : decode cX2_init 8 = .ok (.newarray .int, 2) := by decide +kernel
theorem dX2_init_10 : decode cX2_init 10 = .ok (.putfield 9, 3) := by decide +kernel
theorem dX2_init_13 : decode cX2_init 13 = .ok (.aload_n 0, 1) := by decide +kernel
theorem dX2_init_14 : decode cX2_init 14 = .ok (.iconst 0, 1) := by decide +kernel
theorem dX2_init_15 : decode cX2_init 15 = .ok (.putfield 15, 3) := by decide +kernel
theorem dX2_init_18 : decode cX2_init 18 = .ok (.aload_n 0, 1) := by decide +kernel
theorem dX2_init_19 : decode cX2_init 19 = .ok (.iconst 0, 1) := by decide +kernel
theorem dX2_init_20 : decode cX2_init 20 = .ok (.putfield 19, 3) := by decide +kernel
theorem dX2_init_23 : decode cX2_init 23 = .ok (.aload_n 0, 1) := by decide +kernel
theorem dX2_init_24 : decode cX2_init 24 = .ok (.iconst 0, 1) := by decide +kernel
theorem dX2_init_25 : decode cX2_init 25 = .ok (.putfield 22, 3) := by decide +kernel
theorem dX2_init_28 : decode cX2_init 28 = .ok (.aload_n 0, 1) := by decide +kernel
theorem dX2_init_29 : decode cX2_init 29 = .ok (.iconst 0, 1) := by decide +kernel
theorem dX2_init_30 : decode cX2_init 30 = .ok (.putfield 25, 3) := by decide +kernel
theorem dX2_init_33 : decode cX2_init 33 = .ok (.aload_n 0, 1) := by decide +kernel
theorem dX2_init_34 : decode cX2_init 34 = .ok (.iconst 0, 1) := by decide +kernel
theorem dX2_init_35 : decode cX2_init 35 = .ok (.putfield 28, 3) := by decide +kernel
theorem dX2_init_38 : decode cX2_init 38 = .ok (.return_, 1) := by decide +kernel
theorem dX2_append_0 : decode cX2_append 0 = .ok (.iload_n 3, 1) := by decide +kernel
theorem dX2_append_1 : decode cX2_append 1 = .ok (.iconst 1, 1) := by decide +kernel
theorem dX2_append_2 : decode cX2_append 2 = .ok (.if_icmp .lt 23, 3) := by decide +kernel
theorem dX2_append_5 : decode cX2_append 5 = .ok (.iload_n 3, 1) := by decide +kernel
theorem dX2_append_6 : decode cX2_append 6 = .ok (.bipush 8, 2) := by decide +kernel
theorem dX2_append_8 : decode cX2_append 8 = .ok (.if_icmp .gt 17, 3) := by decide +kernel
theorem dX2_append_11 : decode cX2_append 11 = .ok (.aload_n 0, 1) := by decide +kernel
theorem dX2_append_12 : decode cX2_append 12 = .ok (.getfield 15, 3) := by decide +kernel
theorem dX2_append_15 : decode cX2_append 15 = .ok (.iload_n 3, 1) := by decide +kernel
theorem dX2_append_16 : decode cX2_append 16 = .ok (.iadd, 1) := by decide +kernel
theorem dX2_append_17 : decode cX2_append 17 = .ok (.aload_n 0, 1) := by decide +kernel
theorem dX2_append_18 : decode cX2_append 18 = .ok (.getfield 9, 3) := by decide +kernel
theorem dX2_append_21 : decode cX2_append 21 = .ok (.arraylength, 1) := by decide +kernel
theorem dX2_append_22 : decode cX2_append 22 = .ok (.if_icmp .le 5, 3) := by decide +kernel
theorem dX2_append_25 : decode cX2_append 25 = .ok (.iconst 0, 1) := by decide +kernel
theorem dX2_append_26 : decode cX2_append 26 = .ok (.ireturn, 1) := by decide +kernel
theorem dX2_append_27 : decode cX2_append 27 = .ok (.iload_n 3, 1) := by decide +kernel
theorem dX2_append_28 : decode cX2_append 28 = .ok (.iconst 1, 1) := by decide +kernel
theorem dX2_append_29 : decode cX2_append 29 = .ok (.isub, 1) := by decide +kernel
theorem dX2_append_30 : decode cX2_append 30 = .ok (.istore 4, 2) := by decide +kernel
theorem dX2_append_32 : decode cX2_append 32 = .ok (.iload 4, 2) := by decide +kernel
theorem dX2_append_34 : decode cX2_append 34 = .ok (.ifCond .lt 40, 3) := by decide +kernel
theorem dX2_append_37 : decode cX2_append 37 = .ok (.aload_n 0, 1) := by decide +kernel
theorem dX2_append_38 : decode cX2_append 38 = .ok (.getfield 9, 3) := by decide +kernel
theorem dX2_append_41 : decode cX2_append 41 = .ok (.aload_n 0, 1) := by decide +kernel
theorem dX2_append_42 : decode cX2_append 42 = .ok (.getfield 15, 3) := by decide +kernel
theorem dX2_append_45 : decode cX2_append 45 = .ok (.lload_n 1, 1) := by decide +kernel
theorem dX2_append_46 : decode cX2_append 46 = .ok (.bipush 8, 2) := by decide +kernel
theorem dX2_append_48 : decode cX2_append 48 = .ok (.iload 4, 2) := by decide +kernel
theorem dX2_append_50 : decode cX2_append 50 = .ok (.imul, 1) := by decide +kernel
theorem dX2_append_51 : decode cX2_append 51 = .ok (.lushr, 1) := by decide +kernel
theorem dX2_append_52 : decode cX2_append 52 = .ok (.l2i, 1) := by decide +kernel
theorem dX2_append_53 : decode cX2_append 53 = .ok (.sipush 255, 3) := by decide +kernel
theorem dX2_append_56 : decode cX2_append 56 = .ok (.iand, 1) := by decide +kernel
theorem dX2_append_57 : decode cX2_append 57 = .ok (.iastore, 1) := by decide +kernel
theorem dX2_append_58 : decode cX2_append 58 = .ok (.aload_n 0, 1) := by decide +kernel
theorem dX2_append_59 : decode cX2_append 59 = .ok (.dup, 1) := by decide +kernel
theorem dX2_append_60 : decode cX2_append 60 = .ok (.getfield 15, 3) := by decide +kernel
theorem dX2_append_63 : decode cX2_append 63 = .ok (.iconst 1, 1) := by decide +kernel
theorem dX2_append_64 : decode cX2_append 64 = .ok (.iadd, 1) := by decide +kernel
theorem dX2_append_65 : decode cX2_append 65 = .ok (.putfield 15, 3) := by decide +kernel
theorem dX2_append_68 : decode cX2_append 68 = .ok (.iinc 4 (-1), 3) := by decide +kernel
theorem dX2_append_71 : decode cX2_append 71 = .ok (.goto (-39), 3) := by decide +kernel
theorem dX2_append_74 : decode cX2_append 74 = .ok (.iconst 1, 1) := by decide +kernel
theorem dX2_append_75 : decode cX2_append 75 = .ok (.ireturn, 1) := by decide +kernel
theorem dX2_rewind_0 : decode cX2_rewind 0 = .ok (.aload_n 0, 1) := by decide +kernel
theorem dX2_rewind_1 : decode cX2_rewind 1 = .ok (.iconst 0, 1) := by decide +kernel
theorem dX2_rewind_2 : decode cX2_rewind 2 = .ok (.putfield 19, 3) := by decide +kernel
theorem dX2_rewind_5 : decode cX2_rewind 5 = .ok (.return_, 1) := by decide +kernel
theorem dX2_byteAt_0 : decode cX2_byteAt 0 = .ok (.iload_n 1, 1) := by decide +kernel
theorem dX2_byteAt_1 : decode cX2_byteAt 1 = .ok (.ifCond .lt 29, 3) := by decide +kernel
theorem dX2_byteAt_4 : decode cX2_byteAt 4 = .ok (.iload_n 1, 1) := by decide +kernel
theorem dX2_byteAt_5 : decode cX2_byteAt 5 = .ok (.aload_n 0, 1) := by decide +kernel
theorem dX2_byteAt_6 : decode cX2_byteAt 6 = .ok (.getfield 15, 3) := by decide +kernel
theorem dX2_byteAt_9 : decode cX2_byteAt 9 = .ok (.if_icmp .ge 21, 3) := by decide +kernel
theorem dX2_byteAt_12 : decode cX2_byteAt 12 = .ok (.iload_n 1, 1) := by decide +kernel
theorem dX2_byteAt_13 : decode cX2_byteAt 13 = .ok (.aload_n 0, 1) := by decide +kernel
theorem dX2_byteAt_14 : decode cX2_byteAt 14 = .ok (.getfield 9, 3) := by decide +kernel
theorem dX2_byteAt_17 : decode cX2_byteAt 17 = .ok (.arraylength, 1) := by decide +kernel
theorem dX2_byteAt_18 : decode cX2_byteAt 18 = .ok (.if_icmp .ge 12, 3) := by decide +kernel
theorem dX2_byteAt_21 : decode cX2_byteAt 21 = .ok (.aload_n 0, 1) := by decide +kernel
theorem dX2_byteAt_22 : decode cX2_byteAt 22 = .ok (.getfield 9, 3) := by decide +kernel
theorem dX2_byteAt_25 : decode cX2_byteAt 25 = .ok (.iload_n 1, 1) := by decide +kernel
theorem dX2_byteAt_26 : decode cX2_byteAt 26 = .ok (.iaload, 1) := by decide +kernel
theorem dX2_byteAt_27 : decode cX2_byteAt 27 = .ok (.goto 4, 3) := by decide +kernel
theorem dX2_byteAt_30 : decode cX2_byteAt 30 = .ok (.iconst (-1), 1) := by decide +kernel
theorem dX2_byteAt_31 : decode cX2_byteAt 31 = .ok (.ireturn, 1) := by decide +kernel
theorem dX2_advance_0 : decode cX2_advance 0 = .ok (.aload_n 0, 1) := by decide +kernel
theorem dX2_advance_1 : decode cX2_advance 1 = .ok (.getfield 19, 3) := by decide +kernel
theorem dX2_advance_4 : decode cX2_advance 4 = .ok (.aload_n 0, 1) := by decide +kernel
theorem dX2_advance_5 : decode cX2_advance 5 = .ok (.getfield 15, 3) := by decide +kernel
theorem dX2_advance_8 : decode cX2_advance 8 = .ok (.if_icmp .ge 29, 3) := by decide +kernel
theorem dX2_advance_11 : decode cX2_advance 11 = .ok (.aload_n 0, 1) := by decide +kernel
theorem dX2_advance_12 : decode cX2_advance 12 = .ok (.aload_n 0, 1) := by decide +kernel
theorem dX2_advance_13 : decode cX2_advance 13 = .ok (.getfield 19, 3) := by decide +kernel
theorem dX2_advance_16 : decode cX2_advance 16 = .ok (.invokevirtual 31, 3) := by decide +kernel
theorem dX2_advance_19 : decode cX2_advance 19 = .ok (.bipush 32, 2) := by decide +kernel
theorem dX2_advance_21 : decode cX2_advance 21 = .ok (.if_icmp .ne 16, 3) := by decide +kernel
theorem dX2_advance_24 : decode cX2_advance 24 = .ok (.aload_n 0, 1) := by decide +kernel
theorem dX2_advance_25 : decode cX2_advance 25 = .ok (.dup, 1) := by decide +kernel
theorem dX2_advance_26 : decode cX2_advance 26 = .ok (.getfield 19, 3) := by decide +kernel
theorem dX2_advance_29 : decode cX2_advance 29 = .ok (.iconst 1, 1) := by decide +kernel
theorem dX2_advance_30 : decode cX2_advance 30 = .ok (.iadd, 1) := by decide +kernel
theorem dX2_advance_31 : decode cX2_advance 31 = .ok (.putfield 19, 3) := by decide +kernel
theorem dX2_advance_34 : decode cX2_advance 34 = .ok (.goto (-34), 3) := by decide +kernel
theorem dX2_advance_37 : decode cX2_advance 37 = .ok (.aload_n 0, 1) := by decide +kernel
theorem dX2_advance_38 : decode cX2_advance 38 = .ok (.aload_n 0, 1) := by decide +kernel
theorem dX2_advance_39 : decode cX2_advance 39 = .ok (.getfield 19, 3) := by decide +kernel
theorem dX2_advance_42 : decode cX2_advance 42 = .ok (.putfield 22, 3) := by decide +kernel
theorem dX2_advance_45 : decode cX2_advance 45 = .ok (.aload_n 0, 1) := by decide +kernel
theorem dX2_advance_46 : decode cX2_advance 46 = .ok (.aload_n 0, 1) := by decide +kernel
theorem dX2_advance_47 : decode cX2_advance 47 = .ok (.getfield 19, 3) := by decide +kernel
theorem dX2_advance_50 : decode cX2_advance 50 = .ok (.invokevirtual 31, 3) := by decide +kernel
theorem dX2_advance_53 : decode cX2_advance 53 = .ok (.istore_n 1, 1) := by decide +kernel
theorem dX2_advance_54 : decode cX2_advance 54 = .ok (.iload_n 1, 1) := by decide +kernel
theorem dX2_advance_55 : decode cX2_advance 55 = .ok (.ifCond .ge 11, 3) := by decide +kernel
theorem dX2_advance_58 : decode cX2_advance 58 = .ok (.aload_n 0, 1) := by decide +kernel
theorem dX2_advance_59 : decode cX2_advance 59 = .ok (.iconst 0, 1) := by decide +kernel
theorem dX2_advance_60 : decode cX2_advance 60 = .ok (.putfield 25, 3) := by decide +kernel
theorem dX2_advance_63 : decode cX2_advance 63 = .ok (.goto 69, 3) := by decide +kernel
theorem dX2_advance_66 : decode cX2_advance 66 = .ok (.iload_n 1, 1) := by decide +kernel
theorem dX2_advance_67 : decode cX2_advance 67 = .ok (.bipush 59, 2) := by decide +kernel
theorem dX2_advance_69 : decode cX2_advance 69 = .ok (.if_icmp .ne 21, 3) := by decide +kernel
theorem dX2_advance_72 : decode cX2_advance 72 = .ok (.aload_n 0, 1) := by decide +kernel
theorem dX2_advance_73 : decode cX2_advance 73 = .ok (.dup, 1) := by decide +kernel
theorem dX2_advance_74 : decode cX2_advance 74 = .ok (.getfield 19, 3) := by decide +kernel
theorem dX2_advance_77 : decode cX2_advance 77 = .ok (.iconst 1, 1) := by decide +kernel
theorem dX2_advance_78 : decode cX2_advance 78 = .ok (.iadd, 1) := by decide +kernel
theorem dX2_advance_79 : decode cX2_advance 79 = .ok (.putfield 19, 3) := by decide +kernel
theorem dX2_advance_82 : decode cX2_advance 82 = .ok (.aload_n 0, 1) := by decide +kernel
theorem dX2_advance_83 : decode cX2_advance 83 = .ok (.iconst 1, 1) := by decide +kernel
theorem dX2_advance_84 : decode cX2_advance 84 = .ok (.putfield 25, 3) := by decide +kernel
theorem dX2_advance_87 : decode cX2_advance 87 = .ok (.goto 45, 3) := by decide +kernel
theorem dX2_advance_90 : decode cX2_advance 90 = .ok (.iload_n 1, 1) := by decide +kernel
theorem dX2_advance_91 : decode cX2_advance 91 = .ok (.invokestatic 35, 3) := by decide +kernel
theorem dX2_advance_94 : decode cX2_advance 94 = .ok (.ifCond .eq 14, 3) := by decide +kernel
theorem dX2_advance_97 : decode cX2_advance 97 = .ok (.aload_n 0, 1) := by decide +kernel
theorem dX2_advance_98 : decode cX2_advance 98 = .ok (.aload_n 0, 1) := by decide +kernel
theorem dX2_advance_99 : decode cX2_advance 99 = .ok (.invokevirtual 39, 3) := by decide +kernel
theorem dX2_advance_102 : decode cX2_advance 102 = .ok (.putfield 25, 3) := by decide +kernel
theorem dX2_advance_105 : decode cX2_advance 105 = .ok (.goto 27, 3) := by decide +kernel
theorem dX2_advance_108 : decode cX2_advance 108 = .ok (.iload_n 1, 1) := by decide +kernel
theorem dX2_advance_109 : decode cX2_advance 109 = .ok (.invokestatic 43, 3) := by decide +kernel
theorem dX2_advance_112 : decode cX2_advance 112 = .ok (.ifCond .eq 14, 3) := by decide +kernel
theorem dX2_advance_115 : decode cX2_advance 115 = .ok (.aload_n 0, 1) := by decide +kernel
theorem dX2_advance_116 : decode cX2_advance 116 = .ok (.aload_n 0, 1) := by decide +kernel
theorem dX2_advance_117 : decode cX2_advance 117 = .ok (.invokevirtual 46, 3) := by decide +kernel
theorem dX2_advance_120 : decode cX2_advance 120 = .ok (.putfield 25, 3) := by decide +kernel
theorem dX2_advance_123 : decode cX2_advance 123 = .ok (.goto 9, 3) := by decide +kernel
theorem dX2_advance_126 : decode cX2_advance 126 = .ok (.aload_n 0, 1) := by decide +kernel
theorem dX2_advance_127 : decode cX2_advance 127 = .ok (.bipush 7, 2) := by decide +kernel
theorem dX2_advance_129 : decode cX2_advance 129 = .ok (.putfield 25, 3) := by decide +kernel
theorem dX2_advance_132 : decode cX2_advance 132 = .ok (.return_, 1) := by decide +kernel
theorem dX2_readNumber_0 : decode cX2_readNumber 0 = .ok (.iconst 0, 1) := by decide +kernel
theorem dX2_readNumber_1 : decode cX2_readNumber 1 = .ok (.istore_n 1, 1) := by decide +kernel
theorem dX2_readNumber_2 : decode cX2_readNumber 2 = .ok (.aload_n 0, 1) := by decide +kernel
theorem dX2_readNumber_3 : decode cX2_readNumber 3 = .ok (.getfield 19, 3) := by decide +kernel
theorem dX2_readNumber_6 : decode cX2_readNumber 6 = .ok (.aload_n 0, 1) := by decide +kernel
theorem dX2_readNumber_7 : decode cX2_readNumber 7 = .ok (.getfield 15, 3) := by decide +kernel
theorem dX2_readNumber_10 : decode cX2_readNumber 10 = .ok (.if_icmp .ge 52, 3) := by decide +kernel
theorem dX2_readNumber_13 : decode cX2_readNumber 13 = .ok (.aload_n 0, 1) := by decide +kernel
theorem dX2_readNumber_14 : decode cX2_readNumber 14 = .ok (.aload_n 0, 1) := by decide +kernel
theorem dX2_readNumber_15 : decode cX2_readNumber 15 = .ok (.getfield 19, 3) := by decide +kernel
theorem dX2_readNumber_18 : decode cX2_readNumber 18 = .ok (.invokevirtual 31, 3) := by decide +kernel
theorem dX2_readNumber_21 : decode cX2_readNumber 21 = .ok (.invokestatic 35, 3) := by decide +kernel
theorem dX2_readNumber_24 : decode cX2_readNumber 24 = .ok (.ifCond .eq 38, 3) := by decide +kernel
theorem dX2_readNumber_27 : decode cX2_readNumber 27 = .ok (.bipush 100, 2) := by decide +kernel
theorem dX2_readNumber_29 : decode cX2_readNumber 29 = .ok (.iload_n 1, 1) := by decide +kernel
theorem dX2_readNumber_30 : decode cX2_readNumber 30 = .ok (.bipush 10, 2) := by decide +kernel
theorem dX2_readNumber_32 : decode cX2_readNumber 32 = .ok (.imul, 1) := by decide +kernel
theorem dX2_readNumber_33 : decode cX2_readNumber 33 = .ok (.aload_n 0, 1) := by decide +kernel
theorem dX2_readNumber_34 : decode cX2_readNumber 34 = .ok (.aload_n 0, 1) := by decide +kernel
theorem dX2_readNumber_35 : decode cX2_readNumber 35 = .ok (.getfield 19, 3) := by decide +kernel
theorem dX2_readNumber_38 : decode cX2_readNumber 38 = .ok (.invokevirtual 31, 3) := by decide +kernel
theorem dX2_readNumber_41 : decode cX2_readNumber 41 = .ok (.iadd, 1) := by decide +kernel
theorem dX2_readNumber_42 : decode cX2_readNumber 42 = .ok (.bipush 48, 2) := by decide +kernel
theorem dX2_readNumber_44 : decode cX2_readNumber 44 = .ok (.isub, 1) := by decide +kernel
theorem dX2_readNumber_45 : decode cX2_readNumber 45 = .ok (.invokestatic 49, 3) := by decide +kernel
theorem dX2_readNumber_48 : decode cX2_readNumber 48 = .ok (.istore_n 1, 1) := by decide +kernel
theorem dX2_readNumber_49 : decode cX2_readNumber 49 = .ok (.aload_n 0, 1) := by decide +kernel
theorem dX2_readNumber_50 : decode cX2_readNumber 50 = .ok (.dup, 1) := by decide +kernel
theorem dX2_readNumber_51 : decode cX2_readNumber 51 = .ok (.getfield 19, 3) := by decide +kernel
theorem dX2_readNumber_54 : decode cX2_readNumber 54 = .ok (.iconst 1, 1) := by decide +kernel
theorem dX2_readNumber_55 : decode cX2_readNumber 55 = .ok (.iadd, 1) := by decide +kernel
theorem dX2_readNumber_56 : decode cX2_readNumber 56 = .ok (.putfield 19, 3) := by decide +kernel
theorem dX2_readNumber_59 : decode cX2_readNumber 59 = .ok (.goto (-57), 3) := by decide +kernel
theorem dX2_readNumber_62 : decode cX2_readNumber 62 = .ok (.aload_n 0, 1) := by decide +kernel
theorem dX2_readNumber_63 : decode cX2_readNumber 63 = .ok (.iload_n 1, 1) := by decide +kernel
theorem dX2_readNumber_64 : decode cX2_readNumber 64 = .ok (.putfield 28, 3) := by decide +kernel
theorem dX2_readNumber_67 : decode cX2_readNumber 67 = .ok (.aload_n 0, 1) := by decide +kernel
theorem dX2_readNumber_68 : decode cX2_readNumber 68 = .ok (.aload_n 0, 1) := by decide +kernel
theorem dX2_readNumber_69 : decode cX2_readNumber 69 = .ok (.getfield 22, 3) := by decide +kernel
theorem dX2_readNumber_72 : decode cX2_readNumber 72 = .ok (.invokevirtual 31, 3) := by decide +kernel
theorem dX2_readNumber_75 : decode cX2_readNumber 75 = .ok (.bipush 48, 2) := by decide +kernel
theorem dX2_readNumber_77 : decode cX2_readNumber 77 = .ok (.if_icmp .ne 20, 3) := by decide +kernel
theorem dX2_readNumber_80 : decode cX2_readNumber 80 = .ok (.aload_n 0, 1) := by decide +kernel
theorem dX2_readNumber_81 : decode cX2_readNumber 81 = .ok (.getfield 19, 3) := by decide +kernel
theorem dX2_readNumber_84 : decode cX2_readNumber 84 = .ok (.aload_n 0, 1) := by decide +kernel
theorem dX2_readNumber_85 : decode cX2_readNumber 85 = .ok (.getfield 22, 3) := by decide +kernel
theorem dX2_readNumber_88 : decode cX2_readNumber 88 = .ok (.isub, 1) := by decide +kernel
theorem dX2_readNumber_89 : decode cX2_readNumber 89 = .ok (.iconst 1, 1) := by decide +kernel
theorem dX2_readNumber_90 : decode cX2_readNumber 90 = .ok (.if_icmp .le 7, 3) := by decide +kernel
theorem dX2_readNumber_93 : decode cX2_readNumber 93 = .ok (.iconst 1, 1) := by decide +kernel
theorem dX2_readNumber_94 : decode cX2_readNumber 94 = .ok (.goto 4, 3) := by decide +kernel
theorem dX2_readNumber_97 : decode cX2_readNumber 97 = .ok (.iconst 0, 1) := by decide +kernel
theorem dX2_readNumber_98 : decode cX2_readNumber 98 = .ok (.istore_n 2, 1) := by decide +kernel
theorem dX2_readNumber_99 : decode cX2_readNumber 99 = .ok (.iload_n 2, 1) := by decide +kernel
theorem dX2_readNumber_100 : decode cX2_readNumber 100 = .ok (.ifCond .ne 9, 3) := by decide +kernel
theorem dX2_readNumber_103 : decode cX2_readNumber 103 = .ok (.iload_n 1, 1) := by decide +kernel
theorem dX2_readNumber_104 : decode cX2_readNumber 104 = .ok (.bipush 99, 2) := by decide +kernel
theorem dX2_readNumber_106 : decode cX2_readNumber 106 = .ok (.if_icmp .le 8, 3) := by decide +kernel
theorem dX2_readNumber_109 : decode cX2_readNumber 109 = .ok (.bipush 7, 2) := by decide +kernel
theorem dX2_readNumber_111 : decode cX2_readNumber 111 = .ok (.goto 4, 3) := by decide +kernel
theorem dX2_readNumber_114 : decode cX2_readNumber 114 = .ok (.iconst 2, 1) := by decide +kernel
theorem dX2_readNumber_115 : decode cX2_readNumber 115 = .ok (.ireturn, 1) := by decide +kernel
theorem dX2_readWord_0 : decode cX2_readWord 0 = .ok (.aload_n 0, 1) := by decide +kernel
theorem dX2_readWord_1 : decode cX2_readWord 1 = .ok (.getfield 19, 3) := by decide +kernel
theorem dX2_readWord_4 : decode cX2_readWord 4 = .ok (.aload_n 0, 1) := by decide +kernel
theorem dX2_readWord_5 : decode cX2_readWord 5 = .ok (.getfield 15, 3) := by decide +kernel
theorem dX2_readWord_8 : decode cX2_readWord 8 = .ok (.if_icmp .ge 30, 3) := by decide +kernel
theorem dX2_readWord_11 : decode cX2_readWord 11 = .ok (.aload_n 0, 1) := by decide +kernel
theorem dX2_readWord_12 : decode cX2_readWord 12 = .ok (.aload_n 0, 1) := by decide +kernel
theorem dX2_readWord_13 : decode cX2_readWord 13 = .ok (.getfield 19, 3) := by decide +kernel
theorem dX2_readWord_16 : decode cX2_readWord 16 = .ok (.invokevirtual 31, 3) := by decide +kernel
theorem dX2_readWord_19 : decode cX2_readWord 19 = .ok (.invokestatic 43, 3) := by decide +kernel
theorem dX2_readWord_22 : decode cX2_readWord 22 = .ok (.ifCond .eq 16, 3) := by decide +kernel
theorem dX2_readWord_25 : decode cX2_readWord 25 = .ok (.aload_n 0, 1) := by decide +kernel
theorem dX2_readWord_26 : decode cX2_readWord 26 = .ok (.dup, 1) := by decide +kernel
theorem dX2_readWord_27 : decode cX2_readWord 27 = .ok (.getfield 19, 3) := by decide +kernel
theorem dX2_readWord_30 : decode cX2_readWord 30 = .ok (.iconst 1, 1) := by decide +kernel
theorem dX2_readWord_31 : decode cX2_readWord 31 = .ok (.iadd, 1) := by decide +kernel
theorem dX2_readWord_32 : decode cX2_readWord 32 = .ok (.putfield 19, 3) := by decide +kernel
theorem dX2_readWord_35 : decode cX2_readWord 35 = .ok (.goto (-35), 3) := by decide +kernel
theorem dX2_readWord_38 : decode cX2_readWord 38 = .ok (.aload_n 0, 1) := by decide +kernel
theorem dX2_readWord_39 : decode cX2_readWord 39 = .ok (.ldc 55, 2) := by decide +kernel
theorem dX2_readWord_41 : decode cX2_readWord 41 = .ok (.invokevirtual 57, 3) := by decide +kernel
theorem dX2_readWord_44 : decode cX2_readWord 44 = .ok (.ifCond .eq 5, 3) := by decide +kernel
theorem dX2_readWord_47 : decode cX2_readWord 47 = .ok (.iconst 3, 1) := by decide +kernel
theorem dX2_readWord_48 : decode cX2_readWord 48 = .ok (.ireturn, 1) := by decide +kernel
theorem dX2_readWord_49 : decode cX2_readWord 49 = .ok (.aload_n 0, 1) := by decide +kernel
theorem dX2_readWord_50 : decode cX2_readWord 50 = .ok (.ldc 61, 2) := by decide +kernel
theorem dX2_readWord_52 : decode cX2_readWord 52 = .ok (.invokevirtual 57, 3) := by decide +kernel
theorem dX2_readWord_55 : decode cX2_readWord 55 = .ok (.ifCond .eq 5, 3) := by decide +kernel
theorem dX2_readWord_58 : decode cX2_readWord 58 = .ok (.iconst 4, 1) := by decide +kernel
theorem dX2_readWord_59 : decode cX2_readWord 59 = .ok (.ireturn, 1) := by decide +kernel
theorem dX2_readWord_60 : decode cX2_readWord 60 = .ok (.aload_n 0, 1) := by decide +kernel
theorem dX2_readWord_61 : decode cX2_readWord 61 = .ok (.ldc 63, 2) := by decide +kernel
theorem dX2_readWord_63 : decode cX2_readWord 63 = .ok (.invokevirtual 57, 3) := by decide +kernel
theorem dX2_readWord_66 : decode cX2_readWord 66 = .ok (.ifCond .eq 5, 3) := by decide +kernel
theorem dX2_readWord_69 : decode cX2_readWord 69 = .ok (.iconst 5, 1) := by decide +kernel
theorem dX2_readWord_70 : decode cX2_readWord 70 = .ok (.ireturn, 1) := by decide +kernel
theorem dX2_readWord_71 : decode cX2_readWord 71 = .ok (.aload_n 0, 1) := by decide +kernel
theorem dX2_readWord_72 : decode cX2_readWord 72 = .ok (.ldc 65, 2) := by decide +kernel
theorem dX2_readWord_74 : decode cX2_readWord 74 = .ok (.invokevirtual 57, 3) := by decide +kernel
theorem dX2_readWord_77 : decode cX2_readWord 77 = .ok (.ifCond .eq 8, 3) := by decide +kernel
theorem dX2_readWord_80 : decode cX2_readWord 80 = .ok (.bipush 6, 2) := by decide +kernel
theorem dX2_readWord_82 : decode cX2_readWord 82 = .ok (.goto 5, 3) := by decide +kernel
theorem dX2_readWord_85 : decode cX2_readWord 85 = .ok (.bipush 7, 2) := by decide +kernel
theorem dX2_readWord_87 : decode cX2_readWord 87 = .ok (.ireturn, 1) := by decide +kernel
theorem dX2_says_0 : decode cX2_says 0 = .ok (.aload_n 0, 1) := by decide +kernel
theorem dX2_says_1 : decode cX2_says 1 = .ok (.getfield 19, 3) := by decide +kernel
theorem dX2_says_4 : decode cX2_says 4 = .ok (.aload_n 0, 1) := by decide +kernel
theorem dX2_says_5 : decode cX2_says 5 = .ok (.getfield 22, 3) := by decide +kernel
theorem dX2_says_8 : decode cX2_says 8 = .ok (.isub, 1) := by decide +kernel
theorem dX2_says_9 : decode cX2_says 9 = .ok (.aload_n 1, 1) := by decide +kernel
theorem dX2_says_10 : decode cX2_says 10 = .ok (.invokevirtual 67, 3) := by decide +kernel
theorem dX2_says_13 : decode cX2_says 13 = .ok (.if_icmp .eq 5, 3) := by decide +kernel
theorem dX2_says_16 : decode cX2_says 16 = .ok (.iconst 0, 1) := by decide +kernel
theorem dX2_says_17 : decode cX2_says 17 = .ok (.ireturn, 1) := by decide +kernel
theorem dX2_says_18 : decode cX2_says 18 = .ok (.iconst 0, 1) := by decide +kernel
theorem dX2_says_19 : decode cX2_says 19 = .ok (.istore_n 2, 1) := by decide +kernel
theorem dX2_says_20 : decode cX2_says 20 = .ok (.iload_n 2, 1) := by decide +kernel
theorem dX2_says_21 : decode cX2_says 21 = .ok (.aload_n 1, 1) := by decide +kernel
theorem dX2_says_22 : decode cX2_says 22 = .ok (.invokevirtual 67, 3) := by decide +kernel
theorem dX2_says_25 : decode cX2_says 25 = .ok (.if_icmp .ge 29, 3) := by decide +kernel
theorem dX2_says_28 : decode cX2_says 28 = .ok (.aload_n 0, 1) := by decide +kernel
theorem dX2_says_29 : decode cX2_says 29 = .ok (.aload_n 0, 1) := by decide +kernel
theorem dX2_says_30 : decode cX2_says 30 = .ok (.getfield 22, 3) := by decide +kernel
theorem dX2_says_33 : decode cX2_says 33 = .ok (.iload_n 2, 1) := by decide +kernel
theorem dX2_says_34 : decode cX2_says 34 = .ok (.iadd, 1) := by decide +kernel
theorem dX2_says_35 : decode cX2_says 35 = .ok (.invokevirtual 31, 3) := by decide +kernel
theorem dX2_says_38 : decode cX2_says 38 = .ok (.aload_n 1, 1) := by decide +kernel
theorem dX2_says_39 : decode cX2_says 39 = .ok (.iload_n 2, 1) := by decide +kernel
theorem dX2_says_40 : decode cX2_says 40 = .ok (.invokevirtual 71, 3) := by decide +kernel
theorem dX2_says_43 : decode cX2_says 43 = .ok (.if_icmp .eq 5, 3) := by decide +kernel
theorem dX2_says_46 : decode cX2_says 46 = .ok (.iconst 0, 1) := by decide +kernel
theorem dX2_says_47 : decode cX2_says 47 = .ok (.ireturn, 1) := by decide +kernel
theorem dX2_says_48 : decode cX2_says 48 = .ok (.iinc 2 1, 3) := by decide +kernel
theorem dX2_says_51 : decode cX2_says 51 = .ok (.goto (-31), 3) := by decide +kernel
theorem dX2_says_54 : decode cX2_says 54 = .ok (.iconst 1, 1) := by decide +kernel
theorem dX2_says_55 : decode cX2_says 55 = .ok (.ireturn, 1) := by decide +kernel
theorem dX2_isDigit_0 : decode cX2_isDigit 0 = .ok (.iload_n 0, 1) := by decide +kernel
theorem dX2_isDigit_1 : decode cX2_isDigit 1 = .ok (.bipush 48, 2) := by decide +kernel
theorem dX2_isDigit_3 : decode cX2_isDigit 3 = .ok (.if_icmp .lt 13, 3) := by decide +kernel
theorem dX2_isDigit_6 : decode cX2_isDigit 6 = .ok (.iload_n 0, 1) := by decide +kernel
theorem dX2_isDigit_7 : decode cX2_isDigit 7 = .ok (.bipush 57, 2) := by decide +kernel
theorem dX2_isDigit_9 : decode cX2_isDigit 9 = .ok (.if_icmp .gt 7, 3) := by decide +kernel
theorem dX2_isDigit_12 : decode cX2_isDigit 12 = .ok (.iconst 1, 1) := by decide +kernel
theorem dX2_isDigit_13 : decode cX2_isDigit 13 = .ok (.goto 4, 3) := by decide +kernel
theorem dX2_isDigit_16 : decode cX2_isDigit 16 = .ok (.iconst 0, 1) := by decide +kernel
theorem dX2_isDigit_17 : decode cX2_isDigit 17 = .ok (.ireturn, 1) := by decide +kernel
theorem dX2_isLetter_0 : decode cX2_isLetter 0 = .ok (.iload_n 0, 1) := by decide +kernel
theorem dX2_isLetter_1 : decode cX2_isLetter 1 = .ok (.bipush 97, 2) := by decide +kernel
theorem dX2_isLetter_3 : decode cX2_isLetter 3 = .ok (.if_icmp .lt 13, 3) := by decide +kernel
theorem dX2_isLetter_6 : decode cX2_isLetter 6 = .ok (.iload_n 0, 1) := by decide +kernel
theorem dX2_isLetter_7 : decode cX2_isLetter 7 = .ok (.bipush 122, 2) := by decide +kernel
theorem dX2_isLetter_9 : decode cX2_isLetter 9 = .ok (.if_icmp .gt 7, 3) := by decide +kernel
theorem dX2_isLetter_12 : decode cX2_isLetter 12 = .ok (.iconst 1, 1) := by decide +kernel
theorem dX2_isLetter_13 : decode cX2_isLetter 13 = .ok (.goto 4, 3) := by decide +kernel
theorem dX2_isLetter_16 : decode cX2_isLetter 16 = .ok (.iconst 0, 1) := by decide +kernel
theorem dX2_isLetter_17 : decode cX2_isLetter 17 = .ok (.ireturn, 1) := by decide +kernel
theorem dX3_init_0 : decode cX3_init 0 = .ok (.aload_n 0, 1) := by decide +kernel
theorem dX3_init_1 : decode cX3_init 1 = .ok (.invokespecial 3, 3) := by decide +kernel
theorem dX3_init_4 : decode cX3_init 4 = .ok (.aload_n 0, 1) := by decide +kernel
theorem dX3_init_5 : decode cX3_init 5 = .ok (.bipush 13, 2) := by decide +kernel
theorem dX3_init_7 : decode cX3_init 7 = .ok (.newarray .int, 2) := by decide +kernel
theorem dX3_init_9 : decode cX3_init 9 = .ok (.putfield 9, 3) := by decide +kernel
theorem dX3_init_12 : decode cX3_init 12 = .ok (.aload_n 0, 1) := by decide +kernel
theorem dX3_init_13 : decode cX3_init 13 = .ok (.bipush 13, 2) := by decide +kernel
theorem dX3_init_15 : decode cX3_init 15 = .ok (.newarray .int, 2) := by decide +kernel
theorem dX3_init_17 : decode cX3_init 17 = .ok (.putfield 15, 3) := by decide +kernel
theorem dX3_init_20 : decode cX3_init 20 = .ok (.aload_n 0, 1) := by decide +kernel
theorem dX3_init_21 : decode cX3_init 21 = .ok (.bipush 13, 2) := by decide +kernel
theorem dX3_init_23 : decode cX3_init 23 = .ok (.newarray .int, 2) := by decide +kernel
theorem dX3_init_25 : decode cX3_init 25 = .ok (.putfield 18, 3) := by decide +kernel
theorem dX3_init_28 : decode cX3_init 28 = .ok (.aload_n 0, 1) := by decide +kernel
theorem dX3_init_29 : decode cX3_init 29 = .ok (.bipush 13, 2) := by decide +kernel
theorem dX3_init_31 : decode cX3_init 31 = .ok (.newarray .long, 2) := by decide +kernel
theorem dX3_init_33 : decode cX3_init 33 = .ok (.putfield 21, 3) := by decide +kernel
theorem dX3_init_36 : decode cX3_init 36 = .ok (.aload_n 0, 1) := by decide +kernel
theorem dX3_init_37 : decode cX3_init 37 = .ok (.bipush 13, 2) := by decide +kernel
theorem dX3_init_39 : decode cX3_init 39 = .ok (.newarray .long, 2) := by decide +kernel
theorem dX3_init_41 : decode cX3_init 41 = .ok (.putfield 25, 3) := by decide +kernel
theorem dX3_init_44 : decode cX3_init 44 = .ok (.aload_n 0, 1) := by decide +kernel
theorem dX3_init_45 : decode cX3_init 45 = .ok (.bipush 13, 2) := by decide +kernel
theorem dX3_init_47 : decode cX3_init 47 = .ok (.newarray .long, 2) := by decide +kernel
theorem dX3_init_49 : decode cX3_init 49 = .ok (.putfield 28, 3) := by decide +kernel
theorem dX3_init_52 : decode cX3_init 52 = .ok (.aload_n 0, 1) := by decide +kernel
theorem dX3_init_53 : decode cX3_init 53 = .ok (.bipush 13, 2) := by decide +kernel
theorem dX3_init_55 : decode cX3_init 55 = .ok (.newarray .long, 2) := by decide +kernel
theorem dX3_init_57 : decode cX3_init 57 = .ok (.putfield 31, 3) := by decide +kernel
theorem dX3_init_60 : decode cX3_init 60 = .ok (.return_, 1) := by decide +kernel
theorem dX3_forget_0 : decode cX3_forget 0 = .ok (.iconst 0, 1) := by decide +kernel
theorem dX3_forget_1 : decode cX3_forget 1 = .ok (.istore_n 1, 1) := by decide +kernel
theorem dX3_forget_2 : decode cX3_forget 2 = .ok (.iload_n 1, 1) := by decide +kernel
theorem dX3_forget_3 : decode cX3_forget 3 = .ok (.bipush 13, 2) := by decide +kernel
theorem dX3_forget_5 : decode cX3_forget 5 = .ok (.if_icmp .ge 23, 3) := by decide +kernel
theorem dX3_forget_8 : decode cX3_forget 8 = .ok (.aload_n 0, 1) := by decide +kernel
theorem dX3_forget_9 : decode cX3_forget 9 = .ok (.getfield 9, 3) := by decide +kernel
theorem dX3_forget_12 : decode cX3_forget 12 = .ok (.iload_n 1, 1) := by decide +kernel
theorem dX3_forget_13 : decode cX3_forget 13 = .ok (.iconst 0, 1) := by decide +kernel
theorem dX3_forget_14 : decode cX3_forget 14 = .ok (.iastore, 1) := by decide +kernel
theorem dX3_forget_15 : decode cX3_forget 15 = .ok (.aload_n 0, 1) := by decide +kernel
theorem dX3_forget_16 : decode cX3_forget 16 = .ok (.getfield 15, 3) := by decide +kernel
theorem dX3_forget_19 : decode cX3_forget 19 = .ok (.iload_n 1, 1) := by decide +kernel
theorem dX3_forget_20 : decode cX3_forget 20 = .ok (.iconst 0, 1) := by decide +kernel
theorem dX3_forget_21 : decode cX3_forget 21 = .ok (.iastore, 1) := by decide +kernel
theorem dX3_forget_22 : decode cX3_forget 22 = .ok (.iinc 1 1, 3) := by decide +kernel
theorem dX3_forget_25 : decode cX3_forget 25 = .ok (.goto (-23), 3) := by decide +kernel
theorem dX3_forget_28 : decode cX3_forget 28 = .ok (.return_, 1) := by decide +kernel
theorem dX3_setTenths_0 : decode cX3_setTenths 0 = .ok (.iload_n 1, 1) := by decide +kernel
theorem dX3_setTenths_1 : decode cX3_setTenths 1 = .ok (.invokestatic 34, 3) := by decide +kernel
theorem dX3_setTenths_4 : decode cX3_setTenths 4 = .ok (.ifCond .eq 10, 3) := by decide +kernel
theorem dX3_setTenths_7 : decode cX3_setTenths 7 = .ok (.aload_n 0, 1) := by decide +kernel
theorem dX3_setTenths_8 : decode cX3_setTenths 8 = .ok (.getfield 15, 3) := by decide +kernel
theorem dX3_setTenths_11 : decode cX3_setTenths 11 = .ok (.iload_n 1, 1) := by decide +kernel
theorem dX3_setTenths_12 : decode cX3_setTenths 12 = .ok (.iload_n 2, 1) := by decide +kernel
theorem dX3_setTenths_13 : decode cX3_setTenths 13 = .ok (.iastore, 1) := by decide +kernel
theorem dX3_setTenths_14 : decode cX3_setTenths 14 = .ok (.return_, 1) := by decide +kernel
theorem dX3_join_0 : decode cX3_join 0 = .ok (.iload_n 1, 1) := by decide +kernel
theorem dX3_join_1 : decode cX3_join 1 = .ok (.invokestatic 34, 3) := by decide +kernel
theorem dX3_join_4 : decode cX3_join 4 = .ok (.ifCond .eq 22, 3) := by decide +kernel
theorem dX3_join_7 : decode cX3_join 7 = .ok (.iload_n 2, 1) := by decide +kernel
theorem dX3_join_8 : decode cX3_join 8 = .ok (.invokestatic 34, 3) := by decide +kernel
theorem dX3_join_11 : decode cX3_join 11 = .ok (.ifCond .eq 15, 3) := by decide +kernel
theorem dX3_join_14 : decode cX3_join 14 = .ok (.aload_n 0, 1) := by decide +kernel
theorem dX3_join_15 : decode cX3_join 15 = .ok (.getfield 9, 3) := by decide +kernel
theorem dX3_join_18 : decode cX3_join 18 = .ok (.iload_n 1, 1) := by decide +kernel
theorem dX3_join_19 : decode cX3_join 19 = .ok (.dup2, 1) := by decide +kernel
theorem dX3_join_20 : decode cX3_join 20 = .ok (.iaload, 1) := by decide +kernel
theorem dX3_join_21 : decode cX3_join 21 = .ok (.iconst 1, 1) := by decide +kernel
theorem dX3_join_22 : decode cX3_join 22 = .ok (.iload_n 2, 1) := by decide +kernel
theorem dX3_join_23 : decode cX3_join 23 = .ok (.ishl, 1) := by decide +kernel
theorem dX3_join_24 : decode cX3_join 24 = .ok (.ior, 1) := by decide +kernel
theorem dX3_join_25 : decode cX3_join 25 = .ok (.iastore, 1) := by decide +kernel
theorem dX3_join_26 : decode cX3_join 26 = .ok (.return_, 1) := by decide +kernel
theorem dX3_oddsOf_0 : decode cX3_oddsOf 0 = .ok (.iload_n 1, 1) := by decide +kernel
theorem dX3_oddsOf_1 : decode cX3_oddsOf 1 = .ok (.invokestatic 34, 3) := by decide +kernel
theorem dX3_oddsOf_4 : decode cX3_oddsOf 4 = .ok (.ifCond .eq 12, 3) := by decide +kernel
theorem dX3_oddsOf_7 : decode cX3_oddsOf 7 = .ok (.aload_n 0, 1) := by decide +kernel
theorem dX3_oddsOf_8 : decode cX3_oddsOf 8 = .ok (.getfield 21, 3) := by decide +kernel
theorem dX3_oddsOf_11 : decode cX3_oddsOf 11 = .ok (.iload_n 1, 1) := by decide +kernel
theorem dX3_oddsOf_12 : decode cX3_oddsOf 12 = .ok (.laload, 1) := by decide +kernel
theorem dX3_oddsOf_13 : decode cX3_oddsOf 13 = .ok (.goto 4, 3) := by decide +kernel
theorem dX3_oddsOf_16 : decode cX3_oddsOf 16 = .ok (.lconst 0, 1) := by decide +kernel
theorem dX3_oddsOf_17 : decode cX3_oddsOf 17 = .ok (.lreturn, 1) := by decide +kernel
theorem dX3_stepsTo_0 : decode cX3_stepsTo 0 = .ok (.iload_n 1, 1) := by decide +kernel
theorem dX3_stepsTo_1 : decode cX3_stepsTo 1 = .ok (.invokestatic 34, 3) := by decide +kernel
theorem dX3_stepsTo_4 : decode cX3_stepsTo 4 = .ok (.ifCond .eq 12, 3) := by decide +kernel
theorem dX3_stepsTo_7 : decode cX3_stepsTo 7 = .ok (.aload_n 0, 1) := by decide +kernel
theorem dX3_stepsTo_8 : decode cX3_stepsTo 8 = .ok (.getfield 18, 3) := by decide +kernel
theorem dX3_stepsTo_11 : decode cX3_stepsTo 11 = .ok (.iload_n 1, 1) := by decide +kernel
theorem dX3_stepsTo_12 : decode cX3_stepsTo 12 = .ok (.iaload, 1) := by decide +kernel
theorem dX3_stepsTo_13 : decode cX3_stepsTo 13 = .ok (.goto 4, 3) := by decide +kernel
theorem dX3_stepsTo_16 : decode cX3_stepsTo 16 = .ok (.iconst 0, 1) := by decide +kernel
theorem dX3_stepsTo_17 : decode cX3_stepsTo 17 = .ok (.ireturn, 1) := by decide +kernel
theorem dX3_flood_0 : decode cX3_flood 0 = .ok (.iload_n 2, 1) := by decide +kernel
theorem dX3_flood_1 : decode cX3_flood 1 = .ok (.aload_n 0, 1) := by decide +kernel
theorem dX3_flood_2 : decode cX3_flood 2 = .ok (.invokevirtual 38, 3) := by decide +kernel
theorem dX3_flood_5 : decode cX3_flood 5 = .ok (.iand, 1) := by decide +kernel
theorem dX3_flood_6 : decode cX3_flood 6 = .ok (.istore_n 3, 1) := by decide +kernel
theorem dX3_flood_7 : decode cX3_flood 7 = .ok (.iload_n 1, 1) := by decide +kernel
theorem dX3_flood_8 : decode cX3_flood 8 = .ok (.invokestatic 34, 3) := by decide +kernel
theorem dX3_flood_11 : decode cX3_flood 11 = .ok (.ifCond .eq 9, 3) := by decide +kernel
theorem dX3_flood_14 : decode cX3_flood 14 = .ok (.iconst 1, 1) := by decide +kernel
theorem dX3_flood_15 : decode cX3_flood 15 = .ok (.iload_n 1, 1) := by decide +kernel
theorem dX3_flood_16 : decode cX3_flood 16 = .ok (.ishl, 1) := by decide +kernel
theorem dX3_flood_17 : decode cX3_flood 17 = .ok (.goto 4, 3) := by decide +kernel
theorem dX3_flood_20 : decode cX3_flood 20 = .ok (.iconst 0, 1) := by decide +kernel
theorem dX3_flood_21 : decode cX3_flood 21 = .ok (.istore 4, 2) := by decide +kernel
theorem dX3_flood_23 : decode cX3_flood 23 = .ok (.iload 4, 2) := by decide +kernel
theorem dX3_flood_25 : decode cX3_flood 25 = .ok (.istore 5, 2) := by decide +kernel
theorem dX3_flood_27 : decode cX3_flood 27 = .ok (.iconst 0, 1) := by decide +kernel
theorem dX3_flood_28 : decode cX3_flood 28 = .ok (.istore 6, 2) := by decide +kernel
theorem dX3_flood_30 : decode cX3_flood 30 = .ok (.iload 6, 2) := by decide +kernel
theorem dX3_flood_32 : decode cX3_flood 32 = .ok (.bipush 13, 2) := by decide +kernel
theorem dX3_flood_34 : decode cX3_flood 34 = .ok (.if_icmp .ge 72, 3) := by decide +kernel
theorem dX3_flood_37 : decode cX3_flood 37 = .ok (.iload 5, 2) := by decide +kernel
theorem dX3_flood_39 : decode cX3_flood 39 = .ok (.ifCond .eq 67, 3) := by decide +kernel
theorem dX3_flood_42 : decode cX3_flood 42 = .ok (.iload 5, 2) := by decide +kernel
theorem dX3_flood_44 : decode cX3_flood 44 = .ok (.invokestatic 42, 3) := by decide +kernel
theorem dX3_flood_47 : decode cX3_flood 47 = .ok (.istore 7, 2) := by decide +kernel
theorem dX3_flood_49 : decode cX3_flood 49 = .ok (.iload 5, 2) := by decide +kernel
theorem dX3_flood_51 : decode cX3_flood 51 = .ok (.iload 5, 2) := by decide +kernel
theorem dX3_flood_53 : decode cX3_flood 53 = .ok (.iconst 1, 1) := by decide +kernel
theorem dX3_flood_54 : decode cX3_flood 54 = .ok (.isub, 1) := by decide +kernel
theorem dX3_flood_55 : decode cX3_flood 55 = .ok (.iand, 1) := by decide +kernel
theorem dX3_flood_56 : decode cX3_flood 56 = .ok (.istore 5, 2) := by decide +kernel
theorem dX3_flood_58 : decode cX3_flood 58 = .ok (.iload 7, 2) := by decide +kernel
theorem dX3_flood_60 : decode cX3_flood 60 = .ok (.invokestatic 34, 3) := by decide +kernel
theorem dX3_flood_63 : decode cX3_flood 63 = .ok (.ifCond .eq 20, 3) := by decide +kernel
theorem dX3_flood_66 : decode cX3_flood 66 = .ok (.aload_n 0, 1) := by decide +kernel
theorem dX3_flood_67 : decode cX3_flood 67 = .ok (.getfield 9, 3) := by decide +kernel
theorem dX3_flood_70 : decode cX3_flood 70 = .ok (.iload 7, 2) := by decide +kernel
theorem dX3_flood_72 : decode cX3_flood 72 = .ok (.iaload, 1) := by decide +kernel
theorem dX3_flood_73 : decode cX3_flood 73 = .ok (.iload_n 3, 1) := by decide +kernel
theorem dX3_flood_74 : decode cX3_flood 74 = .ok (.iand, 1) := by decide +kernel
theorem dX3_flood_75 : decode cX3_flood 75 = .ok (.iload 4, 2) := by decide +kernel
theorem dX3_flood_77 : decode cX3_flood 77 = .ok (.iconst (-1), 1) := by decide +kernel
theorem dX3_flood_78 : decode cX3_flood 78 = .ok (.ixor, 1) := by decide +kernel
theorem dX3_flood_79 : decode cX3_flood 79 = .ok (.iand, 1) := by decide +kernel
theorem dX3_flood_80 : decode cX3_flood 80 = .ok (.goto 4, 3) := by decide +kernel
theorem dX3_flood_83 : decode cX3_flood 83 = .ok (.iconst 0, 1) := by decide +kernel
theorem dX3_flood_84 : decode cX3_flood 84 = .ok (.istore 8, 2) := by decide +kernel
theorem dX3_flood_86 : decode cX3_flood 86 = .ok (.iload 4, 2) := by decide +kernel
theorem dX3_flood_88 : decode cX3_flood 88 = .ok (.iload 8, 2) := by decide +kernel
theorem dX3_flood_90 : decode cX3_flood 90 = .ok (.ior, 1) := by decide +kernel
theorem dX3_flood_91 : decode cX3_flood 91 = .ok (.istore 4, 2) := by decide +kernel
theorem dX3_flood_93 : decode cX3_flood 93 = .ok (.iload 5, 2) := by decide +kernel
theorem dX3_flood_95 : decode cX3_flood 95 = .ok (.iload 8, 2) := by decide +kernel
theorem dX3_flood_97 : decode cX3_flood 97 = .ok (.ior, 1) := by decide +kernel
theorem dX3_flood_98 : decode cX3_flood 98 = .ok (.istore 5, 2) := by decide +kernel
theorem dX3_flood_100 : decode cX3_flood 100 = .ok (.iinc 6 1, 3) := by decide +kernel
theorem dX3_flood_103 : decode cX3_flood 103 = .ok (.goto (-73), 3) := by decide +kernel
theorem dX3_flood_106 : decode cX3_flood 106 = .ok (.iload 4, 2) := by decide +kernel
theorem dX3_flood_108 : decode cX3_flood 108 = .ok (.ireturn, 1) := by decide +kernel
theorem dX3_firm_0 : decode cX3_firm 0 = .ok (.iconst 0, 1) := by decide +kernel
theorem dX3_firm_1 : decode cX3_firm 1 = .ok (.istore_n 1, 1) := by decide +kernel
theorem dX3_firm_2 : decode cX3_firm 2 = .ok (.iconst 0, 1) := by decide +kernel
theorem dX3_firm_3 : decode cX3_firm 3 = .ok (.istore_n 2, 1) := by decide +kernel
theorem dX3_firm_4 : decode cX3_firm 4 = .ok (.iload_n 2, 1) := by decide +kernel
theorem dX3_firm_5 : decode cX3_firm 5 = .ok (.bipush 13, 2) := by decide +kernel
theorem dX3_firm_7 : decode cX3_firm 7 = .ok (.if_icmp .ge 24, 3) := by decide +kernel
theorem dX3_firm_10 : decode cX3_firm 10 = .ok (.aload_n 0, 1) := by decide +kernel
theorem dX3_firm_11 : decode cX3_firm 11 = .ok (.getfield 15, 3) := by decide +kernel
theorem dX3_firm_14 : decode cX3_firm 14 = .ok (.iload_n 2, 1) := by decide +kernel
theorem dX3_firm_15 : decode cX3_firm 15 = .ok (.iaload, 1) := by decide +kernel
theorem dX3_firm_16 : decode cX3_firm 16 = .ok (.ifCond .le 9, 3) := by decide +kernel
theorem dX3_firm_19 : decode cX3_firm 19 = .ok (.iload_n 1, 1) := by decide +kernel
theorem dX3_firm_20 : decode cX3_firm 20 = .ok (.iconst 1, 1) := by decide +kernel
theorem dX3_firm_21 : decode cX3_firm 21 = .ok (.iload_n 2, 1) := by decide +kernel
theorem dX3_firm_22 : decode cX3_firm 22 = .ok (.ishl, 1) := by decide +kernel
theorem dX3_firm_23 : decode cX3_firm 23 = .ok (.ior, 1) := by decide +kernel
theorem dX3_firm_24 : decode cX3_firm 24 = .ok (.istore_n 1, 1) := by decide +kernel
theorem dX3_firm_25 : decode cX3_firm 25 = .ok (.iinc 2 1, 3) := by decide +kernel
theorem dX3_firm_28 : decode cX3_firm 28 = .ok (.goto (-24), 3) := by decide +kernel
theorem dX3_firm_31 : decode cX3_firm 31 = .ok (.iload_n 1, 1) := by decide +kernel
theorem dX3_firm_32 : decode cX3_firm 32 = .ok (.ireturn, 1) := by decide +kernel
theorem dX3_weigh_0 : decode cX3_weigh 0 = .ok (.iconst 0, 1) := by decide +kernel
theorem dX3_weigh_1 : decode cX3_weigh 1 = .ok (.istore_n 2, 1) := by decide +kernel
theorem dX3_weigh_2 : decode cX3_weigh 2 = .ok (.iload_n 2, 1) := by decide +kernel
theorem dX3_weigh_3 : decode cX3_weigh 3 = .ok (.bipush 13, 2) := by decide +kernel
theorem dX3_weigh_5 : decode cX3_weigh 5 = .ok (.if_icmp .ge 46, 3) := by decide +kernel
theorem dX3_weigh_8 : decode cX3_weigh 8 = .ok (.aload_n 0, 1) := by decide +kernel
theorem dX3_weigh_9 : decode cX3_weigh 9 = .ok (.getfield 28, 3) := by decide +kernel
theorem dX3_weigh_12 : decode cX3_weigh 12 = .ok (.iload_n 2, 1) := by decide +kernel
theorem dX3_weigh_13 : decode cX3_weigh 13 = .ok (.iload_n 2, 1) := by decide +kernel
theorem dX3_weigh_14 : decode cX3_weigh 14 = .ok (.iload_n 1, 1) := by decide +kernel
theorem dX3_weigh_15 : decode cX3_weigh 15 = .ok (.if_icmp .ne 9, 3) := by decide +kernel
theorem dX3_weigh_18 : decode cX3_weigh 18 = .ok (.ldc2_w 48, 3) := by decide +kernel
theorem dX3_weigh_21 : decode cX3_weigh 21 = .ok (.goto 4, 3) := by decide +kernel
theorem dX3_weigh_24 : decode cX3_weigh 24 = .ok (.lconst 0, 1) := by decide +kernel
theorem dX3_weigh_25 : decode cX3_weigh 25 = .ok (.lastore, 1) := by decide +kernel
theorem dX3_weigh_26 : decode cX3_weigh 26 = .ok (.aload_n 0, 1) := by decide +kernel
theorem dX3_weigh_27 : decode cX3_weigh 27 = .ok (.getfield 21, 3) := by decide +kernel
theorem dX3_weigh_30 : decode cX3_weigh 30 = .ok (.iload_n 2, 1) := by decide +kernel
theorem dX3_weigh_31 : decode cX3_weigh 31 = .ok (.aload_n 0, 1) := by decide +kernel
theorem dX3_weigh_32 : decode cX3_weigh 32 = .ok (.getfield 28, 3) := by decide +kernel
theorem dX3_weigh_35 : decode cX3_weigh 35 = .ok (.iload_n 2, 1) := by decide +kernel
theorem dX3_weigh_36 : decode cX3_weigh 36 = .ok (.laload, 1) := by decide +kernel
theorem dX3_weigh_37 : decode cX3_weigh 37 = .ok (.lastore, 1) := by decide +kernel
theorem dX3_weigh_38 : decode cX3_weigh 38 = .ok (.aload_n 0, 1) := by decide +kernel
theorem dX3_weigh_39 : decode cX3_weigh 39 = .ok (.getfield 18, 3) := by decide +kernel
theorem dX3_weigh_42 : decode cX3_weigh 42 = .ok (.iload_n 2, 1) := by decide +kernel
theorem dX3_weigh_43 : decode cX3_weigh 43 = .ok (.iconst 0, 1) := by decide +kernel
theorem dX3_weigh_44 : decode cX3_weigh 44 = .ok (.iastore, 1) := by decide +kernel
theorem dX3_weigh_45 : decode cX3_weigh 45 = .ok (.iinc 2 1, 3) := by decide +kernel
theorem dX3_weigh_48 : decode cX3_weigh 48 = .ok (.goto (-46), 3) := by decide +kernel
theorem dX3_weigh_51 : decode cX3_weigh 51 = .ok (.iconst 1, 1) := by decide +kernel
theorem dX3_weigh_52 : decode cX3_weigh 52 = .ok (.istore_n 2, 1) := by decide +kernel
theorem dX3_weigh_53 : decode cX3_weigh 53 = .ok (.iload_n 2, 1) := by decide +kernel
theorem dX3_weigh_54 : decode cX3_weigh 54 = .ok (.bipush 13, 2) := by decide +kernel
theorem dX3_weigh_56 : decode cX3_weigh 56 = .ok (.if_icmp .ge 87, 3) := by decide +kernel
theorem dX3_weigh_59 : decode cX3_weigh 59 = .ok (.iconst 0, 1) := by decide +kernel
theorem dX3_weigh_60 : decode cX3_weigh 60 = .ok (.istore_n 3, 1) := by decide +kernel
theorem dX3_weigh_61 : decode cX3_weigh 61 = .ok (.iload_n 3, 1) := by decide +kernel
theorem dX3_weigh_62 : decode cX3_weigh 62 = .ok (.bipush 13, 2) := by decide +kernel
theorem dX3_weigh_64 : decode cX3_weigh 64 = .ok (.if_icmp .ge 55, 3) := by decide +kernel
theorem dX3_weigh_67 : decode cX3_weigh 67 = .ok (.aload_n 0, 1) := by decide +kernel
theorem dX3_weigh_68 : decode cX3_weigh 68 = .ok (.getfield 31, 3) := by decide +kernel
theorem dX3_weigh_71 : decode cX3_weigh 71 = .ok (.iload_n 3, 1) := by decide +kernel
theorem dX3_weigh_72 : decode cX3_weigh 72 = .ok (.aload_n 0, 1) := by decide +kernel
theorem dX3_weigh_73 : decode cX3_weigh 73 = .ok (.iload_n 3, 1) := by decide +kernel
theorem dX3_weigh_74 : decode cX3_weigh 74 = .ok (.invokevirtual 50, 3) := by decide +kernel
theorem dX3_weigh_77 : decode cX3_weigh 77 = .ok (.lastore, 1) := by decide +kernel
theorem dX3_weigh_78 : decode cX3_weigh 78 = .ok (.aload_n 0, 1) := by decide +kernel
theorem dX3_weigh_79 : decode cX3_weigh 79 = .ok (.getfield 31, 3) := by decide +kernel
theorem dX3_weigh_82 : decode cX3_weigh 82 = .ok (.iload_n 3, 1) := by decide +kernel
theorem dX3_weigh_83 : decode cX3_weigh 83 = .ok (.laload, 1) := by decide +kernel
theorem dX3_weigh_84 : decode cX3_weigh 84 = .ok (.aload_n 0, 1) := by decide +kernel
theorem dX3_weigh_85 : decode cX3_weigh 85 = .ok (.getfield 21, 3) := by decide +kernel
theorem dX3_weigh_88 : decode cX3_weigh 88 = .ok (.iload_n 3, 1) := by decide +kernel
theorem dX3_weigh_89 : decode cX3_weigh 89 = .ok (.laload, 1) := by decide +kernel
theorem dX3_weigh_90 : decode cX3_weigh 90 = .ok (.lcmp, 1) := by decide +kernel
theorem dX3_weigh_91 : decode cX3_weigh 91 = .ok (.ifCond .le 22, 3) := by decide +kernel
theorem dX3_weigh_94 : decode cX3_weigh 94 = .ok (.aload_n 0, 1) := by decide +kernel
theorem dX3_weigh_95 : decode cX3_weigh 95 = .ok (.getfield 21, 3) := by decide +kernel
theorem dX3_weigh_98 : decode cX3_weigh 98 = .ok (.iload_n 3, 1) := by decide +kernel
theorem dX3_weigh_99 : decode cX3_weigh 99 = .ok (.aload_n 0, 1) := by decide +kernel
theorem dX3_weigh_100 : decode cX3_weigh 100 = .ok (.getfield 31, 3) := by decide +kernel
theorem dX3_weigh_103 : decode cX3_weigh 103 = .ok (.iload_n 3, 1) := by decide +kernel
theorem dX3_weigh_104 : decode cX3_weigh 104 = .ok (.laload, 1) := by decide +kernel
theorem dX3_weigh_105 : decode cX3_weigh 105 = .ok (.lastore, 1) := by decide +kernel
theorem dX3_weigh_106 : decode cX3_weigh 106 = .ok (.aload_n 0, 1) := by decide +kernel
theorem dX3_weigh_107 : decode cX3_weigh 107 = .ok (.getfield 18, 3) := by decide +kernel
theorem dX3_weigh_110 : decode cX3_weigh 110 = .ok (.iload_n 3, 1) := by decide +kernel
theorem dX3_weigh_111 : decode cX3_weigh 111 = .ok (.iload_n 2, 1) := by decide +kernel
theorem dX3_weigh_112 : decode cX3_weigh 112 = .ok (.iastore, 1) := by decide +kernel
theorem dX3_weigh_113 : decode cX3_weigh 113 = .ok (.iinc 3 1, 3) := by decide +kernel
theorem dX3_weigh_116 : decode cX3_weigh 116 = .ok (.goto (-55), 3) := by decide +kernel
theorem dX3_weigh_119 : decode cX3_weigh 119 = .ok (.aload_n 0, 1) := by decide +kernel
theorem dX3_weigh_120 : decode cX3_weigh 120 = .ok (.getfield 28, 3) := by decide +kernel
theorem dX3_weigh_123 : decode cX3_weigh 123 = .ok (.astore_n 3, 1) := by decide +kernel
theorem dX3_weigh_124 : decode cX3_weigh 124 = .ok (.aload_n 0, 1) := by decide +kernel
theorem dX3_weigh_125 : decode cX3_weigh 125 = .ok (.aload_n 0, 1) := by decide +kernel
theorem dX3_weigh_126 : decode cX3_weigh 126 = .ok (.getfield 31, 3) := by decide +kernel
theorem dX3_weigh_129 : decode cX3_weigh 129 = .ok (.putfield 28, 3) := by decide +kernel
theorem dX3_weigh_132 : decode cX3_weigh 132 = .ok (.aload_n 0, 1) := by decide +kernel
theorem dX3_weigh_133 : decode cX3_weigh 133 = .ok (.aload_n 3, 1) := by decide +kernel
theorem dX3_weigh_134 : decode cX3_weigh 134 = .ok (.putfield 31, 3) := by decide +kernel
theorem dX3_weigh_137 : decode cX3_weigh 137 = .ok (.iinc 2 1, 3) := by decide +kernel
theorem dX3_weigh_140 : decode cX3_weigh 140 = .ok (.goto (-87), 3) := by decide +kernel
theorem dX3_weigh_143 : decode cX3_weigh 143 = .ok (.return_, 1) := by decide +kernel
theorem dX3_bestInto_0 : decode cX3_bestInto 0 = .ok (.iload_n 1, 1) := by decide +kernel
theorem dX3_bestInto_1 : decode cX3_bestInto 1 = .ok (.invokestatic 34, 3) := by decide +kernel
theorem dX3_bestInto_4 : decode cX3_bestInto 4 = .ok (.ifCond .ne 5, 3) := by decide +kernel
theorem dX3_bestInto_7 : decode cX3_bestInto 7 = .ok (.lconst 0, 1) := by decide +kernel
theorem dX3_bestInto_8 : decode cX3_bestInto 8 = .ok (.lreturn, 1) := by decide +kernel
theorem dX3_bestInto_9 : decode cX3_bestInto 9 = .ok (.lconst 0, 1) := by decide +kernel
theorem dX3_bestInto_10 : decode cX3_bestInto 10 = .ok (.lstore_n 2, 1) := by decide +kernel
theorem dX3_bestInto_11 : decode cX3_bestInto 11 = .ok (.iconst 0, 1) := by decide +kernel
theorem dX3_bestInto_12 : decode cX3_bestInto 12 = .ok (.istore 4, 2) := by decide +kernel
theorem dX3_bestInto_14 : decode cX3_bestInto 14 = .ok (.iload 4, 2) := by decide +kernel
theorem dX3_bestInto_16 : decode cX3_bestInto 16 = .ok (.bipush 13, 2) := by decide +kernel
theorem dX3_bestInto_18 : decode cX3_bestInto 18 = .ok (.if_icmp .ge 35, 3) := by decide +kernel
theorem dX3_bestInto_21 : decode cX3_bestInto 21 = .ok (.aload_n 0, 1) := by decide +kernel
theorem dX3_bestInto_22 : decode cX3_bestInto 22 = .ok (.getfield 9, 3) := by decide +kernel
theorem dX3_bestInto_25 : decode cX3_bestInto 25 = .ok (.iload 4, 2) := by decide +kernel
theorem dX3_bestInto_27 : decode cX3_bestInto 27 = .ok (.iaload, 1) := by decide +kernel
theorem dX3_bestInto_28 : decode cX3_bestInto 28 = .ok (.iload_n 1, 1) := by decide +kernel
theorem dX3_bestInto_29 : decode cX3_bestInto 29 = .ok (.invokestatic 54, 3) := by decide +kernel
theorem dX3_bestInto_32 : decode cX3_bestInto 32 = .ok (.ifCond .eq 15, 3) := by decide +kernel
theorem dX3_bestInto_35 : decode cX3_bestInto 35 = .ok (.lload_n 2, 1) := by decide +kernel
theorem dX3_bestInto_36 : decode cX3_bestInto 36 = .ok (.aload_n 0, 1) := by decide +kernel
theorem dX3_bestInto_37 : decode cX3_bestInto 37 = .ok (.getfield 28, 3) := by decide +kernel
theorem dX3_bestInto_40 : decode cX3_bestInto 40 = .ok (.iload 4, 2) := by decide +kernel
theorem dX3_bestInto_42 : decode cX3_bestInto 42 = .ok (.laload, 1) := by decide +kernel
theorem dX3_bestInto_43 : decode cX3_bestInto 43 = .ok (.invokestatic 58, 3) := by decide +kernel
theorem dX3_bestInto_46 : decode cX3_bestInto 46 = .ok (.lstore_n 2, 1) := by decide +kernel
theorem dX3_bestInto_47 : decode cX3_bestInto 47 = .ok (.iinc 4 1, 3) := by decide +kernel
theorem dX3_bestInto_50 : decode cX3_bestInto 50 = .ok (.goto (-36), 3) := by decide +kernel
theorem dX3_bestInto_53 : decode cX3_bestInto 53 = .ok (.lload_n 2, 1) := by decide +kernel
theorem dX3_bestInto_54 : decode cX3_bestInto 54 = .ok (.aload_n 0, 1) := by decide +kernel
theorem dX3_bestInto_55 : decode cX3_bestInto 55 = .ok (.getfield 15, 3) := by decide +kernel
theorem dX3_bestInto_58 : decode cX3_bestInto 58 = .ok (.iload_n 1, 1) := by decide +kernel
theorem dX3_bestInto_59 : decode cX3_bestInto 59 = .ok (.iaload, 1) := by decide +kernel
theorem dX3_bestInto_60 : decode cX3_bestInto 60 = .ok (.i2l, 1) := by decide +kernel
theorem dX3_bestInto_61 : decode cX3_bestInto 61 = .ok (.lmul, 1) := by decide +kernel
theorem dX3_bestInto_62 : decode cX3_bestInto 62 = .ok (.ldc2_w 64, 3) := by decide +kernel
theorem dX3_bestInto_65 : decode cX3_bestInto 65 = .ok (.ldiv, 1) := by decide +kernel
theorem dX3_bestInto_66 : decode cX3_bestInto 66 = .ok (.lreturn, 1) := by decide +kernel
theorem dX3_ascents_0 : decode cX3_ascents 0 = .ok (.aload_n 1, 1) := by decide +kernel
theorem dX3_ascents_1 : decode cX3_ascents 1 = .ok (.iload_n 2, 1) := by decide +kernel
theorem dX3_ascents_2 : decode cX3_ascents 2 = .ok (.bipush 12, 2) := by decide +kernel
theorem dX3_ascents_4 : decode cX3_ascents 4 = .ok (.iload_n 3, 1) := by decide +kernel
theorem dX3_ascents_5 : decode cX3_ascents 5 = .ok (.invokestatic 66, 3) := by decide +kernel
theorem dX3_ascents_8 : decode cX3_ascents 8 = .ok (.ifCond .eq 5, 3) := by decide +kernel
theorem dX3_ascents_11 : decode cX3_ascents 11 = .ok (.lconst 0, 1) := by decide +kernel
theorem dX3_ascents_12 : decode cX3_ascents 12 = .ok (.lreturn, 1) := by decide +kernel
theorem dX3_ascents_13 : decode cX3_ascents 13 = .ok (.iconst 0, 1) := by decide +kernel
theorem dX3_ascents_14 : decode cX3_ascents 14 = .ok (.istore 4, 2) := by decide +kernel
theorem dX3_ascents_16 : decode cX3_ascents 16 = .ok (.iload 4, 2) := by decide +kernel
theorem dX3_ascents_18 : decode cX3_ascents 18 = .ok (.bipush 13, 2) := by decide +kernel
theorem dX3_ascents_20 : decode cX3_ascents 20 = .ok (.if_icmp .ge 26, 3) := by decide +kernel
theorem dX3_ascents_23 : decode cX3_ascents 23 = .ok (.aload_n 0, 1) := by decide +kernel
theorem dX3_ascents_24 : decode cX3_ascents 24 = .ok (.getfield 25, 3) := by decide +kernel
theorem dX3_ascents_27 : decode cX3_ascents 27 = .ok (.iload 4, 2) := by decide +kernel
theorem dX3_ascents_29 : decode cX3_ascents 29 = .ok (.iload 4, 2) := by decide +kernel
theorem dX3_ascents_31 : decode cX3_ascents 31 = .ok (.ifCond .ne 7, 3) := by decide +kernel
theorem dX3_ascents_34 : decode cX3_ascents 34 = .ok (.lconst 1, 1) := by decide +kernel
theorem dX3_ascents_35 : decode cX3_ascents 35 = .ok (.goto 4, 3) := by decide +kernel
theorem dX3_ascents_38 : decode cX3_ascents 38 = .ok (.lconst 0, 1) := by decide +kernel
theorem dX3_ascents_39 : decode cX3_ascents 39 = .ok (.lastore, 1) := by decide +kernel
theorem dX3_ascents_40 : decode cX3_ascents 40 = .ok (.iinc 4 1, 3) := by decide +kernel
theorem dX3_ascents_43 : decode cX3_ascents 43 = .ok (.goto (-27), 3) := by decide +kernel
theorem dX3_ascents_46 : decode cX3_ascents 46 = .ok (.aload_n 1, 1) := by decide +kernel
theorem dX3_ascents_47 : decode cX3_ascents 47 = .ok (.getfield 70, 3) := by decide +kernel
theorem dX3_ascents_50 : decode cX3_ascents 50 = .ok (.iconst 1, 1) := by decide +kernel
theorem dX3_ascents_51 : decode cX3_ascents 51 = .ok (.isub, 1) := by decide +kernel
theorem dX3_ascents_52 : decode cX3_ascents 52 = .ok (.istore 4, 2) := by decide +kernel
theorem dX3_ascents_54 : decode cX3_ascents 54 = .ok (.iload 4, 2) := by decide +kernel
theorem dX3_ascents_56 : decode cX3_ascents 56 = .ok (.ifCond .lt 44, 3) := by decide +kernel
theorem dX3_ascents_59 : decode cX3_ascents 59 = .ok (.aload_n 1, 1) := by decide +kernel
theorem dX3_ascents_60 : decode cX3_ascents 60 = .ok (.iload 4, 2) := by decide +kernel
theorem dX3_ascents_62 : decode cX3_ascents 62 = .ok (.invokevirtual 76, 3) := by decide +kernel
theorem dX3_ascents_65 : decode cX3_ascents 65 = .ok (.istore 5, 2) := by decide +kernel
theorem dX3_ascents_67 : decode cX3_ascents 67 = .ok (.iload 5, 2) := by decide +kernel
theorem dX3_ascents_69 : decode cX3_ascents 69 = .ok (.iconst 1, 1) := by decide +kernel
theorem dX3_ascents_70 : decode cX3_ascents 70 = .ok (.iadd, 1) := by decide +kernel
theorem dX3_ascents_71 : decode cX3_ascents 71 = .ok (.invokestatic 34, 3) := by decide +kernel
theorem dX3_ascents_74 : decode cX3_ascents 74 = .ok (.ifCond .eq 20, 3) := by decide +kernel
theorem dX3_ascents_77 : decode cX3_ascents 77 = .ok (.aload_n 0, 1) := by decide +kernel
theorem dX3_ascents_78 : decode cX3_ascents 78 = .ok (.getfield 25, 3) := by decide +kernel
theorem dX3_ascents_81 : decode cX3_ascents 81 = .ok (.iload 5, 2) := by decide +kernel
theorem dX3_ascents_83 : decode cX3_ascents 83 = .ok (.iconst 1, 1) := by decide +kernel
theorem dX3_ascents_84 : decode cX3_ascents 84 = .ok (.iadd, 1) := by decide +kernel
theorem dX3_ascents_85 : decode cX3_ascents 85 = .ok (.aload_n 0, 1) := by decide +kernel
theorem dX3_ascents_86 : decode cX3_ascents 86 = .ok (.aload_n 1, 1) := by decide +kernel
theorem dX3_ascents_87 : decode cX3_ascents 87 = .ok (.iload 5, 2) := by decide +kernel
theorem dX3_ascents_89 : decode cX3_ascents 89 = .ok (.iload_n 3, 1) := by decide +kernel
theorem dX3_ascents_90 : decode cX3_ascents 90 = .ok (.invokevirtual 79, 3) := by decide +kernel
theorem dX3_ascents_93 : decode cX3_ascents 93 = .ok (.lastore, 1) := by decide +kernel
theorem dX3_ascents_94 : decode cX3_ascents 94 = .ok (.iinc 4 (-1), 3) := by decide +kernel
theorem dX3_ascents_97 : decode cX3_ascents 97 = .ok (.goto (-43), 3) := by decide +kernel
theorem dX3_ascents_100 : decode cX3_ascents 100 = .ok (.iload_n 2, 1) := by decide +kernel
theorem dX3_ascents_101 : decode cX3_ascents 101 = .ok (.iconst 1, 1) := by decide +kernel
theorem dX3_ascents_102 : decode cX3_ascents 102 = .ok (.iadd, 1) := by decide +kernel
theorem dX3_ascents_103 : decode cX3_ascents 103 = .ok (.invokestatic 34, 3) := by decide +kernel
theorem dX3_ascents_106 : decode cX3_ascents 106 = .ok (.ifCond .eq 14, 3) := by decide +kernel
theorem dX3_ascents_109 : decode cX3_ascents 109 = .ok (.aload_n 0, 1) := by decide +kernel
theorem dX3_ascents_110 : decode cX3_ascents 110 = .ok (.getfield 25, 3) := by decide +kernel
theorem dX3_ascents_113 : decode cX3_ascents 113 = .ok (.iload_n 2, 1) := by decide +kernel
theorem dX3_ascents_114 : decode cX3_ascents 114 = .ok (.iconst 1, 1) := by decide +kernel
theorem dX3_ascents_115 : decode cX3_ascents 115 = .ok (.iadd, 1) := by decide +kernel
theorem dX3_ascents_116 : decode cX3_ascents 116 = .ok (.laload, 1) := by decide +kernel
theorem dX3_ascents_117 : decode cX3_ascents 117 = .ok (.goto 4, 3) := by decide +kernel
theorem dX3_ascents_120 : decode cX3_ascents 120 = .ok (.lconst 0, 1) := by decide +kernel
theorem dX3_ascents_121 : decode cX3_ascents 121 = .ok (.lreturn, 1) := by decide +kernel
theorem dX3_ascentsInto_0 : decode cX3_ascentsInto 0 = .ok (.lconst 0, 1) := by decide +kernel
theorem dX3_ascentsInto_1 : decode cX3_ascentsInto 1 = .ok (.lstore 4, 2) := by decide +kernel
theorem dX3_ascentsInto_3 : decode cX3_ascentsInto 3 = .ok (.iconst (-1), 1) := by decide +kernel
theorem dX3_ascentsInto_4 : decode cX3_ascentsInto 4 = .ok (.istore 6, 2) := by decide +kernel
theorem dX3_ascentsInto_6 : decode cX3_ascentsInto 6 = .ok (.iload 6, 2) := by decide +kernel
theorem dX3_ascentsInto_8 : decode cX3_ascentsInto 8 = .ok (.aload_n 1, 1) := by decide +kernel
theorem dX3_ascentsInto_9 : decode cX3_ascentsInto 9 = .ok (.getfield 70, 3) := by decide +kernel
theorem dX3_ascentsInto_12 : decode cX3_ascentsInto 12 = .ok (.if_icmp .ge 89, 3) := by decide +kernel
theorem dX3_ascentsInto_15 : decode cX3_ascentsInto 15 = .ok (.iload 6, 2) := by decide +kernel
theorem dX3_ascentsInto_17 : decode cX3_ascentsInto 17 = .ok (.iconst 1, 1) := by decide +kernel
theorem dX3_ascentsInto_18 : decode cX3_ascentsInto 18 = .ok (.iadd, 1) := by decide +kernel
theorem dX3_ascentsInto_19 : decode cX3_ascentsInto 19 = .ok (.bipush 13, 2) := by decide +kernel
theorem dX3_ascentsInto_21 : decode cX3_ascentsInto 21 = .ok (.if_icmp .ge 80, 3) := by decide +kernel
theorem dX3_ascentsInto_24 : decode cX3_ascentsInto 24 = .ok (.aload_n 1, 1) := by decide +kernel
theorem dX3_ascentsInto_25 : decode cX3_ascentsInto 25 = .ok (.iload 6, 2) := by decide +kernel
theorem dX3_ascentsInto_27 : decode cX3_ascentsInto 27 = .ok (.iconst 0, 1) := by decide +kernel
theorem dX3_ascentsInto_28 : decode cX3_ascentsInto 28 = .ok (.invokevirtual 83, 3) := by decide +kernel
theorem dX3_ascentsInto_31 : decode cX3_ascentsInto 31 = .ok (.aload_n 1, 1) := by decide +kernel
theorem dX3_ascentsInto_32 : decode cX3_ascentsInto 32 = .ok (.iload_n 2, 1) := by decide +kernel
theorem dX3_ascentsInto_33 : decode cX3_ascentsInto 33 = .ok (.iconst 0, 1) := by decide +kernel
theorem dX3_ascentsInto_34 : decode cX3_ascentsInto 34 = .ok (.invokevirtual 83, 3) := by decide +kernel
theorem dX3_ascentsInto_37 : decode cX3_ascentsInto 37 = .ok (.if_icmp .ge 7, 3) := by decide +kernel
theorem dX3_ascentsInto_40 : decode cX3_ascentsInto 40 = .ok (.iconst 1, 1) := by decide +kernel
theorem dX3_ascentsInto_41 : decode cX3_ascentsInto 41 = .ok (.goto 4, 3) := by decide +kernel
theorem dX3_ascentsInto_44 : decode cX3_ascentsInto 44 = .ok (.iconst 0, 1) := by decide +kernel
theorem dX3_ascentsInto_45 : decode cX3_ascentsInto 45 = .ok (.istore 7, 2) := by decide +kernel
theorem dX3_ascentsInto_47 : decode cX3_ascentsInto 47 = .ok (.iload 7, 2) := by decide +kernel
theorem dX3_ascentsInto_49 : decode cX3_ascentsInto 49 = .ok (.ifCond .eq 46, 3) := by decide +kernel
theorem dX3_ascentsInto_52 : decode cX3_ascentsInto 52 = .ok (.aload_n 0, 1) := by decide +kernel
theorem dX3_ascentsInto_53 : decode cX3_ascentsInto 53 = .ok (.getfield 9, 3) := by decide +kernel
theorem dX3_ascentsInto_56 : decode cX3_ascentsInto 56 = .ok (.iload 6, 2) := by decide +kernel
theorem dX3_ascentsInto_58 : decode cX3_ascentsInto 58 = .ok (.iconst 1, 1) := by decide +kernel
theorem dX3_ascentsInto_59 : decode cX3_ascentsInto 59 = .ok (.iadd, 1) := by decide +kernel
theorem dX3_ascentsInto_60 : decode cX3_ascentsInto 60 = .ok (.iaload, 1) := by decide +kernel
theorem dX3_ascentsInto_61 : decode cX3_ascentsInto 61 = .ok (.iload_n 2, 1) := by decide +kernel
theorem dX3_ascentsInto_62 : decode cX3_ascentsInto 62 = .ok (.iconst 1, 1) := by decide +kernel
theorem dX3_ascentsInto_63 : decode cX3_ascentsInto 63 = .ok (.iadd, 1) := by decide +kernel
theorem dX3_ascentsInto_64 : decode cX3_ascentsInto 64 = .ok (.invokestatic 54, 3) := by decide +kernel
theorem dX3_ascentsInto_67 : decode cX3_ascentsInto 67 = .ok (.ifCond .eq 28, 3) := by decide +kernel
theorem dX3_ascentsInto_70 : decode cX3_ascentsInto 70 = .ok (.aload_n 1, 1) := by decide +kernel
theorem dX3_ascentsInto_71 : decode cX3_ascentsInto 71 = .ok (.iload 6, 2) := by decide +kernel
theorem dX3_ascentsInto_73 : decode cX3_ascentsInto 73 = .ok (.iload_n 2, 1) := by decide +kernel
theorem dX3_ascentsInto_74 : decode cX3_ascentsInto 74 = .ok (.iload_n 3, 1) := by decide +kernel
theorem dX3_ascentsInto_75 : decode cX3_ascentsInto 75 = .ok (.invokestatic 66, 3) := by decide +kernel
theorem dX3_ascentsInto_78 : decode cX3_ascentsInto 78 = .ok (.ifCond .ne 17, 3) := by decide +kernel
theorem dX3_ascentsInto_81 : decode cX3_ascentsInto 81 = .ok (.lload 4, 2) := by decide +kernel
theorem dX3_ascentsInto_83 : decode cX3_ascentsInto 83 = .ok (.aload_n 0, 1) := by decide +kernel
theorem dX3_ascentsInto_84 : decode cX3_ascentsInto 84 = .ok (.getfield 25, 3) := by decide +kernel
theorem dX3_ascentsInto_87 : decode cX3_ascentsInto 87 = .ok (.iload 6, 2) := by decide +kernel
theorem dX3_ascentsInto_89 : decode cX3_ascentsInto 89 = .ok (.iconst 1, 1) := by decide +kernel
theorem dX3_ascentsInto_90 : decode cX3_ascentsInto 90 = .ok (.iadd, 1) := by decide +kernel
theorem dX3_ascentsInto_91 : decode cX3_ascentsInto 91 = .ok (.laload, 1) := by decide +kernel
theorem dX3_ascentsInto_92 : decode cX3_ascentsInto 92 = .ok (.ladd, 1) := by decide +kernel
theorem dX3_ascentsInto_93 : decode cX3_ascentsInto 93 = .ok (.lstore 4, 2) := by decide +kernel
theorem dX3_ascentsInto_95 : decode cX3_ascentsInto 95 = .ok (.iinc 6 1, 3) := by decide +kernel
theorem dX3_ascentsInto_98 : decode cX3_ascentsInto 98 = .ok (.goto (-92), 3) := by decide +kernel
theorem dX3_ascentsInto_101 : decode cX3_ascentsInto 101 = .ok (.lload 4, 2) := by decide +kernel
theorem dX3_ascentsInto_103 : decode cX3_ascentsInto 103 = .ok (.lreturn, 1) := by decide +kernel
theorem dX3_skips_0 : decode cX3_skips 0 = .ok (.aload_n 0, 1) := by decide +kernel
theorem dX3_skips_1 : decode cX3_skips 1 = .ok (.iload_n 1, 1) := by decide +kernel
theorem dX3_skips_2 : decode cX3_skips 2 = .ok (.iconst 0, 1) := by decide +kernel
theorem dX3_skips_3 : decode cX3_skips 3 = .ok (.invokevirtual 83, 3) := by decide +kernel
theorem dX3_skips_6 : decode cX3_skips 6 = .ok (.istore 4, 2) := by decide +kernel
theorem dX3_skips_8 : decode cX3_skips 8 = .ok (.iload_n 2, 1) := by decide +kernel
theorem dX3_skips_9 : decode cX3_skips 9 = .ok (.bipush 12, 2) := by decide +kernel
theorem dX3_skips_11 : decode cX3_skips 11 = .ok (.if_icmp .ne 8, 3) := by decide +kernel
theorem dX3_skips_14 : decode cX3_skips 14 = .ok (.bipush 99, 2) := by decide +kernel
theorem dX3_skips_16 : decode cX3_skips 16 = .ok (.goto 9, 3) := by decide +kernel
theorem dX3_skips_19 : decode cX3_skips 19 = .ok (.aload_n 0, 1) := by decide +kernel
theorem dX3_skips_20 : decode cX3_skips 20 = .ok (.iload_n 2, 1) := by decide +kernel
theorem dX3_skips_21 : decode cX3_skips 21 = .ok (.iconst 0, 1) := by decide +kernel
theorem dX3_skips_22 : decode cX3_skips 22 = .ok (.invokevirtual 83, 3) := by decide +kernel
theorem dX3_skips_25 : decode cX3_skips 25 = .ok (.istore 5, 2) := by decide +kernel
theorem dX3_skips_27 : decode cX3_skips 27 = .ok (.iconst 0, 1) := by decide +kernel
theorem dX3_skips_28 : decode cX3_skips 28 = .ok (.istore 6, 2) := by decide +kernel
theorem dX3_skips_30 : decode cX3_skips 30 = .ok (.iload 6, 2) := by decide +kernel
theorem dX3_skips_32 : decode cX3_skips 32 = .ok (.aload_n 0, 1) := by decide +kernel
theorem dX3_skips_33 : decode cX3_skips 33 = .ok (.getfield 70, 3) := by decide +kernel
theorem dX3_skips_36 : decode cX3_skips 36 = .ok (.if_icmp .ge 55, 3) := by decide +kernel
theorem dX3_skips_39 : decode cX3_skips 39 = .ok (.aload_n 0, 1) := by decide +kernel
theorem dX3_skips_40 : decode cX3_skips 40 = .ok (.iload 6, 2) := by decide +kernel
theorem dX3_skips_42 : decode cX3_skips 42 = .ok (.iconst 0, 1) := by decide +kernel
theorem dX3_skips_43 : decode cX3_skips 43 = .ok (.invokevirtual 83, 3) := by decide +kernel
theorem dX3_skips_46 : decode cX3_skips 46 = .ok (.istore 7, 2) := by decide +kernel
theorem dX3_skips_48 : decode cX3_skips 48 = .ok (.iload_n 3, 1) := by decide +kernel
theorem dX3_skips_49 : decode cX3_skips 49 = .ok (.iload 6, 2) := by decide +kernel
theorem dX3_skips_51 : decode cX3_skips 51 = .ok (.invokestatic 54, 3) := by decide +kernel
theorem dX3_skips_54 : decode cX3_skips 54 = .ok (.ifCond .eq 31, 3) := by decide +kernel
theorem dX3_skips_57 : decode cX3_skips 57 = .ok (.iload 6, 2) := by decide +kernel
theorem dX3_skips_59 : decode cX3_skips 59 = .ok (.iload_n 1, 1) := by decide +kernel
theorem dX3_skips_60 : decode cX3_skips 60 = .ok (.if_icmp .eq 25, 3) := by decide +kernel
theorem dX3_skips_63 : decode cX3_skips 63 = .ok (.iload 6, 2) := by decide +kernel
theorem dX3_skips_65 : decode cX3_skips 65 = .ok (.iload_n 2, 1) := by decide +kernel
theorem dX3_skips_66 : decode cX3_skips 66 = .ok (.if_icmp .eq 19, 3) := by decide +kernel
theorem dX3_skips_69 : decode cX3_skips 69 = .ok (.iload 7, 2) := by decide +kernel
theorem dX3_skips_71 : decode cX3_skips 71 = .ok (.iload 4, 2) := by decide +kernel
theorem dX3_skips_73 : decode cX3_skips 73 = .ok (.if_icmp .lt 12, 3) := by decide +kernel
theorem dX3_skips_76 : decode cX3_skips 76 = .ok (.iload 7, 2) := by decide +kernel
theorem dX3_skips_78 : decode cX3_skips 78 = .ok (.iload 5, 2) := by decide +kernel
theorem dX3_skips_80 : decode cX3_skips 80 = .ok (.if_icmp .gt 5, 3) := by decide +kernel
theorem dX3_skips_83 : decode cX3_skips 83 = .ok (.iconst 1, 1) := by decide +kernel
theorem dX3_skips_84 : decode cX3_skips 84 = .ok (.ireturn, 1) := by decide +kernel
theorem dX3_skips_85 : decode cX3_skips 85 = .ok (.iinc 6 1, 3) := by decide +kernel
theorem dX3_skips_88 : decode cX3_skips 88 = .ok (.goto (-58), 3) := by decide +kernel
theorem dX3_skips_91 : decode cX3_skips 91 = .ok (.iconst 0, 1) := by decide +kernel
theorem dX3_skips_92 : decode cX3_skips 92 = .ok (.ireturn, 1) := by decide +kernel
theorem dX3_isIn_0 : decode cX3_isIn 0 = .ok (.iload_n 0, 1) := by decide +kernel
theorem dX3_isIn_1 : decode cX3_isIn 1 = .ok (.ifCond .lt 13, 3) := by decide +kernel
theorem dX3_isIn_4 : decode cX3_isIn 4 = .ok (.iload_n 0, 1) := by decide +kernel
theorem dX3_isIn_5 : decode cX3_isIn 5 = .ok (.bipush 13, 2) := by decide +kernel
theorem dX3_isIn_7 : decode cX3_isIn 7 = .ok (.if_icmp .ge 7, 3) := by decide +kernel
theorem dX3_isIn_10 : decode cX3_isIn 10 = .ok (.iconst 1, 1) := by decide +kernel
theorem dX3_isIn_11 : decode cX3_isIn 11 = .ok (.goto 4, 3) := by decide +kernel
theorem dX3_isIn_14 : decode cX3_isIn 14 = .ok (.iconst 0, 1) := by decide +kernel
theorem dX3_isIn_15 : decode cX3_isIn 15 = .ok (.ireturn, 1) := by decide +kernel
theorem dX4_init_0 : decode cX4_init 0 = .ok (.aload_n 0, 1) := by decide +kernel
theorem dX4_init_1 : decode cX4_init 1 = .ok (.invokespecial 3, 3) := by decide +kernel
theorem dX4_init_4 : decode cX4_init 4 = .ok (.aload_n 0, 1) := by decide +kernel
theorem dX4_init_5 : decode cX4_init 5 = .ok (.iconst 0, 1) := by decide +kernel
theorem dX4_init_6 : decode cX4_init 6 = .ok (.putfield 9, 3) := by decide +kernel
theorem dX4_init_9 : decode cX4_init 9 = .ok (.aload_n 0, 1) := by decide +kernel
theorem dX4_init_10 : decode cX4_init 10 = .ok (.iconst 0, 1) := by decide +kernel
theorem dX4_init_11 : decode cX4_init 11 = .ok (.putfield 15, 3) := by decide +kernel
theorem dX4_init_14 : decode cX4_init 14 = .ok (.aload_n 0, 1) := by decide +kernel
theorem dX4_init_15 : decode cX4_init 15 = .ok (.bipush 6, 2) := by decide +kernel
theorem dX4_init_17 : decode cX4_init 17 = .ok (.bipush 12, 2) := by decide +kernel
theorem dX4_init_19 : decode cX4_init 19 = .ok (.multianewarray 18 2, 4) := by decide +kernel
theorem dX4_init_23 : decode cX4_init 23 = .ok (.putfield 20, 3) := by decide +kernel
theorem dX4_init_26 : decode cX4_init 26 = .ok (.aload_n 0, 1) := by decide +kernel
theorem dX4_init_27 : decode cX4_init 27 = .ok (.iconst 3, 1) := by decide +kernel
theorem dX4_init_28 : decode cX4_init 28 = .ok (.iconst 3, 1) := by decide +kernel
theorem dX4_init_29 : decode cX4_init 29 = .ok (.multianewarray 18 2, 4) := by decide +kernel
theorem dX4_init_33 : decode cX4_init 33 = .ok (.putfield 23, 3) := by decide +kernel
theorem dX4_init_36 : decode cX4_init 36 = .ok (.aload_n 0, 1) := by decide +kernel
theorem dX4_init_37 : decode cX4_init 37 = .ok (.bipush 12, 2) := by decide +kernel
theorem dX4_init_39 : decode cX4_init 39 = .ok (.newarray .int, 2) := by decide +kernel
theorem dX4_init_41 : decode cX4_init 41 = .ok (.putfield 26, 3) := by decide +kernel
theorem dX4_init_44 : decode cX4_init 44 = .ok (.aload_n 0, 1) := by decide +kernel
theorem dX4_init_45 : decode cX4_init 45 = .ok (.bipush 12, 2) := by decide +kernel
theorem dX4_init_47 : decode cX4_init 47 = .ok (.newarray .int, 2) := by decide +kernel
theorem dX4_init_49 : decode cX4_init 49 = .ok (.putfield 30, 3) := by decide +kernel
theorem dX4_init_52 : decode cX4_init 52 = .ok (.return_, 1) := by decide +kernel
theorem dX4_empty_0 : decode cX4_empty 0 = .ok (.aload_n 0, 1) := by decide +kernel
theorem dX4_empty_1 : decode cX4_empty 1 = .ok (.iconst 0, 1) := by decide +kernel
theorem dX4_empty_2 : decode cX4_empty 2 = .ok (.putfield 9, 3) := by decide +kernel
theorem dX4_empty_5 : decode cX4_empty 5 = .ok (.aload_n 0, 1) := by decide +kernel
theorem dX4_empty_6 : decode cX4_empty 6 = .ok (.iconst 0, 1) := by decide +kernel
theorem dX4_empty_7 : decode cX4_empty 7 = .ok (.putfield 15, 3) := by decide +kernel
theorem dX4_empty_10 : decode cX4_empty 10 = .ok (.return_, 1) := by decide +kernel
theorem dX4_feature_0 : decode cX4_feature 0 = .ok (.iload_n 1, 1) := by decide +kernel
theorem dX4_feature_1 : decode cX4_feature 1 = .ok (.ifCond .lt 30, 3) := by decide +kernel
theorem dX4_feature_4 : decode cX4_feature 4 = .ok (.iload_n 1, 1) := by decide +kernel
theorem dX4_feature_5 : decode cX4_feature 5 = .ok (.bipush 12, 2) := by decide +kernel
theorem dX4_feature_7 : decode cX4_feature 7 = .ok (.if_icmp .ge 24, 3) := by decide +kernel
theorem dX4_feature_10 : decode cX4_feature 10 = .ok (.iload_n 2, 1) := by decide +kernel
theorem dX4_feature_11 : decode cX4_feature 11 = .ok (.ifCond .lt 20, 3) := by decide +kernel
theorem dX4_feature_14 : decode cX4_feature 14 = .ok (.iload_n 2, 1) := by decide +kernel
theorem dX4_feature_15 : decode cX4_feature 15 = .ok (.bipush 6, 2) := by decide +kernel
theorem dX4_feature_17 : decode cX4_feature 17 = .ok (.if_icmp .ge 14, 3) := by decide +kernel
theorem dX4_feature_20 : decode cX4_feature 20 = .ok (.aload_n 0, 1) := by decide +kernel
theorem dX4_feature_21 : decode cX4_feature 21 = .ok (.getfield 20, 3) := by decide +kernel
theorem dX4_feature_24 : decode cX4_feature 24 = .ok (.iload_n 2, 1) := by decide +kernel
theorem dX4_feature_25 : decode cX4_feature 25 = .ok (.aaload, 1) := by decide +kernel
theorem dX4_feature_26 : decode cX4_feature 26 = .ok (.iload_n 1, 1) := by decide +kernel
theorem dX4_feature_27 : decode cX4_feature 27 = .ok (.iaload, 1) := by decide +kernel
theorem dX4_feature_28 : decode cX4_feature 28 = .ok (.goto 4, 3) := by decide +kernel
theorem dX4_feature_31 : decode cX4_feature 31 = .ok (.iconst 0, 1) := by decide +kernel
theorem dX4_feature_32 : decode cX4_feature 32 = .ok (.ireturn, 1) := by decide +kernel
theorem dX4_setFeature_0 : decode cX4_setFeature 0 = .ok (.iload_n 1, 1) := by decide +kernel
theorem dX4_setFeature_1 : decode cX4_setFeature 1 = .ok (.ifCond .lt 28, 3) := by decide +kernel
theorem dX4_setFeature_4 : decode cX4_setFeature 4 = .ok (.iload_n 1, 1) := by decide +kernel
theorem dX4_setFeature_5 : decode cX4_setFeature 5 = .ok (.bipush 12, 2) := by decide +kernel
theorem dX4_setFeature_7 : decode cX4_setFeature 7 = .ok (.if_icmp .ge 22, 3) := by decide +kernel
theorem dX4_setFeature_10 : decode cX4_setFeature 10 = .ok (.iload_n 2, 1) := by decide +kernel
theorem dX4_setFeature_11 : decode cX4_setFeature 11 = .ok (.ifCond .lt 18, 3) := by decide +kernel
theorem dX4_setFeature_14 : decode cX4_setFeature 14 = .ok (.iload_n 2, 1) := by decide +kernel
theorem dX4_setFeature_15 : decode cX4_setFeature 15 = .ok (.bipush 6, 2) := by decide +kernel
theorem dX4_setFeature_17 : decode cX4_setFeature 17 = .ok (.if_icmp .ge 12, 3) := by decide +kernel
theorem dX4_setFeature_20 : decode cX4_setFeature 20 = .ok (.aload_n 0, 1) := by decide +kernel
theorem dX4_setFeature_21 : decode cX4_setFeature 21 = .ok (.getfield 20, 3) := by decide +kernel
theorem dX4_setFeature_24 : decode cX4_setFeature 24 = .ok (.iload_n 2, 1) := by decide +kernel
theorem dX4_setFeature_25 : decode cX4_setFeature 25 = .ok (.aaload, 1) := by decide +kernel
theorem dX4_setFeature_26 : decode cX4_setFeature 26 = .ok (.iload_n 1, 1) := by decide +kernel
theorem dX4_setFeature_27 : decode cX4_setFeature 27 = .ok (.iload_n 3, 1) := by decide +kernel
theorem dX4_setFeature_28 : decode cX4_setFeature 28 = .ok (.iastore, 1) := by decide +kernel
theorem dX4_setFeature_29 : decode cX4_setFeature 29 = .ok (.return_, 1) := by decide +kernel
theorem dX4_power_0 : decode cX4_power 0 = .ok (.iload_n 1, 1) := by decide +kernel
theorem dX4_power_1 : decode cX4_power 1 = .ok (.ifCond .lt 28, 3) := by decide +kernel
theorem dX4_power_4 : decode cX4_power 4 = .ok (.iload_n 1, 1) := by decide +kernel
theorem dX4_power_5 : decode cX4_power 5 = .ok (.iconst 3, 1) := by decide +kernel
theorem dX4_power_6 : decode cX4_power 6 = .ok (.if_icmp .ge 23, 3) := by decide +kernel
theorem dX4_power_9 : decode cX4_power 9 = .ok (.iload_n 2, 1) := by decide +kernel
theorem dX4_power_10 : decode cX4_power 10 = .ok (.ifCond .lt 19, 3) := by decide +kernel
theorem dX4_power_13 : decode cX4_power 13 = .ok (.iload_n 2, 1) := by decide +kernel
theorem dX4_power_14 : decode cX4_power 14 = .ok (.iconst 3, 1) := by decide +kernel
theorem dX4_power_15 : decode cX4_power 15 = .ok (.if_icmp .ge 14, 3) := by decide +kernel
theorem dX4_power_18 : decode cX4_power 18 = .ok (.aload_n 0, 1) := by decide +kernel
theorem dX4_power_19 : decode cX4_power 19 = .ok (.getfield 23, 3) := by decide +kernel
theorem dX4_power_22 : decode cX4_power 22 = .ok (.iload_n 2, 1) := by decide +kernel
theorem dX4_power_23 : decode cX4_power 23 = .ok (.aaload, 1) := by decide +kernel
theorem dX4_power_24 : decode cX4_power 24 = .ok (.iload_n 1, 1) := by decide +kernel
theorem dX4_power_25 : decode cX4_power 25 = .ok (.iaload, 1) := by decide +kernel
theorem dX4_power_26 : decode cX4_power 26 = .ok (.goto 4, 3) := by decide +kernel
theorem dX4_power_29 : decode cX4_power 29 = .ok (.iconst 0, 1) := by decide +kernel
theorem dX4_power_30 : decode cX4_power 30 = .ok (.ireturn, 1) := by decide +kernel
theorem dX4_setPower_0 : decode cX4_setPower 0 = .ok (.iload_n 1, 1) := by decide +kernel
theorem dX4_setPower_1 : decode cX4_setPower 1 = .ok (.ifCond .lt 26, 3) := by decide +kernel
theorem dX4_setPower_4 : decode cX4_setPower 4 = .ok (.iload_n 1, 1) := by decide +kernel
theorem dX4_setPower_5 : decode cX4_setPower 5 = .ok (.iconst 3, 1) := by decide +kernel
theorem dX4_setPower_6 : decode cX4_setPower 6 = .ok (.if_icmp .ge 21, 3) := by decide +kernel
theorem dX4_setPower_9 : decode cX4_setPower 9 = .ok (.iload_n 2, 1) := by decide +kernel
theorem dX4_setPower_10 : decode cX4_setPower 10 = .ok (.ifCond .lt 17, 3) := by decide +kernel
theorem dX4_setPower_13 : decode cX4_setPower 13 = .ok (.iload_n 2, 1) := by decide +kernel
theorem dX4_setPower_14 : decode cX4_setPower 14 = .ok (.iconst 3, 1) := by decide +kernel
theorem dX4_setPower_15 : decode cX4_setPower 15 = .ok (.if_icmp .ge 12, 3) := by decide +kernel
theorem dX4_setPower_18 : decode cX4_setPower 18 = .ok (.aload_n 0, 1) := by decide +kernel
theorem dX4_setPower_19 : decode cX4_setPower 19 = .ok (.getfield 23, 3) := by decide +kernel
theorem dX4_setPower_22 : decode cX4_setPower 22 = .ok (.iload_n 2, 1) := by decide +kernel
theorem dX4_setPower_23 : decode cX4_setPower 23 = .ok (.aaload, 1) := by decide +kernel
theorem dX4_setPower_24 : decode cX4_setPower 24 = .ok (.iload_n 1, 1) := by decide +kernel
theorem dX4_setPower_25 : decode cX4_setPower 25 = .ok (.iload_n 3, 1) := by decide +kernel
theorem dX4_setPower_26 : decode cX4_setPower 26 = .ok (.iastore, 1) := by decide +kernel
theorem dX4_setPower_27 : decode cX4_setPower 27 = .ok (.return_, 1) := by decide +kernel
theorem dX4_all_0 : decode cX4_all 0 = .ok (.iconst 1, 1) := by decide +kernel
theorem dX4_all_1 : decode cX4_all 1 = .ok (.aload_n 0, 1) := by decide +kernel
theorem dX4_all_2 : decode cX4_all 2 = .ok (.getfield 9, 3) := by decide +kernel
theorem dX4_all_5 : decode cX4_all 5 = .ok (.ishl, 1) := by decide +kernel
theorem dX4_all_6 : decode cX4_all 6 = .ok (.iconst 1, 1) := by decide +kernel
theorem dX4_all_7 : decode cX4_all 7 = .ok (.isub, 1) := by decide +kernel
theorem dX4_all_8 : decode cX4_all 8 = .ok (.ireturn, 1) := by decide +kernel
theorem dX4_sidesApart_0 : decode cX4_sidesApart 0 = .ok (.aload_n 0, 1) := by decide +kernel
theorem dX4_sidesApart_1 : decode cX4_sidesApart 1 = .ok (.iload_n 1, 1) := by decide +kernel
theorem dX4_sidesApart_2 : decode cX4_sidesApart 2 = .ok (.iconst 1, 1) := by decide +kernel
theorem dX4_sidesApart_3 : decode cX4_sidesApart 3 = .ok (.invokevirtual 33, 3) := by decide +kernel
theorem dX4_sidesApart_6 : decode cX4_sidesApart 6 = .ok (.aload_n 0, 1) := by decide +kernel
theorem dX4_sidesApart_7 : decode cX4_sidesApart 7 = .ok (.iload_n 2, 1) := by decide +kernel
theorem dX4_sidesApart_8 : decode cX4_sidesApart 8 = .ok (.iconst 1, 1) := by decide +kernel
theorem dX4_sidesApart_9 : decode cX4_sidesApart 9 = .ok (.invokevirtual 33, 3) := by decide +kernel
theorem dX4_sidesApart_12 : decode cX4_sidesApart 12 = .ok (.isub, 1) := by decide +kernel
theorem dX4_sidesApart_13 : decode cX4_sidesApart 13 = .ok (.invokestatic 37, 3) := by decide +kernel
theorem dX4_sidesApart_16 : decode cX4_sidesApart 16 = .ok (.istore_n 3, 1) := by decide +kernel
theorem dX4_sidesApart_17 : decode cX4_sidesApart 17 = .ok (.iload_n 3, 1) := by decide +kernel
theorem dX4_sidesApart_18 : decode cX4_sidesApart 18 = .ok (.bipush 8, 2) := by decide +kernel
theorem dX4_sidesApart_20 : decode cX4_sidesApart 20 = .ok (.iload_n 3, 1) := by decide +kernel
theorem dX4_sidesApart_21 : decode cX4_sidesApart 21 = .ok (.isub, 1) := by decide +kernel
theorem dX4_sidesApart_22 : decode cX4_sidesApart 22 = .ok (.invokestatic 43, 3) := by decide +kernel
theorem dX4_sidesApart_25 : decode cX4_sidesApart 25 = .ok (.ireturn, 1) := by decide +kernel
theorem dX4_downward_0 : decode cX4_downward 0 = .ok (.iload_n 1, 1) := by decide +kernel
theorem dX4_downward_1 : decode cX4_downward 1 = .ok (.ifCond .lt 21, 3) := by decide +kernel
theorem dX4_downward_4 : decode cX4_downward 4 = .ok (.iload_n 1, 1) := by decide +kernel
theorem dX4_downward_5 : decode cX4_downward 5 = .ok (.aload_n 0, 1) := by decide +kernel
theorem dX4_downward_6 : decode cX4_downward 6 = .ok (.getfield 26, 3) := by decide +kernel
theorem dX4_downward_9 : decode cX4_downward 9 = .ok (.arraylength, 1) := by decide +kernel
theorem dX4_downward_10 : decode cX4_downward 10 = .ok (.if_icmp .ge 12, 3) := by decide +kernel
theorem dX4_downward_13 : decode cX4_downward 13 = .ok (.aload_n 0, 1) := by decide +kernel
theorem dX4_downward_14 : decode cX4_downward 14 = .ok (.getfield 26, 3) := by decide +kernel
theorem dX4_downward_17 : decode cX4_downward 17 = .ok (.iload_n 1, 1) := by decide +kernel
theorem dX4_downward_18 : decode cX4_downward 18 = .ok (.iaload, 1) := by decide +kernel
theorem dX4_downward_19 : decode cX4_downward 19 = .ok (.goto 4, 3) := by decide +kernel
theorem dX4_downward_22 : decode cX4_downward 22 = .ok (.iconst 0, 1) := by decide +kernel
theorem dX4_downward_23 : decode cX4_downward 23 = .ok (.ireturn, 1) := by decide +kernel
theorem dX4_below_0 : decode cX4_below 0 = .ok (.iload_n 1, 1) := by decide +kernel
theorem dX4_below_1 : decode cX4_below 1 = .ok (.ifCond .lt 21, 3) := by decide +kernel
theorem dX4_below_4 : decode cX4_below 4 = .ok (.iload_n 1, 1) := by decide +kernel
theorem dX4_below_5 : decode cX4_below 5 = .ok (.aload_n 0, 1) := by decide +kernel
theorem dX4_below_6 : decode cX4_below 6 = .ok (.getfield 30, 3) := by decide +kernel
theorem dX4_below_9 : decode cX4_below 9 = .ok (.arraylength, 1) := by decide +kernel
theorem dX4_below_10 : decode cX4_below 10 = .ok (.if_icmp .ge 12, 3) := by decide +kernel
theorem dX4_below_13 : decode cX4_below 13 = .ok (.aload_n 0, 1) := by decide +kernel
theorem dX4_below_14 : decode cX4_below 14 = .ok (.getfield 30, 3) := by decide +kernel
theorem dX4_below_17 : decode cX4_below 17 = .ok (.iload_n 1, 1) := by decide +kernel
theorem dX4_below_18 : decode cX4_below 18 = .ok (.iaload, 1) := by decide +kernel
theorem dX4_below_19 : decode cX4_below 19 = .ok (.goto 4, 3) := by decide +kernel
theorem dX4_below_22 : decode cX4_below 22 = .ok (.iconst 0, 1) := by decide +kernel
theorem dX4_below_23 : decode cX4_below 23 = .ok (.ireturn, 1) := by decide +kernel
theorem dX4_order_0 : decode cX4_order 0 = .ok (.iconst 0, 1) := by decide +kernel
theorem dX4_order_1 : decode cX4_order 1 = .ok (.istore_n 1, 1) := by decide +kernel
theorem dX4_order_2 : decode cX4_order 2 = .ok (.iload_n 1, 1) := by decide +kernel
theorem dX4_order_3 : decode cX4_order 3 = .ok (.aload_n 0, 1) := by decide +kernel
theorem dX4_order_4 : decode cX4_order 4 = .ok (.getfield 9, 3) := by decide +kernel
theorem dX4_order_7 : decode cX4_order 7 = .ok (.if_icmp .ge 81, 3) := by decide +kernel
theorem dX4_order_10 : decode cX4_order 10 = .ok (.iload_n 1, 1) := by decide +kernel
theorem dX4_order_11 : decode cX4_order 11 = .ok (.bipush 12, 2) := by decide +kernel
theorem dX4_order_13 : decode cX4_order 13 = .ok (.if_icmp .ge 75, 3) := by decide +kernel
theorem dX4_order_16 : decode cX4_order 16 = .ok (.iload_n 1, 1) := by decide +kernel
theorem dX4_order_17 : decode cX4_order 17 = .ok (.istore_n 2, 1) := by decide +kernel
theorem dX4_order_18 : decode cX4_order 18 = .ok (.iload_n 2, 1) := by decide +kernel
theorem dX4_order_19 : decode cX4_order 19 = .ok (.ifCond .le 45, 3) := by decide +kernel
theorem dX4_order_22 : decode cX4_order 22 = .ok (.aload_n 0, 1) := by decide +kernel
theorem dX4_order_23 : decode cX4_order 23 = .ok (.aload_n 0, 1) := by decide +kernel
theorem dX4_order_24 : decode cX4_order 24 = .ok (.getfield 26, 3) := by decide +kernel
theorem dX4_order_27 : decode cX4_order 27 = .ok (.iload_n 2, 1) := by decide +kernel
theorem dX4_order_28 : decode cX4_order 28 = .ok (.iconst 1, 1) := by decide +kernel
theorem dX4_order_29 : decode cX4_order 29 = .ok (.isub, 1) := by decide +kernel
theorem dX4_order_30 : decode cX4_order 30 = .ok (.iaload, 1) := by decide +kernel
theorem dX4_order_31 : decode cX4_order 31 = .ok (.iconst 0, 1) := by decide +kernel
theorem dX4_order_32 : decode cX4_order 32 = .ok (.invokevirtual 33, 3) := by decide +kernel
theorem dX4_order_35 : decode cX4_order 35 = .ok (.aload_n 0, 1) := by decide +kernel
theorem dX4_order_36 : decode cX4_order 36 = .ok (.iload_n 1, 1) := by decide +kernel
theorem dX4_order_37 : decode cX4_order 37 = .ok (.iconst 0, 1) := by decide +kernel
theorem dX4_order_38 : decode cX4_order 38 = .ok (.invokevirtual 33, 3) := by decide +kernel
theorem dX4_order_41 : decode cX4_order 41 = .ok (.if_icmp .ge 23, 3) := by decide +kernel
theorem dX4_order_44 : decode cX4_order 44 = .ok (.aload_n 0, 1) := by decide +kernel
theorem dX4_order_45 : decode cX4_order 45 = .ok (.getfield 26, 3) := by decide +kernel
theorem dX4_order_48 : decode cX4_order 48 = .ok (.iload_n 2, 1) := by decide +kernel
theorem dX4_order_49 : decode cX4_order 49 = .ok (.aload_n 0, 1) := by decide +kernel
theorem dX4_order_50 : decode cX4_order 50 = .ok (.getfield 26, 3) := by decide +kernel
theorem dX4_order_53 : decode cX4_order 53 = .ok (.iload_n 2, 1) := by decide +kernel
theorem dX4_order_54 : decode cX4_order 54 = .ok (.iconst 1, 1) := by decide +kernel
theorem dX4_order_55 : decode cX4_order 55 = .ok (.isub, 1) := by decide +kernel
theorem dX4_order_56 : decode cX4_order 56 = .ok (.iaload, 1) := by decide +kernel
theorem dX4_order_57 : decode cX4_order 57 = .ok (.iastore, 1) := by decide +kernel
theorem dX4_order_58 : decode cX4_order 58 = .ok (.iinc 2 (-1), 3) := by decide +kernel
theorem dX4_order_61 : decode cX4_order 61 = .ok (.goto (-43), 3) := by decide +kernel
theorem dX4_order_64 : decode cX4_order 64 = .ok (.aload_n 0, 1) := by decide +kernel
theorem dX4_order_65 : decode cX4_order 65 = .ok (.getfield 26, 3) := by decide +kernel
theorem dX4_order_68 : decode cX4_order 68 = .ok (.iload_n 2, 1) := by decide +kernel
theorem dX4_order_69 : decode cX4_order 69 = .ok (.iload_n 1, 1) := by decide +kernel
theorem dX4_order_70 : decode cX4_order 70 = .ok (.iastore, 1) := by decide +kernel
theorem dX4_order_71 : decode cX4_order 71 = .ok (.aload_n 0, 1) := by decide +kernel
theorem dX4_order_72 : decode cX4_order 72 = .ok (.getfield 30, 3) := by decide +kernel
theorem dX4_order_75 : decode cX4_order 75 = .ok (.iload_n 1, 1) := by decide +kernel
theorem dX4_order_76 : decode cX4_order 76 = .ok (.aload_n 0, 1) := by decide +kernel
theorem dX4_order_77 : decode cX4_order 77 = .ok (.iload_n 1, 1) := by decide +kernel
theorem dX4_order_78 : decode cX4_order 78 = .ok (.invokevirtual 46, 3) := by decide +kernel
theorem dX4_order_81 : decode cX4_order 81 = .ok (.iastore, 1) := by decide +kernel
theorem dX4_order_82 : decode cX4_order 82 = .ok (.iinc 1 1, 3) := by decide +kernel
theorem dX4_order_85 : decode cX4_order 85 = .ok (.goto (-83), 3) := by decide +kernel
theorem dX4_order_88 : decode cX4_order 88 = .ok (.return_, 1) := by decide +kernel
theorem dX4_lowerNear_0 : decode cX4_lowerNear 0 = .ok (.iconst 0, 1) := by decide +kernel
theorem dX4_lowerNear_1 : decode cX4_lowerNear 1 = .ok (.istore_n 2, 1) := by decide +kernel
theorem dX4_lowerNear_2 : decode cX4_lowerNear 2 = .ok (.iconst 0, 1) := by decide +kernel
theorem dX4_lowerNear_3 : decode cX4_lowerNear 3 = .ok (.istore_n 3, 1) := by decide +kernel
theorem dX4_lowerNear_4 : decode cX4_lowerNear 4 = .ok (.iload_n 3, 1) := by decide +kernel
theorem dX4_lowerNear_5 : decode cX4_lowerNear 5 = .ok (.aload_n 0, 1) := by decide +kernel
theorem dX4_lowerNear_6 : decode cX4_lowerNear 6 = .ok (.getfield 9, 3) := by decide +kernel
theorem dX4_lowerNear_9 : decode cX4_lowerNear 9 = .ok (.if_icmp .ge 40, 3) := by decide +kernel
theorem dX4_lowerNear_12 : decode cX4_lowerNear 12 = .ok (.aload_n 0, 1) := by decide +kernel
theorem dX4_lowerNear_13 : decode cX4_lowerNear 13 = .ok (.iload_n 3, 1) := by decide +kernel
theorem dX4_lowerNear_14 : decode cX4_lowerNear 14 = .ok (.iconst 0, 1) := by decide +kernel
theorem dX4_lowerNear_15 : decode cX4_lowerNear 15 = .ok (.invokevirtual 33, 3) := by decide +kernel
theorem dX4_lowerNear_18 : decode cX4_lowerNear 18 = .ok (.aload_n 0, 1) := by decide +kernel
theorem dX4_lowerNear_19 : decode cX4_lowerNear 19 = .ok (.iload_n 1, 1) := by decide +kernel
theorem dX4_lowerNear_20 : decode cX4_lowerNear 20 = .ok (.iconst 0, 1) := by decide +kernel
theorem dX4_lowerNear_21 : decode cX4_lowerNear 21 = .ok (.invokevirtual 33, 3) := by decide +kernel
theorem dX4_lowerNear_24 : decode cX4_lowerNear 24 = .ok (.if_icmp .ge 19, 3) := by decide +kernel
theorem dX4_lowerNear_27 : decode cX4_lowerNear 27 = .ok (.aload_n 0, 1) := by decide +kernel
theorem dX4_lowerNear_28 : decode cX4_lowerNear 28 = .ok (.iload_n 3, 1) := by decide +kernel
theorem dX4_lowerNear_29 : decode cX4_lowerNear 29 = .ok (.iload_n 1, 1) := by decide +kernel
theorem dX4_lowerNear_30 : decode cX4_lowerNear 30 = .ok (.invokevirtual 49, 3) := by decide +kernel
theorem dX4_lowerNear_33 : decode cX4_lowerNear 33 = .ok (.iconst 1, 1) := by decide +kernel
theorem dX4_lowerNear_34 : decode cX4_lowerNear 34 = .ok (.if_icmp .gt 9, 3) := by decide +kernel
theorem dX4_lowerNear_37 : decode cX4_lowerNear 37 = .ok (.iload_n 2, 1) := by decide +kernel
theorem dX4_lowerNear_38 : decode cX4_lowerNear 38 = .ok (.iconst 1, 1) := by decide +kernel
theorem dX4_lowerNear_39 : decode cX4_lowerNear 39 = .ok (.iload_n 3, 1) := by decide +kernel
theorem dX4_lowerNear_40 : decode cX4_lowerNear 40 = .ok (.ishl, 1) := by decide +kernel
theorem dX4_lowerNear_41 : decode cX4_lowerNear 41 = .ok (.ior, 1) := by decide +kernel
theorem dX4_lowerNear_42 : decode cX4_lowerNear 42 = .ok (.istore_n 2, 1) := by decide +kernel
theorem dX4_lowerNear_43 : decode cX4_lowerNear 43 = .ok (.iinc 3 1, 3) := by decide +kernel
theorem dX4_lowerNear_46 : decode cX4_lowerNear 46 = .ok (.goto (-42), 3) := by decide +kernel
theorem dX4_lowerNear_49 : decode cX4_lowerNear 49 = .ok (.iload_n 2, 1) := by decide +kernel
theorem dX4_lowerNear_50 : decode cX4_lowerNear 50 = .ok (.ireturn, 1) := by decide +kernel
theorem dX5_init_0 : decode cX5_init 0 = .ok (.aload_n 0, 1) := by decide +kernel
theorem dX5_init_1 : decode cX5_init 1 = .ok (.invokespecial 3, 3) := by decide +kernel
theorem dX5_init_4 : decode cX5_init 4 = .ok (.aload_n 0, 1) := by decide +kernel
theorem dX5_init_5 : decode cX5_init 5 = .ok (.getstatic 9, 3) := by decide +kernel
theorem dX5_init_8 : decode cX5_init 8 = .ok (.invokevirtual 13, 3) := by decide +kernel
theorem dX5_init_11 : decode cX5_init 11 = .ok (.checkcast 14, 3) := by decide +kernel
theorem dX5_init_14 : decode cX5_init 14 = .ok (.putfield 18, 3) := by decide +kernel
theorem dX5_init_17 : decode cX5_init 17 = .ok (.aload_n 0, 1) := by decide +kernel
theorem dX5_init_18 : decode cX5_init 18 = .ok (.new 21, 3) := by decide +kernel
theorem dX5_init_21 : decode cX5_init 21 = .ok (.dup, 1) := by decide +kernel
theorem dX5_init_22 : decode cX5_init 22 = .ok (.invokespecial 23, 3) := by decide +kernel
theorem dX5_init_25 : decode cX5_init 25 = .ok (.putfield 24, 3) := by decide +kernel
theorem dX5_init_28 : decode cX5_init 28 = .ok (.aload_n 0, 1) := by decide +kernel
theorem dX5_init_29 : decode cX5_init 29 = .ok (.new 28, 3) := by decide +kernel
theorem dX5_init_32 : decode cX5_init 32 = .ok (.dup, 1) := by decide +kernel
theorem dX5_init_33 : decode cX5_init 33 = .ok (.invokespecial 30, 3) := by decide +kernel
theorem dX5_init_36 : decode cX5_init 36 = .ok (.putfield 31, 3) := by decide +kernel
theorem dX5_init_39 : decode cX5_init 39 = .ok (.aload_n 0, 1) := by decide +kernel
theorem dX5_init_40 : decode cX5_init 40 = .ok (.new 35, 3) := by decide +kernel
theorem dX5_init_43 : decode cX5_init 43 = .ok (.dup, 1) := by decide +kernel
theorem dX5_init_44 : decode cX5_init 44 = .ok (.invokespecial 37, 3) := by decide +kernel
theorem dX5_init_47 : decode cX5_init 47 = .ok (.putfield 38, 3) := by decide +kernel
theorem dX5_init_50 : decode cX5_init 50 = .ok (.aload_n 0, 1) := by decide +kernel
theorem dX5_init_51 : decode cX5_init 51 = .ok (.new 42, 3) := by decide +kernel
theorem dX5_init_54 : decode cX5_init 54 = .ok (.dup, 1) := by decide +kernel
theorem dX5_init_55 : decode cX5_init 55 = .ok (.invokespecial 44, 3) := by decide +kernel
theorem dX5_init_58 : decode cX5_init 58 = .ok (.putfield 45, 3) := by decide +kernel
theorem dX5_init_61 : decode cX5_init 61 = .ok (.aload_n 0, 1) := by decide +kernel
theorem dX5_init_62 : decode cX5_init 62 = .ok (.iconst 2, 1) := by decide +kernel
theorem dX5_init_63 : decode cX5_init 63 = .ok (.anewarray 42, 3) := by decide +kernel
theorem dX5_init_66 : decode cX5_init 66 = .ok (.putfield 49, 3) := by decide +kernel
theorem dX5_init_69 : decode cX5_init 69 = .ok (.aload_n 0, 1) := by decide +kernel
theorem dX5_init_70 : decode cX5_init 70 = .ok (.new 53, 3) := by decide +kernel
theorem dX5_init_73 : decode cX5_init 73 = .ok (.dup, 1) := by decide +kernel
theorem dX5_init_74 : decode cX5_init 74 = .ok (.invokespecial 55, 3) := by decide +kernel
theorem dX5_init_77 : decode cX5_init 77 = .ok (.putfield 56, 3) := by decide +kernel
theorem dX5_init_80 : decode cX5_init 80 = .ok (.aload_n 0, 1) := by decide +kernel
theorem dX5_init_81 : decode cX5_init 81 = .ok (.new 53, 3) := by decide +kernel
theorem dX5_init_84 : decode cX5_init 84 = .ok (.dup, 1) := by decide +kernel
theorem dX5_init_85 : decode cX5_init 85 = .ok (.invokespecial 55, 3) := by decide +kernel
theorem dX5_init_88 : decode cX5_init 88 = .ok (.putfield 60, 3) := by decide +kernel
theorem dX5_init_91 : decode cX5_init 91 = .ok (.aload_n 0, 1) := by decide +kernel
theorem dX5_init_92 : decode cX5_init 92 = .ok (.lconst 0, 1) := by decide +kernel
theorem dX5_init_93 : decode cX5_init 93 = .ok (.putfield 63, 3) := by decide +kernel
theorem dX5_init_96 : decode cX5_init 96 = .ok (.iconst 0, 1) := by decide +kernel
theorem dX5_init_97 : decode cX5_init 97 = .ok (.istore_n 1, 1) := by decide +kernel
theorem dX5_init_98 : decode cX5_init 98 = .ok (.iload_n 1, 1) := by decide +kernel
theorem dX5_init_99 : decode cX5_init 99 = .ok (.aload_n 0, 1) := by decide +kernel
theorem dX5_init_100 : decode cX5_init 100 = .ok (.getfield 49, 3) := by decide +kernel
theorem dX5_init_103 : decode cX5_init 103 = .ok (.arraylength, 1) := by decide +kernel
theorem dX5_init_104 : decode cX5_init 104 = .ok (.if_icmp .ge 22, 3) := by decide +kernel
theorem dX5_init_107 : decode cX5_init 107 = .ok (.aload_n 0, 1) := by decide +kernel
theorem dX5_init_108 : decode cX5_init 108 = .ok (.getfield 49, 3) := by decide +kernel
theorem dX5_init_111 : decode cX5_init 111 = .ok (.iload_n 1, 1) := by decide +kernel
theorem dX5_init_112 : decode cX5_init 112 = .ok (.new 42, 3) := by decide +kernel
theorem dX5_init_115 : decode cX5_init 115 = .ok (.dup, 1) := by decide +kernel
theorem dX5_init_116 : decode cX5_init 116 = .ok (.invokespecial 44, 3) := by decide +kernel
theorem dX5_init_119 : decode cX5_init 119 = .ok (.aastore, 1) := by decide +kernel
theorem dX5_init_120 : decode cX5_init 120 = .ok (.iinc 1 1, 3) := by decide +kernel
theorem dX5_init_123 : decode cX5_init 123 = .ok (.goto (-25), 3) := by decide +kernel
theorem dX5_init_126 : decode cX5_init 126 = .ok (.aload_n 0, 1) := by decide +kernel
theorem dX5_init_127 : decode cX5_init 127 = .ok (.getfield 45, 3) := by decide +kernel
theorem dX5_init_130 : decode cX5_init 130 = .ok (.iconst 1, 1) := by decide +kernel
theorem dX5_init_131 : decode cX5_init 131 = .ok (.putfield 67, 3) := by decide +kernel
theorem dX5_init_134 : decode cX5_init 134 = .ok (.return_, 1) := by decide +kernel
theorem dX5_type_0 : decode cX5_type 0 = .ok (.iload_n 3, 1) := by decide +kernel
theorem dX5_type_1 : decode cX5_type 1 = .ok (.iconst 1, 1) := by decide +kernel
theorem dX5_type_2 : decode cX5_type 2 = .ok (.if_icmp .lt 9, 3) := by decide +kernel
theorem dX5_type_5 : decode cX5_type 5 = .ok (.iload_n 3, 1) := by decide +kernel
theorem dX5_type_6 : decode cX5_type 6 = .ok (.bipush 8, 2) := by decide +kernel
theorem dX5_type_8 : decode cX5_type 8 = .ok (.if_icmp .le 5, 3) := by decide +kernel
theorem dX5_type_11 : decode cX5_type 11 = .ok (.iconst (-1), 1) := by decide +kernel
theorem dX5_type_12 : decode cX5_type 12 = .ok (.ireturn, 1) := by decide +kernel
theorem dX5_type_13 : decode cX5_type 13 = .ok (.aload_n 0, 1) := by decide +kernel
theorem dX5_type_14 : decode cX5_type 14 = .ok (.getfield 24, 3) := by decide +kernel
theorem dX5_type_17 : decode cX5_type 17 = .ok (.lload_n 1, 1) := by decide +kernel
theorem dX5_type_18 : decode cX5_type 18 = .ok (.iload_n 3, 1) := by decide +kernel
theorem dX5_type_19 : decode cX5_type 19 = .ok (.invokevirtual 71, 3) := by decide +kernel
theorem dX5_type_22 : decode cX5_type 22 = .ok (.ifCond .eq 13, 3) := by decide +kernel
theorem dX5_type_25 : decode cX5_type 25 = .ok (.aload_n 0, 1) := by decide +kernel
theorem dX5_type_26 : decode cX5_type 26 = .ok (.getfield 24, 3) := by decide +kernel
theorem dX5_type_29 : decode cX5_type 29 = .ok (.getfield 75, 3) := by decide +kernel
theorem dX5_type_32 : decode cX5_type 32 = .ok (.goto 5, 3) := by decide +kernel
theorem dX5_type_35 : decode cX5_type 35 = .ok (.bipush (-3), 2) := by decide +kernel
theorem dX5_type_37 : decode cX5_type 37 = .ok (.ireturn, 1) := by decide +kernel
theorem dX5_clear_0 : decode cX5_clear 0 = .ok (.aload_n 0, 1) := by decide +kernel
theorem dX5_clear_1 : decode cX5_clear 1 = .ok (.getfield 24, 3) := by decide +kernel
theorem dX5_clear_4 : decode cX5_clear 4 = .ok (.getfield 75, 3) := by decide +kernel
theorem dX5_clear_7 : decode cX5_clear 7 = .ok (.istore_n 1, 1) := by decide +kernel
theorem dX5_clear_8 : decode cX5_clear 8 = .ok (.aload_n 0, 1) := by decide +kernel
theorem dX5_clear_9 : decode cX5_clear 9 = .ok (.getfield 24, 3) := by decide +kernel
theorem dX5_clear_12 : decode cX5_clear 12 = .ok (.iconst 0, 1) := by decide +kernel
theorem dX5_clear_13 : decode cX5_clear 13 = .ok (.putfield 75, 3) := by decide +kernel
theorem dX5_clear_16 : decode cX5_clear 16 = .ok (.iload_n 1, 1) := by decide +kernel
theorem dX5_clear_17 : decode cX5_clear 17 = .ok (.ireturn, 1) := by decide +kernel
theorem dX5_tree_0 : decode cX5_tree 0 = .ok (.aload_n 0, 1) := by decide +kernel
theorem dX5_tree_1 : decode cX5_tree 1 = .ok (.invokevirtual 78, 3) := by decide +kernel
theorem dX5_tree_4 : decode cX5_tree 4 = .ok (.istore_n 1, 1) := by decide +kernel
theorem dX5_tree_5 : decode cX5_tree 5 = .ok (.iload_n 1, 1) := by decide +kernel
theorem dX5_tree_6 : decode cX5_tree 6 = .ok (.ifCond .lt 8, 3) := by decide +kernel
theorem dX5_tree_9 : decode cX5_tree 9 = .ok (.bipush (-10), 2) := by decide +kernel
theorem dX5_tree_11 : decode cX5_tree 11 = .ok (.iload_n 1, 1) := by decide +kernel
theorem dX5_tree_12 : decode cX5_tree 12 = .ok (.isub, 1) := by decide +kernel
theorem dX5_tree_13 : decode cX5_tree 13 = .ok (.ireturn, 1) := by decide +kernel
theorem dX5_tree_14 : decode cX5_tree 14 = .ok (.aload_n 0, 1) := by decide +kernel
theorem dX5_tree_15 : decode cX5_tree 15 = .ok (.getfield 24, 3) := by decide +kernel
theorem dX5_tree_18 : decode cX5_tree 18 = .ok (.iconst 0, 1) := by decide +kernel
theorem dX5_tree_19 : decode cX5_tree 19 = .ok (.putfield 75, 3) := by decide +kernel
theorem dX5_tree_22 : decode cX5_tree 22 = .ok (.aload_n 0, 1) := by decide +kernel
theorem dX5_tree_23 : decode cX5_tree 23 = .ok (.invokevirtual 82, 3) := by decide +kernel
theorem dX5_tree_26 : decode cX5_tree 26 = .ok (.aload_n 0, 1) := by decide +kernel
theorem dX5_tree_27 : decode cX5_tree 27 = .ok (.getfield 45, 3) := by decide +kernel
theorem dX5_tree_30 : decode cX5_tree 30 = .ok (.iconst 0, 1) := by decide +kernel
theorem dX5_tree_31 : decode cX5_tree 31 = .ok (.invokevirtual 85, 3) := by decide +kernel
theorem dX5_tree_34 : decode cX5_tree 34 = .ok (.aload_n 0, 1) := by decide +kernel
theorem dX5_tree_35 : decode cX5_tree 35 = .ok (.getfield 45, 3) := by decide +kernel
theorem dX5_tree_38 : decode cX5_tree 38 = .ok (.iconst 0, 1) := by decide +kernel
theorem dX5_tree_39 : decode cX5_tree 39 = .ok (.putfield 89, 3) := by decide +kernel
theorem dX5_tree_42 : decode cX5_tree 42 = .ok (.aload_n 0, 1) := by decide +kernel
theorem dX5_tree_43 : decode cX5_tree 43 = .ok (.getfield 38, 3) := by decide +kernel
theorem dX5_tree_46 : decode cX5_tree 46 = .ok (.iconst 0, 1) := by decide +kernel
theorem dX5_tree_47 : decode cX5_tree 47 = .ok (.putfield 92, 3) := by decide +kernel
theorem dX5_tree_50 : decode cX5_tree 50 = .ok (.iconst 0, 1) := by decide +kernel
theorem dX5_tree_51 : decode cX5_tree 51 = .ok (.istore_n 2, 1) := by decide +kernel
theorem dX5_tree_52 : decode cX5_tree 52 = .ok (.iload_n 2, 1) := by decide +kernel
theorem dX5_tree_53 : decode cX5_tree 53 = .ok (.aload_n 0, 1) := by decide +kernel
theorem dX5_tree_54 : decode cX5_tree 54 = .ok (.getfield 49, 3) := by decide +kernel
theorem dX5_tree_57 : decode cX5_tree 57 = .ok (.arraylength, 1) := by decide +kernel
theorem dX5_tree_58 : decode cX5_tree 58 = .ok (.if_icmp .ge 19, 3) := by decide +kernel
theorem dX5_tree_61 : decode cX5_tree 61 = .ok (.aload_n 0, 1) := by decide +kernel
theorem dX5_tree_62 : decode cX5_tree 62 = .ok (.getfield 49, 3) := by decide +kernel
theorem dX5_tree_65 : decode cX5_tree 65 = .ok (.iload_n 2, 1) := by decide +kernel
theorem dX5_tree_66 : decode cX5_tree 66 = .ok (.aaload, 1) := by decide +kernel
theorem dX5_tree_67 : decode cX5_tree 67 = .ok (.iconst 0, 1) := by decide +kernel
theorem dX5_tree_68 : decode cX5_tree 68 = .ok (.putfield 95, 3) := by decide +kernel
theorem dX5_tree_71 : decode cX5_tree 71 = .ok (.iinc 2 1, 3) := by decide +kernel
theorem dX5_tree_74 : decode cX5_tree 74 = .ok (.goto (-22), 3) := by decide +kernel
theorem dX5_tree_77 : decode cX5_tree 77 = .ok (.aload_n 0, 1) := by decide +kernel
theorem dX5_tree_78 : decode cX5_tree 78 = .ok (.getfield 56, 3) := by decide +kernel
theorem dX5_tree_81 : decode cX5_tree 81 = .ok (.getfield 99, 3) := by decide +kernel
theorem dX5_tree_84 : decode cX5_tree 84 = .ok (.aload_n 0, 1) := by decide +kernel
theorem dX5_tree_85 : decode cX5_tree 85 = .ok (.getfield 56, 3) := by decide +kernel
theorem dX5_tree_88 : decode cX5_tree 88 = .ok (.getfield 102, 3) := by decide +kernel
theorem dX5_tree_91 : decode cX5_tree 91 = .ok (.iadd, 1) := by decide +kernel
theorem dX5_tree_92 : decode cX5_tree 92 = .ok (.ireturn, 1) := by decide +kernel
theorem dX5_branch_0 : decode cX5_branch 0 = .ok (.aload_n 0, 1) := by decide +kernel
theorem dX5_branch_1 : decode cX5_branch 1 = .ok (.iload_n 1, 1) := by decide +kernel
theorem dX5_branch_2 : decode cX5_branch 2 = .ok (.invokevirtual 105, 3) := by decide +kernel
theorem dX5_branch_5 : decode cX5_branch 5 = .ok (.ifCond .eq 13, 3) := by decide +kernel
theorem dX5_branch_8 : decode cX5_branch 8 = .ok (.iload_n 2, 1) := by decide +kernel
theorem dX5_branch_9 : decode cX5_branch 9 = .ok (.ifCond .lt 9, 3) := by decide +kernel
theorem dX5_branch_12 : decode cX5_branch 12 = .ok (.iload_n 2, 1) := by decide +kernel
theorem dX5_branch_13 : decode cX5_branch 13 = .ok (.bipush 6, 2) := by decide +kernel
theorem dX5_branch_15 : decode cX5_branch 15 = .ok (.if_icmp .le 5, 3) := by decide +kernel
theorem dX5_branch_18 : decode cX5_branch 18 = .ok (.iconst (-1), 1) := by decide +kernel
theorem dX5_branch_19 : decode cX5_branch 19 = .ok (.ireturn, 1) := by decide +kernel
theorem dX5_branch_20 : decode cX5_branch 20 = .ok (.iload_n 2, 1) := by decide +kernel
theorem dX5_branch_21 : decode cX5_branch 21 = .ok (.bipush 6, 2) := by decide +kernel
theorem dX5_branch_23 : decode cX5_branch 23 = .ok (.if_icmp .ne 14, 3) := by decide +kernel
theorem dX5_branch_26 : decode cX5_branch 26 = .ok (.aload_n 0, 1) := by decide +kernel
theorem dX5_branch_27 : decode cX5_branch 27 = .ok (.iload_n 1, 1) := by decide +kernel
theorem dX5_branch_28 : decode cX5_branch 28 = .ok (.invokevirtual 109, 3) := by decide +kernel
theorem dX5_branch_31 : decode cX5_branch 31 = .ok (.invokestatic 112, 3) := by decide +kernel
theorem dX5_branch_34 : decode cX5_branch 34 = .ok (.goto 12, 3) := by decide +kernel
theorem dX5_branch_37 : decode cX5_branch 37 = .ok (.aload_n 0, 1) := by decide +kernel
theorem dX5_branch_38 : decode cX5_branch 38 = .ok (.getfield 56, 3) := by decide +kernel
theorem dX5_branch_41 : decode cX5_branch 41 = .ok (.iload_n 1, 1) := by decide +kernel
theorem dX5_branch_42 : decode cX5_branch 42 = .ok (.iload_n 2, 1) := by decide +kernel
theorem dX5_branch_43 : decode cX5_branch 43 = .ok (.invokevirtual 116, 3) := by decide +kernel
theorem dX5_branch_46 : decode cX5_branch 46 = .ok (.ireturn, 1) := by decide +kernel
theorem dX5_body_0 : decode cX5_body 0 = .ok (.aload_n 0, 1) := by decide +kernel
theorem dX5_body_1 : decode cX5_body 1 = .ok (.iload_n 1, 1) := by decide +kernel
theorem dX5_body_2 : decode cX5_body 2 = .ok (.invokevirtual 120, 3) := by decide +kernel
theorem dX5_body_5 : decode cX5_body 5 = .ok (.ifCond .eq 24, 3) := by decide +kernel
theorem dX5_body_8 : decode cX5_body 8 = .ok (.iload_n 2, 1) := by decide +kernel
theorem dX5_body_9 : decode cX5_body 9 = .ok (.ifCond .lt 20, 3) := by decide +kernel
theorem dX5_body_12 : decode cX5_body 12 = .ok (.iload_n 2, 1) := by decide +kernel
theorem dX5_body_13 : decode cX5_body 13 = .ok (.iconst 2, 1) := by decide +kernel
theorem dX5_body_14 : decode cX5_body 14 = .ok (.if_icmp .gt 15, 3) := by decide +kernel
theorem dX5_body_17 : decode cX5_body 17 = .ok (.aload_n 0, 1) := by decide +kernel
theorem dX5_body_18 : decode cX5_body 18 = .ok (.getfield 56, 3) := by decide +kernel
theorem dX5_body_21 : decode cX5_body 21 = .ok (.iload_n 1, 1) := by decide +kernel
theorem dX5_body_22 : decode cX5_body 22 = .ok (.iload_n 2, 1) := by decide +kernel
theorem dX5_body_23 : decode cX5_body 23 = .ok (.invokevirtual 123, 3) := by decide +kernel
theorem dX5_body_26 : decode cX5_body 26 = .ok (.goto 4, 3) := by decide +kernel
theorem dX5_body_29 : decode cX5_body 29 = .ok (.iconst (-1), 1) := by decide +kernel
theorem dX5_body_30 : decode cX5_body 30 = .ok (.ireturn, 1) := by decide +kernel
theorem dX5_tune_0 : decode cX5_tune 0 = .ok (.iload_n 1, 1) := by decide +kernel
theorem dX5_tune_1 : decode cX5_tune 1 = .ok (.ifCond .lt 26, 3) := by decide +kernel
theorem dX5_tune_4 : decode cX5_tune 4 = .ok (.iload_n 1, 1) := by decide +kernel
theorem dX5_tune_5 : decode cX5_tune 5 = .ok (.aload_n 0, 1) := by decide +kernel
theorem dX5_tune_6 : decode cX5_tune 6 = .ok (.getfield 18, 3) := by decide +kernel
theorem dX5_tune_9 : decode cX5_tune 9 = .ok (.arraylength, 1) := by decide +kernel
theorem dX5_tune_10 : decode cX5_tune 10 = .ok (.if_icmp .ge 17, 3) := by decide +kernel
theorem dX5_tune_13 : decode cX5_tune 13 = .ok (.iload_n 2, 1) := by decide +kernel
theorem dX5_tune_14 : decode cX5_tune 14 = .ok (.getstatic 126, 3) := by decide +kernel
theorem dX5_tune_17 : decode cX5_tune 17 = .ok (.getstatic 129, 3) := by decide +kernel
theorem dX5_tune_20 : decode cX5_tune 20 = .ok (.iload_n 1, 1) := by decide +kernel
theorem dX5_tune_21 : decode cX5_tune 21 = .ok (.invokestatic 132, 3) := by decide +kernel
theorem dX5_tune_24 : decode cX5_tune 24 = .ok (.ifCond .ne 5, 3) := by decide +kernel
theorem dX5_tune_27 : decode cX5_tune 27 = .ok (.iconst (-1), 1) := by decide +kernel
theorem dX5_tune_28 : decode cX5_tune 28 = .ok (.ireturn, 1) := by decide +kernel
theorem dX5_tune_29 : decode cX5_tune 29 = .ok (.aload_n 0, 1) := by decide +kernel
theorem dX5_tune_30 : decode cX5_tune 30 = .ok (.getfield 18, 3) := by decide +kernel
theorem dX5_tune_33 : decode cX5_tune 33 = .ok (.iload_n 1, 1) := by decide +kernel
theorem dX5_tune_34 : decode cX5_tune 34 = .ok (.iaload, 1) := by decide +kernel
theorem dX5_tune_35 : decode cX5_tune 35 = .ok (.istore_n 3, 1) := by decide +kernel
theorem dX5_tune_36 : decode cX5_tune 36 = .ok (.aload_n 0, 1) := by decide +kernel
theorem dX5_tune_37 : decode cX5_tune 37 = .ok (.getfield 18, 3) := by decide +kernel
theorem dX5_tune_40 : decode cX5_tune 40 = .ok (.iload_n 1, 1) := by decide +kernel
theorem dX5_tune_41 : decode cX5_tune 41 = .ok (.iload_n 2, 1) := by decide +kernel
theorem dX5_tune_42 : decode cX5_tune 42 = .ok (.iastore, 1) := by decide +kernel
theorem dX5_tune_43 : decode cX5_tune 43 = .ok (.iload_n 3, 1) := by decide +kernel
theorem dX5_tune_44 : decode cX5_tune 44 = .ok (.ireturn, 1) := by decide +kernel
theorem dX5_sawn_0 : decode cX5_sawn 0 = .ok (.aload_n 0, 1) := by decide +kernel
theorem dX5_sawn_1 : decode cX5_sawn 1 = .ok (.getfield 45, 3) := by decide +kernel
theorem dX5_sawn_4 : decode cX5_sawn 4 = .ok (.getfield 89, 3) := by decide +kernel
theorem dX5_sawn_7 : decode cX5_sawn 7 = .ok (.istore_n 2, 1) := by decide +kernel
theorem dX5_sawn_8 : decode cX5_sawn 8 = .ok (.aload_n 0, 1) := by decide +kernel
theorem dX5_sawn_9 : decode cX5_sawn 9 = .ok (.getfield 45, 3) := by decide +kernel
theorem dX5_sawn_12 : decode cX5_sawn 12 = .ok (.iload_n 1, 1) := by decide +kernel
theorem dX5_sawn_13 : decode cX5_sawn 13 = .ok (.aload_n 0, 1) := by decide +kernel
theorem dX5_sawn_14 : decode cX5_sawn 14 = .ok (.getfield 56, 3) := by decide +kernel
theorem dX5_sawn_17 : decode cX5_sawn 17 = .ok (.invokevirtual 136, 3) := by decide +kernel
theorem dX5_sawn_20 : decode cX5_sawn 20 = .ok (.iand, 1) := by decide +kernel
theorem dX5_sawn_21 : decode cX5_sawn 21 = .ok (.putfield 89, 3) := by decide +kernel
theorem dX5_sawn_24 : decode cX5_sawn 24 = .ok (.iload_n 2, 1) := by decide +kernel
theorem dX5_sawn_25 : decode cX5_sawn 25 = .ok (.ireturn, 1) := by decide +kernel
theorem dX5_step_0 : decode cX5_step 0 = .ok (.aload_n 0, 1) := by decide +kernel
theorem dX5_step_1 : decode cX5_step 1 = .ok (.iload_n 1, 1) := by decide +kernel
theorem dX5_step_2 : decode cX5_step 2 = .ok (.invokevirtual 120, 3) := by decide +kernel
theorem dX5_step_5 : decode cX5_step 5 = .ok (.ifCond .eq 24, 3) := by decide +kernel
theorem dX5_step_8 : decode cX5_step 8 = .ok (.aload_n 0, 1) := by decide +kernel
theorem dX5_step_9 : decode cX5_step 9 = .ok (.iload_n 2, 1) := by decide +kernel
theorem dX5_step_10 : decode cX5_step 10 = .ok (.invokevirtual 139, 3) := by decide +kernel
theorem dX5_step_13 : decode cX5_step 13 = .ok (.ifCond .eq 16, 3) := by decide +kernel
theorem dX5_step_16 : decode cX5_step 16 = .ok (.aload_n 0, 1) := by decide +kernel
theorem dX5_step_17 : decode cX5_step 17 = .ok (.iload_n 3, 1) := by decide +kernel
theorem dX5_step_18 : decode cX5_step 18 = .ok (.invokevirtual 139, 3) := by decide +kernel
theorem dX5_step_21 : decode cX5_step 21 = .ok (.ifCond .eq 8, 3) := by decide +kernel
theorem dX5_step_24 : decode cX5_step 24 = .ok (.iload_n 2, 1) := by decide +kernel
theorem dX5_step_25 : decode cX5_step 25 = .ok (.iload_n 3, 1) := by decide +kernel
theorem dX5_step_26 : decode cX5_step 26 = .ok (.if_icmp .ne 5, 3) := by decide +kernel
theorem dX5_step_29 : decode cX5_step 29 = .ok (.iconst (-1), 1) := by decide +kernel
theorem dX5_step_30 : decode cX5_step 30 = .ok (.ireturn, 1) := by decide +kernel
theorem dX5_step_31 : decode cX5_step 31 = .ok (.aload_n 0, 1) := by decide +kernel
theorem dX5_step_32 : decode cX5_step 32 = .ok (.iload_n 1, 1) := by decide +kernel
theorem dX5_step_33 : decode cX5_step 33 = .ok (.iload_n 2, 1) := by decide +kernel
theorem dX5_step_34 : decode cX5_step 34 = .ok (.iload_n 3, 1) := by decide +kernel
theorem dX5_step_35 : decode cX5_step 35 = .ok (.aload_n 0, 1) := by decide +kernel
theorem dX5_step_36 : decode cX5_step 36 = .ok (.getfield 56, 3) := by decide +kernel
theorem dX5_step_39 : decode cX5_step 39 = .ok (.iload_n 1, 1) := by decide +kernel
theorem dX5_step_40 : decode cX5_step 40 = .ok (.iconst 0, 1) := by decide +kernel
theorem dX5_step_41 : decode cX5_step 41 = .ok (.invokevirtual 123, 3) := by decide +kernel
theorem dX5_step_44 : decode cX5_step 44 = .ok (.aload_n 0, 1) := by decide +kernel
theorem dX5_step_45 : decode cX5_step 45 = .ok (.iconst 5, 1) := by decide +kernel
theorem dX5_step_46 : decode cX5_step 46 = .ok (.invokevirtual 142, 3) := by decide +kernel
theorem dX5_step_49 : decode cX5_step 49 = .ok (.invokevirtual 146, 3) := by decide +kernel
theorem dX5_step_52 : decode cX5_step 52 = .ok (.invokestatic 112, 3) := by decide +kernel
theorem dX5_step_55 : decode cX5_step 55 = .ok (.ireturn, 1) := by decide +kernel
theorem dX5_holds_0 : decode cX5_holds 0 = .ok (.aload_n 0, 1) := by decide +kernel
theorem dX5_holds_1 : decode cX5_holds 1 = .ok (.iload_n 1, 1) := by decide +kernel
theorem dX5_holds_2 : decode cX5_holds 2 = .ok (.invokevirtual 120, 3) := by decide +kernel
theorem dX5_holds_5 : decode cX5_holds 5 = .ok (.ifCond .eq 20, 3) := by decide +kernel
theorem dX5_holds_8 : decode cX5_holds 8 = .ok (.aload_n 0, 1) := by decide +kernel
theorem dX5_holds_9 : decode cX5_holds 9 = .ok (.iload_n 2, 1) := by decide +kernel
theorem dX5_holds_10 : decode cX5_holds 10 = .ok (.invokevirtual 105, 3) := by decide +kernel
theorem dX5_holds_13 : decode cX5_holds 13 = .ok (.ifCond .eq 12, 3) := by decide +kernel
theorem dX5_holds_16 : decode cX5_holds 16 = .ok (.aload_n 0, 1) := by decide +kernel
theorem dX5_holds_17 : decode cX5_holds 17 = .ok (.iload_n 1, 1) := by decide +kernel
theorem dX5_holds_18 : decode cX5_holds 18 = .ok (.iload_n 2, 1) := by decide +kernel
theorem dX5_holds_19 : decode cX5_holds 19 = .ok (.invokevirtual 150, 3) := by decide +kernel
theorem dX5_holds_22 : decode cX5_holds 22 = .ok (.goto 4, 3) := by decide +kernel
theorem dX5_holds_25 : decode cX5_holds 25 = .ok (.iconst (-1), 1) := by decide +kernel
theorem dX5_holds_26 : decode cX5_holds 26 = .ok (.ireturn, 1) := by decide +kernel
theorem dX5_best_0 : decode cX5_best 0 = .ok (.aload_n 0, 1) := by decide +kernel
theorem dX5_best_1 : decode cX5_best 1 = .ok (.iload_n 1, 1) := by decide +kernel
theorem dX5_best_2 : decode cX5_best 2 = .ok (.invokevirtual 120, 3) := by decide +kernel
theorem dX5_best_5 : decode cX5_best 5 = .ok (.ifCond .eq 30, 3) := by decide +kernel
theorem dX5_best_8 : decode cX5_best 8 = .ok (.aload_n 0, 1) := by decide +kernel
theorem dX5_best_9 : decode cX5_best 9 = .ok (.iload_n 2, 1) := by decide +kernel
theorem dX5_best_10 : decode cX5_best 10 = .ok (.invokevirtual 139, 3) := by decide +kernel
theorem dX5_best_13 : decode cX5_best 13 = .ok (.ifCond .eq 22, 3) := by decide +kernel
theorem dX5_best_16 : decode cX5_best 16 = .ok (.aload_n 0, 1) := by decide +kernel
theorem dX5_best_17 : decode cX5_best 17 = .ok (.iload_n 3, 1) := by decide +kernel
theorem dX5_best_18 : decode cX5_best 18 = .ok (.invokevirtual 139, 3) := by decide +kernel
theorem dX5_best_21 : decode cX5_best 21 = .ok (.ifCond .eq 14, 3) := by decide +kernel
theorem dX5_best_24 : decode cX5_best 24 = .ok (.iload 4, 2) := by decide +kernel
theorem dX5_best_26 : decode cX5_best 26 = .ok (.ifCond .lt 9, 3) := by decide +kernel
theorem dX5_best_29 : decode cX5_best 29 = .ok (.iload 4, 2) := by decide +kernel
theorem dX5_best_31 : decode cX5_best 31 = .ok (.iconst 2, 1) := by decide +kernel
theorem dX5_best_32 : decode cX5_best 32 = .ok (.if_icmp .le 7, 3) := by decide +kernel
theorem dX5_best_35 : decode cX5_best 35 = .ok (.ldc2_w 153, 3) := by decide +kernel
theorem dX5_best_38 : decode cX5_best 38 = .ok (.lreturn, 1) := by decide +kernel
theorem dX5_best_39 : decode cX5_best 39 = .ok (.aload_n 0, 1) := by decide +kernel
theorem dX5_best_40 : decode cX5_best 40 = .ok (.iload_n 1, 1) := by decide +kernel
theorem dX5_best_41 : decode cX5_best 41 = .ok (.iconst 0, 1) := by decide +kernel
theorem dX5_best_42 : decode cX5_best 42 = .ok (.aload_n 0, 1) := by decide +kernel
theorem dX5_best_43 : decode cX5_best 43 = .ok (.iconst 5, 1) := by decide +kernel
theorem dX5_best_44 : decode cX5_best 44 = .ok (.invokevirtual 142, 3) := by decide +kernel
theorem dX5_best_47 : decode cX5_best 47 = .ok (.invokevirtual 155, 3) := by decide +kernel
theorem dX5_best_50 : decode cX5_best 50 = .ok (.aload_n 0, 1) := by decide +kernel
theorem dX5_best_51 : decode cX5_best 51 = .ok (.getfield 31, 3) := by decide +kernel
theorem dX5_best_54 : decode cX5_best 54 = .ok (.iload_n 2, 1) := by decide +kernel
theorem dX5_best_55 : decode cX5_best 55 = .ok (.iconst 1, 1) := by decide +kernel
theorem dX5_best_56 : decode cX5_best 56 = .ok (.iadd, 1) := by decide +kernel
theorem dX5_best_57 : decode cX5_best 57 = .ok (.invokevirtual 159, 3) := by decide +kernel
theorem dX5_best_60 : decode cX5_best 60 = .ok (.aload_n 0, 1) := by decide +kernel
theorem dX5_best_61 : decode cX5_best 61 = .ok (.getfield 31, 3) := by decide +kernel
theorem dX5_best_64 : decode cX5_best 64 = .ok (.iload_n 3, 1) := by decide +kernel
theorem dX5_best_65 : decode cX5_best 65 = .ok (.iconst 1, 1) := by decide +kernel
theorem dX5_best_66 : decode cX5_best 66 = .ok (.iadd, 1) := by decide +kernel
theorem dX5_best_67 : decode cX5_best 67 = .ok (.invokevirtual 162, 3) := by decide +kernel
theorem dX5_best_70 : decode cX5_best 70 = .ok (.lstore 5, 2) := by decide +kernel
theorem dX5_best_72 : decode cX5_best 72 = .ok (.lload 5, 2) := by decide +kernel
theorem dX5_best_74 : decode cX5_best 74 = .ok (.lconst 0, 1) := by decide +kernel
theorem dX5_best_75 : decode cX5_best 75 = .ok (.lcmp, 1) := by decide +kernel
theorem dX5_best_76 : decode cX5_best 76 = .ok (.ifCond .ne 7, 3) := by decide +kernel
theorem dX5_best_79 : decode cX5_best 79 = .ok (.ldc2_w 166, 3) := by decide +kernel
theorem dX5_best_82 : decode cX5_best 82 = .ok (.lreturn, 1) := by decide +kernel
theorem dX5_best_83 : decode cX5_best 83 = .ok (.iload 4, 2) := by decide +kernel
theorem dX5_best_85 : decode cX5_best 85 = .ok (.iconst 2, 1) := by decide +kernel
theorem dX5_best_86 : decode cX5_best 86 = .ok (.if_icmp .ne 17, 3) := by decide +kernel
theorem dX5_best_89 : decode cX5_best 89 = .ok (.aload_n 0, 1) := by decide +kernel
theorem dX5_best_90 : decode cX5_best 90 = .ok (.getfield 31, 3) := by decide +kernel
theorem dX5_best_93 : decode cX5_best 93 = .ok (.iload_n 3, 1) := by decide +kernel
theorem dX5_best_94 : decode cX5_best 94 = .ok (.iconst 1, 1) := by decide +kernel
theorem dX5_best_95 : decode cX5_best 95 = .ok (.iadd, 1) := by decide +kernel
theorem dX5_best_96 : decode cX5_best 96 = .ok (.invokevirtual 168, 3) := by decide +kernel
theorem dX5_best_99 : decode cX5_best 99 = .ok (.i2l, 1) := by decide +kernel
theorem dX5_best_100 : decode cX5_best 100 = .ok (.goto 13, 3) := by decide +kernel
theorem dX5_best_103 : decode cX5_best 103 = .ok (.lload 5, 2) := by decide +kernel
theorem dX5_best_105 : decode cX5_best 105 = .ok (.ldc2_w 171, 3) := by decide +kernel
theorem dX5_best_108 : decode cX5_best 108 = .ok (.iload 4, 2) := by decide +kernel
theorem dX5_best_110 : decode cX5_best 110 = .ok (.invokestatic 173, 3) := by decide +kernel
theorem dX5_best_113 : decode cX5_best 113 = .ok (.lreturn, 1) := by decide +kernel
theorem dX5_high_0 : decode cX5_high 0 = .ok (.aload_n 0, 1) := by decide +kernel
theorem dX5_high_1 : decode cX5_high 1 = .ok (.iload_n 1, 1) := by decide +kernel
theorem dX5_high_2 : decode cX5_high 2 = .ok (.invokevirtual 120, 3) := by decide +kernel
theorem dX5_high_5 : decode cX5_high 5 = .ok (.ifCond .eq 12, 3) := by decide +kernel
theorem dX5_high_8 : decode cX5_high 8 = .ok (.iload_n 2, 1) := by decide +kernel
theorem dX5_high_9 : decode cX5_high 9 = .ok (.ifCond .lt 8, 3) := by decide +kernel
theorem dX5_high_12 : decode cX5_high 12 = .ok (.iload_n 2, 1) := by decide +kernel
theorem dX5_high_13 : decode cX5_high 13 = .ok (.iconst 1, 1) := by decide +kernel
theorem dX5_high_14 : decode cX5_high 14 = .ok (.if_icmp .le 5, 3) := by decide +kernel
theorem dX5_high_17 : decode cX5_high 17 = .ok (.iconst (-1), 1) := by decide +kernel
theorem dX5_high_18 : decode cX5_high 18 = .ok (.ireturn, 1) := by decide +kernel
theorem dX5_high_19 : decode cX5_high 19 = .ok (.aload_n 0, 1) := by decide +kernel
theorem dX5_high_20 : decode cX5_high 20 = .ok (.iload_n 1, 1) := by decide +kernel
theorem dX5_high_21 : decode cX5_high 21 = .ok (.iconst 0, 1) := by decide +kernel
theorem dX5_high_22 : decode cX5_high 22 = .ok (.aload_n 0, 1) := by decide +kernel
theorem dX5_high_23 : decode cX5_high 23 = .ok (.iconst 5, 1) := by decide +kernel
theorem dX5_high_24 : decode cX5_high 24 = .ok (.invokevirtual 142, 3) := by decide +kernel
theorem dX5_high_27 : decode cX5_high 27 = .ok (.invokevirtual 155, 3) := by decide +kernel
theorem dX5_high_30 : decode cX5_high 30 = .ok (.iload_n 2, 1) := by decide +kernel
theorem dX5_high_31 : decode cX5_high 31 = .ok (.ifCond .ne 21, 3) := by decide +kernel
theorem dX5_high_34 : decode cX5_high 34 = .ok (.aload_n 0, 1) := by decide +kernel
theorem dX5_high_35 : decode cX5_high 35 = .ok (.aload_n 0, 1) := by decide +kernel
theorem dX5_high_36 : decode cX5_high 36 = .ok (.aload_n 0, 1) := by decide +kernel
theorem dX5_high_37 : decode cX5_high 37 = .ok (.getfield 45, 3) := by decide +kernel
theorem dX5_high_40 : decode cX5_high 40 = .ok (.getfield 89, 3) := by decide +kernel
theorem dX5_high_43 : decode cX5_high 43 = .ok (.invokevirtual 177, 3) := by decide +kernel
theorem dX5_high_46 : decode cX5_high 46 = .ok (.invokevirtual 180, 3) := by decide +kernel
theorem dX5_high_49 : decode cX5_high 49 = .ok (.goto 22, 3) := by decide +kernel
theorem dX5_high_52 : decode cX5_high 52 = .ok (.aload_n 0, 1) := by decide +kernel
theorem dX5_high_53 : decode cX5_high 53 = .ok (.aload_n 0, 1) := by decide +kernel
theorem dX5_high_54 : decode cX5_high 54 = .ok (.aload_n 0, 1) := by decide +kernel
theorem dX5_high_55 : decode cX5_high 55 = .ok (.aload_n 0, 1) := by decide +kernel
theorem dX5_high_56 : decode cX5_high 56 = .ok (.getfield 45, 3) := by decide +kernel
theorem dX5_high_59 : decode cX5_high 59 = .ok (.getfield 89, 3) := by decide +kernel
theorem dX5_high_62 : decode cX5_high 62 = .ok (.invokevirtual 177, 3) := by decide +kernel
theorem dX5_high_65 : decode cX5_high 65 = .ok (.invokevirtual 183, 3) := by decide +kernel
theorem dX5_high_68 : decode cX5_high 68 = .ok (.invokevirtual 180, 3) := by decide +kernel
theorem dX5_high_71 : decode cX5_high 71 = .ok (.ireturn, 1) := by decide +kernel
theorem dX5_sure_0 : decode cX5_sure 0 = .ok (.aload_n 0, 1) := by decide +kernel
theorem dX5_sure_1 : decode cX5_sure 1 = .ok (.iload_n 1, 1) := by decide +kernel
theorem dX5_sure_2 : decode cX5_sure 2 = .ok (.invokevirtual 120, 3) := by decide +kernel
theorem dX5_sure_5 : decode cX5_sure 5 = .ok (.ifCond .eq 13, 3) := by decide +kernel
theorem dX5_sure_8 : decode cX5_sure 8 = .ok (.iload_n 2, 1) := by decide +kernel
theorem dX5_sure_9 : decode cX5_sure 9 = .ok (.ifCond .lt 9, 3) := by decide +kernel
theorem dX5_sure_12 : decode cX5_sure 12 = .ok (.iload_n 2, 1) := by decide +kernel
theorem dX5_sure_13 : decode cX5_sure 13 = .ok (.bipush 100, 2) := by decide +kernel
theorem dX5_sure_15 : decode cX5_sure 15 = .ok (.if_icmp .le 5, 3) := by decide +kernel
theorem dX5_sure_18 : decode cX5_sure 18 = .ok (.iconst (-1), 1) := by decide +kernel
theorem dX5_sure_19 : decode cX5_sure 19 = .ok (.ireturn, 1) := by decide +kernel
theorem dX5_sure_20 : decode cX5_sure 20 = .ok (.aload_n 0, 1) := by decide +kernel
theorem dX5_sure_21 : decode cX5_sure 21 = .ok (.iload_n 1, 1) := by decide +kernel
theorem dX5_sure_22 : decode cX5_sure 22 = .ok (.iconst 0, 1) := by decide +kernel
theorem dX5_sure_23 : decode cX5_sure 23 = .ok (.aload_n 0, 1) := by decide +kernel
theorem dX5_sure_24 : decode cX5_sure 24 = .ok (.iconst 5, 1) := by decide +kernel
theorem dX5_sure_25 : decode cX5_sure 25 = .ok (.invokevirtual 142, 3) := by decide +kernel
theorem dX5_sure_28 : decode cX5_sure 28 = .ok (.invokevirtual 155, 3) := by decide +kernel
theorem dX5_sure_31 : decode cX5_sure 31 = .ok (.aload_n 0, 1) := by decide +kernel
theorem dX5_sure_32 : decode cX5_sure 32 = .ok (.getfield 31, 3) := by decide +kernel
theorem dX5_sure_35 : decode cX5_sure 35 = .ok (.iconst 0, 1) := by decide +kernel
theorem dX5_sure_36 : decode cX5_sure 36 = .ok (.invokevirtual 159, 3) := by decide +kernel
theorem dX5_sure_39 : decode cX5_sure 39 = .ok (.iconst 0, 1) := by decide +kernel
theorem dX5_sure_40 : decode cX5_sure 40 = .ok (.istore_n 3, 1) := by decide +kernel
theorem dX5_sure_41 : decode cX5_sure 41 = .ok (.iconst 0, 1) := by decide +kernel
theorem dX5_sure_42 : decode cX5_sure 42 = .ok (.istore 4, 2) := by decide +kernel
theorem dX5_sure_44 : decode cX5_sure 44 = .ok (.iload 4, 2) := by decide +kernel
theorem dX5_sure_46 : decode cX5_sure 46 = .ok (.aload_n 0, 1) := by decide +kernel
theorem dX5_sure_47 : decode cX5_sure 47 = .ok (.getfield 56, 3) := by decide +kernel
theorem dX5_sure_50 : decode cX5_sure 50 = .ok (.getfield 99, 3) := by decide +kernel
theorem dX5_sure_53 : decode cX5_sure 53 = .ok (.if_icmp .ge 60, 3) := by decide +kernel
theorem dX5_sure_56 : decode cX5_sure 56 = .ok (.aload_n 0, 1) := by decide +kernel
theorem dX5_sure_57 : decode cX5_sure 57 = .ok (.getfield 31, 3) := by decide +kernel
theorem dX5_sure_60 : decode cX5_sure 60 = .ok (.iload 4, 2) := by decide +kernel
theorem dX5_sure_62 : decode cX5_sure 62 = .ok (.iconst 1, 1) := by decide +kernel
theorem dX5_sure_63 : decode cX5_sure 63 = .ok (.iadd, 1) := by decide +kernel
theorem dX5_sure_64 : decode cX5_sure 64 = .ok (.invokevirtual 162, 3) := by decide +kernel
theorem dX5_sure_67 : decode cX5_sure 67 = .ok (.lstore 5, 2) := by decide +kernel
theorem dX5_sure_69 : decode cX5_sure 69 = .ok (.lload 5, 2) := by decide +kernel
theorem dX5_sure_71 : decode cX5_sure 71 = .ok (.lconst 0, 1) := by decide +kernel
theorem dX5_sure_72 : decode cX5_sure 72 = .ok (.lcmp, 1) := by decide +kernel
theorem dX5_sure_73 : decode cX5_sure 73 = .ok (.ifCond .le 34, 3) := by decide +kernel
theorem dX5_sure_76 : decode cX5_sure 76 = .ok (.lload 5, 2) := by decide +kernel
theorem dX5_sure_78 : decode cX5_sure 78 = .ok (.ldc2_w 186, 3) := by decide +kernel
theorem dX5_sure_81 : decode cX5_sure 81 = .ok (.lmul, 1) := by decide +kernel
theorem dX5_sure_82 : decode cX5_sure 82 = .ok (.iload_n 2, 1) := by decide +kernel
theorem dX5_sure_83 : decode cX5_sure 83 = .ok (.i2l, 1) := by decide +kernel
theorem dX5_sure_84 : decode cX5_sure 84 = .ok (.ldc2_w 171, 3) := by decide +kernel
theorem dX5_sure_87 : decode cX5_sure 87 = .ok (.lmul, 1) := by decide +kernel
theorem dX5_sure_88 : decode cX5_sure 88 = .ok (.lcmp, 1) := by decide +kernel
theorem dX5_sure_89 : decode cX5_sure 89 = .ok (.ifCond .lt 18, 3) := by decide +kernel
theorem dX5_sure_92 : decode cX5_sure 92 = .ok (.iload_n 3, 1) := by decide +kernel
theorem dX5_sure_93 : decode cX5_sure 93 = .ok (.aload_n 0, 1) := by decide +kernel
theorem dX5_sure_94 : decode cX5_sure 94 = .ok (.getfield 56, 3) := by decide +kernel
theorem dX5_sure_97 : decode cX5_sure 97 = .ok (.iload 4, 2) := by decide +kernel
