theorem dX0_init_0 : decode cX0_init 0 = .ok (.aload_n 0, 1) := by decide +kernel
theorem dX0_init_1 : decode cX0_init 1 = .ok (.invokespecial 3, 3) := by decide +kernel
theorem dX0_init_4 : decode cX0_init 4 = .ok (.aload_n 0, 1) := by decide +kernel
theorem dX0_init_5 : decode cX0_init 5 = .ok (.bipush 24, 2) := by decide +kernel
theorem dX0_init_7 : decode cX0_init 7 = .ok (.bipush 24, 2) := by decide +kernel
theorem dX0_init_9 : decode cX0_init 9 = .ok (.multianewarray 11 2, 4) := by decide +kernel
theorem dX0_init_13 : decode cX0_init 13 = .ok (.putfield 13, 3) := by decide +kernel
theorem dX0_init_16 : decode cX0_init 16 = .ok (.aload_n 0, 1) := by decide +kernel
theorem dX0_init_17 : decode cX0_init 17 = .ok (.iconst 0, 1) := by decide +kernel
theorem dX0_init_18 : decode cX0_init 18 = .ok (.putfield 16, 3) := by decide +kernel
theorem dX0_init_21 : decode cX0_init 21 = .ok (.aload_n 0, 1) := by decide +kernel
theorem dX0_init_22 : decode cX0_init 22 = .ok (.iconst 0, 1) := by decide +kernel
theorem dX0_init_23 : decode cX0_init 23 = .ok (.putfield 20, 3) := by decide +kernel
theorem dX0_init_26 : decode cX0_init 26 = .ok (.return_, 1) := by decide +kernel
theorem dX0_keep_0 : decode cX0_keep 0 = .ok (.aload_n 1, 1) := by decide +kernel
theorem dX0_keep_1 : decode cX0_keep 1 = .ok (.getfield 23, 3) := by decide +kernel
theorem dX0_keep_4 : decode cX0_keep 4 = .ok (.iconst 0, 1) := by decide +kernel
theorem dX0_keep_5 : decode cX0_keep 5 = .ok (.aload_n 0, 1) := by decide +kernel
theorem dX0_keep_6 : decode cX0_keep 6 = .ok (.getfield 13, 3) := by decide +kernel
theorem dX0_keep_9 : decode cX0_keep 9 = .ok (.aload_n 0, 1) := by decide +kernel
theorem dX0_keep_10 : decode cX0_keep 10 = .ok (.getfield 16, 3) := by decide +kernel
theorem dX0_keep_13 : decode cX0_keep 13 = .ok (.aaload, 1) := by decide +kernel
theorem dX0_keep_14 : decode cX0_keep 14 = .ok (.iconst 0, 1) := by decide +kernel
theorem dX0_keep_15 : decode cX0_keep 15 = .ok (.bipush 24, 2) := by decide +kernel
theorem dX0_keep_17 : decode cX0_keep 17 = .ok (.invokestatic 29, 3) := by decide +kernel
theorem dX0_keep_20 : decode cX0_keep 20 = .ok (.aload_n 0, 1) := by decide +kernel
theorem dX0_keep_21 : decode cX0_keep 21 = .ok (.aload_n 0, 1) := by decide +kernel
theorem dX0_keep_22 : decode cX0_keep 22 = .ok (.getfield 16, 3) := by decide +kernel
theorem dX0_keep_25 : decode cX0_keep 25 = .ok (.iconst 1, 1) := by decide +kernel
theorem dX0_keep_26 : decode cX0_keep 26 = .ok (.iadd, 1) := by decide +kernel
theorem dX0_keep_27 : decode cX0_keep 27 = .ok (.bipush 24, 2) := by decide +kernel
theorem dX0_keep_29 : decode cX0_keep 29 = .ok (.irem, 1) := by decide +kernel
theorem dX0_keep_30 : decode cX0_keep 30 = .ok (.putfield 16, 3) := by decide +kernel
theorem dX0_keep_33 : decode cX0_keep 33 = .ok (.aload_n 0, 1) := by decide +kernel
theorem dX0_keep_34 : decode cX0_keep 34 = .ok (.aload_n 0, 1) := by decide +kernel
theorem dX0_keep_35 : decode cX0_keep 35 = .ok (.getfield 20, 3) := by decide +kernel
theorem dX0_keep_38 : decode cX0_keep 38 = .ok (.iconst 1, 1) := by decide +kernel
theorem dX0_keep_39 : decode cX0_keep 39 = .ok (.iadd, 1) := by decide +kernel
theorem dX0_keep_40 : decode cX0_keep 40 = .ok (.bipush 24, 2) := by decide +kernel
theorem dX0_keep_42 : decode cX0_keep 42 = .ok (.invokestatic 35, 3) := by decide +kernel
theorem dX0_keep_45 : decode cX0_keep 45 = .ok (.putfield 20, 3) := by decide +kernel
theorem dX0_keep_48 : decode cX0_keep 48 = .ok (.return_, 1) := by decide +kernel
theorem dX0_takeBack_0 : decode cX0_takeBack 0 = .ok (.aload_n 0, 1) := by decide +kernel
theorem dX0_takeBack_1 : decode cX0_takeBack 1 = .ok (.getfield 20, 3) := by decide +kernel
theorem dX0_takeBack_4 : decode cX0_takeBack 4 = .ok (.ifCond .ne 5, 3) := by decide +kernel
theorem dX0_takeBack_7 : decode cX0_takeBack 7 = .ok (.iconst 0, 1) := by decide +kernel
theorem dX0_takeBack_8 : decode cX0_takeBack 8 = .ok (.ireturn, 1) := by decide +kernel
theorem dX0_takeBack_9 : decode cX0_takeBack 9 = .ok (.aload_n 0, 1) := by decide +kernel
theorem dX0_takeBack_10 : decode cX0_takeBack 10 = .ok (.aload_n 0, 1) := by decide +kernel
theorem dX0_takeBack_11 : decode cX0_takeBack 11 = .ok (.getfield 16, 3) := by decide +kernel
theorem dX0_takeBack_14 : decode cX0_takeBack 14 = .ok (.bipush 24, 2) := by decide +kernel
theorem dX0_takeBack_16 : decode cX0_takeBack 16 = .ok (.iadd, 1) := by decide +kernel
theorem dX0_takeBack_17 : decode cX0_takeBack 17 = .ok (.iconst 1, 1) := by decide +kernel
theorem dX0_takeBack_18 : decode cX0_takeBack 18 = .ok (.isub, 1) := by decide +kernel
theorem dX0_takeBack_19 : decode cX0_takeBack 19 = .ok (.bipush 24, 2) := by decide +kernel
theorem dX0_takeBack_21 : decode cX0_takeBack 21 = .ok (.irem, 1) := by decide +kernel
theorem dX0_takeBack_22 : decode cX0_takeBack 22 = .ok (.putfield 16, 3) := by decide +kernel
theorem dX0_takeBack_25 : decode cX0_takeBack 25 = .ok (.aload_n 0, 1) := by decide +kernel
theorem dX0_takeBack_26 : decode cX0_takeBack 26 = .ok (.dup, 1) := by decide +kernel
theorem dX0_takeBack_27 : decode cX0_takeBack 27 = .ok (.getfield 20, 3) := by decide +kernel
theorem dX0_takeBack_30 : decode cX0_takeBack 30 = .ok (.iconst 1, 1) := by decide +kernel
theorem dX0_takeBack_31 : decode cX0_takeBack 31 = .ok (.isub, 1) := by decide +kernel
theorem dX0_takeBack_32 : decode cX0_takeBack 32 = .ok (.putfield 20, 3) := by decide +kernel
theorem dX0_takeBack_35 : decode cX0_takeBack 35 = .ok (.aload_n 0, 1) := by decide +kernel
theorem dX0_takeBack_36 : decode cX0_takeBack 36 = .ok (.getfield 13, 3) := by decide +kernel
theorem dX0_takeBack_39 : decode cX0_takeBack 39 = .ok (.aload_n 0, 1) := by decide +kernel
theorem dX0_takeBack_40 : decode cX0_takeBack 40 = .ok (.getfield 16, 3) := by decide +kernel
theorem dX0_takeBack_43 : decode cX0_takeBack 43 = .ok (.aaload, 1) := by decide +kernel
theorem dX0_takeBack_44 : decode cX0_takeBack 44 = .ok (.iconst 0, 1) := by decide +kernel
theorem dX0_takeBack_45 : decode cX0_takeBack 45 = .ok (.aload_n 1, 1) := by decide +kernel
theorem dX0_takeBack_46 : decode cX0_takeBack 46 = .ok (.getfield 23, 3) := by decide +kernel
theorem dX0_takeBack_49 : decode cX0_takeBack 49 = .ok (.iconst 0, 1) := by decide +kernel
theorem dX0_takeBack_50 : decode cX0_takeBack 50 = .ok (.bipush 24, 2) := by decide +kernel
theorem dX0_takeBack_52 : decode cX0_takeBack 52 = .ok (.invokestatic 29, 3) := by decide +kernel
theorem dX0_takeBack_55 : decode cX0_takeBack 55 = .ok (.iconst 1, 1) := by decide +kernel
theorem dX0_takeBack_56 : decode cX0_takeBack 56 = .ok (.ireturn, 1) := by decide +kernel
theorem dX0_forget_0 : decode cX0_forget 0 = .ok (.aload_n 0, 1) := by decide +kernel
theorem dX0_forget_1 : decode cX0_forget 1 = .ok (.iconst 0, 1) := by decide +kernel
theorem dX0_forget_2 : decode cX0_forget 2 = .ok (.putfield 20, 3) := by decide +kernel
theorem dX0_forget_5 : decode cX0_forget 5 = .ok (.return_, 1) := by decide +kernel
theorem dX1_init_0 : decode cX1_init 0 = .ok (.aload_n 0, 1) := by decide +kernel
theorem dX1_init_1 : decode cX1_init 1 = .ok (.invokespecial 3, 3) := by decide +kernel
theorem dX1_init_4 : decode cX1_init 4 = .ok (.aload_n 0, 1) := by decide +kernel
theorem dX1_init_5 : decode cX1_init 5 = .ok (.bipush 16, 2) := by decide +kernel
theorem dX1_init_7 : decode cX1_init 7 = .ok (.newarray .int, 2) := by decide +kernel
theorem dX1_init_9 : decode cX1_init 9 = .ok (.putfield 11, 3) := by decide +kernel
theorem dX1_init_12 : decode cX1_init 12 = .ok (.aload_n 0, 1) := by decide +kernel
theorem dX1_init_13 : decode cX1_init 13 = .ok (.bipush 16, 2) := by decide +kernel
theorem dX1_init_15 : decode cX1_init 15 = .ok (.newarray .int, 2) := by decide +kernel
theorem dX1_init_17 : decode cX1_init 17 = .ok (.putfield 15, 3) := by decide +kernel
theorem dX1_init_20 : decode cX1_init 20 = .ok (.aload_n 0, 1) := by decide +kernel
theorem dX1_init_21 : decode cX1_init 21 = .ok (.iconst 0, 1) := by decide +kernel
theorem dX1_init_22 : decode cX1_init 22 = .ok (.putfield 18, 3) := by decide +kernel
theorem dX1_init_25 : decode cX1_init 25 = .ok (.return_, 1) := by decide +kernel
theorem dX1_isFull_0 : decode cX1_isFull 0 = .ok (.aload_n 0, 1) := by decide +kernel
theorem dX1_isFull_1 : decode cX1_isFull 1 = .ok (.getfield 18, 3) := by decide +kernel
theorem dX1_isFull_4 : decode cX1_isFull 4 = .ok (.bipush 16, 2) := by decide +kernel
theorem dX1_isFull_6 : decode cX1_isFull 6 = .ok (.if_icmp .lt 7, 3) := by decide +kernel
theorem dX1_isFull_9 : decode cX1_isFull 9 = .ok (.iconst 1, 1) := by decide +kernel
theorem dX1_isFull_10 : decode cX1_isFull 10 = .ok (.goto 4, 3) := by decide +kernel
theorem dX1_isFull_13 : decode cX1_isFull 13 = .ok (.iconst 0, 1) := by decide +kernel
theorem dX1_isFull_14 : decode cX1_isFull 14 = .ok (.ireturn, 1) := by decide +kernel
theorem dX1_append_0 : decode cX1_append 0 = .ok (.aload_n 0, 1) := by decide +kernel
theorem dX1_append_1 : decode cX1_append 1 = .ok (.getfield 11, 3) := by decide +kernel
theorem dX1_append_4 : decode cX1_append 4 = .ok (.aload_n 0, 1) := by decide +kernel
theorem dX1_append_5 : decode cX1_append 5 = .ok (.getfield 18, 3) := by decide +kernel
theorem dX1_append_8 : decode cX1_append 8 = .ok (.iload_n 1, 1) := by decide +kernel
theorem dX1_append_9 : decode cX1_append 9 = .ok (.iastore, 1) := by decide +kernel
theorem dX1_append_10 : decode cX1_append 10 = .ok (.aload_n 0, 1) := by decide +kernel
theorem dX1_append_11 : decode cX1_append 11 = .ok (.getfield 15, 3) := by decide +kernel
theorem dX1_append_14 : decode cX1_append 14 = .ok (.aload_n 0, 1) := by decide +kernel
theorem dX1_append_15 : decode cX1_append 15 = .ok (.getfield 18, 3) := by decide +kernel
theorem dX1_append_18 : decode cX1_append 18 = .ok (.iload_n 2, 1) := by decide +kernel
theorem dX1_append_19 : decode cX1_append 19 = .ok (.iastore, 1) := by decide +kernel
theorem dX1_append_20 : decode cX1_append 20 = .ok (.aload_n 0, 1) := by decide +kernel
theorem dX1_append_21 : decode cX1_append 21 = .ok (.dup, 1) := by decide +kernel
theorem dX1_append_22 : decode cX1_append 22 = .ok (.getfield 18, 3) := by decide +kernel
theorem dX1_append_25 : decode cX1_append 25 = .ok (.iconst 1, 1) := by decide +kernel
theorem dX1_append_26 : decode cX1_append 26 = .ok (.iadd, 1) := by decide +kernel
theorem dX1_append_27 : decode cX1_append 27 = .ok (.putfield 18, 3) := by decide +kernel
theorem dX1_append_30 : decode cX1_append 30 = .ok (.aload_n 0, 1) := by decide +kernel
theorem dX1_append_31 : decode cX1_append 31 = .ok (.getfield 18, 3) := by decide +kernel
theorem dX1_append_34 : decode cX1_append 34 = .ok (.ireturn, 1) := by decide +kernel
theorem dX1_empty_0 : decode cX1_empty 0 = .ok (.aload_n 0, 1) := by decide +kernel
theorem dX1_empty_1 : decode cX1_empty 1 = .ok (.getfield 18, 3) := by decide +kernel
theorem dX1_empty_4 : decode cX1_empty 4 = .ok (.istore_n 1, 1) := by decide +kernel
theorem dX1_empty_5 : decode cX1_empty 5 = .ok (.aload_n 0, 1) := by decide +kernel
theorem dX1_empty_6 : decode cX1_empty 6 = .ok (.iconst 0, 1) := by decide +kernel
theorem dX1_empty_7 : decode cX1_empty 7 = .ok (.putfield 18, 3) := by decide +kernel
theorem dX1_empty_10 : decode cX1_empty 10 = .ok (.iload_n 1, 1) := by decide +kernel
theorem dX1_empty_11 : decode cX1_empty 11 = .ok (.ireturn, 1) := by decide +kernel
theorem dX1_linesOf_0 : decode cX1_linesOf 0 = .ok (.iconst 0, 1) := by decide +kernel
theorem dX1_linesOf_1 : decode cX1_linesOf 1 = .ok (.istore_n 2, 1) := by decide +kernel
theorem dX1_linesOf_2 : decode cX1_linesOf 2 = .ok (.iconst 0, 1) := by decide +kernel
theorem dX1_linesOf_3 : decode cX1_linesOf 3 = .ok (.istore_n 3, 1) := by decide +kernel
theorem dX1_linesOf_4 : decode cX1_linesOf 4 = .ok (.iload_n 3, 1) := by decide +kernel
theorem dX1_linesOf_5 : decode cX1_linesOf 5 = .ok (.aload_n 0, 1) := by decide +kernel
theorem dX1_linesOf_6 : decode cX1_linesOf 6 = .ok (.getfield 18, 3) := by decide +kernel
theorem dX1_linesOf_9 : decode cX1_linesOf 9 = .ok (.if_icmp .ge 22, 3) := by decide +kernel
theorem dX1_linesOf_12 : decode cX1_linesOf 12 = .ok (.aload_n 0, 1) := by decide +kernel
theorem dX1_linesOf_13 : decode cX1_linesOf 13 = .ok (.getfield 11, 3) := by decide +kernel
theorem dX1_linesOf_16 : decode cX1_linesOf 16 = .ok (.iload_n 3, 1) := by decide +kernel
theorem dX1_linesOf_17 : decode cX1_linesOf 17 = .ok (.iaload, 1) := by decide +kernel
theorem dX1_linesOf_18 : decode cX1_linesOf 18 = .ok (.iload_n 1, 1) := by decide +kernel
theorem dX1_linesOf_19 : decode cX1_linesOf 19 = .ok (.if_icmp .ne 6, 3) := by decide +kernel
theorem dX1_linesOf_22 : decode cX1_linesOf 22 = .ok (.iinc 2 1, 3) := by decide +kernel
theorem dX1_linesOf_25 : decode cX1_linesOf 25 = .ok (.iinc 3 1, 3) := by decide +kernel
theorem dX1_linesOf_28 : decode cX1_linesOf 28 = .ok (.goto (-24), 3) := by decide +kernel
theorem dX1_linesOf_31 : decode cX1_linesOf 31 = .ok (.iload_n 2, 1) := by decide +kernel
theorem dX1_linesOf_32 : decode cX1_linesOf 32 = .ok (.ireturn, 1) := by decide +kernel
theorem dX1_sleptIn_0 : decode cX1_sleptIn 0 = .ok (.iconst 0, 1) := by decide +kernel
theorem dX1_sleptIn_1 : decode cX1_sleptIn 1 = .ok (.istore_n 2, 1) := by decide +kernel
theorem dX1_sleptIn_2 : decode cX1_sleptIn 2 = .ok (.iconst 0, 1) := by decide +kernel
theorem dX1_sleptIn_3 : decode cX1_sleptIn 3 = .ok (.istore_n 3, 1) := by decide +kernel
theorem dX1_sleptIn_4 : decode cX1_sleptIn 4 = .ok (.iload_n 3, 1) := by decide +kernel
theorem dX1_sleptIn_5 : decode cX1_sleptIn 5 = .ok (.aload_n 0, 1) := by decide +kernel
theorem dX1_sleptIn_6 : decode cX1_sleptIn 6 = .ok (.getfield 18, 3) := by decide +kernel
theorem dX1_sleptIn_9 : decode cX1_sleptIn 9 = .ok (.if_icmp .ge 28, 3) := by decide +kernel
theorem dX1_sleptIn_12 : decode cX1_sleptIn 12 = .ok (.aload_n 0, 1) := by decide +kernel
theorem dX1_sleptIn_13 : decode cX1_sleptIn 13 = .ok (.getfield 11, 3) := by decide +kernel
theorem dX1_sleptIn_16 : decode cX1_sleptIn 16 = .ok (.iload_n 3, 1) := by decide +kernel
theorem dX1_sleptIn_17 : decode cX1_sleptIn 17 = .ok (.iaload, 1) := by decide +kernel
theorem dX1_sleptIn_18 : decode cX1_sleptIn 18 = .ok (.iload_n 1, 1) := by decide +kernel
theorem dX1_sleptIn_19 : decode cX1_sleptIn 19 = .ok (.if_icmp .ne 12, 3) := by decide +kernel
theorem dX1_sleptIn_22 : decode cX1_sleptIn 22 = .ok (.iload_n 2, 1) := by decide +kernel
theorem dX1_sleptIn_23 : decode cX1_sleptIn 23 = .ok (.aload_n 0, 1) := by decide +kernel
theorem dX1_sleptIn_24 : decode cX1_sleptIn 24 = .ok (.getfield 15, 3) := by decide +kernel
theorem dX1_sleptIn_27 : decode cX1_sleptIn 27 = .ok (.iload_n 3, 1) := by decide +kernel
theorem dX1_sleptIn_28 : decode cX1_sleptIn 28 = .ok (.iaload, 1) := by decide +kernel
theorem dX1_sleptIn_29 : decode cX1_sleptIn 29 = .ok (.iadd, 1) := by decide +kernel
theorem dX1_sleptIn_30 : decode cX1_sleptIn 30 = .ok (.istore_n 2, 1) := by decide +kernel
theorem dX1_sleptIn_31 : decode cX1_sleptIn 31 = .ok (.iinc 3 1, 3) := by decide +kernel
theorem dX1_sleptIn_34 : decode cX1_sleptIn 34 = .ok (.goto (-30), 3) := by decide +kernel
theorem dX1_sleptIn_37 : decode cX1_sleptIn 37 = .ok (.iload_n 2, 1) := by decide +kernel
theorem dX1_sleptIn_38 : decode cX1_sleptIn 38 = .ok (.ireturn, 1) := by decide +kernel
theorem dX1_quietestHour_0 : decode cX1_quietestHour 0 = .ok (.ldc 22, 2) := by decide +kernel
theorem dX1_quietestHour_2 : decode cX1_quietestHour 2 = .ok (.istore_n 1, 1) := by decide +kernel
theorem dX1_quietestHour_3 : decode cX1_quietestHour 3 = .ok (.iconst 0, 1) := by decide +kernel
theorem dX1_quietestHour_4 : decode cX1_quietestHour 4 = .ok (.istore_n 2, 1) := by decide +kernel
theorem dX1_quietestHour_5 : decode cX1_quietestHour 5 = .ok (.iconst 0, 1) := by decide +kernel
theorem dX1_quietestHour_6 : decode cX1_quietestHour 6 = .ok (.istore_n 3, 1) := by decide +kernel
theorem dX1_quietestHour_7 : decode cX1_quietestHour 7 = .ok (.iconst 0, 1) := by decide +kernel
theorem dX1_quietestHour_8 : decode cX1_quietestHour 8 = .ok (.istore 4, 2) := by decide +kernel
theorem dX1_quietestHour_10 : decode cX1_quietestHour 10 = .ok (.iload 4, 2) := by decide +kernel
theorem dX1_quietestHour_12 : decode cX1_quietestHour 12 = .ok (.bipush 24, 2) := by decide +kernel
theorem dX1_quietestHour_14 : decode cX1_quietestHour 14 = .ok (.if_icmp .ge 54, 3) := by decide +kernel
theorem dX1_quietestHour_17 : decode cX1_quietestHour 17 = .ok (.aload_n 0, 1) := by decide +kernel
theorem dX1_quietestHour_18 : decode cX1_quietestHour 18 = .ok (.iload 4, 2) := by decide +kernel
theorem dX1_quietestHour_20 : decode cX1_quietestHour 20 = .ok (.invokevirtual 23, 3) := by decide +kernel
theorem dX1_quietestHour_23 : decode cX1_quietestHour 23 = .ok (.istore 5, 2) := by decide +kernel
theorem dX1_quietestHour_25 : decode cX1_quietestHour 25 = .ok (.aload_n 0, 1) := by decide +kernel
theorem dX1_quietestHour_26 : decode cX1_quietestHour 26 = .ok (.iload 4, 2) := by decide +kernel
theorem dX1_quietestHour_28 : decode cX1_quietestHour 28 = .ok (.invokevirtual 27, 3) := by decide +kernel
theorem dX1_quietestHour_31 : decode cX1_quietestHour 31 = .ok (.istore 6, 2) := by decide +kernel
theorem dX1_quietestHour_33 : decode cX1_quietestHour 33 = .ok (.iload 6, 2) := by decide +kernel
theorem dX1_quietestHour_35 : decode cX1_quietestHour 35 = .ok (.ifCond .le 27, 3) := by decide +kernel
theorem dX1_quietestHour_38 : decode cX1_quietestHour 38 = .ok (.iload_n 3, 1) := by decide +kernel
theorem dX1_quietestHour_39 : decode cX1_quietestHour 39 = .ok (.ifCond .eq 14, 3) := by decide +kernel
theorem dX1_quietestHour_42 : decode cX1_quietestHour 42 = .ok (.iload 5, 2) := by decide +kernel
theorem dX1_quietestHour_44 : decode cX1_quietestHour 44 = .ok (.iload_n 3, 1) := by decide +kernel
theorem dX1_quietestHour_45 : decode cX1_quietestHour 45 = .ok (.imul, 1) := by decide +kernel
theorem dX1_quietestHour_46 : decode cX1_quietestHour 46 = .ok (.iload_n 2, 1) := by decide +kernel
theorem dX1_quietestHour_47 : decode cX1_quietestHour 47 = .ok (.iload 6, 2) := by decide +kernel
theorem dX1_quietestHour_49 : decode cX1_quietestHour 49 = .ok (.imul, 1) := by decide +kernel
theorem dX1_quietestHour_50 : decode cX1_quietestHour 50 = .ok (.if_icmp .le 12, 3) := by decide +kernel
theorem dX1_quietestHour_53 : decode cX1_quietestHour 53 = .ok (.iload 4, 2) := by decide +kernel
theorem dX1_quietestHour_55 : decode cX1_quietestHour 55 = .ok (.istore_n 1, 1) := by decide +kernel
theorem dX1_quietestHour_56 : decode cX1_quietestHour 56 = .ok (.iload 5, 2) := by decide +kernel
theorem dX1_quietestHour_58 : decode cX1_quietestHour 58 = .ok (.istore_n 2, 1) := by decide +kernel
theorem dX1_quietestHour_59 : decode cX1_quietestHour 59 = .ok (.iload 6, 2) := by decide +kernel
theorem dX1_quietestHour_61 : decode cX1_quietestHour 61 = .ok (.istore_n 3, 1) := by decide +kernel
theorem dX1_quietestHour_62 : decode cX1_quietestHour 62 = .ok (.iinc 4 1, 3) := by decide +kernel
theorem dX1_quietestHour_65 : decode cX1_quietestHour 65 = .ok (.goto (-55), 3) := by decide +kernel
theorem dX1_quietestHour_68 : decode cX1_quietestHour 68 = .ok (.iload_n 1, 1) := by decide +kernel
theorem dX1_quietestHour_69 : decode cX1_quietestHour 69 = .ok (.ireturn, 1) := by decide +kernel
theorem dX2_init_0 : decode cX2_init 0 = .ok (.aload_n 0, 1) := by decide +kernel
theorem dX2_init_1 : decode cX2_init 1 = .ok (.invokespecial 3, 3) := by decide +kernel
theorem dX2_init_4 : decode cX2_init 4 = .ok (.aload_n 0, 1) := by decide +kernel
theorem dX2_init_5 : decode cX2_init 5 = .ok (.bipush 6, 2) := by decide +kernel
theorem dX2_init_7 : decode cX2_init 7 = .ok (.newarray .int, 2) := by decide +kernel
theorem dX2_init_9 : decode cX2_init 9 = .ok (.putfield 9, 3) := by decide +kernel
theorem dX2_init_12 : decode cX2_init 12 = .ok (.aload_n 0, 1) := by decide +kernel
theorem dX2_init_13 : decode cX2_init 13 = .ok (.iconst 0, 1) := by decide +kernel
theorem dX2_init_14 : decode cX2_init 14 = .ok (.putfield 15, 3) := by decide +kernel
theorem dX2_init_17 : decode cX2_init 17 = .ok (.aload_n 0, 1) := by decide +kernel
theorem dX2_init_18 : decode cX2_init 18 = .ok (.lconst 0, 1) := by decide +kernel
theorem dX2_init_19 : decode cX2_init 19 = .ok (.putfield 19, 3) := by decide +kernel
theorem dX2_init_22 : decode cX2_init 22 = .ok (.aload_n 0, 1) := by decide +kernel
theorem dX2_init_23 : decode cX2_init 23 = .ok (.lconst 1, 1) := by decide +kernel
theorem dX2_init_24 : decode cX2_init 24 = .ok (.putfield 23, 3) := by decide +kernel
theorem dX2_init_27 : decode cX2_init 27 = .ok (.return_, 1) := by decide +kernel
theorem dX2_solve_0 : decode cX2_solve 0 = .ok (.aload_n 0, 1) := by decide +kernel
theorem dX2_solve_1 : decode cX2_solve 1 = .ok (.iconst 0, 1) := by decide +kernel
theorem dX2_solve_2 : decode cX2_solve 2 = .ok (.putfield 15, 3) := by decide +kernel
theorem dX2_solve_5 : decode cX2_solve 5 = .ok (.iconst 1, 1) := by decide +kernel
theorem dX2_solve_6 : decode cX2_solve 6 = .ok (.istore_n 2, 1) := by decide +kernel
theorem dX2_solve_7 : decode cX2_solve 7 = .ok (.iload_n 2, 1) := by decide +kernel
theorem dX2_solve_8 : decode cX2_solve 8 = .ok (.bipush 64, 2) := by decide +kernel
theorem dX2_solve_10 : decode cX2_solve 10 = .ok (.if_icmp .ge 105, 3) := by decide +kernel
theorem dX2_solve_13 : decode cX2_solve 13 = .ok (.aload_n 0, 1) := by decide +kernel
theorem dX2_solve_14 : decode cX2_solve 14 = .ok (.iload_n 2, 1) := by decide +kernel
theorem dX2_solve_15 : decode cX2_solve 15 = .ok (.invokevirtual 26, 3) := by decide +kernel
theorem dX2_solve_18 : decode cX2_solve 18 = .ok (.lstore_n 3, 1) := by decide +kernel
theorem dX2_solve_19 : decode cX2_solve 19 = .ok (.aload_n 0, 1) := by decide +kernel
theorem dX2_solve_20 : decode cX2_solve 20 = .ok (.iload_n 2, 1) := by decide +kernel
theorem dX2_solve_21 : decode cX2_solve 21 = .ok (.lload_n 3, 1) := by decide +kernel
theorem dX2_solve_22 : decode cX2_solve 22 = .ok (.invokevirtual 30, 3) := by decide +kernel
theorem dX2_solve_25 : decode cX2_solve 25 = .ok (.lstore 5, 2) := by decide +kernel
theorem dX2_solve_27 : decode cX2_solve 27 = .ok (.iload_n 2, 1) := by decide +kernel
theorem dX2_solve_28 : decode cX2_solve 28 = .ok (.invokestatic 34, 3) := by decide +kernel
theorem dX2_solve_31 : decode cX2_solve 31 = .ok (.iconst 1, 1) := by decide +kernel
theorem dX2_solve_32 : decode cX2_solve 32 = .ok (.isub, 1) := by decide +kernel
theorem dX2_solve_33 : decode cX2_solve 33 = .ok (.i2l, 1) := by decide +kernel
theorem dX2_solve_34 : decode cX2_solve 34 = .ok (.lload_n 3, 1) := by decide +kernel
theorem dX2_solve_35 : decode cX2_solve 35 = .ok (.lmul, 1) := by decide +kernel
theorem dX2_solve_36 : decode cX2_solve 36 = .ok (.iload_n 1, 1) := by decide +kernel
theorem dX2_solve_37 : decode cX2_solve 37 = .ok (.i2l, 1) := by decide +kernel
theorem dX2_solve_38 : decode cX2_solve 38 = .ok (.lload 5, 2) := by decide +kernel
theorem dX2_solve_40 : decode cX2_solve 40 = .ok (.lmul, 1) := by decide +kernel
theorem dX2_solve_41 : decode cX2_solve 41 = .ok (.lsub, 1) := by decide +kernel
theorem dX2_solve_42 : decode cX2_solve 42 = .ok (.lstore 7, 2) := by decide +kernel
theorem dX2_solve_44 : decode cX2_solve 44 = .ok (.lload 7, 2) := by decide +kernel
theorem dX2_solve_46 : decode cX2_solve 46 = .ok (.lload 5, 2) := by decide +kernel
theorem dX2_solve_48 : decode cX2_solve 48 = .ok (.invokestatic 40, 3) := by decide +kernel
theorem dX2_solve_51 : decode cX2_solve 51 = .ok (.lstore 9, 2) := by decide +kernel
theorem dX2_solve_53 : decode cX2_solve 53 = .ok (.lload 7, 2) := by decide +kernel
theorem dX2_solve_55 : decode cX2_solve 55 = .ok (.lload 9, 2) := by decide +kernel
theorem dX2_solve_57 : decode cX2_solve 57 = .ok (.ldiv, 1) := by decide +kernel
theorem dX2_solve_58 : decode cX2_solve 58 = .ok (.lstore 7, 2) := by decide +kernel
theorem dX2_solve_60 : decode cX2_solve 60 = .ok (.lload 5, 2) := by decide +kernel
theorem dX2_solve_62 : decode cX2_solve 62 = .ok (.lload 9, 2) := by decide +kernel
theorem dX2_solve_64 : decode cX2_solve 64 = .ok (.ldiv, 1) := by decide +kernel
theorem dX2_solve_65 : decode cX2_solve 65 = .ok (.lstore 5, 2) := by decide +kernel
theorem dX2_solve_67 : decode cX2_solve 67 = .ok (.aload_n 0, 1) := by decide +kernel
theorem dX2_solve_68 : decode cX2_solve 68 = .ok (.getfield 15, 3) := by decide +kernel
theorem dX2_solve_71 : decode cX2_solve 71 = .ok (.ifCond .eq 21, 3) := by decide +kernel
theorem dX2_solve_74 : decode cX2_solve 74 = .ok (.lload 7, 2) := by decide +kernel
theorem dX2_solve_76 : decode cX2_solve 76 = .ok (.aload_n 0, 1) := by decide +kernel
theorem dX2_solve_77 : decode cX2_solve 77 = .ok (.getfield 23, 3) := by decide +kernel
theorem dX2_solve_80 : decode cX2_solve 80 = .ok (.lmul, 1) := by decide +kernel
theorem dX2_solve_81 : decode cX2_solve 81 = .ok (.aload_n 0, 1) := by decide +kernel
theorem dX2_solve_82 : decode cX2_solve 82 = .ok (.getfield 19, 3) := by decide +kernel
theorem dX2_solve_85 : decode cX2_solve 85 = .ok (.lload 5, 2) := by decide +kernel
theorem dX2_solve_87 : decode cX2_solve 87 = .ok (.lmul, 1) := by decide +kernel
theorem dX2_solve_88 : decode cX2_solve 88 = .ok (.lcmp, 1) := by decide +kernel
theorem dX2_solve_89 : decode cX2_solve 89 = .ok (.ifCond .le 20, 3) := by decide +kernel
theorem dX2_solve_92 : decode cX2_solve 92 = .ok (.aload_n 0, 1) := by decide +kernel
theorem dX2_solve_93 : decode cX2_solve 93 = .ok (.iload_n 2, 1) := by decide +kernel
theorem dX2_solve_94 : decode cX2_solve 94 = .ok (.putfield 15, 3) := by decide +kernel
theorem dX2_solve_97 : decode cX2_solve 97 = .ok (.aload_n 0, 1) := by decide +kernel
theorem dX2_solve_98 : decode cX2_solve 98 = .ok (.lload 7, 2) := by decide +kernel
theorem dX2_solve_100 : decode cX2_solve 100 = .ok (.putfield 19, 3) := by decide +kernel
theorem dX2_solve_103 : decode cX2_solve 103 = .ok (.aload_n 0, 1) := by decide +kernel
theorem dX2_solve_104 : decode cX2_solve 104 = .ok (.lload 5, 2) := by decide +kernel
theorem dX2_solve_106 : decode cX2_solve 106 = .ok (.putfield 23, 3) := by decide +kernel
theorem dX2_solve_109 : decode cX2_solve 109 = .ok (.iinc 2 1, 3) := by decide +kernel
theorem dX2_solve_112 : decode cX2_solve 112 = .ok (.goto (-105), 3) := by decide +kernel
theorem dX2_solve_115 : decode cX2_solve 115 = .ok (.return_, 1) := by decide +kernel
theorem dX2_odds_0 : decode cX2_odds 0 = .ok (.aload_n 0, 1) := by decide +kernel
theorem dX2_odds_1 : decode cX2_odds 1 = .ok (.getfield 15, 3) := by decide +kernel
theorem dX2_odds_4 : decode cX2_odds 4 = .ok (.iload_n 1, 1) := by decide +kernel
theorem dX2_odds_5 : decode cX2_odds 5 = .ok (.ishr, 1) := by decide +kernel
theorem dX2_odds_6 : decode cX2_odds 6 = .ok (.iconst 1, 1) := by decide +kernel
theorem dX2_odds_7 : decode cX2_odds 7 = .ok (.iand, 1) := by decide +kernel
theorem dX2_odds_8 : decode cX2_odds 8 = .ok (.ifCond .ne 13, 3) := by decide +kernel
theorem dX2_odds_11 : decode cX2_odds 11 = .ok (.iload_n 2, 1) := by decide +kernel
theorem dX2_odds_12 : decode cX2_odds 12 = .ok (.ifCond .eq 7, 3) := by decide +kernel
theorem dX2_odds_15 : decode cX2_odds 15 = .ok (.lconst 0, 1) := by decide +kernel
theorem dX2_odds_16 : decode cX2_odds 16 = .ok (.goto 4, 3) := by decide +kernel
theorem dX2_odds_19 : decode cX2_odds 19 = .ok (.lconst 1, 1) := by decide +kernel
theorem dX2_odds_20 : decode cX2_odds 20 = .ok (.lreturn, 1) := by decide +kernel
theorem dX2_odds_21 : decode cX2_odds 21 = .ok (.aload_n 0, 1) := by decide +kernel
theorem dX2_odds_22 : decode cX2_odds 22 = .ok (.aload_n 0, 1) := by decide +kernel
theorem dX2_odds_23 : decode cX2_odds 23 = .ok (.getfield 15, 3) := by decide +kernel
theorem dX2_odds_26 : decode cX2_odds 26 = .ok (.invokevirtual 26, 3) := by decide +kernel
theorem dX2_odds_29 : decode cX2_odds 29 = .ok (.lstore_n 3, 1) := by decide +kernel
theorem dX2_odds_30 : decode cX2_odds 30 = .ok (.aload_n 0, 1) := by decide +kernel
theorem dX2_odds_31 : decode cX2_odds 31 = .ok (.aload_n 0, 1) := by decide +kernel
theorem dX2_odds_32 : decode cX2_odds 32 = .ok (.getfield 15, 3) := by decide +kernel
theorem dX2_odds_35 : decode cX2_odds 35 = .ok (.lload_n 3, 1) := by decide +kernel
theorem dX2_odds_36 : decode cX2_odds 36 = .ok (.invokevirtual 30, 3) := by decide +kernel
theorem dX2_odds_39 : decode cX2_odds 39 = .ok (.lstore 5, 2) := by decide +kernel
theorem dX2_odds_41 : decode cX2_odds 41 = .ok (.aload_n 0, 1) := by decide +kernel
theorem dX2_odds_42 : decode cX2_odds 42 = .ok (.lload_n 3, 1) := by decide +kernel
theorem dX2_odds_43 : decode cX2_odds 43 = .ok (.iload_n 1, 1) := by decide +kernel
theorem dX2_odds_44 : decode cX2_odds 44 = .ok (.invokevirtual 44, 3) := by decide +kernel
theorem dX2_odds_47 : decode cX2_odds 47 = .ok (.lstore 7, 2) := by decide +kernel
theorem dX2_odds_49 : decode cX2_odds 49 = .ok (.iload_n 2, 1) := by decide +kernel
theorem dX2_odds_50 : decode cX2_odds 50 = .ok (.ifCond .eq 8, 3) := by decide +kernel
theorem dX2_odds_53 : decode cX2_odds 53 = .ok (.lload 7, 2) := by decide +kernel
theorem dX2_odds_55 : decode cX2_odds 55 = .ok (.goto 5, 3) := by decide +kernel
theorem dX2_odds_58 : decode cX2_odds 58 = .ok (.lload 5, 2) := by decide +kernel
theorem dX2_odds_60 : decode cX2_odds 60 = .ok (.lload 7, 2) := by decide +kernel
theorem dX2_odds_62 : decode cX2_odds 62 = .ok (.lload 5, 2) := by decide +kernel
theorem dX2_odds_64 : decode cX2_odds 64 = .ok (.invokestatic 40, 3) := by decide +kernel
theorem dX2_odds_67 : decode cX2_odds 67 = .ok (.ldiv, 1) := by decide +kernel
theorem dX2_odds_68 : decode cX2_odds 68 = .ok (.lreturn, 1) := by decide +kernel
theorem dX2_product_0 : decode cX2_product 0 = .ok (.lconst 1, 1) := by decide +kernel
theorem dX2_product_1 : decode cX2_product 1 = .ok (.lstore_n 2, 1) := by decide +kernel
theorem dX2_product_2 : decode cX2_product 2 = .ok (.iconst 0, 1) := by decide +kernel
theorem dX2_product_3 : decode cX2_product 3 = .ok (.istore 4, 2) := by decide +kernel
theorem dX2_product_5 : decode cX2_product 5 = .ok (.iload 4, 2) := by decide +kernel
theorem dX2_product_7 : decode cX2_product 7 = .ok (.bipush 6, 2) := by decide +kernel
theorem dX2_product_9 : decode cX2_product 9 = .ok (.if_icmp .ge 29, 3) := by decide +kernel
theorem dX2_product_12 : decode cX2_product 12 = .ok (.iload_n 1, 1) := by decide +kernel
theorem dX2_product_13 : decode cX2_product 13 = .ok (.iload 4, 2) := by decide +kernel
theorem dX2_product_15 : decode cX2_product 15 = .ok (.ishr, 1) := by decide +kernel
theorem dX2_product_16 : decode cX2_product 16 = .ok (.iconst 1, 1) := by decide +kernel
theorem dX2_product_17 : decode cX2_product 17 = .ok (.iand, 1) := by decide +kernel
theorem dX2_product_18 : decode cX2_product 18 = .ok (.ifCond .eq 14, 3) := by decide +kernel
theorem dX2_product_21 : decode cX2_product 21 = .ok (.lload_n 2, 1) := by decide +kernel
theorem dX2_product_22 : decode cX2_product 22 = .ok (.aload_n 0, 1) := by decide +kernel
theorem dX2_product_23 : decode cX2_product 23 = .ok (.getfield 9, 3) := by decide +kernel
theorem dX2_product_26 : decode cX2_product 26 = .ok (.iload 4, 2) := by decide +kernel
theorem dX2_product_28 : decode cX2_product 28 = .ok (.iaload, 1) := by decide +kernel
theorem dX2_product_29 : decode cX2_product 29 = .ok (.i2l, 1) := by decide +kernel
theorem dX2_product_30 : decode cX2_product 30 = .ok (.lmul, 1) := by decide +kernel
theorem dX2_product_31 : decode cX2_product 31 = .ok (.lstore_n 2, 1) := by decide +kernel
theorem dX2_product_32 : decode cX2_product 32 = .ok (.iinc 4 1, 3) := by decide +kernel
theorem dX2_product_35 : decode cX2_product 35 = .ok (.goto (-30), 3) := by decide +kernel
theorem dX2_product_38 : decode cX2_product 38 = .ok (.lload_n 2, 1) := by decide +kernel
theorem dX2_product_39 : decode cX2_product 39 = .ok (.lreturn, 1) := by decide +kernel
theorem dX2_sumOfParts_0 : decode cX2_sumOfParts 0 = .ok (.lconst 0, 1) := by decide +kernel
theorem dX2_sumOfParts_1 : decode cX2_sumOfParts 1 = .ok (.lstore 4, 2) := by decide +kernel
theorem dX2_sumOfParts_3 : decode cX2_sumOfParts 3 = .ok (.iconst 0, 1) := by decide +kernel
theorem dX2_sumOfParts_4 : decode cX2_sumOfParts 4 = .ok (.istore 6, 2) := by decide +kernel
theorem dX2_sumOfParts_6 : decode cX2_sumOfParts 6 = .ok (.iload 6, 2) := by decide +kernel
theorem dX2_sumOfParts_8 : decode cX2_sumOfParts 8 = .ok (.bipush 6, 2) := by decide +kernel
theorem dX2_sumOfParts_10 : decode cX2_sumOfParts 10 = .ok (.if_icmp .ge 30, 3) := by decide +kernel
theorem dX2_sumOfParts_13 : decode cX2_sumOfParts 13 = .ok (.iload_n 1, 1) := by decide +kernel
theorem dX2_sumOfParts_14 : decode cX2_sumOfParts 14 = .ok (.iload 6, 2) := by decide +kernel
theorem dX2_sumOfParts_16 : decode cX2_sumOfParts 16 = .ok (.ishr, 1) := by decide +kernel
theorem dX2_sumOfParts_17 : decode cX2_sumOfParts 17 = .ok (.iconst 1, 1) := by decide +kernel
theorem dX2_sumOfParts_18 : decode cX2_sumOfParts 18 = .ok (.iand, 1) := by decide +kernel
theorem dX2_sumOfParts_19 : decode cX2_sumOfParts 19 = .ok (.ifCond .eq 15, 3) := by decide +kernel
theorem dX2_sumOfParts_22 : decode cX2_sumOfParts 22 = .ok (.lload 4, 2) := by decide +kernel
theorem dX2_sumOfParts_24 : decode cX2_sumOfParts 24 = .ok (.aload_n 0, 1) := by decide +kernel
theorem dX2_sumOfParts_25 : decode cX2_sumOfParts 25 = .ok (.lload_n 2, 1) := by decide +kernel
theorem dX2_sumOfParts_26 : decode cX2_sumOfParts 26 = .ok (.iload 6, 2) := by decide +kernel
theorem dX2_sumOfParts_28 : decode cX2_sumOfParts 28 = .ok (.invokevirtual 44, 3) := by decide +kernel
theorem dX2_sumOfParts_31 : decode cX2_sumOfParts 31 = .ok (.ladd, 1) := by decide +kernel
theorem dX2_sumOfParts_32 : decode cX2_sumOfParts 32 = .ok (.lstore 4, 2) := by decide +kernel
theorem dX2_sumOfParts_34 : decode cX2_sumOfParts 34 = .ok (.iinc 6 1, 3) := by decide +kernel
theorem dX2_sumOfParts_37 : decode cX2_sumOfParts 37 = .ok (.goto (-31), 3) := by decide +kernel
theorem dX2_sumOfParts_40 : decode cX2_sumOfParts 40 = .ok (.lload 4, 2) := by decide +kernel
theorem dX2_sumOfParts_42 : decode cX2_sumOfParts 42 = .ok (.lreturn, 1) := by decide +kernel
theorem dX2_part_0 : decode cX2_part 0 = .ok (.aload_n 0, 1) := by decide +kernel
theorem dX2_part_1 : decode cX2_part 1 = .ok (.getfield 9, 3) := by decide +kernel
theorem dX2_part_4 : decode cX2_part 4 = .ok (.iload_n 3, 1) := by decide +kernel
theorem dX2_part_5 : decode cX2_part 5 = .ok (.iaload, 1) := by decide +kernel
theorem dX2_part_6 : decode cX2_part 6 = .ok (.ifCond .le 15, 3) := by decide +kernel
theorem dX2_part_9 : decode cX2_part 9 = .ok (.lload_n 1, 1) := by decide +kernel
theorem dX2_part_10 : decode cX2_part 10 = .ok (.aload_n 0, 1) := by decide +kernel
theorem dX2_part_11 : decode cX2_part 11 = .ok (.getfield 9, 3) := by decide +kernel
theorem dX2_part_14 : decode cX2_part 14 = .ok (.iload_n 3, 1) := by decide +kernel
theorem dX2_part_15 : decode cX2_part 15 = .ok (.iaload, 1) := by decide +kernel
theorem dX2_part_16 : decode cX2_part 16 = .ok (.i2l, 1) := by decide +kernel
theorem dX2_part_17 : decode cX2_part 17 = .ok (.ldiv, 1) := by decide +kernel
theorem dX2_part_18 : decode cX2_part 18 = .ok (.goto 4, 3) := by decide +kernel
theorem dX2_part_21 : decode cX2_part 21 = .ok (.lconst 0, 1) := by decide +kernel
theorem dX2_part_22 : decode cX2_part 22 = .ok (.lreturn, 1) := by decide +kernel
theorem dX3_init_0 : decode cX3_init 0 = .ok (.aload_n 0, 1) := by decide +kernel
theorem dX3_init_1 : decode cX3_init 1 = .ok (.invokespecial 3, 3) := by decide +kernel
theorem dX3_init_4 : decode cX3_init 4 = .ok (.aload_n 0, 1) := by decide +kernel
theorem dX3_init_5 : decode cX3_init 5 = .ok (.iconst 0, 1) := by decide +kernel
theorem dX3_init_6 : decode cX3_init 6 = .ok (.putfield 9, 3) := by decide +kernel
theorem dX3_init_9 : decode cX3_init 9 = .ok (.aload_n 0, 1) := by decide +kernel
theorem dX3_init_10 : decode cX3_init 10 = .ok (.iconst 0, 1) := by decide +kernel
theorem dX3_init_11 : decode cX3_init 11 = .ok (.putfield 15, 3) := by decide +kernel
theorem dX3_init_14 : decode cX3_init 14 = .ok (.aload_n 0, 1) := by decide +kernel
theorem dX3_init_15 : decode cX3_init 15 = .ok (.iconst 0, 1) := by decide +kernel
theorem dX3_init_16 : decode cX3_init 16 = .ok (.putfield 19, 3) := by decide +kernel
theorem dX3_init_19 : decode cX3_init 19 = .ok (.aload_n 0, 1) := by decide +kernel
theorem dX3_init_20 : decode cX3_init 20 = .ok (.iconst 0, 1) := by decide +kernel
theorem dX3_init_21 : decode cX3_init 21 = .ok (.putfield 22, 3) := by decide +kernel
theorem dX3_init_24 : decode cX3_init 24 = .ok (.aload_n 0, 1) := by decide +kernel
theorem dX3_init_25 : decode cX3_init 25 = .ok (.iconst 0, 1) := by decide +kernel
theorem dX3_init_26 : decode cX3_init 26 = .ok (.putfield 25, 3) := by decide +kernel
theorem dX3_init_29 : decode cX3_init 29 = .ok (.aload_n 0, 1) := by decide +kernel
theorem dX3_init_30 : decode cX3_init 30 = .ok (.iconst 0, 1) := by decide +kernel
theorem dX3_init_31 : decode cX3_init 31 = .ok (.putfield 28, 3) := by decide +kernel
theorem dX3_init_34 : decode cX3_init 34 = .ok (.aload_n 0, 1) := by decide +kernel
theorem dX3_init_35 : decode cX3_init 35 = .ok (.iconst 0, 1) := by decide +kernel
theorem dX3_init_36 : decode cX3_init 36 = .ok (.putfield 31, 3) := by decide +kernel
theorem dX3_init_39 : decode cX3_init 39 = .ok (.aload_n 0, 1) := by decide +kernel
theorem dX3_init_40 : decode cX3_init 40 = .ok (.iconst 0, 1) := by decide +kernel
theorem dX3_init_41 : decode cX3_init 41 = .ok (.putfield 34, 3) := by decide +kernel
theorem dX3_init_44 : decode cX3_init 44 = .ok (.aload_n 0, 1) := by decide +kernel
theorem dX3_init_45 : decode cX3_init 45 = .ok (.iconst 0, 1) := by decide +kernel
theorem dX3_init_46 : decode cX3_init 46 = .ok (.putfield 37, 3) := by decide +kernel
theorem dX3_init_49 : decode cX3_init 49 = .ok (.aload_n 0, 1) := by decide +kernel
theorem dX3_init_50 : decode cX3_init 50 = .ok (.bipush 24, 2) := by decide +kernel
theorem dX3_init_52 : decode cX3_init 52 = .ok (.newarray .int, 2) := by decide +kernel
theorem dX3_init_54 : decode cX3_init 54 = .ok (.putfield 40, 3) := by decide +kernel
theorem dX3_init_57 : decode cX3_init 57 = .ok (.aload_n 0, 1) := by decide +kernel
theorem dX3_init_58 : decode cX3_init 58 = .ok (.bipush 6, 2) := by decide +kernel
theorem dX3_init_60 : decode cX3_init 60 = .ok (.newarray .int, 2) := by decide +kernel
theorem dX3_init_62 : decode cX3_init 62 = .ok (.putfield 44, 3) := by decide +kernel
theorem dX3_init_65 : decode cX3_init 65 = .ok (.aload_n 0, 1) := by decide +kernel
theorem dX3_init_66 : decode cX3_init 66 = .ok (.bipush 6, 2) := by decide +kernel
theorem dX3_init_68 : decode cX3_init 68 = .ok (.newarray .int, 2) := by decide +kernel
theorem dX3_init_70 : decode cX3_init 70 = .ok (.putfield 47, 3) := by decide +kernel
theorem dX3_init_73 : decode cX3_init 73 = .ok (.aload_n 0, 1) := by decide +kernel
theorem dX3_init_74 : decode cX3_init 74 = .ok (.iconst 4, 1) := by decide +kernel
theorem dX3_init_75 : decode cX3_init 75 = .ok (.newarray .int, 2) := by decide +kernel
theorem dX3_init_77 : decode cX3_init 77 = .ok (.putfield 50, 3) := by decide +kernel
theorem dX3_init_80 : decode cX3_init 80 = .ok (.aload_n 0, 1) := by decide +kernel
theorem dX3_init_81 : decode cX3_init 81 = .ok (.iconst 4, 1) := by decide +kernel
theorem dX3_init_82 : decode cX3_init 82 = .ok (.newarray .int, 2) := by decide +kernel
theorem dX3_init_84 : decode cX3_init 84 = .ok (.putfield 53, 3) := by decide +kernel
theorem dX3_init_87 : decode cX3_init 87 = .ok (.aload_n 0, 1) := by decide +kernel
theorem dX3_init_88 : decode cX3_init 88 = .ok (.bipush 24, 2) := by decide +kernel
theorem dX3_init_90 : decode cX3_init 90 = .ok (.newarray .int, 2) := by decide +kernel
theorem dX3_init_92 : decode cX3_init 92 = .ok (.putfield 56, 3) := by decide +kernel
theorem dX3_init_95 : decode cX3_init 95 = .ok (.return_, 1) := by decide +kernel
theorem dX3_clear_0 : decode cX3_clear 0 = .ok (.aload_n 0, 1) := by decide +kernel
theorem dX3_clear_1 : decode cX3_clear 1 = .ok (.iconst 0, 1) := by decide +kernel
theorem dX3_clear_2 : decode cX3_clear 2 = .ok (.putfield 31, 3) := by decide +kernel
theorem dX3_clear_5 : decode cX3_clear 5 = .ok (.aload_n 0, 1) := by decide +kernel
theorem dX3_clear_6 : decode cX3_clear 6 = .ok (.iconst 0, 1) := by decide +kernel
theorem dX3_clear_7 : decode cX3_clear 7 = .ok (.putfield 34, 3) := by decide +kernel
theorem dX3_clear_10 : decode cX3_clear 10 = .ok (.aload_n 0, 1) := by decide +kernel
theorem dX3_clear_11 : decode cX3_clear 11 = .ok (.iconst 0, 1) := by decide +kernel
theorem dX3_clear_12 : decode cX3_clear 12 = .ok (.putfield 37, 3) := by decide +kernel
theorem dX3_clear_15 : decode cX3_clear 15 = .ok (.aload_n 0, 1) := by decide +kernel
theorem dX3_clear_16 : decode cX3_clear 16 = .ok (.getfield 40, 3) := by decide +kernel
theorem dX3_clear_19 : decode cX3_clear 19 = .ok (.iconst 0, 1) := by decide +kernel
theorem dX3_clear_20 : decode cX3_clear 20 = .ok (.invokestatic 59, 3) := by decide +kernel
theorem dX3_clear_23 : decode cX3_clear 23 = .ok (.aload_n 0, 1) := by decide +kernel
theorem dX3_clear_24 : decode cX3_clear 24 = .ok (.getfield 56, 3) := by decide +kernel
theorem dX3_clear_27 : decode cX3_clear 27 = .ok (.iconst 0, 1) := by decide +kernel
theorem dX3_clear_28 : decode cX3_clear 28 = .ok (.invokestatic 59, 3) := by decide +kernel
theorem dX3_clear_31 : decode cX3_clear 31 = .ok (.iconst 0, 1) := by decide +kernel
theorem dX3_clear_32 : decode cX3_clear 32 = .ok (.istore_n 1, 1) := by decide +kernel
theorem dX3_clear_33 : decode cX3_clear 33 = .ok (.iload_n 1, 1) := by decide +kernel
theorem dX3_clear_34 : decode cX3_clear 34 = .ok (.iconst 4, 1) := by decide +kernel
theorem dX3_clear_35 : decode cX3_clear 35 = .ok (.if_icmp .ge 19, 3) := by decide +kernel
theorem dX3_clear_38 : decode cX3_clear 38 = .ok (.aload_n 0, 1) := by decide +kernel
theorem dX3_clear_39 : decode cX3_clear 39 = .ok (.getfield 56, 3) := by decide +kernel
theorem dX3_clear_42 : decode cX3_clear 42 = .ok (.bipush 6, 2) := by decide +kernel
theorem dX3_clear_44 : decode cX3_clear 44 = .ok (.iload_n 1, 1) := by decide +kernel
theorem dX3_clear_45 : decode cX3_clear 45 = .ok (.iadd, 1) := by decide +kernel
theorem dX3_clear_46 : decode cX3_clear 46 = .ok (.iconst (-1), 1) := by decide +kernel
theorem dX3_clear_47 : decode cX3_clear 47 = .ok (.iastore, 1) := by decide +kernel
theorem dX3_clear_48 : decode cX3_clear 48 = .ok (.iinc 1 1, 3) := by decide +kernel
theorem dX3_clear_51 : decode cX3_clear 51 = .ok (.goto (-18), 3) := by decide +kernel
theorem dX3_clear_54 : decode cX3_clear 54 = .ok (.return_, 1) := by decide +kernel
theorem dX3_become_0 : decode cX3_become 0 = .ok (.aload_n 0, 1) := by decide +kernel
theorem dX3_become_1 : decode cX3_become 1 = .ok (.iconst 1, 1) := by decide +kernel
theorem dX3_become_2 : decode cX3_become 2 = .ok (.putfield 9, 3) := by decide +kernel
theorem dX3_become_5 : decode cX3_become 5 = .ok (.aload_n 0, 1) := by decide +kernel
theorem dX3_become_6 : decode cX3_become 6 = .ok (.aload_n 1, 1) := by decide +kernel
theorem dX3_become_7 : decode cX3_become 7 = .ok (.getfield 15, 3) := by decide +kernel
theorem dX3_become_10 : decode cX3_become 10 = .ok (.putfield 15, 3) := by decide +kernel
theorem dX3_become_13 : decode cX3_become 13 = .ok (.aload_n 0, 1) := by decide +kernel
theorem dX3_become_14 : decode cX3_become 14 = .ok (.aload_n 1, 1) := by decide +kernel
theorem dX3_become_15 : decode cX3_become 15 = .ok (.getfield 19, 3) := by decide +kernel
theorem dX3_become_18 : decode cX3_become 18 = .ok (.putfield 19, 3) := by decide +kernel
theorem dX3_become_21 : decode cX3_become 21 = .ok (.aload_n 0, 1) := by decide +kernel
theorem dX3_become_22 : decode cX3_become 22 = .ok (.aload_n 1, 1) := by decide +kernel
theorem dX3_become_23 : decode cX3_become 23 = .ok (.getfield 22, 3) := by decide +kernel
theorem dX3_become_26 : decode cX3_become 26 = .ok (.putfield 22, 3) := by decide +kernel
theorem dX3_become_29 : decode cX3_become 29 = .ok (.aload_n 0, 1) := by decide +kernel
theorem dX3_become_30 : decode cX3_become 30 = .ok (.aload_n 1, 1) := by decide +kernel
theorem dX3_become_31 : decode cX3_become 31 = .ok (.getfield 25, 3) := by decide +kernel
theorem dX3_become_34 : decode cX3_become 34 = .ok (.putfield 25, 3) := by decide +kernel
theorem dX3_become_37 : decode cX3_become 37 = .ok (.aload_n 0, 1) := by decide +kernel
theorem dX3_become_38 : decode cX3_become 38 = .ok (.aload_n 1, 1) := by decide +kernel
theorem dX3_become_39 : decode cX3_become 39 = .ok (.getfield 28, 3) := by decide +kernel
theorem dX3_become_42 : decode cX3_become 42 = .ok (.putfield 28, 3) := by decide +kernel
theorem dX3_become_45 : decode cX3_become 45 = .ok (.aload_n 0, 1) := by decide +kernel
theorem dX3_become_46 : decode cX3_become 46 = .ok (.aload_n 1, 1) := by decide +kernel
theorem dX3_become_47 : decode cX3_become 47 = .ok (.getfield 31, 3) := by decide +kernel
theorem dX3_become_50 : decode cX3_become 50 = .ok (.putfield 31, 3) := by decide +kernel
theorem dX3_become_53 : decode cX3_become 53 = .ok (.aload_n 0, 1) := by decide +kernel
theorem dX3_become_54 : decode cX3_become 54 = .ok (.aload_n 1, 1) := by decide +kernel
theorem dX3_become_55 : decode cX3_become 55 = .ok (.getfield 34, 3) := by decide +kernel
theorem dX3_become_58 : decode cX3_become 58 = .ok (.putfield 34, 3) := by decide +kernel
theorem dX3_become_61 : decode cX3_become 61 = .ok (.aload_n 0, 1) := by decide +kernel
theorem dX3_become_62 : decode cX3_become 62 = .ok (.aload_n 1, 1) := by decide +kernel
theorem dX3_become_63 : decode cX3_become 63 = .ok (.getfield 37, 3) := by decide +kernel
theorem dX3_become_66 : decode cX3_become 66 = .ok (.putfield 37, 3) := by decide +kernel
theorem dX3_become_69 : decode cX3_become 69 = .ok (.aload_n 1, 1) := by decide +kernel
theorem dX3_become_70 : decode cX3_become 70 = .ok (.getfield 40, 3) := by decide +kernel
theorem dX3_become_73 : decode cX3_become 73 = .ok (.iconst 0, 1) := by decide +kernel
theorem dX3_become_74 : decode cX3_become 74 = .ok (.aload_n 0, 1) := by decide +kernel
theorem dX3_become_75 : decode cX3_become 75 = .ok (.getfield 40, 3) := by decide +kernel
theorem dX3_become_78 : decode cX3_become 78 = .ok (.iconst 0, 1) := by decide +kernel
theorem dX3_become_79 : decode cX3_become 79 = .ok (.bipush 24, 2) := by decide +kernel
theorem dX3_become_81 : decode cX3_become 81 = .ok (.invokestatic 65, 3) := by decide +kernel
theorem dX3_become_84 : decode cX3_become 84 = .ok (.aload_n 1, 1) := by decide +kernel
theorem dX3_become_85 : decode cX3_become 85 = .ok (.getfield 44, 3) := by decide +kernel
theorem dX3_become_88 : decode cX3_become 88 = .ok (.iconst 0, 1) := by decide +kernel
theorem dX3_become_89 : decode cX3_become 89 = .ok (.aload_n 0, 1) := by decide +kernel
theorem dX3_become_90 : decode cX3_become 90 = .ok (.getfield 44, 3) := by decide +kernel
theorem dX3_become_93 : decode cX3_become 93 = .ok (.iconst 0, 1) := by decide +kernel
theorem dX3_become_94 : decode cX3_become 94 = .ok (.bipush 6, 2) := by decide +kernel
theorem dX3_become_96 : decode cX3_become 96 = .ok (.invokestatic 65, 3) := by decide +kernel
theorem dX3_become_99 : decode cX3_become 99 = .ok (.aload_n 1, 1) := by decide +kernel
theorem dX3_become_100 : decode cX3_become 100 = .ok (.getfield 47, 3) := by decide +kernel
theorem dX3_become_103 : decode cX3_become 103 = .ok (.iconst 0, 1) := by decide +kernel
theorem dX3_become_104 : decode cX3_become 104 = .ok (.aload_n 0, 1) := by decide +kernel
theorem dX3_become_105 : decode cX3_become 105 = .ok (.getfield 47, 3) := by decide +kernel
theorem dX3_become_108 : decode cX3_become 108 = .ok (.iconst 0, 1) := by decide +kernel
theorem dX3_become_109 : decode cX3_become 109 = .ok (.bipush 6, 2) := by decide +kernel
theorem dX3_become_111 : decode cX3_become 111 = .ok (.invokestatic 65, 3) := by decide +kernel
theorem dX3_become_114 : decode cX3_become 114 = .ok (.aload_n 1, 1) := by decide +kernel
theorem dX3_become_115 : decode cX3_become 115 = .ok (.getfield 50, 3) := by decide +kernel
theorem dX3_become_118 : decode cX3_become 118 = .ok (.iconst 0, 1) := by decide +kernel
theorem dX3_become_119 : decode cX3_become 119 = .ok (.aload_n 0, 1) := by decide +kernel
theorem dX3_become_120 : decode cX3_become 120 = .ok (.getfield 50, 3) := by decide +kernel
theorem dX3_become_123 : decode cX3_become 123 = .ok (.iconst 0, 1) := by decide +kernel
theorem dX3_become_124 : decode cX3_become 124 = .ok (.iconst 4, 1) := by decide +kernel
theorem dX3_become_125 : decode cX3_become 125 = .ok (.invokestatic 65, 3) := by decide +kernel
theorem dX3_become_128 : decode cX3_become 128 = .ok (.aload_n 1, 1) := by decide +kernel
theorem dX3_become_129 : decode cX3_become 129 = .ok (.getfield 53, 3) := by decide +kernel
theorem dX3_become_132 : decode cX3_become 132 = .ok (.iconst 0, 1) := by decide +kernel
theorem dX3_become_133 : decode cX3_become 133 = .ok (.aload_n 0, 1) := by decide +kernel
theorem dX3_become_134 : decode cX3_become 134 = .ok (.getfield 53, 3) := by decide +kernel
theorem dX3_become_137 : decode cX3_become 137 = .ok (.iconst 0, 1) := by decide +kernel
theorem dX3_become_138 : decode cX3_become 138 = .ok (.iconst 4, 1) := by decide +kernel
theorem dX3_become_139 : decode cX3_become 139 = .ok (.invokestatic 65, 3) := by decide +kernel
theorem dX3_become_142 : decode cX3_become 142 = .ok (.aload_n 1, 1) := by decide +kernel
theorem dX3_become_143 : decode cX3_become 143 = .ok (.getfield 56, 3) := by decide +kernel
theorem dX3_become_146 : decode cX3_become 146 = .ok (.iconst 0, 1) := by decide +kernel
theorem dX3_become_147 : decode cX3_become 147 = .ok (.aload_n 0, 1) := by decide +kernel
theorem dX3_become_148 : decode cX3_become 148 = .ok (.getfield 56, 3) := by decide +kernel
theorem dX3_become_151 : decode cX3_become 151 = .ok (.iconst 0, 1) := by decide +kernel
theorem dX3_become_152 : decode cX3_become 152 = .ok (.bipush 24, 2) := by decide +kernel
theorem dX3_become_154 : decode cX3_become 154 = .ok (.invokestatic 65, 3) := by decide +kernel
theorem dX3_become_157 : decode cX3_become 157 = .ok (.return_, 1) := by decide +kernel
theorem dX3_hasRaider_0 : decode cX3_hasRaider 0 = .ok (.iload_n 1, 1) := by decide +kernel
theorem dX3_hasRaider_1 : decode cX3_hasRaider 1 = .ok (.ifCond .lt 15, 3) := by decide +kernel
theorem dX3_hasRaider_4 : decode cX3_hasRaider 4 = .ok (.iload_n 1, 1) := by decide +kernel
theorem dX3_hasRaider_5 : decode cX3_hasRaider 5 = .ok (.aload_n 0, 1) := by decide +kernel
theorem dX3_hasRaider_6 : decode cX3_hasRaider 6 = .ok (.getfield 37, 3) := by decide +kernel
theorem dX3_hasRaider_9 : decode cX3_hasRaider 9 = .ok (.if_icmp .ge 7, 3) := by decide +kernel
theorem dX3_hasRaider_12 : decode cX3_hasRaider 12 = .ok (.iconst 1, 1) := by decide +kernel
theorem dX3_hasRaider_13 : decode cX3_hasRaider 13 = .ok (.goto 4, 3) := by decide +kernel
theorem dX3_hasRaider_16 : decode cX3_hasRaider 16 = .ok (.iconst 0, 1) := by decide +kernel
theorem dX3_hasRaider_17 : decode cX3_hasRaider 17 = .ok (.ireturn, 1) := by decide +kernel
theorem dX3_hasTree_0 : decode cX3_hasTree 0 = .ok (.iload_n 1, 1) := by decide +kernel
theorem dX3_hasTree_1 : decode cX3_hasTree 1 = .ok (.ifCond .lt 15, 3) := by decide +kernel
theorem dX3_hasTree_4 : decode cX3_hasTree 4 = .ok (.iload_n 1, 1) := by decide +kernel
theorem dX3_hasTree_5 : decode cX3_hasTree 5 = .ok (.aload_n 0, 1) := by decide +kernel
theorem dX3_hasTree_6 : decode cX3_hasTree 6 = .ok (.getfield 34, 3) := by decide +kernel
theorem dX3_hasTree_9 : decode cX3_hasTree 9 = .ok (.if_icmp .ge 7, 3) := by decide +kernel
theorem dX3_hasTree_12 : decode cX3_hasTree 12 = .ok (.iconst 1, 1) := by decide +kernel
theorem dX3_hasTree_13 : decode cX3_hasTree 13 = .ok (.goto 4, 3) := by decide +kernel
theorem dX3_hasTree_16 : decode cX3_hasTree 16 = .ok (.iconst 0, 1) := by decide +kernel
theorem dX3_hasTree_17 : decode cX3_hasTree 17 = .ok (.ireturn, 1) := by decide +kernel
theorem dX3_canPlan_0 : decode cX3_canPlan 0 = .ok (.aload_n 0, 1) := by decide +kernel
theorem dX3_canPlan_1 : decode cX3_canPlan 1 = .ok (.getfield 50, 3) := by decide +kernel
theorem dX3_canPlan_4 : decode cX3_canPlan 4 = .ok (.iload_n 1, 1) := by decide +kernel
theorem dX3_canPlan_5 : decode cX3_canPlan 5 = .ok (.iaload, 1) := by decide +kernel
theorem dX3_canPlan_6 : decode cX3_canPlan 6 = .ok (.iconst 4, 1) := by decide +kernel
theorem dX3_canPlan_7 : decode cX3_canPlan 7 = .ok (.if_icmp .ge 7, 3) := by decide +kernel
theorem dX3_canPlan_10 : decode cX3_canPlan 10 = .ok (.iconst 1, 1) := by decide +kernel
theorem dX3_canPlan_11 : decode cX3_canPlan 11 = .ok (.goto 4, 3) := by decide +kernel
theorem dX3_canPlan_14 : decode cX3_canPlan 14 = .ok (.iconst 0, 1) := by decide +kernel
theorem dX3_canPlan_15 : decode cX3_canPlan 15 = .ok (.ireturn, 1) := by decide +kernel
theorem dX3_hasPlan_0 : decode cX3_hasPlan 0 = .ok (.aload_n 0, 1) := by decide +kernel
theorem dX3_hasPlan_1 : decode cX3_hasPlan 1 = .ok (.getfield 56, 3) := by decide +kernel
theorem dX3_hasPlan_4 : decode cX3_hasPlan 4 = .ok (.bipush 6, 2) := by decide +kernel
theorem dX3_hasPlan_6 : decode cX3_hasPlan 6 = .ok (.iload_n 1, 1) := by decide +kernel
theorem dX3_hasPlan_7 : decode cX3_hasPlan 7 = .ok (.iadd, 1) := by decide +kernel
theorem dX3_hasPlan_8 : decode cX3_hasPlan 8 = .ok (.iaload, 1) := by decide +kernel
theorem dX3_hasPlan_9 : decode cX3_hasPlan 9 = .ok (.ifCond .lt 7, 3) := by decide +kernel
theorem dX3_hasPlan_12 : decode cX3_hasPlan 12 = .ok (.iconst 1, 1) := by decide +kernel
theorem dX3_hasPlan_13 : decode cX3_hasPlan 13 = .ok (.goto 4, 3) := by decide +kernel
theorem dX3_hasPlan_16 : decode cX3_hasPlan 16 = .ok (.iconst 0, 1) := by decide +kernel
theorem dX3_hasPlan_17 : decode cX3_hasPlan 17 = .ok (.ireturn, 1) := by decide +kernel
theorem dX3_isPlanned_0 : decode cX3_isPlanned 0 = .ok (.iconst 0, 1) := by decide +kernel
theorem dX3_isPlanned_1 : decode cX3_isPlanned 1 = .ok (.istore_n 1, 1) := by decide +kernel
theorem dX3_isPlanned_2 : decode cX3_isPlanned 2 = .ok (.iload_n 1, 1) := by decide +kernel
theorem dX3_isPlanned_3 : decode cX3_isPlanned 3 = .ok (.aload_n 0, 1) := by decide +kernel
theorem dX3_isPlanned_4 : decode cX3_isPlanned 4 = .ok (.getfield 37, 3) := by decide +kernel
theorem dX3_isPlanned_7 : decode cX3_isPlanned 7 = .ok (.if_icmp .ge 19, 3) := by decide +kernel
theorem dX3_isPlanned_10 : decode cX3_isPlanned 10 = .ok (.aload_n 0, 1) := by decide +kernel
theorem dX3_isPlanned_11 : decode cX3_isPlanned 11 = .ok (.iload_n 1, 1) := by decide +kernel
theorem dX3_isPlanned_12 : decode cX3_isPlanned 12 = .ok (.invokevirtual 71, 3) := by decide +kernel
theorem dX3_isPlanned_15 : decode cX3_isPlanned 15 = .ok (.ifCond .eq 5, 3) := by decide +kernel
theorem dX3_isPlanned_18 : decode cX3_isPlanned 18 = .ok (.iconst 1, 1) := by decide +kernel
theorem dX3_isPlanned_19 : decode cX3_isPlanned 19 = .ok (.ireturn, 1) := by decide +kernel
theorem dX3_isPlanned_20 : decode cX3_isPlanned 20 = .ok (.iinc 1 1, 3) := by decide +kernel
theorem dX3_isPlanned_23 : decode cX3_isPlanned 23 = .ok (.goto (-21), 3) := by decide +kernel
theorem dX3_isPlanned_26 : decode cX3_isPlanned 26 = .ok (.iconst 0, 1) := by decide +kernel
theorem dX3_isPlanned_27 : decode cX3_isPlanned 27 = .ok (.ireturn, 1) := by decide +kernel
theorem dX3_allPlan_0 : decode cX3_allPlan 0 = .ok (.iconst 0, 1) := by decide +kernel
theorem dX3_allPlan_1 : decode cX3_allPlan 1 = .ok (.istore_n 2, 1) := by decide +kernel
theorem dX3_allPlan_2 : decode cX3_allPlan 2 = .ok (.iload_n 2, 1) := by decide +kernel
theorem dX3_allPlan_3 : decode cX3_allPlan 3 = .ok (.aload_n 0, 1) := by decide +kernel
theorem dX3_allPlan_4 : decode cX3_allPlan 4 = .ok (.getfield 37, 3) := by decide +kernel
theorem dX3_allPlan_7 : decode cX3_allPlan 7 = .ok (.if_icmp .ge 27, 3) := by decide +kernel
theorem dX3_allPlan_10 : decode cX3_allPlan 10 = .ok (.iload_n 1, 1) := by decide +kernel
theorem dX3_allPlan_11 : decode cX3_allPlan 11 = .ok (.iload_n 2, 1) := by decide +kernel
theorem dX3_allPlan_12 : decode cX3_allPlan 12 = .ok (.ishr, 1) := by decide +kernel
theorem dX3_allPlan_13 : decode cX3_allPlan 13 = .ok (.iconst 1, 1) := by decide +kernel
theorem dX3_allPlan_14 : decode cX3_allPlan 14 = .ok (.iand, 1) := by decide +kernel
theorem dX3_allPlan_15 : decode cX3_allPlan 15 = .ok (.ifCond .eq 13, 3) := by decide +kernel
theorem dX3_allPlan_18 : decode cX3_allPlan 18 = .ok (.aload_n 0, 1) := by decide +kernel
theorem dX3_allPlan_19 : decode cX3_allPlan 19 = .ok (.iload_n 2, 1) := by decide +kernel
theorem dX3_allPlan_20 : decode cX3_allPlan 20 = .ok (.invokevirtual 71, 3) := by decide +kernel
theorem dX3_allPlan_23 : decode cX3_allPlan 23 = .ok (.ifCond .ne 5, 3) := by decide +kernel
theorem dX3_allPlan_26 : decode cX3_allPlan 26 = .ok (.iconst 0, 1) := by decide +kernel
theorem dX3_allPlan_27 : decode cX3_allPlan 27 = .ok (.ireturn, 1) := by decide +kernel
theorem dX3_allPlan_28 : decode cX3_allPlan 28 = .ok (.iinc 2 1, 3) := by decide +kernel
theorem dX3_allPlan_31 : decode cX3_allPlan 31 = .ok (.goto (-29), 3) := by decide +kernel
theorem dX3_allPlan_34 : decode cX3_allPlan 34 = .ok (.iconst 1, 1) := by decide +kernel
theorem dX3_allPlan_35 : decode cX3_allPlan 35 = .ok (.ireturn, 1) := by decide +kernel
theorem dX3_addHens_0 : decode cX3_addHens 0 = .ok (.aload_n 0, 1) := by decide +kernel
theorem dX3_addHens_1 : decode cX3_addHens 1 = .ok (.dup, 1) := by decide +kernel
theorem dX3_addHens_2 : decode cX3_addHens 2 = .ok (.getfield 31, 3) := by decide +kernel
theorem dX3_addHens_5 : decode cX3_addHens 5 = .ok (.iconst 1, 1) := by decide +kernel
theorem dX3_addHens_6 : decode cX3_addHens 6 = .ok (.iadd, 1) := by decide +kernel
theorem dX3_addHens_7 : decode cX3_addHens 7 = .ok (.putfield 31, 3) := by decide +kernel
theorem dX3_addHens_10 : decode cX3_addHens 10 = .ok (.iconst 0, 1) := by decide +kernel
theorem dX3_addHens_11 : decode cX3_addHens 11 = .ok (.istore_n 3, 1) := by decide +kernel
theorem dX3_addHens_12 : decode cX3_addHens 12 = .ok (.iload_n 3, 1) := by decide +kernel
theorem dX3_addHens_13 : decode cX3_addHens 13 = .ok (.bipush 24, 2) := by decide +kernel
theorem dX3_addHens_15 : decode cX3_addHens 15 = .ok (.if_icmp .ge 28, 3) := by decide +kernel
theorem dX3_addHens_18 : decode cX3_addHens 18 = .ok (.iload_n 3, 1) := by decide +kernel
theorem dX3_addHens_19 : decode cX3_addHens 19 = .ok (.iload_n 1, 1) := by decide +kernel
theorem dX3_addHens_20 : decode cX3_addHens 20 = .ok (.invokestatic 75, 3) := by decide +kernel
theorem dX3_addHens_23 : decode cX3_addHens 23 = .ok (.iconst 1, 1) := by decide +kernel
theorem dX3_addHens_24 : decode cX3_addHens 24 = .ok (.if_icmp .gt 13, 3) := by decide +kernel
theorem dX3_addHens_27 : decode cX3_addHens 27 = .ok (.aload_n 0, 1) := by decide +kernel
theorem dX3_addHens_28 : decode cX3_addHens 28 = .ok (.getfield 40, 3) := by decide +kernel
theorem dX3_addHens_31 : decode cX3_addHens 31 = .ok (.iload_n 3, 1) := by decide +kernel
theorem dX3_addHens_32 : decode cX3_addHens 32 = .ok (.dup2, 1) := by decide +kernel
theorem dX3_addHens_33 : decode cX3_addHens 33 = .ok (.iaload, 1) := by decide +kernel
theorem dX3_addHens_34 : decode cX3_addHens 34 = .ok (.iload_n 2, 1) := by decide +kernel
theorem dX3_addHens_35 : decode cX3_addHens 35 = .ok (.iadd, 1) := by decide +kernel
theorem dX3_addHens_36 : decode cX3_addHens 36 = .ok (.iastore, 1) := by decide +kernel
theorem dX3_addHens_37 : decode cX3_addHens 37 = .ok (.iinc 3 1, 3) := by decide +kernel
theorem dX3_addHens_40 : decode cX3_addHens 40 = .ok (.goto (-28), 3) := by decide +kernel
theorem dX3_addHens_43 : decode cX3_addHens 43 = .ok (.return_, 1) := by decide +kernel
theorem dX4_init_0 : decode cX4_init 0 = .ok (.aload_n 0, 1) := by decide +kernel
theorem dX4_init_1 : decode cX4_init 1 = .ok (.invokespecial 3, 3) := by decide +kernel
theorem dX4_init_4 : decode cX4_init 4 = .ok (.aload_n 0, 1) := by decide +kernel
theorem dX4_init_5 : decode cX4_init 5 = .ok (.iconst 0, 1) := by decide +kernel
theorem dX4_init_6 : decode cX4_init 6 = .ok (.putfield 9, 3) := by decide +kernel
theorem dX4_init_9 : decode cX4_init 9 = .ok (.aload_n 0, 1) := by decide +kernel
theorem dX4_init_10 : decode cX4_init 10 = .ok (.iconst 0, 1) := by decide +kernel
theorem dX4_init_11 : decode cX4_init 11 = .ok (.putfield 15, 3) := by decide +kernel
theorem dX4_init_14 : decode cX4_init 14 = .ok (.aload_n 0, 1) := by decide +kernel
theorem dX4_init_15 : decode cX4_init 15 = .ok (.iconst 0, 1) := by decide +kernel
theorem dX4_init_16 : decode cX4_init 16 = .ok (.putfield 18, 3) := by decide +kernel
theorem dX4_init_19 : decode cX4_init 19 = .ok (.aload_n 0, 1) := by decide +kernel
theorem dX4_init_20 : decode cX4_init 20 = .ok (.iconst 0, 1) := by decide +kernel
theorem dX4_init_21 : decode cX4_init 21 = .ok (.putfield 21, 3) := by decide +kernel
theorem dX4_init_24 : decode cX4_init 24 = .ok (.aload_n 0, 1) := by decide +kernel
theorem dX4_init_25 : decode cX4_init 25 = .ok (.iconst 0, 1) := by decide +kernel
theorem dX4_init_26 : decode cX4_init 26 = .ok (.putfield 24, 3) := by decide +kernel
theorem dX4_init_29 : decode cX4_init 29 = .ok (.aload_n 0, 1) := by decide +kernel
theorem dX4_init_30 : decode cX4_init 30 = .ok (.iconst 0, 1) := by decide +kernel
theorem dX4_init_31 : decode cX4_init 31 = .ok (.putfield 27, 3) := by decide +kernel
theorem dX4_init_34 : decode cX4_init 34 = .ok (.aload_n 0, 1) := by decide +kernel
theorem dX4_init_35 : decode cX4_init 35 = .ok (.bipush 6, 2) := by decide +kernel
theorem dX4_init_37 : decode cX4_init 37 = .ok (.newarray .int, 2) := by decide +kernel
theorem dX4_init_39 : decode cX4_init 39 = .ok (.putfield 30, 3) := by decide +kernel
theorem dX4_init_42 : decode cX4_init 42 = .ok (.aload_n 0, 1) := by decide +kernel
theorem dX4_init_43 : decode cX4_init 43 = .ok (.iconst 4, 1) := by decide +kernel
theorem dX4_init_44 : decode cX4_init 44 = .ok (.newarray .int, 2) := by decide +kernel
theorem dX4_init_46 : decode cX4_init 46 = .ok (.putfield 34, 3) := by decide +kernel
theorem dX4_init_49 : decode cX4_init 49 = .ok (.aload_n 0, 1) := by decide +kernel
theorem dX4_init_50 : decode cX4_init 50 = .ok (.iconst 4, 1) := by decide +kernel
theorem dX4_init_51 : decode cX4_init 51 = .ok (.newarray .int, 2) := by decide +kernel
theorem dX4_init_53 : decode cX4_init 53 = .ok (.putfield 37, 3) := by decide +kernel
theorem dX4_init_56 : decode cX4_init 56 = .ok (.aload_n 0, 1) := by decide +kernel
theorem dX4_init_57 : decode cX4_init 57 = .ok (.iconst 4, 1) := by decide +kernel
theorem dX4_init_58 : decode cX4_init 58 = .ok (.newarray .int, 2) := by decide +kernel
theorem dX4_init_60 : decode cX4_init 60 = .ok (.putfield 40, 3) := by decide +kernel
theorem dX4_init_63 : decode cX4_init 63 = .ok (.aload_n 0, 1) := by decide +kernel
theorem dX4_init_64 : decode cX4_init 64 = .ok (.iconst 4, 1) := by decide +kernel
theorem dX4_init_65 : decode cX4_init 65 = .ok (.newarray .int, 2) := by decide +kernel
theorem dX4_init_67 : decode cX4_init 67 = .ok (.putfield 43, 3) := by decide +kernel
theorem dX4_init_70 : decode cX4_init 70 = .ok (.aload_n 0, 1) := by decide +kernel
theorem dX4_init_71 : decode cX4_init 71 = .ok (.iconst 4, 1) := by decide +kernel
theorem dX4_init_72 : decode cX4_init 72 = .ok (.newarray .int, 2) := by decide +kernel
theorem dX4_init_74 : decode cX4_init 74 = .ok (.putfield 46, 3) := by decide +kernel
theorem dX4_init_77 : decode cX4_init 77 = .ok (.aload_n 0, 1) := by decide +kernel
theorem dX4_init_78 : decode cX4_init 78 = .ok (.iconst 4, 1) := by decide +kernel
theorem dX4_init_79 : decode cX4_init 79 = .ok (.newarray .int, 2) := by decide +kernel
theorem dX4_init_81 : decode cX4_init 81 = .ok (.putfield 49, 3) := by decide +kernel
theorem dX4_init_84 : decode cX4_init 84 = .ok (.aload_n 0, 1) := by decide +kernel
theorem dX4_init_85 : decode cX4_init 85 = .ok (.iconst 4, 1) := by decide +kernel
theorem dX4_init_86 : decode cX4_init 86 = .ok (.newarray .int, 2) := by decide +kernel
theorem dX4_init_88 : decode cX4_init 88 = .ok (.putfield 52, 3) := by decide +kernel
theorem dX4_init_91 : decode cX4_init 91 = .ok (.aload_n 0, 1) := by decide +kernel
theorem dX4_init_92 : decode cX4_init 92 = .ok (.iconst 4, 1) := by decide +kernel
theorem dX4_init_93 : decode cX4_init 93 = .ok (.newarray .int, 2) := by decide +kernel
theorem dX4_init_95 : decode cX4_init 95 = .ok (.putfield 55, 3) := by decide +kernel
theorem dX4_init_98 : decode cX4_init 98 = .ok (.aload_n 0, 1) := by decide +kernel
theorem dX4_init_99 : decode cX4_init 99 = .ok (.iconst 4, 1) := by decide +kernel
theorem dX4_init_100 : decode cX4_init 100 = .ok (.newarray .int, 2) := by decide +kernel
theorem dX4_init_102 : decode cX4_init 102 = .ok (.putfield 58, 3) := by decide +kernel
theorem dX4_init_105 : decode cX4_init 105 = .ok (.aload_n 0, 1) := by decide +kernel
theorem dX4_init_106 : decode cX4_init 106 = .ok (.aload_n 1, 1) := by decide +kernel
theorem dX4_init_107 : decode cX4_init 107 = .ok (.putfield 61, 3) := by decide +kernel
theorem dX4_init_110 : decode cX4_init 110 = .ok (.return_, 1) := by decide +kernel
theorem dX4_gather_0 : decode cX4_gather 0 = .ok (.aload_n 0, 1) := by decide +kernel
theorem dX4_gather_1 : decode cX4_gather 1 = .ok (.getfield 61, 3) := by decide +kernel
theorem dX4_gather_4 : decode cX4_gather 4 = .ok (.getfield 65, 3) := by decide +kernel
theorem dX4_gather_7 : decode cX4_gather 7 = .ok (.iconst 0, 1) := by decide +kernel
theorem dX4_gather_8 : decode cX4_gather 8 = .ok (.aload_n 0, 1) := by decide +kernel
theorem dX4_gather_9 : decode cX4_gather 9 = .ok (.getfield 30, 3) := by decide +kernel
theorem dX4_gather_12 : decode cX4_gather 12 = .ok (.iconst 0, 1) := by decide +kernel
theorem dX4_gather_13 : decode cX4_gather 13 = .ok (.bipush 6, 2) := by decide +kernel
theorem dX4_gather_15 : decode cX4_gather 15 = .ok (.invokestatic 70, 3) := by decide +kernel
theorem dX4_gather_18 : decode cX4_gather 18 = .ok (.iconst 0, 1) := by decide +kernel
theorem dX4_gather_19 : decode cX4_gather 19 = .ok (.istore_n 2, 1) := by decide +kernel
theorem dX4_gather_20 : decode cX4_gather 20 = .ok (.iconst 0, 1) := by decide +kernel
theorem dX4_gather_21 : decode cX4_gather 21 = .ok (.istore_n 3, 1) := by decide +kernel
theorem dX4_gather_22 : decode cX4_gather 22 = .ok (.iconst 0, 1) := by decide +kernel
theorem dX4_gather_23 : decode cX4_gather 23 = .ok (.istore 4, 2) := by decide +kernel
theorem dX4_gather_25 : decode cX4_gather 25 = .ok (.iload 4, 2) := by decide +kernel
theorem dX4_gather_27 : decode cX4_gather 27 = .ok (.iconst 4, 1) := by decide +kernel
theorem dX4_gather_28 : decode cX4_gather 28 = .ok (.if_icmp .ge 164, 3) := by decide +kernel
theorem dX4_gather_31 : decode cX4_gather 31 = .ok (.aload_n 0, 1) := by decide +kernel
theorem dX4_gather_32 : decode cX4_gather 32 = .ok (.getfield 61, 3) := by decide +kernel
theorem dX4_gather_35 : decode cX4_gather 35 = .ok (.iload 4, 2) := by decide +kernel
theorem dX4_gather_37 : decode cX4_gather 37 = .ok (.invokevirtual 76, 3) := by decide +kernel
theorem dX4_gather_40 : decode cX4_gather 40 = .ok (.ifCond .eq 16, 3) := by decide +kernel
theorem dX4_gather_43 : decode cX4_gather 43 = .ok (.iload_n 1, 1) := by decide +kernel
theorem dX4_gather_44 : decode cX4_gather 44 = .ok (.iload 4, 2) := by decide +kernel
theorem dX4_gather_46 : decode cX4_gather 46 = .ok (.ishr, 1) := by decide +kernel
theorem dX4_gather_47 : decode cX4_gather 47 = .ok (.iconst 1, 1) := by decide +kernel
theorem dX4_gather_48 : decode cX4_gather 48 = .ok (.iand, 1) := by decide +kernel
theorem dX4_gather_49 : decode cX4_gather 49 = .ok (.ifCond .eq 7, 3) := by decide +kernel
theorem dX4_gather_52 : decode cX4_gather 52 = .ok (.iconst 1, 1) := by decide +kernel
theorem dX4_gather_53 : decode cX4_gather 53 = .ok (.goto 4, 3) := by decide +kernel
theorem dX4_gather_56 : decode cX4_gather 56 = .ok (.iconst 0, 1) := by decide +kernel
theorem dX4_gather_57 : decode cX4_gather 57 = .ok (.istore 5, 2) := by decide +kernel
theorem dX4_gather_59 : decode cX4_gather 59 = .ok (.aload_n 0, 1) := by decide +kernel
theorem dX4_gather_60 : decode cX4_gather 60 = .ok (.getfield 34, 3) := by decide +kernel
theorem dX4_gather_63 : decode cX4_gather 63 = .ok (.iload 4, 2) := by decide +kernel
theorem dX4_gather_65 : decode cX4_gather 65 = .ok (.iload 5, 2) := by decide +kernel
theorem dX4_gather_67 : decode cX4_gather 67 = .ok (.ifCond .eq 19, 3) := by decide +kernel
theorem dX4_gather_70 : decode cX4_gather 70 = .ok (.aload_n 0, 1) := by decide +kernel
theorem dX4_gather_71 : decode cX4_gather 71 = .ok (.getfield 61, 3) := by decide +kernel
theorem dX4_gather_74 : decode cX4_gather 74 = .ok (.getfield 65, 3) := by decide +kernel
theorem dX4_gather_77 : decode cX4_gather 77 = .ok (.bipush 6, 2) := by decide +kernel
theorem dX4_gather_79 : decode cX4_gather 79 = .ok (.iload 4, 2) := by decide +kernel
theorem dX4_gather_81 : decode cX4_gather 81 = .ok (.iadd, 1) := by decide +kernel
theorem dX4_gather_82 : decode cX4_gather 82 = .ok (.iaload, 1) := by decide +kernel
theorem dX4_gather_83 : decode cX4_gather 83 = .ok (.goto 4, 3) := by decide +kernel
theorem dX4_gather_86 : decode cX4_gather 86 = .ok (.iconst (-1), 1) := by decide +kernel
theorem dX4_gather_87 : decode cX4_gather 87 = .ok (.iastore, 1) := by decide +kernel
theorem dX4_gather_88 : decode cX4_gather 88 = .ok (.aload_n 0, 1) := by decide +kernel
theorem dX4_gather_89 : decode cX4_gather 89 = .ok (.getfield 37, 3) := by decide +kernel
theorem dX4_gather_92 : decode cX4_gather 92 = .ok (.iload 4, 2) := by decide +kernel
theorem dX4_gather_94 : decode cX4_gather 94 = .ok (.aload_n 0, 1) := by decide +kernel
theorem dX4_gather_95 : decode cX4_gather 95 = .ok (.getfield 61, 3) := by decide +kernel
theorem dX4_gather_98 : decode cX4_gather 98 = .ok (.getfield 65, 3) := by decide +kernel
theorem dX4_gather_101 : decode cX4_gather 101 = .ok (.bipush 10, 2) := by decide +kernel
theorem dX4_gather_103 : decode cX4_gather 103 = .ok (.iload 4, 2) := by decide +kernel
theorem dX4_gather_105 : decode cX4_gather 105 = .ok (.iadd, 1) := by decide +kernel
theorem dX4_gather_106 : decode cX4_gather 106 = .ok (.iaload, 1) := by decide +kernel
theorem dX4_gather_107 : decode cX4_gather 107 = .ok (.iastore, 1) := by decide +kernel
theorem dX4_gather_108 : decode cX4_gather 108 = .ok (.aload_n 0, 1) := by decide +kernel
theorem dX4_gather_109 : decode cX4_gather 109 = .ok (.getfield 40, 3) := by decide +kernel
theorem dX4_gather_112 : decode cX4_gather 112 = .ok (.iload 4, 2) := by decide +kernel
theorem dX4_gather_114 : decode cX4_gather 114 = .ok (.aload_n 0, 1) := by decide +kernel
theorem dX4_gather_115 : decode cX4_gather 115 = .ok (.getfield 61, 3) := by decide +kernel
theorem dX4_gather_118 : decode cX4_gather 118 = .ok (.getfield 65, 3) := by decide +kernel
theorem dX4_gather_121 : decode cX4_gather 121 = .ok (.bipush 14, 2) := by decide +kernel
theorem dX4_gather_123 : decode cX4_gather 123 = .ok (.iload 4, 2) := by decide +kernel
theorem dX4_gather_125 : decode cX4_gather 125 = .ok (.iadd, 1) := by decide +kernel
theorem dX4_gather_126 : decode cX4_gather 126 = .ok (.iaload, 1) := by decide +kernel
theorem dX4_gather_127 : decode cX4_gather 127 = .ok (.iastore, 1) := by decide +kernel
theorem dX4_gather_128 : decode cX4_gather 128 = .ok (.iload_n 2, 1) := by decide +kernel
theorem dX4_gather_129 : decode cX4_gather 129 = .ok (.ifCond .ne 22, 3) := by decide +kernel
theorem dX4_gather_132 : decode cX4_gather 132 = .ok (.iload 5, 2) := by decide +kernel
theorem dX4_gather_134 : decode cX4_gather 134 = .ok (.ifCond .eq 21, 3) := by decide +kernel
theorem dX4_gather_137 : decode cX4_gather 137 = .ok (.aload_n 0, 1) := by decide +kernel
theorem dX4_gather_138 : decode cX4_gather 138 = .ok (.getfield 61, 3) := by decide +kernel
theorem dX4_gather_141 : decode cX4_gather 141 = .ok (.getfield 80, 3) := by decide +kernel
theorem dX4_gather_144 : decode cX4_gather 144 = .ok (.iload 4, 2) := by decide +kernel
theorem dX4_gather_146 : decode cX4_gather 146 = .ok (.iaload, 1) := by decide +kernel
theorem dX4_gather_147 : decode cX4_gather 147 = .ok (.iconst 4, 1) := by decide +kernel
theorem dX4_gather_148 : decode cX4_gather 148 = .ok (.if_icmp .ne 7, 3) := by decide +kernel
theorem dX4_gather_151 : decode cX4_gather 151 = .ok (.iconst 1, 1) := by decide +kernel
theorem dX4_gather_152 : decode cX4_gather 152 = .ok (.goto 4, 3) := by decide +kernel
theorem dX4_gather_155 : decode cX4_gather 155 = .ok (.iconst 0, 1) := by decide +kernel
theorem dX4_gather_156 : decode cX4_gather 156 = .ok (.istore_n 2, 1) := by decide +kernel
theorem dX4_gather_157 : decode cX4_gather 157 = .ok (.iload_n 3, 1) := by decide +kernel
theorem dX4_gather_158 : decode cX4_gather 158 = .ok (.ifCond .ne 22, 3) := by decide +kernel
theorem dX4_gather_161 : decode cX4_gather 161 = .ok (.iload 5, 2) := by decide +kernel
theorem dX4_gather_163 : decode cX4_gather 163 = .ok (.ifCond .eq 21, 3) := by decide +kernel
theorem dX4_gather_166 : decode cX4_gather 166 = .ok (.aload_n 0, 1) := by decide +kernel
theorem dX4_gather_167 : decode cX4_gather 167 = .ok (.getfield 61, 3) := by decide +kernel
theorem dX4_gather_170 : decode cX4_gather 170 = .ok (.getfield 80, 3) := by decide +kernel
theorem dX4_gather_173 : decode cX4_gather 173 = .ok (.iload 4, 2) := by decide +kernel
theorem dX4_gather_175 : decode cX4_gather 175 = .ok (.iaload, 1) := by decide +kernel
theorem dX4_gather_176 : decode cX4_gather 176 = .ok (.iconst 5, 1) := by decide +kernel
theorem dX4_gather_177 : decode cX4_gather 177 = .ok (.if_icmp .ne 7, 3) := by decide +kernel
theorem dX4_gather_180 : decode cX4_gather 180 = .ok (.iconst 1, 1) := by decide +kernel
theorem dX4_gather_181 : decode cX4_gather 181 = .ok (.goto 4, 3) := by decide +kernel
theorem dX4_gather_184 : decode cX4_gather 184 = .ok (.iconst 0, 1) := by decide +kernel
theorem dX4_gather_185 : decode cX4_gather 185 = .ok (.istore_n 3, 1) := by decide +kernel
theorem dX4_gather_186 : decode cX4_gather 186 = .ok (.iinc 4 1, 3) := by decide +kernel
theorem dX4_gather_189 : decode cX4_gather 189 = .ok (.goto (-164), 3) := by decide +kernel
theorem dX4_gather_192 : decode cX4_gather 192 = .ok (.aload_n 0, 1) := by decide +kernel
theorem dX4_gather_193 : decode cX4_gather 193 = .ok (.aload_n 0, 1) := by decide +kernel
theorem dX4_gather_194 : decode cX4_gather 194 = .ok (.getfield 61, 3) := by decide +kernel
theorem dX4_gather_197 : decode cX4_gather 197 = .ok (.getfield 83, 3) := by decide +kernel
theorem dX4_gather_200 : decode cX4_gather 200 = .ok (.putfield 9, 3) := by decide +kernel
theorem dX4_gather_203 : decode cX4_gather 203 = .ok (.iload_n 2, 1) := by decide +kernel
theorem dX4_gather_204 : decode cX4_gather 204 = .ok (.ifCond .eq 11, 3) := by decide +kernel
theorem dX4_gather_207 : decode cX4_gather 207 = .ok (.aload_n 0, 1) := by decide +kernel
theorem dX4_gather_208 : decode cX4_gather 208 = .ok (.iconst 0, 1) := by decide +kernel
theorem dX4_gather_209 : decode cX4_gather 209 = .ok (.putfield 9, 3) := by decide +kernel
theorem dX4_gather_212 : decode cX4_gather 212 = .ok (.goto 19, 3) := by decide +kernel
theorem dX4_gather_215 : decode cX4_gather 215 = .ok (.iload_n 3, 1) := by decide +kernel
theorem dX4_gather_216 : decode cX4_gather 216 = .ok (.ifCond .eq 15, 3) := by decide +kernel
theorem dX4_gather_219 : decode cX4_gather 219 = .ok (.aload_n 0, 1) := by decide +kernel
theorem dX4_gather_220 : decode cX4_gather 220 = .ok (.aload_n 0, 1) := by decide +kernel
theorem dX4_gather_221 : decode cX4_gather 221 = .ok (.getfield 9, 3) := by decide +kernel
theorem dX4_gather_224 : decode cX4_gather 224 = .ok (.iconst 2, 1) := by decide +kernel
theorem dX4_gather_225 : decode cX4_gather 225 = .ok (.invokestatic 84, 3) := by decide +kernel
theorem dX4_gather_228 : decode cX4_gather 228 = .ok (.putfield 9, 3) := by decide +kernel
theorem dX4_gather_231 : decode cX4_gather 231 = .ok (.return_, 1) := by decide +kernel
theorem dX4_tell_0 : decode cX4_tell 0 = .ok (.aload_n 0, 1) := by decide +kernel
theorem dX4_tell_1 : decode cX4_tell 1 = .ok (.getfield 34, 3) := by decide +kernel
theorem dX4_tell_4 : decode cX4_tell 4 = .ok (.iload_n 1, 1) := by decide +kernel
theorem dX4_tell_5 : decode cX4_tell 5 = .ok (.iload_n 2, 1) := by decide +kernel
theorem dX4_tell_6 : decode cX4_tell 6 = .ok (.iastore, 1) := by decide +kernel
theorem dX4_tell_7 : decode cX4_tell 7 = .ok (.aload_n 0, 1) := by decide +kernel
theorem dX4_tell_8 : decode cX4_tell 8 = .ok (.getfield 37, 3) := by decide +kernel
theorem dX4_tell_11 : decode cX4_tell 11 = .ok (.iload_n 1, 1) := by decide +kernel
theorem dX4_tell_12 : decode cX4_tell 12 = .ok (.iload_n 3, 1) := by decide +kernel
theorem dX4_tell_13 : decode cX4_tell 13 = .ok (.iastore, 1) := by decide +kernel
theorem dX4_tell_14 : decode cX4_tell 14 = .ok (.aload_n 0, 1) := by decide +kernel
theorem dX4_tell_15 : decode cX4_tell 15 = .ok (.getfield 40, 3) := by decide +kernel
theorem dX4_tell_18 : decode cX4_tell 18 = .ok (.iload_n 1, 1) := by decide +kernel
theorem dX4_tell_19 : decode cX4_tell 19 = .ok (.iload 4, 2) := by decide +kernel
theorem dX4_tell_21 : decode cX4_tell 21 = .ok (.iastore, 1) := by decide +kernel
theorem dX4_tell_22 : decode cX4_tell 22 = .ok (.return_, 1) := by decide +kernel
theorem dX4_run_0 : decode cX4_run 0 = .ok (.aload_n 0, 1) := by decide +kernel
theorem dX4_run_1 : decode cX4_run 1 = .ok (.iconst 0, 1) := by decide +kernel
theorem dX4_run_2 : decode cX4_run 2 = .ok (.putfield 27, 3) := by decide +kernel
theorem dX4_run_5 : decode cX4_run 5 = .ok (.iconst 0, 1) := by decide +kernel
theorem dX4_run_6 : decode cX4_run 6 = .ok (.istore_n 1, 1) := by decide +kernel
theorem dX4_run_7 : decode cX4_run 7 = .ok (.iload_n 1, 1) := by decide +kernel
theorem dX4_run_8 : decode cX4_run 8 = .ok (.iconst 4, 1) := by decide +kernel
theorem dX4_run_9 : decode cX4_run 9 = .ok (.if_icmp .ge 87, 3) := by decide +kernel
theorem dX4_run_12 : decode cX4_run 12 = .ok (.aload_n 0, 1) := by decide +kernel
theorem dX4_run_13 : decode cX4_run 13 = .ok (.getfield 43, 3) := by decide +kernel
theorem dX4_run_16 : decode cX4_run 16 = .ok (.iload_n 1, 1) := by decide +kernel
theorem dX4_run_17 : decode cX4_run 17 = .ok (.aload_n 0, 1) := by decide +kernel
theorem dX4_run_18 : decode cX4_run 18 = .ok (.getfield 34, 3) := by decide +kernel
theorem dX4_run_21 : decode cX4_run 21 = .ok (.iload_n 1, 1) := by decide +kernel
theorem dX4_run_22 : decode cX4_run 22 = .ok (.iaload, 1) := by decide +kernel
theorem dX4_run_23 : decode cX4_run 23 = .ok (.ifCond .lt 7, 3) := by decide +kernel
theorem dX4_run_26 : decode cX4_run 26 = .ok (.iconst 1, 1) := by decide +kernel
theorem dX4_run_27 : decode cX4_run 27 = .ok (.goto 4, 3) := by decide +kernel
theorem dX4_run_30 : decode cX4_run 30 = .ok (.iconst 0, 1) := by decide +kernel
theorem dX4_run_31 : decode cX4_run 31 = .ok (.iastore, 1) := by decide +kernel
theorem dX4_run_32 : decode cX4_run 32 = .ok (.aload_n 0, 1) := by decide +kernel
theorem dX4_run_33 : decode cX4_run 33 = .ok (.dup, 1) := by decide +kernel
theorem dX4_run_34 : decode cX4_run 34 = .ok (.getfield 27, 3) := by decide +kernel
theorem dX4_run_37 : decode cX4_run 37 = .ok (.aload_n 0, 1) := by decide +kernel
theorem dX4_run_38 : decode cX4_run 38 = .ok (.getfield 34, 3) := by decide +kernel
theorem dX4_run_41 : decode cX4_run 41 = .ok (.iload_n 1, 1) := by decide +kernel
theorem dX4_run_42 : decode cX4_run 42 = .ok (.iaload, 1) := by decide +kernel
theorem dX4_run_43 : decode cX4_run 43 = .ok (.ifCond .lt 7, 3) := by decide +kernel
theorem dX4_run_46 : decode cX4_run 46 = .ok (.iconst 1, 1) := by decide +kernel
theorem dX4_run_47 : decode cX4_run 47 = .ok (.goto 4, 3) := by decide +kernel
theorem dX4_run_50 : decode cX4_run 50 = .ok (.iconst 0, 1) := by decide +kernel
theorem dX4_run_51 : decode cX4_run 51 = .ok (.iadd, 1) := by decide +kernel
theorem dX4_run_52 : decode cX4_run 52 = .ok (.putfield 27, 3) := by decide +kernel
theorem dX4_run_55 : decode cX4_run 55 = .ok (.aload_n 0, 1) := by decide +kernel
theorem dX4_run_56 : decode cX4_run 56 = .ok (.getfield 46, 3) := by decide +kernel
theorem dX4_run_59 : decode cX4_run 59 = .ok (.iload_n 1, 1) := by decide +kernel
theorem dX4_run_60 : decode cX4_run 60 = .ok (.iconst 0, 1) := by decide +kernel
theorem dX4_run_61 : decode cX4_run 61 = .ok (.iastore, 1) := by decide +kernel
theorem dX4_run_62 : decode cX4_run 62 = .ok (.aload_n 0, 1) := by decide +kernel
theorem dX4_run_63 : decode cX4_run 63 = .ok (.getfield 49, 3) := by decide +kernel
theorem dX4_run_66 : decode cX4_run 66 = .ok (.iload_n 1, 1) := by decide +kernel
theorem dX4_run_67 : decode cX4_run 67 = .ok (.iconst 0, 1) := by decide +kernel
theorem dX4_run_68 : decode cX4_run 68 = .ok (.iastore, 1) := by decide +kernel
theorem dX4_run_69 : decode cX4_run 69 = .ok (.aload_n 0, 1) := by decide +kernel
theorem dX4_run_70 : decode cX4_run 70 = .ok (.getfield 52, 3) := by decide +kernel
theorem dX4_run_73 : decode cX4_run 73 = .ok (.iload_n 1, 1) := by decide +kernel
theorem dX4_run_74 : decode cX4_run 74 = .ok (.iconst 0, 1) := by decide +kernel
theorem dX4_run_75 : decode cX4_run 75 = .ok (.iastore, 1) := by decide +kernel
theorem dX4_run_76 : decode cX4_run 76 = .ok (.aload_n 0, 1) := by decide +kernel
theorem dX4_run_77 : decode cX4_run 77 = .ok (.getfield 55, 3) := by decide +kernel
theorem dX4_run_80 : decode cX4_run 80 = .ok (.iload_n 1, 1) := by decide +kernel
theorem dX4_run_81 : decode cX4_run 81 = .ok (.iconst 0, 1) := by decide +kernel
theorem dX4_run_82 : decode cX4_run 82 = .ok (.iastore, 1) := by decide +kernel
theorem dX4_run_83 : decode cX4_run 83 = .ok (.aload_n 0, 1) := by decide +kernel
theorem dX4_run_84 : decode cX4_run 84 = .ok (.getfield 58, 3) := by decide +kernel
theorem dX4_run_87 : decode cX4_run 87 = .ok (.iload_n 1, 1) := by decide +kernel
theorem dX4_run_88 : decode cX4_run 88 = .ok (.iconst 0, 1) := by decide +kernel
theorem dX4_run_89 : decode cX4_run 89 = .ok (.iastore, 1) := by decide +kernel
theorem dX4_run_90 : decode cX4_run 90 = .ok (.iinc 1 1, 3) := by decide +kernel
theorem dX4_run_93 : decode cX4_run 93 = .ok (.goto (-86), 3) := by decide +kernel
theorem dX4_run_96 : decode cX4_run 96 = .ok (.aload_n 0, 1) := by decide +kernel
theorem dX4_run_97 : decode cX4_run 97 = .ok (.iconst 0, 1) := by decide +kernel
theorem dX4_run_98 : decode cX4_run 98 = .ok (.putfield 15, 3) := by decide +kernel
theorem dX4_run_101 : decode cX4_run 101 = .ok (.aload_n 0, 1) := by decide +kernel
theorem dX4_run_102 : decode cX4_run 102 = .ok (.iconst 0, 1) := by decide +kernel
theorem dX4_run_103 : decode cX4_run 103 = .ok (.putfield 21, 3) := by decide +kernel
theorem dX4_run_106 : decode cX4_run 106 = .ok (.aload_n 0, 1) := by decide +kernel
theorem dX4_run_107 : decode cX4_run 107 = .ok (.iconst 0, 1) := by decide +kernel
theorem dX4_run_108 : decode cX4_run 108 = .ok (.putfield 24, 3) := by decide +kernel
theorem dX4_run_111 : decode cX4_run 111 = .ok (.aload_n 0, 1) := by decide +kernel
theorem dX4_run_112 : decode cX4_run 112 = .ok (.iconst 1, 1) := by decide +kernel
theorem dX4_run_113 : decode cX4_run 113 = .ok (.putfield 18, 3) := by decide +kernel
theorem dX4_run_116 : decode cX4_run 116 = .ok (.aload_n 0, 1) := by decide +kernel
theorem dX4_run_117 : decode cX4_run 117 = .ok (.getfield 18, 3) := by decide +kernel
theorem dX4_run_120 : decode cX4_run 120 = .ok (.sipush 150, 3) := by decide +kernel
theorem dX4_run_123 : decode cX4_run 123 = .ok (.if_icmp .gt 53, 3) := by decide +kernel
theorem dX4_run_126 : decode cX4_run 126 = .ok (.aload_n 0, 1) := by decide +kernel
theorem dX4_run_127 : decode cX4_run 127 = .ok (.getfield 27, 3) := by decide +kernel
theorem dX4_run_130 : decode cX4_run 130 = .ok (.ifCond .le 46, 3) := by decide +kernel
theorem dX4_run_133 : decode cX4_run 133 = .ok (.aload_n 0, 1) := by decide +kernel
theorem dX4_run_134 : decode cX4_run 134 = .ok (.aload_n 0, 1) := by decide +kernel
theorem dX4_run_135 : decode cX4_run 135 = .ok (.getfield 18, 3) := by decide +kernel
theorem dX4_run_138 : decode cX4_run 138 = .ok (.putfield 24, 3) := by decide +kernel
theorem dX4_run_141 : decode cX4_run 141 = .ok (.iconst 0, 1) := by decide +kernel
theorem dX4_run_142 : decode cX4_run 142 = .ok (.istore_n 1, 1) := by decide +kernel
theorem dX4_run_143 : decode cX4_run 143 = .ok (.iload_n 1, 1) := by decide +kernel
theorem dX4_run_144 : decode cX4_run 144 = .ok (.iconst 4, 1) := by decide +kernel
theorem dX4_run_145 : decode cX4_run 145 = .ok (.if_icmp .ge 14, 3) := by decide +kernel
theorem dX4_run_148 : decode cX4_run 148 = .ok (.aload_n 0, 1) := by decide +kernel
theorem dX4_run_149 : decode cX4_run 149 = .ok (.iload_n 1, 1) := by decide +kernel
theorem dX4_run_150 : decode cX4_run 150 = .ok (.invokevirtual 90, 3) := by decide +kernel
theorem dX4_run_153 : decode cX4_run 153 = .ok (.iinc 1 1, 3) := by decide +kernel
theorem dX4_run_156 : decode cX4_run 156 = .ok (.goto (-13), 3) := by decide +kernel
theorem dX4_run_159 : decode cX4_run 159 = .ok (.aload_n 0, 1) := by decide +kernel
theorem dX4_run_160 : decode cX4_run 160 = .ok (.invokevirtual 94, 3) := by decide +kernel
theorem dX4_run_163 : decode cX4_run 163 = .ok (.aload_n 0, 1) := by decide +kernel
theorem dX4_run_164 : decode cX4_run 164 = .ok (.dup, 1) := by decide +kernel
theorem dX4_run_165 : decode cX4_run 165 = .ok (.getfield 18, 3) := by decide +kernel
theorem dX4_run_168 : decode cX4_run 168 = .ok (.iconst 1, 1) := by decide +kernel
theorem dX4_run_169 : decode cX4_run 169 = .ok (.iadd, 1) := by decide +kernel
theorem dX4_run_170 : decode cX4_run 170 = .ok (.putfield 18, 3) := by decide +kernel
theorem dX4_run_173 : decode cX4_run 173 = .ok (.goto (-57), 3) := by decide +kernel
theorem dX4_run_176 : decode cX4_run 176 = .ok (.return_, 1) := by decide +kernel
theorem dX4_isIn_0 : decode cX4_isIn 0 = .ok (.aload_n 0, 1) := by decide +kernel
theorem dX4_isIn_1 : decode cX4_isIn 1 = .ok (.getfield 43, 3) := by decide +kernel
theorem dX4_isIn_4 : decode cX4_isIn 4 = .ok (.iload_n 1, 1) := by decide +kernel
theorem dX4_isIn_5 : decode cX4_isIn 5 = .ok (.iaload, 1) := by decide +kernel
theorem dX4_isIn_6 : decode cX4_isIn 6 = .ok (.iconst 1, 1) := by decide +kernel
theorem dX4_isIn_7 : decode cX4_isIn 7 = .ok (.if_icmp .lt 17, 3) := by decide +kernel
theorem dX4_isIn_10 : decode cX4_isIn 10 = .ok (.aload_n 0, 1) := by decide +kernel
theorem dX4_isIn_11 : decode cX4_isIn 11 = .ok (.getfield 43, 3) := by decide +kernel
theorem dX4_isIn_14 : decode cX4_isIn 14 = .ok (.iload_n 1, 1) := by decide +kernel
theorem dX4_isIn_15 : decode cX4_isIn 15 = .ok (.iaload, 1) := by decide +kernel
theorem dX4_isIn_16 : decode cX4_isIn 16 = .ok (.iconst 3, 1) := by decide +kernel
theorem dX4_isIn_17 : decode cX4_isIn 17 = .ok (.if_icmp .gt 7, 3) := by decide +kernel
theorem dX4_isIn_20 : decode cX4_isIn 20 = .ok (.iconst 1, 1) := by decide +kernel
theorem dX4_isIn_21 : decode cX4_isIn 21 = .ok (.goto 4, 3) := by decide +kernel
theorem dX4_isIn_24 : decode cX4_isIn 24 = .ok (.iconst 0, 1) := by decide +kernel
theorem dX4_isIn_25 : decode cX4_isIn 25 = .ok (.ireturn, 1) := by decide +kernel
theorem dX4_move_0 : decode cX4_move 0 = .ok (.aload_n 0, 1) := by decide +kernel
theorem dX4_move_1 : decode cX4_move 1 = .ok (.iload_n 1, 1) := by decide +kernel
theorem dX4_move_2 : decode cX4_move 2 = .ok (.invokevirtual 97, 3) := by decide +kernel
theorem dX4_move_5 : decode cX4_move 5 = .ok (.ifCond .ne 4, 3) := by decide +kernel
theorem dX4_move_8 : decode cX4_move 8 = .ok (.return_, 1) := by decide +kernel
theorem dX4_move_9 : decode cX4_move 9 = .ok (.aload_n 0, 1) := by decide +kernel
theorem dX4_move_10 : decode cX4_move 10 = .ok (.getfield 46, 3) := by decide +kernel
theorem dX4_move_13 : decode cX4_move 13 = .ok (.iload_n 1, 1) := by decide +kernel
theorem dX4_move_14 : decode cX4_move 14 = .ok (.dup2, 1) := by decide +kernel
theorem dX4_move_15 : decode cX4_move 15 = .ok (.iaload, 1) := by decide +kernel
theorem dX4_move_16 : decode cX4_move 16 = .ok (.iconst 1, 1) := by decide +kernel
theorem dX4_move_17 : decode cX4_move 17 = .ok (.iadd, 1) := by decide +kernel
theorem dX4_move_18 : decode cX4_move 18 = .ok (.iastore, 1) := by decide +kernel
theorem dX4_move_19 : decode cX4_move 19 = .ok (.aload_n 0, 1) := by decide +kernel
theorem dX4_move_20 : decode cX4_move 20 = .ok (.getfield 43, 3) := by decide +kernel
theorem dX4_move_23 : decode cX4_move 23 = .ok (.iload_n 1, 1) := by decide +kernel
theorem dX4_move_24 : decode cX4_move 24 = .ok (.iaload, 1) := by decide +kernel
theorem dX4_move_25 : decode cX4_move 25 = .ok (.iconst 2, 1) := by decide +kernel
theorem dX4_move_26 : decode cX4_move 26 = .ok (.if_icmp .ne 28, 3) := by decide +kernel
theorem dX4_move_29 : decode cX4_move 29 = .ok (.aload_n 0, 1) := by decide +kernel
theorem dX4_move_30 : decode cX4_move 30 = .ok (.getfield 46, 3) := by decide +kernel
theorem dX4_move_33 : decode cX4_move 33 = .ok (.iload_n 1, 1) := by decide +kernel
theorem dX4_move_34 : decode cX4_move 34 = .ok (.iaload, 1) := by decide +kernel
theorem dX4_move_35 : decode cX4_move 35 = .ok (.iconst 2, 1) := by decide +kernel
theorem dX4_move_36 : decode cX4_move 36 = .ok (.if_icmp .lt 44, 3) := by decide +kernel
theorem dX4_move_39 : decode cX4_move 39 = .ok (.aload_n 0, 1) := by decide +kernel
theorem dX4_move_40 : decode cX4_move 40 = .ok (.getfield 46, 3) := by decide +kernel
theorem dX4_move_43 : decode cX4_move 43 = .ok (.iload_n 1, 1) := by decide +kernel
theorem dX4_move_44 : decode cX4_move 44 = .ok (.iconst 0, 1) := by decide +kernel
theorem dX4_move_45 : decode cX4_move 45 = .ok (.iastore, 1) := by decide +kernel
theorem dX4_move_46 : decode cX4_move 46 = .ok (.aload_n 0, 1) := by decide +kernel
theorem dX4_move_47 : decode cX4_move 47 = .ok (.iload_n 1, 1) := by decide +kernel
theorem dX4_move_48 : decode cX4_move 48 = .ok (.invokevirtual 100, 3) := by decide +kernel
theorem dX4_move_51 : decode cX4_move 51 = .ok (.goto 29, 3) := by decide +kernel
theorem dX4_move_54 : decode cX4_move 54 = .ok (.aload_n 0, 1) := by decide +kernel
theorem dX4_move_55 : decode cX4_move 55 = .ok (.getfield 46, 3) := by decide +kernel
theorem dX4_move_58 : decode cX4_move 58 = .ok (.iload_n 1, 1) := by decide +kernel
theorem dX4_move_59 : decode cX4_move 59 = .ok (.iaload, 1) := by decide +kernel
theorem dX4_move_60 : decode cX4_move 60 = .ok (.aload_n 0, 1) := by decide +kernel
theorem dX4_move_61 : decode cX4_move 61 = .ok (.iload_n 1, 1) := by decide +kernel
theorem dX4_move_62 : decode cX4_move 62 = .ok (.invokevirtual 103, 3) := by decide +kernel
theorem dX4_move_65 : decode cX4_move 65 = .ok (.if_icmp .lt 15, 3) := by decide +kernel
theorem dX4_move_68 : decode cX4_move 68 = .ok (.aload_n 0, 1) := by decide +kernel
theorem dX4_move_69 : decode cX4_move 69 = .ok (.getfield 46, 3) := by decide +kernel
theorem dX4_move_72 : decode cX4_move 72 = .ok (.iload_n 1, 1) := by decide +kernel
theorem dX4_move_73 : decode cX4_move 73 = .ok (.iconst 0, 1) := by decide +kernel
theorem dX4_move_74 : decode cX4_move 74 = .ok (.iastore, 1) := by decide +kernel
theorem dX4_move_75 : decode cX4_move 75 = .ok (.aload_n 0, 1) := by decide +kernel
theorem dX4_move_76 : decode cX4_move 76 = .ok (.iload_n 1, 1) := by decide +kernel
theorem dX4_move_77 : decode cX4_move 77 = .ok (.invokevirtual 107, 3) := by decide +kernel
theorem dX4_move_80 : decode cX4_move 80 = .ok (.return_, 1) := by decide +kernel
theorem dX4_pace_0 : decode cX4_pace 0 = .ok (.aload_n 0, 1) := by decide +kernel
theorem dX4_pace_1 : decode cX4_pace 1 = .ok (.getfield 61, 3) := by decide +kernel
theorem dX4_pace_4 : decode cX4_pace 4 = .ok (.getfield 80, 3) := by decide +kernel
theorem dX4_pace_7 : decode cX4_pace 7 = .ok (.iload_n 1, 1) := by decide +kernel
theorem dX4_pace_8 : decode cX4_pace 8 = .ok (.iaload, 1) := by decide +kernel
theorem dX4_pace_9 : decode cX4_pace 9 = .ok (.iconst 3, 1) := by decide +kernel
theorem dX4_pace_10 : decode cX4_pace 10 = .ok (.if_icmp .ne 15, 3) := by decide +kernel
theorem dX4_pace_13 : decode cX4_pace 13 = .ok (.iconst 2, 1) := by decide +kernel
theorem dX4_pace_14 : decode cX4_pace 14 = .ok (.aload_n 0, 1) := by decide +kernel
theorem dX4_pace_15 : decode cX4_pace 15 = .ok (.getfield 52, 3) := by decide +kernel
theorem dX4_pace_18 : decode cX4_pace 18 = .ok (.iload_n 1, 1) := by decide +kernel
theorem dX4_pace_19 : decode cX4_pace 19 = .ok (.iaload, 1) := by decide +kernel
theorem dX4_pace_20 : decode cX4_pace 20 = .ok (.bipush 12, 2) := by decide +kernel
theorem dX4_pace_22 : decode cX4_pace 22 = .ok (.idiv, 1) := by decide +kernel
theorem dX4_pace_23 : decode cX4_pace 23 = .ok (.iadd, 1) := by decide +kernel
theorem dX4_pace_24 : decode cX4_pace 24 = .ok (.ireturn, 1) := by decide +kernel
theorem dX4_pace_25 : decode cX4_pace 25 = .ok (.aload_n 0, 1) := by decide +kernel
theorem dX4_pace_26 : decode cX4_pace 26 = .ok (.getfield 61, 3) := by decide +kernel
theorem dX4_pace_29 : decode cX4_pace 29 = .ok (.getfield 80, 3) := by decide +kernel
theorem dX4_pace_32 : decode cX4_pace 32 = .ok (.iload_n 1, 1) := by decide +kernel
theorem dX4_pace_33 : decode cX4_pace 33 = .ok (.iaload, 1) := by decide +kernel
theorem dX4_pace_34 : decode cX4_pace 34 = .ok (.iconst 2, 1) := by decide +kernel
theorem dX4_pace_35 : decode cX4_pace 35 = .ok (.if_icmp .ne 7, 3) := by decide +kernel
theorem dX4_pace_38 : decode cX4_pace 38 = .ok (.iconst 1, 1) := by decide +kernel
theorem dX4_pace_39 : decode cX4_pace 39 = .ok (.goto 4, 3) := by decide +kernel
theorem dX4_pace_42 : decode cX4_pace 42 = .ok (.iconst 2, 1) := by decide +kernel
theorem dX4_pace_43 : decode cX4_pace 43 = .ok (.aload_n 0, 1) := by decide +kernel
theorem dX4_pace_44 : decode cX4_pace 44 = .ok (.getfield 52, 3) := by decide +kernel
theorem dX4_pace_47 : decode cX4_pace 47 = .ok (.iload_n 1, 1) := by decide +kernel
theorem dX4_pace_48 : decode cX4_pace 48 = .ok (.iaload, 1) := by decide +kernel
theorem dX4_pace_49 : decode cX4_pace 49 = .ok (.bipush 6, 2) := by decide +kernel
theorem dX4_pace_51 : decode cX4_pace 51 = .ok (.idiv, 1) := by decide +kernel
theorem dX4_pace_52 : decode cX4_pace 52 = .ok (.iadd, 1) := by decide +kernel
theorem dX4_pace_53 : decode cX4_pace 53 = .ok (.ireturn, 1) := by decide +kernel
theorem dX4_step_0 : decode cX4_step 0 = .ok (.aload_n 0, 1) := by decide +kernel
theorem dX4_step_1 : decode cX4_step 1 = .ok (.getfield 43, 3) := by decide +kernel
theorem dX4_step_4 : decode cX4_step 4 = .ok (.iload_n 1, 1) := by decide +kernel
theorem dX4_step_5 : decode cX4_step 5 = .ok (.iaload, 1) := by decide +kernel
theorem dX4_step_6 : decode cX4_step 6 = .ok (.iconst 1, 1) := by decide +kernel
theorem dX4_step_7 : decode cX4_step 7 = .ok (.if_icmp .ne 7, 3) := by decide +kernel
theorem dX4_step_10 : decode cX4_step 10 = .ok (.iconst 1, 1) := by decide +kernel
theorem dX4_step_11 : decode cX4_step 11 = .ok (.goto 4, 3) := by decide +kernel
theorem dX4_step_14 : decode cX4_step 14 = .ok (.iconst 0, 1) := by decide +kernel
theorem dX4_step_15 : decode cX4_step 15 = .ok (.istore_n 2, 1) := by decide +kernel
theorem dX4_step_16 : decode cX4_step 16 = .ok (.aload_n 0, 1) := by decide +kernel
theorem dX4_step_17 : decode cX4_step 17 = .ok (.getfield 49, 3) := by decide +kernel
theorem dX4_step_20 : decode cX4_step 20 = .ok (.iload_n 1, 1) := by decide +kernel
theorem dX4_step_21 : decode cX4_step 21 = .ok (.dup2, 1) := by decide +kernel
theorem dX4_step_22 : decode cX4_step 22 = .ok (.iaload, 1) := by decide +kernel
theorem dX4_step_23 : decode cX4_step 23 = .ok (.iload_n 2, 1) := by decide +kernel
theorem dX4_step_24 : decode cX4_step 24 = .ok (.ifCond .eq 7, 3) := by decide +kernel
theorem dX4_step_27 : decode cX4_step 27 = .ok (.iconst 1, 1) := by decide +kernel
theorem dX4_step_28 : decode cX4_step 28 = .ok (.goto 4, 3) := by decide +kernel
theorem dX4_step_31 : decode cX4_step 31 = .ok (.iconst (-1), 1) := by decide +kernel
theorem dX4_step_32 : decode cX4_step 32 = .ok (.iadd, 1) := by decide +kernel
theorem dX4_step_33 : decode cX4_step 33 = .ok (.iastore, 1) := by decide +kernel
theorem dX4_step_34 : decode cX4_step 34 = .ok (.aload_n 0, 1) := by decide +kernel
theorem dX4_step_35 : decode cX4_step 35 = .ok (.getfield 61, 3) := by decide +kernel
theorem dX4_step_38 : decode cX4_step 38 = .ok (.getfield 110, 3) := by decide +kernel
theorem dX4_step_41 : decode cX4_step 41 = .ok (.aload_n 0, 1) := by decide +kernel
theorem dX4_step_42 : decode cX4_step 42 = .ok (.getfield 34, 3) := by decide +kernel
theorem dX4_step_45 : decode cX4_step 45 = .ok (.iload_n 1, 1) := by decide +kernel
theorem dX4_step_46 : decode cX4_step 46 = .ok (.iaload, 1) := by decide +kernel
theorem dX4_step_47 : decode cX4_step 47 = .ok (.iaload, 1) := by decide +kernel
theorem dX4_step_48 : decode cX4_step 48 = .ok (.istore_n 3, 1) := by decide +kernel
theorem dX4_step_49 : decode cX4_step 49 = .ok (.aload_n 0, 1) := by decide +kernel
theorem dX4_step_50 : decode cX4_step 50 = .ok (.dup, 1) := by decide +kernel
theorem dX4_step_51 : decode cX4_step 51 = .ok (.getfield 15, 3) := by decide +kernel
theorem dX4_step_54 : decode cX4_step 54 = .ok (.aload_n 0, 1) := by decide +kernel
theorem dX4_step_55 : decode cX4_step 55 = .ok (.getfield 61, 3) := by decide +kernel
theorem dX4_step_58 : decode cX4_step 58 = .ok (.getfield 113, 3) := by decide +kernel
theorem dX4_step_61 : decode cX4_step 61 = .ok (.aload_n 0, 1) := by decide +kernel
theorem dX4_step_62 : decode cX4_step 62 = .ok (.getfield 61, 3) := by decide +kernel
theorem dX4_step_65 : decode cX4_step 65 = .ok (.getfield 116, 3) := by decide +kernel
theorem dX4_step_68 : decode cX4_step 68 = .ok (.iload_n 3, 1) := by decide +kernel
theorem dX4_step_69 : decode cX4_step 69 = .ok (.aload_n 0, 1) := by decide +kernel
theorem dX4_step_70 : decode cX4_step 70 = .ok (.getfield 49, 3) := by decide +kernel
theorem dX4_step_73 : decode cX4_step 73 = .ok (.iload_n 1, 1) := by decide +kernel
theorem dX4_step_74 : decode cX4_step 74 = .ok (.iaload, 1) := by decide +kernel
theorem dX4_step_75 : decode cX4_step 75 = .ok (.invokestatic 119, 3) := by decide +kernel
theorem dX4_step_78 : decode cX4_step 78 = .ok (.iaload, 1) := by decide +kernel
theorem dX4_step_79 : decode cX4_step 79 = .ok (.iadd, 1) := by decide +kernel
theorem dX4_step_80 : decode cX4_step 80 = .ok (.putfield 15, 3) := by decide +kernel
theorem dX4_step_83 : decode cX4_step 83 = .ok (.iload_n 2, 1) := by decide +kernel
theorem dX4_step_84 : decode cX4_step 84 = .ok (.ifCond .eq 33, 3) := by decide +kernel
theorem dX4_step_87 : decode cX4_step 87 = .ok (.aload_n 0, 1) := by decide +kernel
theorem dX4_step_88 : decode cX4_step 88 = .ok (.getfield 49, 3) := by decide +kernel
theorem dX4_step_91 : decode cX4_step 91 = .ok (.iload_n 1, 1) := by decide +kernel
theorem dX4_step_92 : decode cX4_step 92 = .ok (.iaload, 1) := by decide +kernel
theorem dX4_step_93 : decode cX4_step 93 = .ok (.aload_n 0, 1) := by decide +kernel
theorem dX4_step_94 : decode cX4_step 94 = .ok (.getfield 61, 3) := by decide +kernel
theorem dX4_step_97 : decode cX4_step 97 = .ok (.getfield 116, 3) := by decide +kernel
theorem dX4_step_100 : decode cX4_step 100 = .ok (.iload_n 3, 1) := by decide +kernel
theorem dX4_step_101 : decode cX4_step 101 = .ok (.invokestatic 123, 3) := by decide +kernel
theorem dX4_step_104 : decode cX4_step 104 = .ok (.if_icmp .ne 13, 3) := by decide +kernel
theorem dX4_step_107 : decode cX4_step 107 = .ok (.aload_n 0, 1) := by decide +kernel
theorem dX4_step_108 : decode cX4_step 108 = .ok (.getfield 43, 3) := by decide +kernel
theorem dX4_step_111 : decode cX4_step 111 = .ok (.iload_n 1, 1) := by decide +kernel
theorem dX4_step_112 : decode cX4_step 112 = .ok (.iconst 2, 1) := by decide +kernel
theorem dX4_step_113 : decode cX4_step 113 = .ok (.iastore, 1) := by decide +kernel
theorem dX4_step_114 : decode cX4_step 114 = .ok (.goto 21, 3) := by decide +kernel
theorem dX4_step_117 : decode cX4_step 117 = .ok (.iload_n 2, 1) := by decide +kernel
theorem dX4_step_118 : decode cX4_step 118 = .ok (.ifCond .ne 17, 3) := by decide +kernel
theorem dX4_step_121 : decode cX4_step 121 = .ok (.aload_n 0, 1) := by decide +kernel
theorem dX4_step_122 : decode cX4_step 122 = .ok (.getfield 49, 3) := by decide +kernel
theorem dX4_step_125 : decode cX4_step 125 = .ok (.iload_n 1, 1) := by decide +kernel
theorem dX4_step_126 : decode cX4_step 126 = .ok (.iaload, 1) := by decide +kernel
theorem dX4_step_127 : decode cX4_step 127 = .ok (.ifCond .ne 8, 3) := by decide +kernel
theorem dX4_step_130 : decode cX4_step 130 = .ok (.aload_n 0, 1) := by decide +kernel
theorem dX4_step_131 : decode cX4_step 131 = .ok (.iload_n 1, 1) := by decide +kernel
theorem dX4_step_132 : decode cX4_step 132 = .ok (.invokevirtual 126, 3) := by decide +kernel
theorem dX4_step_135 : decode cX4_step 135 = .ok (.return_, 1) := by decide +kernel
theorem dX4_cellOnWay_0 : decode cX4_cellOnWay 0 = .ok (.iload_n 1, 1) := by decide +kernel
theorem dX4_cellOnWay_1 : decode cX4_cellOnWay 1 = .ok (.bipush 6, 2) := by decide +kernel
theorem dX4_cellOnWay_3 : decode cX4_cellOnWay 3 = .ok (.irem, 1) := by decide +kernel
theorem dX4_cellOnWay_4 : decode cX4_cellOnWay 4 = .ok (.iload_n 0, 1) := by decide +kernel
theorem dX4_cellOnWay_5 : decode cX4_cellOnWay 5 = .ok (.bipush 6, 2) := by decide +kernel
theorem dX4_cellOnWay_7 : decode cX4_cellOnWay 7 = .ok (.irem, 1) := by decide +kernel
theorem dX4_cellOnWay_8 : decode cX4_cellOnWay 8 = .ok (.isub, 1) := by decide +kernel
theorem dX4_cellOnWay_9 : decode cX4_cellOnWay 9 = .ok (.istore_n 3, 1) := by decide +kernel
theorem dX4_cellOnWay_10 : decode cX4_cellOnWay 10 = .ok (.iload_n 2, 1) := by decide +kernel
theorem dX4_cellOnWay_11 : decode cX4_cellOnWay 11 = .ok (.iload_n 3, 1) := by decide +kernel
theorem dX4_cellOnWay_12 : decode cX4_cellOnWay 12 = .ok (.invokestatic 129, 3) := by decide +kernel
theorem dX4_cellOnWay_15 : decode cX4_cellOnWay 15 = .ok (.invokestatic 84, 3) := by decide +kernel
theorem dX4_cellOnWay_18 : decode cX4_cellOnWay 18 = .ok (.istore 4, 2) := by decide +kernel
theorem dX4_cellOnWay_20 : decode cX4_cellOnWay 20 = .ok (.iload_n 1, 1) := by decide +kernel
theorem dX4_cellOnWay_21 : decode cX4_cellOnWay 21 = .ok (.bipush 6, 2) := by decide +kernel
theorem dX4_cellOnWay_23 : decode cX4_cellOnWay 23 = .ok (.idiv, 1) := by decide +kernel
theorem dX4_cellOnWay_24 : decode cX4_cellOnWay 24 = .ok (.iload_n 0, 1) := by decide +kernel
theorem dX4_cellOnWay_25 : decode cX4_cellOnWay 25 = .ok (.bipush 6, 2) := by decide +kernel
theorem dX4_cellOnWay_27 : decode cX4_cellOnWay 27 = .ok (.idiv, 1) := by decide +kernel
theorem dX4_cellOnWay_28 : decode cX4_cellOnWay 28 = .ok (.isub, 1) := by decide +kernel
theorem dX4_cellOnWay_29 : decode cX4_cellOnWay 29 = .ok (.istore 5, 2) := by decide +kernel
theorem dX4_cellOnWay_31 : decode cX4_cellOnWay 31 = .ok (.iload_n 0, 1) := by decide +kernel
theorem dX4_cellOnWay_32 : decode cX4_cellOnWay 32 = .ok (.iload 4, 2) := by decide +kernel
theorem dX4_cellOnWay_34 : decode cX4_cellOnWay 34 = .ok (.iload_n 3, 1) := by decide +kernel
theorem dX4_cellOnWay_35 : decode cX4_cellOnWay 35 = .ok (.invokestatic 132, 3) := by decide +kernel
theorem dX4_cellOnWay_38 : decode cX4_cellOnWay 38 = .ok (.imul, 1) := by decide +kernel
theorem dX4_cellOnWay_39 : decode cX4_cellOnWay 39 = .ok (.iadd, 1) := by decide +kernel
theorem dX4_cellOnWay_40 : decode cX4_cellOnWay 40 = .ok (.iload_n 2, 1) := by decide +kernel
theorem dX4_cellOnWay_41 : decode cX4_cellOnWay 41 = .ok (.iload 4, 2) := by decide +kernel
theorem dX4_cellOnWay_43 : decode cX4_cellOnWay 43 = .ok (.isub, 1) := by decide +kernel
theorem dX4_cellOnWay_44 : decode cX4_cellOnWay 44 = .ok (.iload 5, 2) := by decide +kernel
theorem dX4_cellOnWay_46 : decode cX4_cellOnWay 46 = .ok (.invokestatic 132, 3) := by decide +kernel
theorem dX4_cellOnWay_49 : decode cX4_cellOnWay 49 = .ok (.imul, 1) := by decide +kernel
theorem dX4_cellOnWay_50 : decode cX4_cellOnWay 50 = .ok (.bipush 6, 2) := by decide +kernel
theorem dX4_cellOnWay_52 : decode cX4_cellOnWay 52 = .ok (.imul, 1) := by decide +kernel
theorem dX4_cellOnWay_53 : decode cX4_cellOnWay 53 = .ok (.iadd, 1) := by decide +kernel
theorem dX4_cellOnWay_54 : decode cX4_cellOnWay 54 = .ok (.ireturn, 1) := by decide +kernel
theorem dX4_pick_0 : decode cX4_pick 0 = .ok (.aload_n 0, 1) := by decide +kernel
theorem dX4_pick_1 : decode cX4_pick 1 = .ok (.getfield 34, 3) := by decide +kernel
theorem dX4_pick_4 : decode cX4_pick 4 = .ok (.iload_n 1, 1) := by decide +kernel
theorem dX4_pick_5 : decode cX4_pick 5 = .ok (.iaload, 1) := by decide +kernel
theorem dX4_pick_6 : decode cX4_pick 6 = .ok (.istore_n 2, 1) := by decide +kernel
theorem dX4_pick_7 : decode cX4_pick 7 = .ok (.aload_n 0, 1) := by decide +kernel
theorem dX4_pick_8 : decode cX4_pick 8 = .ok (.getfield 30, 3) := by decide +kernel
theorem dX4_pick_11 : decode cX4_pick 11 = .ok (.iload_n 2, 1) := by decide +kernel
theorem dX4_pick_12 : decode cX4_pick 12 = .ok (.iaload, 1) := by decide +kernel
theorem dX4_pick_13 : decode cX4_pick 13 = .ok (.ifCond .le 66, 3) := by decide +kernel
theorem dX4_pick_16 : decode cX4_pick 16 = .ok (.aload_n 0, 1) := by decide +kernel
theorem dX4_pick_17 : decode cX4_pick 17 = .ok (.getfield 30, 3) := by decide +kernel
theorem dX4_pick_20 : decode cX4_pick 20 = .ok (.iload_n 2, 1) := by decide +kernel
theorem dX4_pick_21 : decode cX4_pick 21 = .ok (.dup2, 1) := by decide +kernel
theorem dX4_pick_22 : decode cX4_pick 22 = .ok (.iaload, 1) := by decide +kernel
theorem dX4_pick_23 : decode cX4_pick 23 = .ok (.iconst 1, 1) := by decide +kernel
theorem dX4_pick_24 : decode cX4_pick 24 = .ok (.isub, 1) := by decide +kernel
theorem dX4_pick_25 : decode cX4_pick 25 = .ok (.iastore, 1) := by decide +kernel
theorem dX4_pick_26 : decode cX4_pick 26 = .ok (.aload_n 0, 1) := by decide +kernel
theorem dX4_pick_27 : decode cX4_pick 27 = .ok (.getfield 55, 3) := by decide +kernel
theorem dX4_pick_30 : decode cX4_pick 30 = .ok (.iload_n 1, 1) := by decide +kernel
theorem dX4_pick_31 : decode cX4_pick 31 = .ok (.dup2, 1) := by decide +kernel
theorem dX4_pick_32 : decode cX4_pick 32 = .ok (.iaload, 1) := by decide +kernel
theorem dX4_pick_33 : decode cX4_pick 33 = .ok (.iconst 1, 1) := by decide +kernel
theorem dX4_pick_34 : decode cX4_pick 34 = .ok (.iadd, 1) := by decide +kernel
theorem dX4_pick_35 : decode cX4_pick 35 = .ok (.iastore, 1) := by decide +kernel
theorem dX4_pick_36 : decode cX4_pick 36 = .ok (.aload_n 0, 1) := by decide +kernel
theorem dX4_pick_37 : decode cX4_pick 37 = .ok (.dup, 1) := by decide +kernel
theorem dX4_pick_38 : decode cX4_pick 38 = .ok (.getfield 15, 3) := by decide +kernel
theorem dX4_pick_41 : decode cX4_pick 41 = .ok (.iconst 1, 1) := by decide +kernel
theorem dX4_pick_42 : decode cX4_pick 42 = .ok (.iadd, 1) := by decide +kernel
theorem dX4_pick_43 : decode cX4_pick 43 = .ok (.putfield 15, 3) := by decide +kernel
theorem dX4_pick_46 : decode cX4_pick 46 = .ok (.aload_n 0, 1) := by decide +kernel
theorem dX4_pick_47 : decode cX4_pick 47 = .ok (.getfield 40, 3) := by decide +kernel
theorem dX4_pick_50 : decode cX4_pick 50 = .ok (.iload_n 1, 1) := by decide +kernel
theorem dX4_pick_51 : decode cX4_pick 51 = .ok (.iaload, 1) := by decide +kernel
theorem dX4_pick_52 : decode cX4_pick 52 = .ok (.iconst 1, 1) := by decide +kernel
theorem dX4_pick_53 : decode cX4_pick 53 = .ok (.if_icmp .ne 16, 3) := by decide +kernel
theorem dX4_pick_56 : decode cX4_pick 56 = .ok (.aload_n 0, 1) := by decide +kernel
theorem dX4_pick_57 : decode cX4_pick 57 = .ok (.dup, 1) := by decide +kernel
theorem dX4_pick_58 : decode cX4_pick 58 = .ok (.getfield 15, 3) := by decide +kernel
theorem dX4_pick_61 : decode cX4_pick 61 = .ok (.iconst 1, 1) := by decide +kernel
theorem dX4_pick_62 : decode cX4_pick 62 = .ok (.iadd, 1) := by decide +kernel
theorem dX4_pick_63 : decode cX4_pick 63 = .ok (.putfield 15, 3) := by decide +kernel
theorem dX4_pick_66 : decode cX4_pick 66 = .ok (.goto 13, 3) := by decide +kernel
theorem dX4_pick_69 : decode cX4_pick 69 = .ok (.aload_n 0, 1) := by decide +kernel
theorem dX4_pick_70 : decode cX4_pick 70 = .ok (.getfield 52, 3) := by decide +kernel
theorem dX4_pick_73 : decode cX4_pick 73 = .ok (.iload_n 1, 1) := by decide +kernel
theorem dX4_pick_74 : decode cX4_pick 74 = .ok (.dup2, 1) := by decide +kernel
theorem dX4_pick_75 : decode cX4_pick 75 = .ok (.iaload, 1) := by decide +kernel
theorem dX4_pick_76 : decode cX4_pick 76 = .ok (.iconst 1, 1) := by decide +kernel
theorem dX4_pick_77 : decode cX4_pick 77 = .ok (.iadd, 1) := by decide +kernel
theorem dX4_pick_78 : decode cX4_pick 78 = .ok (.iastore, 1) := by decide +kernel
theorem dX4_pick_79 : decode cX4_pick 79 = .ok (.aload_n 0, 1) := by decide +kernel
theorem dX4_pick_80 : decode cX4_pick 80 = .ok (.getfield 55, 3) := by decide +kernel
theorem dX4_pick_83 : decode cX4_pick 83 = .ok (.iload_n 1, 1) := by decide +kernel
theorem dX4_pick_84 : decode cX4_pick 84 = .ok (.iaload, 1) := by decide +kernel
theorem dX4_pick_85 : decode cX4_pick 85 = .ok (.aload_n 0, 1) := by decide +kernel
theorem dX4_pick_86 : decode cX4_pick 86 = .ok (.getfield 37, 3) := by decide +kernel
theorem dX4_pick_89 : decode cX4_pick 89 = .ok (.iload_n 1, 1) := by decide +kernel
theorem dX4_pick_90 : decode cX4_pick 90 = .ok (.iaload, 1) := by decide +kernel
theorem dX4_pick_91 : decode cX4_pick 91 = .ok (.if_icmp .ge 30, 3) := by decide +kernel
theorem dX4_pick_94 : decode cX4_pick 94 = .ok (.aload_n 0, 1) := by decide +kernel
theorem dX4_pick_95 : decode cX4_pick 95 = .ok (.getfield 52, 3) := by decide +kernel
theorem dX4_pick_98 : decode cX4_pick 98 = .ok (.iload_n 1, 1) := by decide +kernel
theorem dX4_pick_99 : decode cX4_pick 99 = .ok (.iaload, 1) := by decide +kernel
theorem dX4_pick_100 : decode cX4_pick 100 = .ok (.aload_n 0, 1) := by decide +kernel
theorem dX4_pick_101 : decode cX4_pick 101 = .ok (.getfield 61, 3) := by decide +kernel
theorem dX4_pick_104 : decode cX4_pick 104 = .ok (.getfield 137, 3) := by decide +kernel
theorem dX4_pick_107 : decode cX4_pick 107 = .ok (.iload_n 1, 1) := by decide +kernel
theorem dX4_pick_108 : decode cX4_pick 108 = .ok (.iaload, 1) := by decide +kernel
theorem dX4_pick_109 : decode cX4_pick 109 = .ok (.if_icmp .ge 12, 3) := by decide +kernel
theorem dX4_pick_112 : decode cX4_pick 112 = .ok (.aload_n 0, 1) := by decide +kernel
theorem dX4_pick_113 : decode cX4_pick 113 = .ok (.getfield 30, 3) := by decide +kernel
theorem dX4_pick_116 : decode cX4_pick 116 = .ok (.iload_n 2, 1) := by decide +kernel
theorem dX4_pick_117 : decode cX4_pick 117 = .ok (.iaload, 1) := by decide +kernel
theorem dX4_pick_118 : decode cX4_pick 118 = .ok (.ifCond .ne 10, 3) := by decide +kernel
theorem dX4_pick_121 : decode cX4_pick 121 = .ok (.aload_n 0, 1) := by decide +kernel
theorem dX4_pick_122 : decode cX4_pick 122 = .ok (.getfield 43, 3) := by decide +kernel
theorem dX4_pick_125 : decode cX4_pick 125 = .ok (.iload_n 1, 1) := by decide +kernel
theorem dX4_pick_126 : decode cX4_pick 126 = .ok (.iconst 3, 1) := by decide +kernel
theorem dX4_pick_127 : decode cX4_pick 127 = .ok (.iastore, 1) := by decide +kernel
theorem dX4_pick_128 : decode cX4_pick 128 = .ok (.return_, 1) := by decide +kernel
theorem dX4_leave_0 : decode cX4_leave 0 = .ok (.aload_n 0, 1) := by decide +kernel
theorem dX4_leave_1 : decode cX4_leave 1 = .ok (.getfield 43, 3) := by decide +kernel
theorem dX4_leave_4 : decode cX4_leave 4 = .ok (.iload_n 1, 1) := by decide +kernel
theorem dX4_leave_5 : decode cX4_leave 5 = .ok (.iconst 4, 1) := by decide +kernel
theorem dX4_leave_6 : decode cX4_leave 6 = .ok (.iastore, 1) := by decide +kernel
theorem dX4_leave_7 : decode cX4_leave 7 = .ok (.aload_n 0, 1) := by decide +kernel
theorem dX4_leave_8 : decode cX4_leave 8 = .ok (.getfield 58, 3) := by decide +kernel
theorem dX4_leave_11 : decode cX4_leave 11 = .ok (.iload_n 1, 1) := by decide +kernel
theorem dX4_leave_12 : decode cX4_leave 12 = .ok (.aload_n 0, 1) := by decide +kernel
theorem dX4_leave_13 : decode cX4_leave 13 = .ok (.getfield 18, 3) := by decide +kernel
theorem dX4_leave_16 : decode cX4_leave 16 = .ok (.iastore, 1) := by decide +kernel
theorem dX4_leave_17 : decode cX4_leave 17 = .ok (.aload_n 0, 1) := by decide +kernel
theorem dX4_leave_18 : decode cX4_leave 18 = .ok (.dup, 1) := by decide +kernel
theorem dX4_leave_19 : decode cX4_leave 19 = .ok (.getfield 27, 3) := by decide +kernel
theorem dX4_leave_22 : decode cX4_leave 22 = .ok (.iconst 1, 1) := by decide +kernel
theorem dX4_leave_23 : decode cX4_leave 23 = .ok (.isub, 1) := by decide +kernel
theorem dX4_leave_24 : decode cX4_leave 24 = .ok (.putfield 27, 3) := by decide +kernel
theorem dX4_leave_27 : decode cX4_leave 27 = .ok (.return_, 1) := by decide +kernel
