theorem dX4_endSecond_0 : decode cX4_endSecond 0 = .ok (.aload_n 0, 1) := by decide +kernel
theorem dX4_endSecond_1 : decode cX4_endSecond 1 = .ok (.getfield 21, 3) := by decide +kernel
theorem dX4_endSecond_4 : decode cX4_endSecond 4 = .ok (.ifCond .ne 25, 3) := by decide +kernel
theorem dX4_endSecond_7 : decode cX4_endSecond 7 = .ok (.aload_n 0, 1) := by decide +kernel
theorem dX4_endSecond_8 : decode cX4_endSecond 8 = .ok (.getfield 15, 3) := by decide +kernel
theorem dX4_endSecond_11 : decode cX4_endSecond 11 = .ok (.aload_n 0, 1) := by decide +kernel
theorem dX4_endSecond_12 : decode cX4_endSecond 12 = .ok (.getfield 61, 3) := by decide +kernel
theorem dX4_endSecond_15 : decode cX4_endSecond 15 = .ok (.getfield 140, 3) := by decide +kernel
theorem dX4_endSecond_18 : decode cX4_endSecond 18 = .ok (.if_icmp .lt 11, 3) := by decide +kernel
theorem dX4_endSecond_21 : decode cX4_endSecond 21 = .ok (.aload_n 0, 1) := by decide +kernel
theorem dX4_endSecond_22 : decode cX4_endSecond 22 = .ok (.aload_n 0, 1) := by decide +kernel
theorem dX4_endSecond_23 : decode cX4_endSecond 23 = .ok (.getfield 18, 3) := by decide +kernel
theorem dX4_endSecond_26 : decode cX4_endSecond 26 = .ok (.putfield 21, 3) := by decide +kernel
theorem dX4_endSecond_29 : decode cX4_endSecond 29 = .ok (.aload_n 0, 1) := by decide +kernel
theorem dX4_endSecond_30 : decode cX4_endSecond 30 = .ok (.getfield 21, 3) := by decide +kernel
theorem dX4_endSecond_33 : decode cX4_endSecond 33 = .ok (.ifCond .le 23, 3) := by decide +kernel
theorem dX4_endSecond_36 : decode cX4_endSecond 36 = .ok (.aload_n 0, 1) := by decide +kernel
theorem dX4_endSecond_37 : decode cX4_endSecond 37 = .ok (.getfield 18, 3) := by decide +kernel
theorem dX4_endSecond_40 : decode cX4_endSecond 40 = .ok (.aload_n 0, 1) := by decide +kernel
theorem dX4_endSecond_41 : decode cX4_endSecond 41 = .ok (.getfield 21, 3) := by decide +kernel
theorem dX4_endSecond_44 : decode cX4_endSecond 44 = .ok (.isub, 1) := by decide +kernel
theorem dX4_endSecond_45 : decode cX4_endSecond 45 = .ok (.aload_n 0, 1) := by decide +kernel
theorem dX4_endSecond_46 : decode cX4_endSecond 46 = .ok (.getfield 9, 3) := by decide +kernel
theorem dX4_endSecond_49 : decode cX4_endSecond 49 = .ok (.if_icmp .ne 7, 3) := by decide +kernel
theorem dX4_endSecond_52 : decode cX4_endSecond 52 = .ok (.aload_n 0, 1) := by decide +kernel
theorem dX4_endSecond_53 : decode cX4_endSecond 53 = .ok (.invokevirtual 143, 3) := by decide +kernel
theorem dX4_endSecond_56 : decode cX4_endSecond 56 = .ok (.aload_n 0, 1) := by decide +kernel
theorem dX4_endSecond_57 : decode cX4_endSecond 57 = .ok (.getfield 21, 3) := by decide +kernel
theorem dX4_endSecond_60 : decode cX4_endSecond 60 = .ok (.ifCond .le 44, 3) := by decide +kernel
theorem dX4_endSecond_63 : decode cX4_endSecond 63 = .ok (.aload_n 0, 1) := by decide +kernel
theorem dX4_endSecond_64 : decode cX4_endSecond 64 = .ok (.getfield 18, 3) := by decide +kernel
theorem dX4_endSecond_67 : decode cX4_endSecond 67 = .ok (.aload_n 0, 1) := by decide +kernel
theorem dX4_endSecond_68 : decode cX4_endSecond 68 = .ok (.getfield 21, 3) := by decide +kernel
theorem dX4_endSecond_71 : decode cX4_endSecond 71 = .ok (.isub, 1) := by decide +kernel
theorem dX4_endSecond_72 : decode cX4_endSecond 72 = .ok (.aload_n 0, 1) := by decide +kernel
theorem dX4_endSecond_73 : decode cX4_endSecond 73 = .ok (.getfield 61, 3) := by decide +kernel
theorem dX4_endSecond_76 : decode cX4_endSecond 76 = .ok (.getfield 146, 3) := by decide +kernel
theorem dX4_endSecond_79 : decode cX4_endSecond 79 = .ok (.aload_n 0, 1) := by decide +kernel
theorem dX4_endSecond_80 : decode cX4_endSecond 80 = .ok (.getfield 61, 3) := by decide +kernel
theorem dX4_endSecond_83 : decode cX4_endSecond 83 = .ok (.getfield 149, 3) := by decide +kernel
theorem dX4_endSecond_86 : decode cX4_endSecond 86 = .ok (.aload_n 0, 1) := by decide +kernel
theorem dX4_endSecond_87 : decode cX4_endSecond 87 = .ok (.getfield 61, 3) := by decide +kernel
theorem dX4_endSecond_90 : decode cX4_endSecond 90 = .ok (.getfield 116, 3) := by decide +kernel
theorem dX4_endSecond_93 : decode cX4_endSecond 93 = .ok (.invokestatic 123, 3) := by decide +kernel
theorem dX4_endSecond_96 : decode cX4_endSecond 96 = .ok (.iadd, 1) := by decide +kernel
theorem dX4_endSecond_97 : decode cX4_endSecond 97 = .ok (.if_icmp .ne 7, 3) := by decide +kernel
theorem dX4_endSecond_100 : decode cX4_endSecond 100 = .ok (.iconst 1, 1) := by decide +kernel
theorem dX4_endSecond_101 : decode cX4_endSecond 101 = .ok (.goto 4, 3) := by decide +kernel
theorem dX4_endSecond_104 : decode cX4_endSecond 104 = .ok (.iconst 0, 1) := by decide +kernel
theorem dX4_endSecond_105 : decode cX4_endSecond 105 = .ok (.istore_n 1, 1) := by decide +kernel
theorem dX4_endSecond_106 : decode cX4_endSecond 106 = .ok (.iload_n 1, 1) := by decide +kernel
theorem dX4_endSecond_107 : decode cX4_endSecond 107 = .ok (.ifCond .ne 13, 3) := by decide +kernel
theorem dX4_endSecond_110 : decode cX4_endSecond 110 = .ok (.aload_n 0, 1) := by decide +kernel
theorem dX4_endSecond_111 : decode cX4_endSecond 111 = .ok (.getfield 18, 3) := by decide +kernel
theorem dX4_endSecond_114 : decode cX4_endSecond 114 = .ok (.sipush 150, 3) := by decide +kernel
theorem dX4_endSecond_117 : decode cX4_endSecond 117 = .ok (.if_icmp .ne 7, 3) := by decide +kernel
theorem dX4_endSecond_120 : decode cX4_endSecond 120 = .ok (.aload_n 0, 1) := by decide +kernel
theorem dX4_endSecond_121 : decode cX4_endSecond 121 = .ok (.invokevirtual 152, 3) := by decide +kernel
theorem dX4_endSecond_124 : decode cX4_endSecond 124 = .ok (.return_, 1) := by decide +kernel
theorem dX4_callBack_0 : decode cX4_callBack 0 = .ok (.iconst 0, 1) := by decide +kernel
theorem dX4_callBack_1 : decode cX4_callBack 1 = .ok (.istore_n 1, 1) := by decide +kernel
theorem dX4_callBack_2 : decode cX4_callBack 2 = .ok (.iload_n 1, 1) := by decide +kernel
theorem dX4_callBack_3 : decode cX4_callBack 3 = .ok (.iconst 4, 1) := by decide +kernel
theorem dX4_callBack_4 : decode cX4_callBack 4 = .ok (.if_icmp .ge 57, 3) := by decide +kernel
theorem dX4_callBack_7 : decode cX4_callBack 7 = .ok (.aload_n 0, 1) := by decide +kernel
theorem dX4_callBack_8 : decode cX4_callBack 8 = .ok (.getfield 43, 3) := by decide +kernel
theorem dX4_callBack_11 : decode cX4_callBack 11 = .ok (.iload_n 1, 1) := by decide +kernel
theorem dX4_callBack_12 : decode cX4_callBack 12 = .ok (.iaload, 1) := by decide +kernel
theorem dX4_callBack_13 : decode cX4_callBack 13 = .ok (.iconst 1, 1) := by decide +kernel
theorem dX4_callBack_14 : decode cX4_callBack 14 = .ok (.if_icmp .eq 13, 3) := by decide +kernel
theorem dX4_callBack_17 : decode cX4_callBack 17 = .ok (.aload_n 0, 1) := by decide +kernel
theorem dX4_callBack_18 : decode cX4_callBack 18 = .ok (.getfield 43, 3) := by decide +kernel
theorem dX4_callBack_21 : decode cX4_callBack 21 = .ok (.iload_n 1, 1) := by decide +kernel
theorem dX4_callBack_22 : decode cX4_callBack 22 = .ok (.iaload, 1) := by decide +kernel
theorem dX4_callBack_23 : decode cX4_callBack 23 = .ok (.iconst 2, 1) := by decide +kernel
theorem dX4_callBack_24 : decode cX4_callBack 24 = .ok (.if_icmp .ne 31, 3) := by decide +kernel
theorem dX4_callBack_27 : decode cX4_callBack 27 = .ok (.aload_n 0, 1) := by decide +kernel
theorem dX4_callBack_28 : decode cX4_callBack 28 = .ok (.getfield 43, 3) := by decide +kernel
theorem dX4_callBack_31 : decode cX4_callBack 31 = .ok (.iload_n 1, 1) := by decide +kernel
theorem dX4_callBack_32 : decode cX4_callBack 32 = .ok (.iconst 3, 1) := by decide +kernel
theorem dX4_callBack_33 : decode cX4_callBack 33 = .ok (.iastore, 1) := by decide +kernel
theorem dX4_callBack_34 : decode cX4_callBack 34 = .ok (.aload_n 0, 1) := by decide +kernel
theorem dX4_callBack_35 : decode cX4_callBack 35 = .ok (.getfield 46, 3) := by decide +kernel
theorem dX4_callBack_38 : decode cX4_callBack 38 = .ok (.iload_n 1, 1) := by decide +kernel
theorem dX4_callBack_39 : decode cX4_callBack 39 = .ok (.iconst 0, 1) := by decide +kernel
theorem dX4_callBack_40 : decode cX4_callBack 40 = .ok (.iastore, 1) := by decide +kernel
theorem dX4_callBack_41 : decode cX4_callBack 41 = .ok (.aload_n 0, 1) := by decide +kernel
theorem dX4_callBack_42 : decode cX4_callBack 42 = .ok (.getfield 49, 3) := by decide +kernel
theorem dX4_callBack_45 : decode cX4_callBack 45 = .ok (.iload_n 1, 1) := by decide +kernel
theorem dX4_callBack_46 : decode cX4_callBack 46 = .ok (.iaload, 1) := by decide +kernel
theorem dX4_callBack_47 : decode cX4_callBack 47 = .ok (.ifCond .ne 8, 3) := by decide +kernel
theorem dX4_callBack_50 : decode cX4_callBack 50 = .ok (.aload_n 0, 1) := by decide +kernel
theorem dX4_callBack_51 : decode cX4_callBack 51 = .ok (.iload_n 1, 1) := by decide +kernel
theorem dX4_callBack_52 : decode cX4_callBack 52 = .ok (.invokevirtual 126, 3) := by decide +kernel
theorem dX4_callBack_55 : decode cX4_callBack 55 = .ok (.iinc 1 1, 3) := by decide +kernel
theorem dX4_callBack_58 : decode cX4_callBack 58 = .ok (.goto (-56), 3) := by decide +kernel
theorem dX4_callBack_61 : decode cX4_callBack 61 = .ok (.return_, 1) := by decide +kernel
theorem dX4_catchAll_0 : decode cX4_catchAll 0 = .ok (.iconst 0, 1) := by decide +kernel
theorem dX4_catchAll_1 : decode cX4_catchAll 1 = .ok (.istore_n 1, 1) := by decide +kernel
theorem dX4_catchAll_2 : decode cX4_catchAll 2 = .ok (.iload_n 1, 1) := by decide +kernel
theorem dX4_catchAll_3 : decode cX4_catchAll 3 = .ok (.iconst 4, 1) := by decide +kernel
theorem dX4_catchAll_4 : decode cX4_catchAll 4 = .ok (.if_icmp .ge 34, 3) := by decide +kernel
theorem dX4_catchAll_7 : decode cX4_catchAll 7 = .ok (.aload_n 0, 1) := by decide +kernel
theorem dX4_catchAll_8 : decode cX4_catchAll 8 = .ok (.iload_n 1, 1) := by decide +kernel
theorem dX4_catchAll_9 : decode cX4_catchAll 9 = .ok (.invokevirtual 97, 3) := by decide +kernel
theorem dX4_catchAll_12 : decode cX4_catchAll 12 = .ok (.ifCond .eq 20, 3) := by decide +kernel
theorem dX4_catchAll_15 : decode cX4_catchAll 15 = .ok (.aload_n 0, 1) := by decide +kernel
theorem dX4_catchAll_16 : decode cX4_catchAll 16 = .ok (.getfield 43, 3) := by decide +kernel
theorem dX4_catchAll_19 : decode cX4_catchAll 19 = .ok (.iload_n 1, 1) := by decide +kernel
theorem dX4_catchAll_20 : decode cX4_catchAll 20 = .ok (.iconst 5, 1) := by decide +kernel
theorem dX4_catchAll_21 : decode cX4_catchAll 21 = .ok (.iastore, 1) := by decide +kernel
theorem dX4_catchAll_22 : decode cX4_catchAll 22 = .ok (.aload_n 0, 1) := by decide +kernel
theorem dX4_catchAll_23 : decode cX4_catchAll 23 = .ok (.dup, 1) := by decide +kernel
theorem dX4_catchAll_24 : decode cX4_catchAll 24 = .ok (.getfield 27, 3) := by decide +kernel
theorem dX4_catchAll_27 : decode cX4_catchAll 27 = .ok (.iconst 1, 1) := by decide +kernel
theorem dX4_catchAll_28 : decode cX4_catchAll 28 = .ok (.isub, 1) := by decide +kernel
theorem dX4_catchAll_29 : decode cX4_catchAll 29 = .ok (.putfield 27, 3) := by decide +kernel
theorem dX4_catchAll_32 : decode cX4_catchAll 32 = .ok (.iinc 1 1, 3) := by decide +kernel
theorem dX4_catchAll_35 : decode cX4_catchAll 35 = .ok (.goto (-33), 3) := by decide +kernel
theorem dX4_catchAll_38 : decode cX4_catchAll 38 = .ok (.return_, 1) := by decide +kernel
theorem dX4_isOut_0 : decode cX4_isOut 0 = .ok (.aload_n 0, 1) := by decide +kernel
theorem dX4_isOut_1 : decode cX4_isOut 1 = .ok (.getfield 43, 3) := by decide +kernel
theorem dX4_isOut_4 : decode cX4_isOut 4 = .ok (.iload_n 1, 1) := by decide +kernel
theorem dX4_isOut_5 : decode cX4_isOut 5 = .ok (.iaload, 1) := by decide +kernel
theorem dX4_isOut_6 : decode cX4_isOut 6 = .ok (.iconst 4, 1) := by decide +kernel
theorem dX4_isOut_7 : decode cX4_isOut 7 = .ok (.if_icmp .ne 7, 3) := by decide +kernel
theorem dX4_isOut_10 : decode cX4_isOut 10 = .ok (.iconst 1, 1) := by decide +kernel
theorem dX4_isOut_11 : decode cX4_isOut 11 = .ok (.goto 4, 3) := by decide +kernel
theorem dX4_isOut_14 : decode cX4_isOut 14 = .ok (.iconst 0, 1) := by decide +kernel
theorem dX4_isOut_15 : decode cX4_isOut 15 = .ok (.ireturn, 1) := by decide +kernel
theorem dX4_applesGot_0 : decode cX4_applesGot 0 = .ok (.aload_n 0, 1) := by decide +kernel
theorem dX4_applesGot_1 : decode cX4_applesGot 1 = .ok (.getfield 40, 3) := by decide +kernel
theorem dX4_applesGot_4 : decode cX4_applesGot 4 = .ok (.iload_n 1, 1) := by decide +kernel
theorem dX4_applesGot_5 : decode cX4_applesGot 5 = .ok (.iaload, 1) := by decide +kernel
theorem dX4_applesGot_6 : decode cX4_applesGot 6 = .ok (.iconst 1, 1) := by decide +kernel
theorem dX4_applesGot_7 : decode cX4_applesGot 7 = .ok (.if_icmp .eq 11, 3) := by decide +kernel
theorem dX4_applesGot_10 : decode cX4_applesGot 10 = .ok (.aload_n 0, 1) := by decide +kernel
theorem dX4_applesGot_11 : decode cX4_applesGot 11 = .ok (.iload_n 1, 1) := by decide +kernel
theorem dX4_applesGot_12 : decode cX4_applesGot 12 = .ok (.invokevirtual 155, 3) := by decide +kernel
theorem dX4_applesGot_15 : decode cX4_applesGot 15 = .ok (.ifCond .eq 12, 3) := by decide +kernel
theorem dX4_applesGot_18 : decode cX4_applesGot 18 = .ok (.aload_n 0, 1) := by decide +kernel
theorem dX4_applesGot_19 : decode cX4_applesGot 19 = .ok (.getfield 55, 3) := by decide +kernel
theorem dX4_applesGot_22 : decode cX4_applesGot 22 = .ok (.iload_n 1, 1) := by decide +kernel
theorem dX4_applesGot_23 : decode cX4_applesGot 23 = .ok (.iaload, 1) := by decide +kernel
theorem dX4_applesGot_24 : decode cX4_applesGot 24 = .ok (.goto 4, 3) := by decide +kernel
theorem dX4_applesGot_27 : decode cX4_applesGot 27 = .ok (.iconst 0, 1) := by decide +kernel
theorem dX4_applesGot_28 : decode cX4_applesGot 28 = .ok (.ireturn, 1) := by decide +kernel
theorem dX4_gotByAll_0 : decode cX4_gotByAll 0 = .ok (.iconst 0, 1) := by decide +kernel
theorem dX4_gotByAll_1 : decode cX4_gotByAll 1 = .ok (.istore_n 1, 1) := by decide +kernel
theorem dX4_gotByAll_2 : decode cX4_gotByAll 2 = .ok (.iconst 0, 1) := by decide +kernel
theorem dX4_gotByAll_3 : decode cX4_gotByAll 3 = .ok (.istore_n 2, 1) := by decide +kernel
theorem dX4_gotByAll_4 : decode cX4_gotByAll 4 = .ok (.iload_n 2, 1) := by decide +kernel
theorem dX4_gotByAll_5 : decode cX4_gotByAll 5 = .ok (.iconst 4, 1) := by decide +kernel
theorem dX4_gotByAll_6 : decode cX4_gotByAll 6 = .ok (.if_icmp .ge 41, 3) := by decide +kernel
theorem dX4_gotByAll_9 : decode cX4_gotByAll 9 = .ok (.aload_n 0, 1) := by decide +kernel
theorem dX4_gotByAll_10 : decode cX4_gotByAll 10 = .ok (.getfield 34, 3) := by decide +kernel
theorem dX4_gotByAll_13 : decode cX4_gotByAll 13 = .ok (.iload_n 2, 1) := by decide +kernel
theorem dX4_gotByAll_14 : decode cX4_gotByAll 14 = .ok (.iaload, 1) := by decide +kernel
theorem dX4_gotByAll_15 : decode cX4_gotByAll 15 = .ok (.ifCond .lt 26, 3) := by decide +kernel
theorem dX4_gotByAll_18 : decode cX4_gotByAll 18 = .ok (.iload_n 1, 1) := by decide +kernel
theorem dX4_gotByAll_19 : decode cX4_gotByAll 19 = .ok (.aload_n 0, 1) := by decide +kernel
theorem dX4_gotByAll_20 : decode cX4_gotByAll 20 = .ok (.iload_n 2, 1) := by decide +kernel
theorem dX4_gotByAll_21 : decode cX4_gotByAll 21 = .ok (.invokevirtual 158, 3) := by decide +kernel
theorem dX4_gotByAll_24 : decode cX4_gotByAll 24 = .ok (.aload_n 0, 1) := by decide +kernel
theorem dX4_gotByAll_25 : decode cX4_gotByAll 25 = .ok (.getfield 61, 3) := by decide +kernel
theorem dX4_gotByAll_28 : decode cX4_gotByAll 28 = .ok (.getfield 161, 3) := by decide +kernel
theorem dX4_gotByAll_31 : decode cX4_gotByAll 31 = .ok (.aload_n 0, 1) := by decide +kernel
theorem dX4_gotByAll_32 : decode cX4_gotByAll 32 = .ok (.getfield 34, 3) := by decide +kernel
theorem dX4_gotByAll_35 : decode cX4_gotByAll 35 = .ok (.iload_n 2, 1) := by decide +kernel
theorem dX4_gotByAll_36 : decode cX4_gotByAll 36 = .ok (.iaload, 1) := by decide +kernel
theorem dX4_gotByAll_37 : decode cX4_gotByAll 37 = .ok (.iaload, 1) := by decide +kernel
theorem dX4_gotByAll_38 : decode cX4_gotByAll 38 = .ok (.imul, 1) := by decide +kernel
theorem dX4_gotByAll_39 : decode cX4_gotByAll 39 = .ok (.iadd, 1) := by decide +kernel
theorem dX4_gotByAll_40 : decode cX4_gotByAll 40 = .ok (.istore_n 1, 1) := by decide +kernel
theorem dX4_gotByAll_41 : decode cX4_gotByAll 41 = .ok (.iinc 2 1, 3) := by decide +kernel
theorem dX4_gotByAll_44 : decode cX4_gotByAll 44 = .ok (.goto (-40), 3) := by decide +kernel
theorem dX4_gotByAll_47 : decode cX4_gotByAll 47 = .ok (.iload_n 1, 1) := by decide +kernel
theorem dX4_gotByAll_48 : decode cX4_gotByAll 48 = .ok (.ireturn, 1) := by decide +kernel
theorem dX4_caughtBits_0 : decode cX4_caughtBits 0 = .ok (.iconst 0, 1) := by decide +kernel
theorem dX4_caughtBits_1 : decode cX4_caughtBits 1 = .ok (.istore_n 1, 1) := by decide +kernel
theorem dX4_caughtBits_2 : decode cX4_caughtBits 2 = .ok (.iconst 0, 1) := by decide +kernel
theorem dX4_caughtBits_3 : decode cX4_caughtBits 3 = .ok (.istore_n 2, 1) := by decide +kernel
theorem dX4_caughtBits_4 : decode cX4_caughtBits 4 = .ok (.iload_n 2, 1) := by decide +kernel
theorem dX4_caughtBits_5 : decode cX4_caughtBits 5 = .ok (.iconst 4, 1) := by decide +kernel
theorem dX4_caughtBits_6 : decode cX4_caughtBits 6 = .ok (.if_icmp .ge 25, 3) := by decide +kernel
theorem dX4_caughtBits_9 : decode cX4_caughtBits 9 = .ok (.aload_n 0, 1) := by decide +kernel
theorem dX4_caughtBits_10 : decode cX4_caughtBits 10 = .ok (.getfield 43, 3) := by decide +kernel
theorem dX4_caughtBits_13 : decode cX4_caughtBits 13 = .ok (.iload_n 2, 1) := by decide +kernel
theorem dX4_caughtBits_14 : decode cX4_caughtBits 14 = .ok (.iaload, 1) := by decide +kernel
theorem dX4_caughtBits_15 : decode cX4_caughtBits 15 = .ok (.iconst 5, 1) := by decide +kernel
theorem dX4_caughtBits_16 : decode cX4_caughtBits 16 = .ok (.if_icmp .ne 9, 3) := by decide +kernel
theorem dX4_caughtBits_19 : decode cX4_caughtBits 19 = .ok (.iload_n 1, 1) := by decide +kernel
theorem dX4_caughtBits_20 : decode cX4_caughtBits 20 = .ok (.iconst 1, 1) := by decide +kernel
theorem dX4_caughtBits_21 : decode cX4_caughtBits 21 = .ok (.iload_n 2, 1) := by decide +kernel
theorem dX4_caughtBits_22 : decode cX4_caughtBits 22 = .ok (.ishl, 1) := by decide +kernel
theorem dX4_caughtBits_23 : decode cX4_caughtBits 23 = .ok (.ior, 1) := by decide +kernel
theorem dX4_caughtBits_24 : decode cX4_caughtBits 24 = .ok (.istore_n 1, 1) := by decide +kernel
theorem dX4_caughtBits_25 : decode cX4_caughtBits 25 = .ok (.iinc 2 1, 3) := by decide +kernel
theorem dX4_caughtBits_28 : decode cX4_caughtBits 28 = .ok (.goto (-24), 3) := by decide +kernel
theorem dX4_caughtBits_31 : decode cX4_caughtBits 31 = .ok (.iload_n 1, 1) := by decide +kernel
theorem dX4_caughtBits_32 : decode cX4_caughtBits 32 = .ok (.ireturn, 1) := by decide +kernel
theorem dX4_leaveBehind_0 : decode cX4_leaveBehind 0 = .ok (.aload_n 0, 1) := by decide +kernel
theorem dX4_leaveBehind_1 : decode cX4_leaveBehind 1 = .ok (.getfield 30, 3) := by decide +kernel
theorem dX4_leaveBehind_4 : decode cX4_leaveBehind 4 = .ok (.iconst 0, 1) := by decide +kernel
theorem dX4_leaveBehind_5 : decode cX4_leaveBehind 5 = .ok (.aload_n 0, 1) := by decide +kernel
theorem dX4_leaveBehind_6 : decode cX4_leaveBehind 6 = .ok (.getfield 61, 3) := by decide +kernel
theorem dX4_leaveBehind_9 : decode cX4_leaveBehind 9 = .ok (.getfield 65, 3) := by decide +kernel
theorem dX4_leaveBehind_12 : decode cX4_leaveBehind 12 = .ok (.iconst 0, 1) := by decide +kernel
theorem dX4_leaveBehind_13 : decode cX4_leaveBehind 13 = .ok (.bipush 6, 2) := by decide +kernel
theorem dX4_leaveBehind_15 : decode cX4_leaveBehind 15 = .ok (.invokestatic 70, 3) := by decide +kernel
theorem dX4_leaveBehind_18 : decode cX4_leaveBehind 18 = .ok (.iconst 0, 1) := by decide +kernel
theorem dX4_leaveBehind_19 : decode cX4_leaveBehind 19 = .ok (.istore_n 1, 1) := by decide +kernel
theorem dX4_leaveBehind_20 : decode cX4_leaveBehind 20 = .ok (.iload_n 1, 1) := by decide +kernel
theorem dX4_leaveBehind_21 : decode cX4_leaveBehind 21 = .ok (.iconst 4, 1) := by decide +kernel
theorem dX4_leaveBehind_22 : decode cX4_leaveBehind 22 = .ok (.if_icmp .ge 35, 3) := by decide +kernel
theorem dX4_leaveBehind_25 : decode cX4_leaveBehind 25 = .ok (.aload_n 0, 1) := by decide +kernel
theorem dX4_leaveBehind_26 : decode cX4_leaveBehind 26 = .ok (.getfield 43, 3) := by decide +kernel
theorem dX4_leaveBehind_29 : decode cX4_leaveBehind 29 = .ok (.iload_n 1, 1) := by decide +kernel
theorem dX4_leaveBehind_30 : decode cX4_leaveBehind 30 = .ok (.iaload, 1) := by decide +kernel
theorem dX4_leaveBehind_31 : decode cX4_leaveBehind 31 = .ok (.iconst 5, 1) := by decide +kernel
theorem dX4_leaveBehind_32 : decode cX4_leaveBehind 32 = .ok (.if_icmp .ne 19, 3) := by decide +kernel
theorem dX4_leaveBehind_35 : decode cX4_leaveBehind 35 = .ok (.aload_n 0, 1) := by decide +kernel
theorem dX4_leaveBehind_36 : decode cX4_leaveBehind 36 = .ok (.getfield 61, 3) := by decide +kernel
theorem dX4_leaveBehind_39 : decode cX4_leaveBehind 39 = .ok (.getfield 65, 3) := by decide +kernel
theorem dX4_leaveBehind_42 : decode cX4_leaveBehind 42 = .ok (.bipush 18, 2) := by decide +kernel
theorem dX4_leaveBehind_44 : decode cX4_leaveBehind 44 = .ok (.iload_n 1, 1) := by decide +kernel
theorem dX4_leaveBehind_45 : decode cX4_leaveBehind 45 = .ok (.iadd, 1) := by decide +kernel
theorem dX4_leaveBehind_46 : decode cX4_leaveBehind 46 = .ok (.dup2, 1) := by decide +kernel
theorem dX4_leaveBehind_47 : decode cX4_leaveBehind 47 = .ok (.iaload, 1) := by decide +kernel
theorem dX4_leaveBehind_48 : decode cX4_leaveBehind 48 = .ok (.iconst 1, 1) := by decide +kernel
theorem dX4_leaveBehind_49 : decode cX4_leaveBehind 49 = .ok (.iadd, 1) := by decide +kernel
theorem dX4_leaveBehind_50 : decode cX4_leaveBehind 50 = .ok (.iastore, 1) := by decide +kernel
theorem dX4_leaveBehind_51 : decode cX4_leaveBehind 51 = .ok (.iinc 1 1, 3) := by decide +kernel
theorem dX4_leaveBehind_54 : decode cX4_leaveBehind 54 = .ok (.goto (-34), 3) := by decide +kernel
theorem dX4_leaveBehind_57 : decode cX4_leaveBehind 57 = .ok (.aload_n 0, 1) := by decide +kernel
theorem dX4_leaveBehind_58 : decode cX4_leaveBehind 58 = .ok (.getfield 61, 3) := by decide +kernel
theorem dX4_leaveBehind_61 : decode cX4_leaveBehind 61 = .ok (.getfield 65, 3) := by decide +kernel
theorem dX4_leaveBehind_64 : decode cX4_leaveBehind 64 = .ok (.bipush 22, 2) := by decide +kernel
theorem dX4_leaveBehind_66 : decode cX4_leaveBehind 66 = .ok (.dup2, 1) := by decide +kernel
theorem dX4_leaveBehind_67 : decode cX4_leaveBehind 67 = .ok (.iaload, 1) := by decide +kernel
theorem dX4_leaveBehind_68 : decode cX4_leaveBehind 68 = .ok (.iconst 1, 1) := by decide +kernel
theorem dX4_leaveBehind_69 : decode cX4_leaveBehind 69 = .ok (.iadd, 1) := by decide +kernel
theorem dX4_leaveBehind_70 : decode cX4_leaveBehind 70 = .ok (.iastore, 1) := by decide +kernel
theorem dX4_leaveBehind_71 : decode cX4_leaveBehind 71 = .ok (.aload_n 0, 1) := by decide +kernel
theorem dX4_leaveBehind_72 : decode cX4_leaveBehind 72 = .ok (.getfield 61, 3) := by decide +kernel
theorem dX4_leaveBehind_75 : decode cX4_leaveBehind 75 = .ok (.getfield 65, 3) := by decide +kernel
theorem dX4_leaveBehind_78 : decode cX4_leaveBehind 78 = .ok (.bipush 23, 2) := by decide +kernel
theorem dX4_leaveBehind_80 : decode cX4_leaveBehind 80 = .ok (.dup2, 1) := by decide +kernel
theorem dX4_leaveBehind_81 : decode cX4_leaveBehind 81 = .ok (.iaload, 1) := by decide +kernel
theorem dX4_leaveBehind_82 : decode cX4_leaveBehind 82 = .ok (.aload_n 0, 1) := by decide +kernel
theorem dX4_leaveBehind_83 : decode cX4_leaveBehind 83 = .ok (.invokevirtual 164, 3) := by decide +kernel
theorem dX4_leaveBehind_86 : decode cX4_leaveBehind 86 = .ok (.iadd, 1) := by decide +kernel
theorem dX4_leaveBehind_87 : decode cX4_leaveBehind 87 = .ok (.iastore, 1) := by decide +kernel
theorem dX4_leaveBehind_88 : decode cX4_leaveBehind 88 = .ok (.return_, 1) := by decide +kernel
theorem dX5_init_0 : decode cX5_init 0 = .ok (.aload_n 0, 1) := by decide +kernel
theorem dX5_init_1 : decode cX5_init 1 = .ok (.invokespecial 3, 3) := by decide +kernel
theorem dX5_init_4 : decode cX5_init 4 = .ok (.aload_n 0, 1) := by decide +kernel
theorem dX5_init_5 : decode cX5_init 5 = .ok (.bipush 120, 2) := by decide +kernel
theorem dX5_init_7 : decode cX5_init 7 = .ok (.newarray .int, 2) := by decide +kernel
theorem dX5_init_9 : decode cX5_init 9 = .ok (.putfield 11, 3) := by decide +kernel
theorem dX5_init_12 : decode cX5_init 12 = .ok (.aload_n 0, 1) := by decide +kernel
theorem dX5_init_13 : decode cX5_init 13 = .ok (.iconst 0, 1) := by decide +kernel
theorem dX5_init_14 : decode cX5_init 14 = .ok (.putfield 15, 3) := by decide +kernel
theorem dX5_init_17 : decode cX5_init 17 = .ok (.aload_n 0, 1) := by decide +kernel
theorem dX5_init_18 : decode cX5_init 18 = .ok (.iconst 0, 1) := by decide +kernel
theorem dX5_init_19 : decode cX5_init 19 = .ok (.putfield 19, 3) := by decide +kernel
theorem dX5_init_22 : decode cX5_init 22 = .ok (.aload_n 0, 1) := by decide +kernel
theorem dX5_init_23 : decode cX5_init 23 = .ok (.iconst 2, 1) := by decide +kernel
theorem dX5_init_24 : decode cX5_init 24 = .ok (.putfield 22, 3) := by decide +kernel
theorem dX5_init_27 : decode cX5_init 27 = .ok (.aload_n 0, 1) := by decide +kernel
theorem dX5_init_28 : decode cX5_init 28 = .ok (.iconst 0, 1) := by decide +kernel
theorem dX5_init_29 : decode cX5_init 29 = .ok (.putfield 25, 3) := by decide +kernel
theorem dX5_init_32 : decode cX5_init 32 = .ok (.aload_n 0, 1) := by decide +kernel
theorem dX5_init_33 : decode cX5_init 33 = .ok (.iconst 0, 1) := by decide +kernel
theorem dX5_init_34 : decode cX5_init 34 = .ok (.putfield 28, 3) := by decide +kernel
theorem dX5_init_37 : decode cX5_init 37 = .ok (.aload_n 0, 1) := by decide +kernel
theorem dX5_init_38 : decode cX5_init 38 = .ok (.iconst 0, 1) := by decide +kernel
theorem dX5_init_39 : decode cX5_init 39 = .ok (.putfield 31, 3) := by decide +kernel
theorem dX5_init_42 : decode cX5_init 42 = .ok (.return_, 1) := by decide +kernel
theorem dX5_isFull_0 : decode cX5_isFull 0 = .ok (.aload_n 0, 1) := by decide +kernel
theorem dX5_isFull_1 : decode cX5_isFull 1 = .ok (.getfield 15, 3) := by decide +kernel
theorem dX5_isFull_4 : decode cX5_isFull 4 = .ok (.bipush 120, 2) := by decide +kernel
theorem dX5_isFull_6 : decode cX5_isFull 6 = .ok (.if_icmp .lt 7, 3) := by decide +kernel
theorem dX5_isFull_9 : decode cX5_isFull 9 = .ok (.iconst 1, 1) := by decide +kernel
theorem dX5_isFull_10 : decode cX5_isFull 10 = .ok (.goto 4, 3) := by decide +kernel
theorem dX5_isFull_13 : decode cX5_isFull 13 = .ok (.iconst 0, 1) := by decide +kernel
theorem dX5_isFull_14 : decode cX5_isFull 14 = .ok (.ireturn, 1) := by decide +kernel
theorem dX5_append_0 : decode cX5_append 0 = .ok (.aload_n 0, 1) := by decide +kernel
theorem dX5_append_1 : decode cX5_append 1 = .ok (.getfield 11, 3) := by decide +kernel
theorem dX5_append_4 : decode cX5_append 4 = .ok (.aload_n 0, 1) := by decide +kernel
theorem dX5_append_5 : decode cX5_append 5 = .ok (.getfield 15, 3) := by decide +kernel
theorem dX5_append_8 : decode cX5_append 8 = .ok (.iload_n 1, 1) := by decide +kernel
theorem dX5_append_9 : decode cX5_append 9 = .ok (.iastore, 1) := by decide +kernel
theorem dX5_append_10 : decode cX5_append 10 = .ok (.aload_n 0, 1) := by decide +kernel
theorem dX5_append_11 : decode cX5_append 11 = .ok (.dup, 1) := by decide +kernel
theorem dX5_append_12 : decode cX5_append 12 = .ok (.getfield 15, 3) := by decide +kernel
theorem dX5_append_15 : decode cX5_append 15 = .ok (.iconst 1, 1) := by decide +kernel
theorem dX5_append_16 : decode cX5_append 16 = .ok (.iadd, 1) := by decide +kernel
theorem dX5_append_17 : decode cX5_append 17 = .ok (.putfield 15, 3) := by decide +kernel
theorem dX5_append_20 : decode cX5_append 20 = .ok (.aload_n 0, 1) := by decide +kernel
theorem dX5_append_21 : decode cX5_append 21 = .ok (.getfield 15, 3) := by decide +kernel
theorem dX5_append_24 : decode cX5_append 24 = .ok (.ireturn, 1) := by decide +kernel
theorem dX5_read_0 : decode cX5_read 0 = .ok (.aload_n 0, 1) := by decide +kernel
theorem dX5_read_1 : decode cX5_read 1 = .ok (.iconst 0, 1) := by decide +kernel
theorem dX5_read_2 : decode cX5_read 2 = .ok (.putfield 31, 3) := by decide +kernel
theorem dX5_read_5 : decode cX5_read 5 = .ok (.aload_n 0, 1) := by decide +kernel
theorem dX5_read_6 : decode cX5_read 6 = .ok (.invokevirtual 34, 3) := by decide +kernel
theorem dX5_read_9 : decode cX5_read 9 = .ok (.aload_n 1, 1) := by decide +kernel
theorem dX5_read_10 : decode cX5_read 10 = .ok (.invokevirtual 37, 3) := by decide +kernel
theorem dX5_read_13 : decode cX5_read 13 = .ok (.aload_n 0, 1) := by decide +kernel
theorem dX5_read_14 : decode cX5_read 14 = .ok (.aload_n 1, 1) := by decide +kernel
theorem dX5_read_15 : decode cX5_read 15 = .ok (.invokevirtual 42, 3) := by decide +kernel
theorem dX5_read_18 : decode cX5_read 18 = .ok (.ifCond .eq 38, 3) := by decide +kernel
theorem dX5_read_21 : decode cX5_read 21 = .ok (.aload_n 0, 1) := by decide +kernel
theorem dX5_read_22 : decode cX5_read 22 = .ok (.aload_n 1, 1) := by decide +kernel
theorem dX5_read_23 : decode cX5_read 23 = .ok (.invokevirtual 46, 3) := by decide +kernel
theorem dX5_read_26 : decode cX5_read 26 = .ok (.ifCond .eq 30, 3) := by decide +kernel
theorem dX5_read_29 : decode cX5_read 29 = .ok (.aload_n 0, 1) := by decide +kernel
theorem dX5_read_30 : decode cX5_read 30 = .ok (.aload_n 1, 1) := by decide +kernel
theorem dX5_read_31 : decode cX5_read 31 = .ok (.invokevirtual 49, 3) := by decide +kernel
theorem dX5_read_34 : decode cX5_read 34 = .ok (.ifCond .eq 22, 3) := by decide +kernel
theorem dX5_read_37 : decode cX5_read 37 = .ok (.aload_n 0, 1) := by decide +kernel
theorem dX5_read_38 : decode cX5_read 38 = .ok (.aload_n 1, 1) := by decide +kernel
theorem dX5_read_39 : decode cX5_read 39 = .ok (.invokevirtual 52, 3) := by decide +kernel
theorem dX5_read_42 : decode cX5_read 42 = .ok (.ifCond .eq 14, 3) := by decide +kernel
theorem dX5_read_45 : decode cX5_read 45 = .ok (.aload_n 0, 1) := by decide +kernel
theorem dX5_read_46 : decode cX5_read 46 = .ok (.invokevirtual 55, 3) := by decide +kernel
theorem dX5_read_49 : decode cX5_read 49 = .ok (.ifCond .eq 7, 3) := by decide +kernel
theorem dX5_read_52 : decode cX5_read 52 = .ok (.iconst 1, 1) := by decide +kernel
theorem dX5_read_53 : decode cX5_read 53 = .ok (.goto 4, 3) := by decide +kernel
theorem dX5_read_56 : decode cX5_read 56 = .ok (.iconst 0, 1) := by decide +kernel
theorem dX5_read_57 : decode cX5_read 57 = .ok (.istore_n 2, 1) := by decide +kernel
theorem dX5_read_58 : decode cX5_read 58 = .ok (.aload_n 0, 1) := by decide +kernel
theorem dX5_read_59 : decode cX5_read 59 = .ok (.iconst 0, 1) := by decide +kernel
theorem dX5_read_60 : decode cX5_read 60 = .ok (.putfield 15, 3) := by decide +kernel
theorem dX5_read_63 : decode cX5_read 63 = .ok (.iload_n 2, 1) := by decide +kernel
theorem dX5_read_64 : decode cX5_read 64 = .ok (.ifCond .eq 7, 3) := by decide +kernel
theorem dX5_read_67 : decode cX5_read 67 = .ok (.iconst (-1), 1) := by decide +kernel
theorem dX5_read_68 : decode cX5_read 68 = .ok (.goto 7, 3) := by decide +kernel
theorem dX5_read_71 : decode cX5_read 71 = .ok (.aload_n 0, 1) := by decide +kernel
theorem dX5_read_72 : decode cX5_read 72 = .ok (.getfield 28, 3) := by decide +kernel
theorem dX5_read_75 : decode cX5_read 75 = .ok (.ireturn, 1) := by decide +kernel
theorem dX5_readLaw_0 : decode cX5_readLaw 0 = .ok (.aload_n 0, 1) := by decide +kernel
theorem dX5_readLaw_1 : decode cX5_readLaw 1 = .ok (.bipush 111, 2) := by decide +kernel
theorem dX5_readLaw_3 : decode cX5_readLaw 3 = .ok (.invokevirtual 59, 3) := by decide +kernel
theorem dX5_readLaw_6 : decode cX5_readLaw 6 = .ok (.ifCond .ne 5, 3) := by decide +kernel
theorem dX5_readLaw_9 : decode cX5_readLaw 9 = .ok (.iconst 0, 1) := by decide +kernel
theorem dX5_readLaw_10 : decode cX5_readLaw 10 = .ok (.ireturn, 1) := by decide +kernel
theorem dX5_readLaw_11 : decode cX5_readLaw 11 = .ok (.aload_n 1, 1) := by decide +kernel
theorem dX5_readLaw_12 : decode cX5_readLaw 12 = .ok (.aload_n 0, 1) := by decide +kernel
theorem dX5_readLaw_13 : decode cX5_readLaw 13 = .ok (.iconst 0, 1) := by decide +kernel
theorem dX5_readLaw_14 : decode cX5_readLaw 14 = .ok (.bipush 23, 2) := by decide +kernel
theorem dX5_readLaw_16 : decode cX5_readLaw 16 = .ok (.iconst 0, 1) := by decide +kernel
theorem dX5_readLaw_17 : decode cX5_readLaw 17 = .ok (.bipush 44, 2) := by decide +kernel
theorem dX5_readLaw_19 : decode cX5_readLaw 19 = .ok (.invokevirtual 63, 3) := by decide +kernel
theorem dX5_readLaw_22 : decode cX5_readLaw 22 = .ok (.putfield 67, 3) := by decide +kernel
theorem dX5_readLaw_25 : decode cX5_readLaw 25 = .ok (.aload_n 1, 1) := by decide +kernel
theorem dX5_readLaw_26 : decode cX5_readLaw 26 = .ok (.getfield 67, 3) := by decide +kernel
theorem dX5_readLaw_29 : decode cX5_readLaw 29 = .ok (.ifCond .ge 5, 3) := by decide +kernel
theorem dX5_readLaw_32 : decode cX5_readLaw 32 = .ok (.iconst 0, 1) := by decide +kernel
theorem dX5_readLaw_33 : decode cX5_readLaw 33 = .ok (.ireturn, 1) := by decide +kernel
theorem dX5_readLaw_34 : decode cX5_readLaw 34 = .ok (.aload_n 1, 1) := by decide +kernel
theorem dX5_readLaw_35 : decode cX5_readLaw 35 = .ok (.aload_n 0, 1) := by decide +kernel
theorem dX5_readLaw_36 : decode cX5_readLaw 36 = .ok (.iconst 0, 1) := by decide +kernel
theorem dX5_readLaw_37 : decode cX5_readLaw 37 = .ok (.bipush 23, 2) := by decide +kernel
theorem dX5_readLaw_39 : decode cX5_readLaw 39 = .ok (.iconst 1, 1) := by decide +kernel
theorem dX5_readLaw_40 : decode cX5_readLaw 40 = .ok (.aload_n 1, 1) := by decide +kernel
theorem dX5_readLaw_41 : decode cX5_readLaw 41 = .ok (.getfield 67, 3) := by decide +kernel
theorem dX5_readLaw_44 : decode cX5_readLaw 44 = .ok (.ishl, 1) := by decide +kernel
theorem dX5_readLaw_45 : decode cX5_readLaw 45 = .ok (.bipush 44, 2) := by decide +kernel
theorem dX5_readLaw_47 : decode cX5_readLaw 47 = .ok (.invokevirtual 63, 3) := by decide +kernel
theorem dX5_readLaw_50 : decode cX5_readLaw 50 = .ok (.putfield 70, 3) := by decide +kernel
theorem dX5_readLaw_53 : decode cX5_readLaw 53 = .ok (.aload_n 1, 1) := by decide +kernel
theorem dX5_readLaw_54 : decode cX5_readLaw 54 = .ok (.getfield 70, 3) := by decide +kernel
theorem dX5_readLaw_57 : decode cX5_readLaw 57 = .ok (.ifCond .ge 5, 3) := by decide +kernel
theorem dX5_readLaw_60 : decode cX5_readLaw 60 = .ok (.iconst 0, 1) := by decide +kernel
theorem dX5_readLaw_61 : decode cX5_readLaw 61 = .ok (.ireturn, 1) := by decide +kernel
theorem dX5_readLaw_62 : decode cX5_readLaw 62 = .ok (.aload_n 1, 1) := by decide +kernel
theorem dX5_readLaw_63 : decode cX5_readLaw 63 = .ok (.aload_n 0, 1) := by decide +kernel
theorem dX5_readLaw_64 : decode cX5_readLaw 64 = .ok (.iconst 1, 1) := by decide +kernel
theorem dX5_readLaw_65 : decode cX5_readLaw 65 = .ok (.bipush 60, 2) := by decide +kernel
theorem dX5_readLaw_67 : decode cX5_readLaw 67 = .ok (.iconst 0, 1) := by decide +kernel
theorem dX5_readLaw_68 : decode cX5_readLaw 68 = .ok (.bipush 44, 2) := by decide +kernel
theorem dX5_readLaw_70 : decode cX5_readLaw 70 = .ok (.invokevirtual 63, 3) := by decide +kernel
theorem dX5_readLaw_73 : decode cX5_readLaw 73 = .ok (.putfield 73, 3) := by decide +kernel
theorem dX5_readLaw_76 : decode cX5_readLaw 76 = .ok (.aload_n 1, 1) := by decide +kernel
theorem dX5_readLaw_77 : decode cX5_readLaw 77 = .ok (.getfield 73, 3) := by decide +kernel
theorem dX5_readLaw_80 : decode cX5_readLaw 80 = .ok (.ifCond .ge 5, 3) := by decide +kernel
theorem dX5_readLaw_83 : decode cX5_readLaw 83 = .ok (.iconst 0, 1) := by decide +kernel
theorem dX5_readLaw_84 : decode cX5_readLaw 84 = .ok (.ireturn, 1) := by decide +kernel
theorem dX5_readLaw_85 : decode cX5_readLaw 85 = .ok (.aload_n 1, 1) := by decide +kernel
theorem dX5_readLaw_86 : decode cX5_readLaw 86 = .ok (.aload_n 0, 1) := by decide +kernel
theorem dX5_readLaw_87 : decode cX5_readLaw 87 = .ok (.iconst 0, 1) := by decide +kernel
theorem dX5_readLaw_88 : decode cX5_readLaw 88 = .ok (.bipush 9, 2) := by decide +kernel
theorem dX5_readLaw_90 : decode cX5_readLaw 90 = .ok (.iconst 0, 1) := by decide +kernel
theorem dX5_readLaw_91 : decode cX5_readLaw 91 = .ok (.bipush 44, 2) := by decide +kernel
theorem dX5_readLaw_93 : decode cX5_readLaw 93 = .ok (.invokevirtual 63, 3) := by decide +kernel
theorem dX5_readLaw_96 : decode cX5_readLaw 96 = .ok (.putfield 76, 3) := by decide +kernel
theorem dX5_readLaw_99 : decode cX5_readLaw 99 = .ok (.aload_n 1, 1) := by decide +kernel
theorem dX5_readLaw_100 : decode cX5_readLaw 100 = .ok (.getfield 76, 3) := by decide +kernel
theorem dX5_readLaw_103 : decode cX5_readLaw 103 = .ok (.ifCond .ge 5, 3) := by decide +kernel
theorem dX5_readLaw_106 : decode cX5_readLaw 106 = .ok (.iconst 0, 1) := by decide +kernel
theorem dX5_readLaw_107 : decode cX5_readLaw 107 = .ok (.ireturn, 1) := by decide +kernel
theorem dX5_readLaw_108 : decode cX5_readLaw 108 = .ok (.aload_n 1, 1) := by decide +kernel
theorem dX5_readLaw_109 : decode cX5_readLaw 109 = .ok (.aload_n 0, 1) := by decide +kernel
theorem dX5_readLaw_110 : decode cX5_readLaw 110 = .ok (.iconst 0, 1) := by decide +kernel
theorem dX5_readLaw_111 : decode cX5_readLaw 111 = .ok (.bipush 40, 2) := by decide +kernel
theorem dX5_readLaw_113 : decode cX5_readLaw 113 = .ok (.iconst 0, 1) := by decide +kernel
theorem dX5_readLaw_114 : decode cX5_readLaw 114 = .ok (.bipush 59, 2) := by decide +kernel
theorem dX5_readLaw_116 : decode cX5_readLaw 116 = .ok (.invokevirtual 63, 3) := by decide +kernel
theorem dX5_readLaw_119 : decode cX5_readLaw 119 = .ok (.putfield 79, 3) := by decide +kernel
theorem dX5_readLaw_122 : decode cX5_readLaw 122 = .ok (.aload_n 1, 1) := by decide +kernel
theorem dX5_readLaw_123 : decode cX5_readLaw 123 = .ok (.getfield 79, 3) := by decide +kernel
theorem dX5_readLaw_126 : decode cX5_readLaw 126 = .ok (.ifCond .lt 7, 3) := by decide +kernel
theorem dX5_readLaw_129 : decode cX5_readLaw 129 = .ok (.iconst 1, 1) := by decide +kernel
theorem dX5_readLaw_130 : decode cX5_readLaw 130 = .ok (.goto 4, 3) := by decide +kernel
theorem dX5_readLaw_133 : decode cX5_readLaw 133 = .ok (.iconst 0, 1) := by decide +kernel
theorem dX5_readLaw_134 : decode cX5_readLaw 134 = .ok (.ireturn, 1) := by decide +kernel
theorem dX5_readHens_0 : decode cX5_readHens 0 = .ok (.iconst 0, 1) := by decide +kernel
theorem dX5_readHens_1 : decode cX5_readHens 1 = .ok (.istore_n 2, 1) := by decide +kernel
theorem dX5_readHens_2 : decode cX5_readHens 2 = .ok (.iload_n 2, 1) := by decide +kernel
theorem dX5_readHens_3 : decode cX5_readHens 3 = .ok (.iconst 3, 1) := by decide +kernel
theorem dX5_readHens_4 : decode cX5_readHens 4 = .ok (.if_icmp .gt 76, 3) := by decide +kernel
theorem dX5_readHens_7 : decode cX5_readHens 7 = .ok (.aload_n 0, 1) := by decide +kernel
theorem dX5_readHens_8 : decode cX5_readHens 8 = .ok (.getfield 22, 3) := by decide +kernel
theorem dX5_readHens_11 : decode cX5_readHens 11 = .ok (.bipush 104, 2) := by decide +kernel
theorem dX5_readHens_13 : decode cX5_readHens 13 = .ok (.if_icmp .ne 67, 3) := by decide +kernel
theorem dX5_readHens_16 : decode cX5_readHens 16 = .ok (.iload_n 2, 1) := by decide +kernel
theorem dX5_readHens_17 : decode cX5_readHens 17 = .ok (.iconst 3, 1) := by decide +kernel
theorem dX5_readHens_18 : decode cX5_readHens 18 = .ok (.if_icmp .ne 9, 3) := by decide +kernel
theorem dX5_readHens_21 : decode cX5_readHens 21 = .ok (.aload_n 0, 1) := by decide +kernel
theorem dX5_readHens_22 : decode cX5_readHens 22 = .ok (.iconst 3, 1) := by decide +kernel
theorem dX5_readHens_23 : decode cX5_readHens 23 = .ok (.invokevirtual 82, 3) := by decide +kernel
theorem dX5_readHens_26 : decode cX5_readHens 26 = .ok (.ireturn, 1) := by decide +kernel
theorem dX5_readHens_27 : decode cX5_readHens 27 = .ok (.aload_n 0, 1) := by decide +kernel
theorem dX5_readHens_28 : decode cX5_readHens 28 = .ok (.invokevirtual 34, 3) := by decide +kernel
theorem dX5_readHens_31 : decode cX5_readHens 31 = .ok (.aload_n 0, 1) := by decide +kernel
theorem dX5_readHens_32 : decode cX5_readHens 32 = .ok (.iconst 0, 1) := by decide +kernel
theorem dX5_readHens_33 : decode cX5_readHens 33 = .ok (.bipush 23, 2) := by decide +kernel
theorem dX5_readHens_35 : decode cX5_readHens 35 = .ok (.iconst 0, 1) := by decide +kernel
theorem dX5_readHens_36 : decode cX5_readHens 36 = .ok (.bipush 44, 2) := by decide +kernel
theorem dX5_readHens_38 : decode cX5_readHens 38 = .ok (.invokevirtual 63, 3) := by decide +kernel
theorem dX5_readHens_41 : decode cX5_readHens 41 = .ok (.istore_n 3, 1) := by decide +kernel
theorem dX5_readHens_42 : decode cX5_readHens 42 = .ok (.iload_n 3, 1) := by decide +kernel
theorem dX5_readHens_43 : decode cX5_readHens 43 = .ok (.ifCond .ge 5, 3) := by decide +kernel
theorem dX5_readHens_46 : decode cX5_readHens 46 = .ok (.iconst 0, 1) := by decide +kernel
theorem dX5_readHens_47 : decode cX5_readHens 47 = .ok (.ireturn, 1) := by decide +kernel
theorem dX5_readHens_48 : decode cX5_readHens 48 = .ok (.aload_n 0, 1) := by decide +kernel
theorem dX5_readHens_49 : decode cX5_readHens 49 = .ok (.iconst 1, 1) := by decide +kernel
theorem dX5_readHens_50 : decode cX5_readHens 50 = .ok (.bipush 9, 2) := by decide +kernel
theorem dX5_readHens_52 : decode cX5_readHens 52 = .ok (.iconst 0, 1) := by decide +kernel
theorem dX5_readHens_53 : decode cX5_readHens 53 = .ok (.bipush 59, 2) := by decide +kernel
theorem dX5_readHens_55 : decode cX5_readHens 55 = .ok (.invokevirtual 63, 3) := by decide +kernel
theorem dX5_readHens_58 : decode cX5_readHens 58 = .ok (.istore 4, 2) := by decide +kernel
theorem dX5_readHens_60 : decode cX5_readHens 60 = .ok (.iload 4, 2) := by decide +kernel
theorem dX5_readHens_62 : decode cX5_readHens 62 = .ok (.ifCond .ge 5, 3) := by decide +kernel
theorem dX5_readHens_65 : decode cX5_readHens 65 = .ok (.iconst 0, 1) := by decide +kernel
theorem dX5_readHens_66 : decode cX5_readHens 66 = .ok (.ireturn, 1) := by decide +kernel
theorem dX5_readHens_67 : decode cX5_readHens 67 = .ok (.aload_n 1, 1) := by decide +kernel
theorem dX5_readHens_68 : decode cX5_readHens 68 = .ok (.iload_n 3, 1) := by decide +kernel
theorem dX5_readHens_69 : decode cX5_readHens 69 = .ok (.iload 4, 2) := by decide +kernel
theorem dX5_readHens_71 : decode cX5_readHens 71 = .ok (.invokevirtual 85, 3) := by decide +kernel
theorem dX5_readHens_74 : decode cX5_readHens 74 = .ok (.iinc 2 1, 3) := by decide +kernel
theorem dX5_readHens_77 : decode cX5_readHens 77 = .ok (.goto (-75), 3) := by decide +kernel
theorem dX5_readHens_80 : decode cX5_readHens 80 = .ok (.iconst 1, 1) := by decide +kernel
theorem dX5_readHens_81 : decode cX5_readHens 81 = .ok (.ireturn, 1) := by decide +kernel
theorem dX5_readTrees_0 : decode cX5_readTrees 0 = .ok (.iconst 1, 1) := by decide +kernel
theorem dX5_readTrees_1 : decode cX5_readTrees 1 = .ok (.aload_n 1, 1) := by decide +kernel
theorem dX5_readTrees_2 : decode cX5_readTrees 2 = .ok (.getfield 70, 3) := by decide +kernel
theorem dX5_readTrees_5 : decode cX5_readTrees 5 = .ok (.ishl, 1) := by decide +kernel
theorem dX5_readTrees_6 : decode cX5_readTrees 6 = .ok (.istore_n 2, 1) := by decide +kernel
theorem dX5_readTrees_7 : decode cX5_readTrees 7 = .ok (.iconst 0, 1) := by decide +kernel
theorem dX5_readTrees_8 : decode cX5_readTrees 8 = .ok (.istore_n 3, 1) := by decide +kernel
theorem dX5_readTrees_9 : decode cX5_readTrees 9 = .ok (.iload_n 3, 1) := by decide +kernel
theorem dX5_readTrees_10 : decode cX5_readTrees 10 = .ok (.bipush 6, 2) := by decide +kernel
theorem dX5_readTrees_12 : decode cX5_readTrees 12 = .ok (.if_icmp .gt 137, 3) := by decide +kernel
theorem dX5_readTrees_15 : decode cX5_readTrees 15 = .ok (.aload_n 0, 1) := by decide +kernel
theorem dX5_readTrees_16 : decode cX5_readTrees 16 = .ok (.getfield 22, 3) := by decide +kernel
theorem dX5_readTrees_19 : decode cX5_readTrees 19 = .ok (.bipush 116, 2) := by decide +kernel
theorem dX5_readTrees_21 : decode cX5_readTrees 21 = .ok (.if_icmp .ne 128, 3) := by decide +kernel
theorem dX5_readTrees_24 : decode cX5_readTrees 24 = .ok (.iload_n 3, 1) := by decide +kernel
theorem dX5_readTrees_25 : decode cX5_readTrees 25 = .ok (.bipush 6, 2) := by decide +kernel
theorem dX5_readTrees_27 : decode cX5_readTrees 27 = .ok (.if_icmp .ne 9, 3) := by decide +kernel
theorem dX5_readTrees_30 : decode cX5_readTrees 30 = .ok (.aload_n 0, 1) := by decide +kernel
theorem dX5_readTrees_31 : decode cX5_readTrees 31 = .ok (.iconst 3, 1) := by decide +kernel
theorem dX5_readTrees_32 : decode cX5_readTrees 32 = .ok (.invokevirtual 82, 3) := by decide +kernel
theorem dX5_readTrees_35 : decode cX5_readTrees 35 = .ok (.ireturn, 1) := by decide +kernel
theorem dX5_readTrees_36 : decode cX5_readTrees 36 = .ok (.aload_n 0, 1) := by decide +kernel
theorem dX5_readTrees_37 : decode cX5_readTrees 37 = .ok (.invokevirtual 34, 3) := by decide +kernel
theorem dX5_readTrees_40 : decode cX5_readTrees 40 = .ok (.aload_n 1, 1) := by decide +kernel
theorem dX5_readTrees_41 : decode cX5_readTrees 41 = .ok (.getfield 89, 3) := by decide +kernel
theorem dX5_readTrees_44 : decode cX5_readTrees 44 = .ok (.iload_n 3, 1) := by decide +kernel
theorem dX5_readTrees_45 : decode cX5_readTrees 45 = .ok (.aload_n 0, 1) := by decide +kernel
theorem dX5_readTrees_46 : decode cX5_readTrees 46 = .ok (.iconst 0, 1) := by decide +kernel
theorem dX5_readTrees_47 : decode cX5_readTrees 47 = .ok (.bipush 23, 2) := by decide +kernel
theorem dX5_readTrees_49 : decode cX5_readTrees 49 = .ok (.iload_n 2, 1) := by decide +kernel
theorem dX5_readTrees_50 : decode cX5_readTrees 50 = .ok (.bipush 44, 2) := by decide +kernel
theorem dX5_readTrees_52 : decode cX5_readTrees 52 = .ok (.invokevirtual 63, 3) := by decide +kernel
theorem dX5_readTrees_55 : decode cX5_readTrees 55 = .ok (.iastore, 1) := by decide +kernel
theorem dX5_readTrees_56 : decode cX5_readTrees 56 = .ok (.aload_n 1, 1) := by decide +kernel
theorem dX5_readTrees_57 : decode cX5_readTrees 57 = .ok (.getfield 89, 3) := by decide +kernel
theorem dX5_readTrees_60 : decode cX5_readTrees 60 = .ok (.iload_n 3, 1) := by decide +kernel
theorem dX5_readTrees_61 : decode cX5_readTrees 61 = .ok (.iaload, 1) := by decide +kernel
theorem dX5_readTrees_62 : decode cX5_readTrees 62 = .ok (.ifCond .ge 5, 3) := by decide +kernel
theorem dX5_readTrees_65 : decode cX5_readTrees 65 = .ok (.iconst 0, 1) := by decide +kernel
theorem dX5_readTrees_66 : decode cX5_readTrees 66 = .ok (.ireturn, 1) := by decide +kernel
theorem dX5_readTrees_67 : decode cX5_readTrees 67 = .ok (.iload_n 2, 1) := by decide +kernel
theorem dX5_readTrees_68 : decode cX5_readTrees 68 = .ok (.iconst 1, 1) := by decide +kernel
theorem dX5_readTrees_69 : decode cX5_readTrees 69 = .ok (.aload_n 1, 1) := by decide +kernel
theorem dX5_readTrees_70 : decode cX5_readTrees 70 = .ok (.getfield 89, 3) := by decide +kernel
theorem dX5_readTrees_73 : decode cX5_readTrees 73 = .ok (.iload_n 3, 1) := by decide +kernel
theorem dX5_readTrees_74 : decode cX5_readTrees 74 = .ok (.iaload, 1) := by decide +kernel
theorem dX5_readTrees_75 : decode cX5_readTrees 75 = .ok (.ishl, 1) := by decide +kernel
theorem dX5_readTrees_76 : decode cX5_readTrees 76 = .ok (.ior, 1) := by decide +kernel
theorem dX5_readTrees_77 : decode cX5_readTrees 77 = .ok (.istore_n 2, 1) := by decide +kernel
theorem dX5_readTrees_78 : decode cX5_readTrees 78 = .ok (.aload_n 1, 1) := by decide +kernel
theorem dX5_readTrees_79 : decode cX5_readTrees 79 = .ok (.getfield 92, 3) := by decide +kernel
theorem dX5_readTrees_82 : decode cX5_readTrees 82 = .ok (.iconst 0, 1) := by decide +kernel
theorem dX5_readTrees_83 : decode cX5_readTrees 83 = .ok (.iload_n 3, 1) := by decide +kernel
theorem dX5_readTrees_84 : decode cX5_readTrees 84 = .ok (.iadd, 1) := by decide +kernel
theorem dX5_readTrees_85 : decode cX5_readTrees 85 = .ok (.aload_n 0, 1) := by decide +kernel
theorem dX5_readTrees_86 : decode cX5_readTrees 86 = .ok (.iconst 0, 1) := by decide +kernel
theorem dX5_readTrees_87 : decode cX5_readTrees 87 = .ok (.bipush 30, 2) := by decide +kernel
theorem dX5_readTrees_89 : decode cX5_readTrees 89 = .ok (.iconst 0, 1) := by decide +kernel
theorem dX5_readTrees_90 : decode cX5_readTrees 90 = .ok (.bipush 44, 2) := by decide +kernel
theorem dX5_readTrees_92 : decode cX5_readTrees 92 = .ok (.invokevirtual 63, 3) := by decide +kernel
theorem dX5_readTrees_95 : decode cX5_readTrees 95 = .ok (.iastore, 1) := by decide +kernel
theorem dX5_readTrees_96 : decode cX5_readTrees 96 = .ok (.aload_n 1, 1) := by decide +kernel
theorem dX5_readTrees_97 : decode cX5_readTrees 97 = .ok (.getfield 92, 3) := by decide +kernel
theorem dX5_readTrees_100 : decode cX5_readTrees 100 = .ok (.iconst 0, 1) := by decide +kernel
theorem dX5_readTrees_101 : decode cX5_readTrees 101 = .ok (.iload_n 3, 1) := by decide +kernel
theorem dX5_readTrees_102 : decode cX5_readTrees 102 = .ok (.iadd, 1) := by decide +kernel
theorem dX5_readTrees_103 : decode cX5_readTrees 103 = .ok (.iaload, 1) := by decide +kernel
theorem dX5_readTrees_104 : decode cX5_readTrees 104 = .ok (.ifCond .ge 5, 3) := by decide +kernel
theorem dX5_readTrees_107 : decode cX5_readTrees 107 = .ok (.iconst 0, 1) := by decide +kernel
theorem dX5_readTrees_108 : decode cX5_readTrees 108 = .ok (.ireturn, 1) := by decide +kernel
theorem dX5_readTrees_109 : decode cX5_readTrees 109 = .ok (.aload_n 1, 1) := by decide +kernel
theorem dX5_readTrees_110 : decode cX5_readTrees 110 = .ok (.getfield 95, 3) := by decide +kernel
theorem dX5_readTrees_113 : decode cX5_readTrees 113 = .ok (.iload_n 3, 1) := by decide +kernel
theorem dX5_readTrees_114 : decode cX5_readTrees 114 = .ok (.aload_n 0, 1) := by decide +kernel
theorem dX5_readTrees_115 : decode cX5_readTrees 115 = .ok (.iconst 0, 1) := by decide +kernel
theorem dX5_readTrees_116 : decode cX5_readTrees 116 = .ok (.bipush 9, 2) := by decide +kernel
theorem dX5_readTrees_118 : decode cX5_readTrees 118 = .ok (.iconst 0, 1) := by decide +kernel
theorem dX5_readTrees_119 : decode cX5_readTrees 119 = .ok (.bipush 59, 2) := by decide +kernel
theorem dX5_readTrees_121 : decode cX5_readTrees 121 = .ok (.invokevirtual 63, 3) := by decide +kernel
theorem dX5_readTrees_124 : decode cX5_readTrees 124 = .ok (.iastore, 1) := by decide +kernel
theorem dX5_readTrees_125 : decode cX5_readTrees 125 = .ok (.aload_n 1, 1) := by decide +kernel
theorem dX5_readTrees_126 : decode cX5_readTrees 126 = .ok (.getfield 95, 3) := by decide +kernel
theorem dX5_readTrees_129 : decode cX5_readTrees 129 = .ok (.iload_n 3, 1) := by decide +kernel
theorem dX5_readTrees_130 : decode cX5_readTrees 130 = .ok (.iaload, 1) := by decide +kernel
theorem dX5_readTrees_131 : decode cX5_readTrees 131 = .ok (.ifCond .ge 5, 3) := by decide +kernel
theorem dX5_readTrees_134 : decode cX5_readTrees 134 = .ok (.iconst 0, 1) := by decide +kernel
theorem dX5_readTrees_135 : decode cX5_readTrees 135 = .ok (.ireturn, 1) := by decide +kernel
theorem dX5_readTrees_136 : decode cX5_readTrees 136 = .ok (.aload_n 1, 1) := by decide +kernel
theorem dX5_readTrees_137 : decode cX5_readTrees 137 = .ok (.iload_n 3, 1) := by decide +kernel
theorem dX5_readTrees_138 : decode cX5_readTrees 138 = .ok (.iconst 1, 1) := by decide +kernel
theorem dX5_readTrees_139 : decode cX5_readTrees 139 = .ok (.iadd, 1) := by decide +kernel
theorem dX5_readTrees_140 : decode cX5_readTrees 140 = .ok (.putfield 98, 3) := by decide +kernel
theorem dX5_readTrees_143 : decode cX5_readTrees 143 = .ok (.iinc 3 1, 3) := by decide +kernel
theorem dX5_readTrees_146 : decode cX5_readTrees 146 = .ok (.goto (-137), 3) := by decide +kernel
theorem dX5_readTrees_149 : decode cX5_readTrees 149 = .ok (.iconst 1, 1) := by decide +kernel
theorem dX5_readTrees_150 : decode cX5_readTrees 150 = .ok (.ireturn, 1) := by decide +kernel
theorem dX5_readRaiders_0 : decode cX5_readRaiders 0 = .ok (.iconst 0, 1) := by decide +kernel
theorem dX5_readRaiders_1 : decode cX5_readRaiders 1 = .ok (.istore_n 2, 1) := by decide +kernel
theorem dX5_readRaiders_2 : decode cX5_readRaiders 2 = .ok (.iload_n 2, 1) := by decide +kernel
theorem dX5_readRaiders_3 : decode cX5_readRaiders 3 = .ok (.iconst 4, 1) := by decide +kernel
theorem dX5_readRaiders_4 : decode cX5_readRaiders 4 = .ok (.if_icmp .gt 89, 3) := by decide +kernel
theorem dX5_readRaiders_7 : decode cX5_readRaiders 7 = .ok (.ldc 101, 2) := by decide +kernel
theorem dX5_readRaiders_9 : decode cX5_readRaiders 9 = .ok (.aload_n 0, 1) := by decide +kernel
theorem dX5_readRaiders_10 : decode cX5_readRaiders 10 = .ok (.getfield 22, 3) := by decide +kernel
theorem dX5_readRaiders_13 : decode cX5_readRaiders 13 = .ok (.i2c, 1) := by decide +kernel
theorem dX5_readRaiders_14 : decode cX5_readRaiders 14 = .ok (.invokevirtual 103, 3) := by decide +kernel
theorem dX5_readRaiders_17 : decode cX5_readRaiders 17 = .ok (.ifCond .lt 76, 3) := by decide +kernel
theorem dX5_readRaiders_20 : decode cX5_readRaiders 20 = .ok (.iload_n 2, 1) := by decide +kernel
theorem dX5_readRaiders_21 : decode cX5_readRaiders 21 = .ok (.iconst 4, 1) := by decide +kernel
theorem dX5_readRaiders_22 : decode cX5_readRaiders 22 = .ok (.if_icmp .ne 9, 3) := by decide +kernel
theorem dX5_readRaiders_25 : decode cX5_readRaiders 25 = .ok (.aload_n 0, 1) := by decide +kernel
theorem dX5_readRaiders_26 : decode cX5_readRaiders 26 = .ok (.iconst 3, 1) := by decide +kernel
theorem dX5_readRaiders_27 : decode cX5_readRaiders 27 = .ok (.invokevirtual 82, 3) := by decide +kernel
theorem dX5_readRaiders_30 : decode cX5_readRaiders 30 = .ok (.ireturn, 1) := by decide +kernel
theorem dX5_readRaiders_31 : decode cX5_readRaiders 31 = .ok (.aload_n 1, 1) := by decide +kernel
theorem dX5_readRaiders_32 : decode cX5_readRaiders 32 = .ok (.getfield 109, 3) := by decide +kernel
theorem dX5_readRaiders_35 : decode cX5_readRaiders 35 = .ok (.iload_n 2, 1) := by decide +kernel
theorem dX5_readRaiders_36 : decode cX5_readRaiders 36 = .ok (.ldc 101, 2) := by decide +kernel
theorem dX5_readRaiders_38 : decode cX5_readRaiders 38 = .ok (.aload_n 0, 1) := by decide +kernel
theorem dX5_readRaiders_39 : decode cX5_readRaiders 39 = .ok (.getfield 22, 3) := by decide +kernel
theorem dX5_readRaiders_42 : decode cX5_readRaiders 42 = .ok (.i2c, 1) := by decide +kernel
theorem dX5_readRaiders_43 : decode cX5_readRaiders 43 = .ok (.invokevirtual 103, 3) := by decide +kernel
theorem dX5_readRaiders_46 : decode cX5_readRaiders 46 = .ok (.iconst 1, 1) := by decide +kernel
theorem dX5_readRaiders_47 : decode cX5_readRaiders 47 = .ok (.iadd, 1) := by decide +kernel
theorem dX5_readRaiders_48 : decode cX5_readRaiders 48 = .ok (.iastore, 1) := by decide +kernel
theorem dX5_readRaiders_49 : decode cX5_readRaiders 49 = .ok (.aload_n 0, 1) := by decide +kernel
theorem dX5_readRaiders_50 : decode cX5_readRaiders 50 = .ok (.invokevirtual 34, 3) := by decide +kernel
theorem dX5_readRaiders_53 : decode cX5_readRaiders 53 = .ok (.aload_n 1, 1) := by decide +kernel
theorem dX5_readRaiders_54 : decode cX5_readRaiders 54 = .ok (.getfield 112, 3) := by decide +kernel
theorem dX5_readRaiders_57 : decode cX5_readRaiders 57 = .ok (.iload_n 2, 1) := by decide +kernel
theorem dX5_readRaiders_58 : decode cX5_readRaiders 58 = .ok (.aload_n 0, 1) := by decide +kernel
theorem dX5_readRaiders_59 : decode cX5_readRaiders 59 = .ok (.iconst 1, 1) := by decide +kernel
theorem dX5_readRaiders_60 : decode cX5_readRaiders 60 = .ok (.bipush 20, 2) := by decide +kernel
theorem dX5_readRaiders_62 : decode cX5_readRaiders 62 = .ok (.iconst 0, 1) := by decide +kernel
theorem dX5_readRaiders_63 : decode cX5_readRaiders 63 = .ok (.bipush 59, 2) := by decide +kernel
theorem dX5_readRaiders_65 : decode cX5_readRaiders 65 = .ok (.invokevirtual 63, 3) := by decide +kernel
theorem dX5_readRaiders_68 : decode cX5_readRaiders 68 = .ok (.iastore, 1) := by decide +kernel
theorem dX5_readRaiders_69 : decode cX5_readRaiders 69 = .ok (.aload_n 1, 1) := by decide +kernel
theorem dX5_readRaiders_70 : decode cX5_readRaiders 70 = .ok (.getfield 112, 3) := by decide +kernel
theorem dX5_readRaiders_73 : decode cX5_readRaiders 73 = .ok (.iload_n 2, 1) := by decide +kernel
theorem dX5_readRaiders_74 : decode cX5_readRaiders 74 = .ok (.iaload, 1) := by decide +kernel
theorem dX5_readRaiders_75 : decode cX5_readRaiders 75 = .ok (.ifCond .ge 5, 3) := by decide +kernel
theorem dX5_readRaiders_78 : decode cX5_readRaiders 78 = .ok (.iconst 0, 1) := by decide +kernel
theorem dX5_readRaiders_79 : decode cX5_readRaiders 79 = .ok (.ireturn, 1) := by decide +kernel
theorem dX5_readRaiders_80 : decode cX5_readRaiders 80 = .ok (.aload_n 1, 1) := by decide +kernel
theorem dX5_readRaiders_81 : decode cX5_readRaiders 81 = .ok (.iload_n 2, 1) := by decide +kernel
theorem dX5_readRaiders_82 : decode cX5_readRaiders 82 = .ok (.iconst 1, 1) := by decide +kernel
theorem dX5_readRaiders_83 : decode cX5_readRaiders 83 = .ok (.iadd, 1) := by decide +kernel
theorem dX5_readRaiders_84 : decode cX5_readRaiders 84 = .ok (.putfield 115, 3) := by decide +kernel
theorem dX5_readRaiders_87 : decode cX5_readRaiders 87 = .ok (.iinc 2 1, 3) := by decide +kernel
theorem dX5_readRaiders_90 : decode cX5_readRaiders 90 = .ok (.goto (-88), 3) := by decide +kernel
theorem dX5_readRaiders_93 : decode cX5_readRaiders 93 = .ok (.iconst 1, 1) := by decide +kernel
theorem dX5_readRaiders_94 : decode cX5_readRaiders 94 = .ok (.ireturn, 1) := by decide +kernel
theorem dX5_isAtEnd_0 : decode cX5_isAtEnd 0 = .ok (.aload_n 0, 1) := by decide +kernel
theorem dX5_isAtEnd_1 : decode cX5_isAtEnd 1 = .ok (.getfield 22, 3) := by decide +kernel
theorem dX5_isAtEnd_4 : decode cX5_isAtEnd 4 = .ok (.iconst 2, 1) := by decide +kernel
theorem dX5_isAtEnd_5 : decode cX5_isAtEnd 5 = .ok (.if_icmp .eq 11, 3) := by decide +kernel
theorem dX5_isAtEnd_8 : decode cX5_isAtEnd 8 = .ok (.aload_n 0, 1) := by decide +kernel
theorem dX5_isAtEnd_9 : decode cX5_isAtEnd 9 = .ok (.iconst 1, 1) := by decide +kernel
theorem dX5_isAtEnd_10 : decode cX5_isAtEnd 10 = .ok (.invokevirtual 82, 3) := by decide +kernel
theorem dX5_isAtEnd_13 : decode cX5_isAtEnd 13 = .ok (.ifCond .eq 7, 3) := by decide +kernel
theorem dX5_isAtEnd_16 : decode cX5_isAtEnd 16 = .ok (.iconst 1, 1) := by decide +kernel
theorem dX5_isAtEnd_17 : decode cX5_isAtEnd 17 = .ok (.goto 4, 3) := by decide +kernel
theorem dX5_isAtEnd_20 : decode cX5_isAtEnd 20 = .ok (.iconst 0, 1) := by decide +kernel
theorem dX5_isAtEnd_21 : decode cX5_isAtEnd 21 = .ok (.ireturn, 1) := by decide +kernel
theorem dX5_fail_0 : decode cX5_fail 0 = .ok (.aload_n 0, 1) := by decide +kernel
theorem dX5_fail_1 : decode cX5_fail 1 = .ok (.iload_n 1, 1) := by decide +kernel
theorem dX5_fail_2 : decode cX5_fail 2 = .ok (.putfield 19, 3) := by decide +kernel
theorem dX5_fail_5 : decode cX5_fail 5 = .ok (.iconst 0, 1) := by decide +kernel
theorem dX5_fail_6 : decode cX5_fail 6 = .ok (.ireturn, 1) := by decide +kernel
theorem dX5_take_0 : decode cX5_take 0 = .ok (.aload_n 0, 1) := by decide +kernel
theorem dX5_take_1 : decode cX5_take 1 = .ok (.getfield 22, 3) := by decide +kernel
theorem dX5_take_4 : decode cX5_take 4 = .ok (.iload_n 1, 1) := by decide +kernel
theorem dX5_take_5 : decode cX5_take 5 = .ok (.if_icmp .eq 9, 3) := by decide +kernel
theorem dX5_take_8 : decode cX5_take 8 = .ok (.aload_n 0, 1) := by decide +kernel
theorem dX5_take_9 : decode cX5_take 9 = .ok (.iconst 1, 1) := by decide +kernel
theorem dX5_take_10 : decode cX5_take 10 = .ok (.invokevirtual 82, 3) := by decide +kernel
theorem dX5_take_13 : decode cX5_take 13 = .ok (.ireturn, 1) := by decide +kernel
theorem dX5_take_14 : decode cX5_take 14 = .ok (.aload_n 0, 1) := by decide +kernel
theorem dX5_take_15 : decode cX5_take 15 = .ok (.invokevirtual 34, 3) := by decide +kernel
theorem dX5_take_18 : decode cX5_take 18 = .ok (.iconst 1, 1) := by decide +kernel
theorem dX5_take_19 : decode cX5_take 19 = .ok (.ireturn, 1) := by decide +kernel
theorem dX5_takeField_0 : decode cX5_takeField 0 = .ok (.aload_n 0, 1) := by decide +kernel
theorem dX5_takeField_1 : decode cX5_takeField 1 = .ok (.getfield 22, 3) := by decide +kernel
theorem dX5_takeField_4 : decode cX5_takeField 4 = .ok (.iconst 1, 1) := by decide +kernel
theorem dX5_takeField_5 : decode cX5_takeField 5 = .ok (.if_icmp .eq 11, 3) := by decide +kernel
theorem dX5_takeField_8 : decode cX5_takeField 8 = .ok (.aload_n 0, 1) := by decide +kernel
theorem dX5_takeField_9 : decode cX5_takeField 9 = .ok (.iconst 1, 1) := by decide +kernel
theorem dX5_takeField_10 : decode cX5_takeField 10 = .ok (.invokevirtual 82, 3) := by decide +kernel
theorem dX5_takeField_13 : decode cX5_takeField 13 = .ok (.pop, 1) := by decide +kernel
theorem dX5_takeField_14 : decode cX5_takeField 14 = .ok (.iconst (-1), 1) := by decide +kernel
theorem dX5_takeField_15 : decode cX5_takeField 15 = .ok (.ireturn, 1) := by decide +kernel
theorem dX5_takeField_16 : decode cX5_takeField 16 = .ok (.aload_n 0, 1) := by decide +kernel
theorem dX5_takeField_17 : decode cX5_takeField 17 = .ok (.getfield 25, 3) := by decide +kernel
theorem dX5_takeField_20 : decode cX5_takeField 20 = .ok (.istore 5, 2) := by decide +kernel
theorem dX5_takeField_22 : decode cX5_takeField 22 = .ok (.iload 5, 2) := by decide +kernel
theorem dX5_takeField_24 : decode cX5_takeField 24 = .ok (.iload_n 1, 1) := by decide +kernel
theorem dX5_takeField_25 : decode cX5_takeField 25 = .ok (.if_icmp .lt 22, 3) := by decide +kernel
theorem dX5_takeField_28 : decode cX5_takeField 28 = .ok (.iload 5, 2) := by decide +kernel
theorem dX5_takeField_30 : decode cX5_takeField 30 = .ok (.iload_n 2, 1) := by decide +kernel
theorem dX5_takeField_31 : decode cX5_takeField 31 = .ok (.if_icmp .gt 16, 3) := by decide +kernel
theorem dX5_takeField_34 : decode cX5_takeField 34 = .ok (.iload_n 3, 1) := by decide +kernel
theorem dX5_takeField_35 : decode cX5_takeField 35 = .ok (.ifCond .eq 20, 3) := by decide +kernel
theorem dX5_takeField_38 : decode cX5_takeField 38 = .ok (.iload_n 3, 1) := by decide +kernel
theorem dX5_takeField_39 : decode cX5_takeField 39 = .ok (.iload 5, 2) := by decide +kernel
theorem dX5_takeField_41 : decode cX5_takeField 41 = .ok (.ishr, 1) := by decide +kernel
theorem dX5_takeField_42 : decode cX5_takeField 42 = .ok (.iconst 1, 1) := by decide +kernel
theorem dX5_takeField_43 : decode cX5_takeField 43 = .ok (.iand, 1) := by decide +kernel
theorem dX5_takeField_44 : decode cX5_takeField 44 = .ok (.ifCond .eq 11, 3) := by decide +kernel
theorem dX5_takeField_47 : decode cX5_takeField 47 = .ok (.aload_n 0, 1) := by decide +kernel
theorem dX5_takeField_48 : decode cX5_takeField 48 = .ok (.iconst 2, 1) := by decide +kernel
theorem dX5_takeField_49 : decode cX5_takeField 49 = .ok (.invokevirtual 82, 3) := by decide +kernel
theorem dX5_takeField_52 : decode cX5_takeField 52 = .ok (.pop, 1) := by decide +kernel
theorem dX5_takeField_53 : decode cX5_takeField 53 = .ok (.iconst (-1), 1) := by decide +kernel
theorem dX5_takeField_54 : decode cX5_takeField 54 = .ok (.ireturn, 1) := by decide +kernel
theorem dX5_takeField_55 : decode cX5_takeField 55 = .ok (.aload_n 0, 1) := by decide +kernel
theorem dX5_takeField_56 : decode cX5_takeField 56 = .ok (.invokevirtual 34, 3) := by decide +kernel
theorem dX5_takeField_59 : decode cX5_takeField 59 = .ok (.aload_n 0, 1) := by decide +kernel
theorem dX5_takeField_60 : decode cX5_takeField 60 = .ok (.iload 4, 2) := by decide +kernel
theorem dX5_takeField_62 : decode cX5_takeField 62 = .ok (.invokevirtual 59, 3) := by decide +kernel
theorem dX5_takeField_65 : decode cX5_takeField 65 = .ok (.ifCond .eq 8, 3) := by decide +kernel
theorem dX5_takeField_68 : decode cX5_takeField 68 = .ok (.iload 5, 2) := by decide +kernel
theorem dX5_takeField_70 : decode cX5_takeField 70 = .ok (.goto 4, 3) := by decide +kernel
theorem dX5_takeField_73 : decode cX5_takeField 73 = .ok (.iconst (-1), 1) := by decide +kernel
theorem dX5_takeField_74 : decode cX5_takeField 74 = .ok (.ireturn, 1) := by decide +kernel
theorem dX5_advance_0 : decode cX5_advance 0 = .ok (.aload_n 0, 1) := by decide +kernel
theorem dX5_advance_1 : decode cX5_advance 1 = .ok (.aload_n 0, 1) := by decide +kernel
theorem dX5_advance_2 : decode cX5_advance 2 = .ok (.getfield 31, 3) := by decide +kernel
theorem dX5_advance_5 : decode cX5_advance 5 = .ok (.putfield 28, 3) := by decide +kernel
theorem dX5_advance_8 : decode cX5_advance 8 = .ok (.aload_n 0, 1) := by decide +kernel
theorem dX5_advance_9 : decode cX5_advance 9 = .ok (.getfield 31, 3) := by decide +kernel
theorem dX5_advance_12 : decode cX5_advance 12 = .ok (.aload_n 0, 1) := by decide +kernel
theorem dX5_advance_13 : decode cX5_advance 13 = .ok (.getfield 15, 3) := by decide +kernel
theorem dX5_advance_16 : decode cX5_advance 16 = .ok (.if_icmp .lt 9, 3) := by decide +kernel
theorem dX5_advance_19 : decode cX5_advance 19 = .ok (.aload_n 0, 1) := by decide +kernel
theorem dX5_advance_20 : decode cX5_advance 20 = .ok (.iconst 2, 1) := by decide +kernel
theorem dX5_advance_21 : decode cX5_advance 21 = .ok (.putfield 22, 3) := by decide +kernel
theorem dX5_advance_24 : decode cX5_advance 24 = .ok (.return_, 1) := by decide +kernel
theorem dX5_advance_25 : decode cX5_advance 25 = .ok (.aload_n 0, 1) := by decide +kernel
theorem dX5_advance_26 : decode cX5_advance 26 = .ok (.getfield 11, 3) := by decide +kernel
theorem dX5_advance_29 : decode cX5_advance 29 = .ok (.aload_n 0, 1) := by decide +kernel
theorem dX5_advance_30 : decode cX5_advance 30 = .ok (.getfield 31, 3) := by decide +kernel
theorem dX5_advance_33 : decode cX5_advance 33 = .ok (.iaload, 1) := by decide +kernel
theorem dX5_advance_34 : decode cX5_advance 34 = .ok (.istore_n 1, 1) := by decide +kernel
theorem dX5_advance_35 : decode cX5_advance 35 = .ok (.iload_n 1, 1) := by decide +kernel
theorem dX5_advance_36 : decode cX5_advance 36 = .ok (.invokestatic 118, 3) := by decide +kernel
theorem dX5_advance_39 : decode cX5_advance 39 = .ok (.ifCond .eq 8, 3) := by decide +kernel
theorem dX5_advance_42 : decode cX5_advance 42 = .ok (.aload_n 0, 1) := by decide +kernel
theorem dX5_advance_43 : decode cX5_advance 43 = .ok (.invokevirtual 121, 3) := by decide +kernel
theorem dX5_advance_46 : decode cX5_advance 46 = .ok (.return_, 1) := by decide +kernel
theorem dX5_advance_47 : decode cX5_advance 47 = .ok (.iload_n 1, 1) := by decide +kernel
theorem dX5_advance_48 : decode cX5_advance 48 = .ok (.bipush 97, 2) := by decide +kernel
theorem dX5_advance_50 : decode cX5_advance 50 = .ok (.if_icmp .lt 9, 3) := by decide +kernel
theorem dX5_advance_53 : decode cX5_advance 53 = .ok (.iload_n 1, 1) := by decide +kernel
theorem dX5_advance_54 : decode cX5_advance 54 = .ok (.bipush 122, 2) := by decide +kernel
theorem dX5_advance_56 : decode cX5_advance 56 = .ok (.if_icmp .le 15, 3) := by decide +kernel
theorem dX5_advance_59 : decode cX5_advance 59 = .ok (.iload_n 1, 1) := by decide +kernel
theorem dX5_advance_60 : decode cX5_advance 60 = .ok (.bipush 44, 2) := by decide +kernel
theorem dX5_advance_62 : decode cX5_advance 62 = .ok (.if_icmp .eq 9, 3) := by decide +kernel
theorem dX5_advance_65 : decode cX5_advance 65 = .ok (.iload_n 1, 1) := by decide +kernel
theorem dX5_advance_66 : decode cX5_advance 66 = .ok (.bipush 59, 2) := by decide +kernel
theorem dX5_advance_68 : decode cX5_advance 68 = .ok (.if_icmp .ne 7, 3) := by decide +kernel
theorem dX5_advance_71 : decode cX5_advance 71 = .ok (.iconst 1, 1) := by decide +kernel
theorem dX5_advance_72 : decode cX5_advance 72 = .ok (.goto 4, 3) := by decide +kernel
theorem dX5_advance_75 : decode cX5_advance 75 = .ok (.iconst 0, 1) := by decide +kernel
theorem dX5_advance_76 : decode cX5_advance 76 = .ok (.istore_n 2, 1) := by decide +kernel
theorem dX5_advance_77 : decode cX5_advance 77 = .ok (.aload_n 0, 1) := by decide +kernel
theorem dX5_advance_78 : decode cX5_advance 78 = .ok (.iload_n 2, 1) := by decide +kernel
theorem dX5_advance_79 : decode cX5_advance 79 = .ok (.ifCond .eq 7, 3) := by decide +kernel
theorem dX5_advance_82 : decode cX5_advance 82 = .ok (.iload_n 1, 1) := by decide +kernel
theorem dX5_advance_83 : decode cX5_advance 83 = .ok (.goto 4, 3) := by decide +kernel
theorem dX5_advance_86 : decode cX5_advance 86 = .ok (.iconst 3, 1) := by decide +kernel
theorem dX5_advance_87 : decode cX5_advance 87 = .ok (.putfield 22, 3) := by decide +kernel
theorem dX5_advance_90 : decode cX5_advance 90 = .ok (.aload_n 0, 1) := by decide +kernel
theorem dX5_advance_91 : decode cX5_advance 91 = .ok (.dup, 1) := by decide +kernel
theorem dX5_advance_92 : decode cX5_advance 92 = .ok (.getfield 31, 3) := by decide +kernel
theorem dX5_advance_95 : decode cX5_advance 95 = .ok (.iconst 1, 1) := by decide +kernel
theorem dX5_advance_96 : decode cX5_advance 96 = .ok (.iadd, 1) := by decide +kernel
theorem dX5_advance_97 : decode cX5_advance 97 = .ok (.putfield 31, 3) := by decide +kernel
theorem dX5_advance_100 : decode cX5_advance 100 = .ok (.return_, 1) := by decide +kernel
theorem dX5_advanceOverFigures_0 : decode cX5_advanceOverFigures 0 = .ok (.aload_n 0, 1) := by decide +kernel
theorem dX5_advanceOverFigures_1 : decode cX5_advanceOverFigures 1 = .ok (.iconst 0, 1) := by decide +kernel
theorem dX5_advanceOverFigures_2 : decode cX5_advanceOverFigures 2 = .ok (.putfield 25, 3) := by decide +kernel
theorem dX5_advanceOverFigures_5 : decode cX5_advanceOverFigures 5 = .ok (.aload_n 0, 1) := by decide +kernel
theorem dX5_advanceOverFigures_6 : decode cX5_advanceOverFigures 6 = .ok (.getfield 31, 3) := by decide +kernel
theorem dX5_advanceOverFigures_9 : decode cX5_advanceOverFigures 9 = .ok (.aload_n 0, 1) := by decide +kernel
theorem dX5_advanceOverFigures_10 : decode cX5_advanceOverFigures 10 = .ok (.getfield 15, 3) := by decide +kernel
theorem dX5_advanceOverFigures_13 : decode cX5_advanceOverFigures 13 = .ok (.if_icmp .ge 68, 3) := by decide +kernel
theorem dX5_advanceOverFigures_16 : decode cX5_advanceOverFigures 16 = .ok (.aload_n 0, 1) := by decide +kernel
theorem dX5_advanceOverFigures_17 : decode cX5_advanceOverFigures 17 = .ok (.getfield 11, 3) := by decide +kernel
theorem dX5_advanceOverFigures_20 : decode cX5_advanceOverFigures 20 = .ok (.aload_n 0, 1) := by decide +kernel
theorem dX5_advanceOverFigures_21 : decode cX5_advanceOverFigures 21 = .ok (.getfield 31, 3) := by decide +kernel
theorem dX5_advanceOverFigures_24 : decode cX5_advanceOverFigures 24 = .ok (.iaload, 1) := by decide +kernel
theorem dX5_advanceOverFigures_25 : decode cX5_advanceOverFigures 25 = .ok (.invokestatic 118, 3) := by decide +kernel
theorem dX5_advanceOverFigures_28 : decode cX5_advanceOverFigures 28 = .ok (.ifCond .eq 53, 3) := by decide +kernel
theorem dX5_advanceOverFigures_31 : decode cX5_advanceOverFigures 31 = .ok (.aload_n 0, 1) := by decide +kernel
theorem dX5_advanceOverFigures_32 : decode cX5_advanceOverFigures 32 = .ok (.getfield 31, 3) := by decide +kernel
theorem dX5_advanceOverFigures_35 : decode cX5_advanceOverFigures 35 = .ok (.aload_n 0, 1) := by decide +kernel
theorem dX5_advanceOverFigures_36 : decode cX5_advanceOverFigures 36 = .ok (.getfield 28, 3) := by decide +kernel
theorem dX5_advanceOverFigures_39 : decode cX5_advanceOverFigures 39 = .ok (.isub, 1) := by decide +kernel
theorem dX5_advanceOverFigures_40 : decode cX5_advanceOverFigures 40 = .ok (.iconst 2, 1) := by decide +kernel
theorem dX5_advanceOverFigures_41 : decode cX5_advanceOverFigures 41 = .ok (.if_icmp .gt 40, 3) := by decide +kernel
theorem dX5_advanceOverFigures_44 : decode cX5_advanceOverFigures 44 = .ok (.aload_n 0, 1) := by decide +kernel
theorem dX5_advanceOverFigures_45 : decode cX5_advanceOverFigures 45 = .ok (.aload_n 0, 1) := by decide +kernel
theorem dX5_advanceOverFigures_46 : decode cX5_advanceOverFigures 46 = .ok (.getfield 25, 3) := by decide +kernel
theorem dX5_advanceOverFigures_49 : decode cX5_advanceOverFigures 49 = .ok (.bipush 10, 2) := by decide +kernel
theorem dX5_advanceOverFigures_51 : decode cX5_advanceOverFigures 51 = .ok (.imul, 1) := by decide +kernel
theorem dX5_advanceOverFigures_52 : decode cX5_advanceOverFigures 52 = .ok (.aload_n 0, 1) := by decide +kernel
theorem dX5_advanceOverFigures_53 : decode cX5_advanceOverFigures 53 = .ok (.getfield 11, 3) := by decide +kernel
theorem dX5_advanceOverFigures_56 : decode cX5_advanceOverFigures 56 = .ok (.aload_n 0, 1) := by decide +kernel
theorem dX5_advanceOverFigures_57 : decode cX5_advanceOverFigures 57 = .ok (.getfield 31, 3) := by decide +kernel
theorem dX5_advanceOverFigures_60 : decode cX5_advanceOverFigures 60 = .ok (.iaload, 1) := by decide +kernel
theorem dX5_advanceOverFigures_61 : decode cX5_advanceOverFigures 61 = .ok (.iadd, 1) := by decide +kernel
theorem dX5_advanceOverFigures_62 : decode cX5_advanceOverFigures 62 = .ok (.bipush 48, 2) := by decide +kernel
theorem dX5_advanceOverFigures_64 : decode cX5_advanceOverFigures 64 = .ok (.isub, 1) := by decide +kernel
theorem dX5_advanceOverFigures_65 : decode cX5_advanceOverFigures 65 = .ok (.putfield 25, 3) := by decide +kernel
theorem dX5_advanceOverFigures_68 : decode cX5_advanceOverFigures 68 = .ok (.aload_n 0, 1) := by decide +kernel
theorem dX5_advanceOverFigures_69 : decode cX5_advanceOverFigures 69 = .ok (.dup, 1) := by decide +kernel
theorem dX5_advanceOverFigures_70 : decode cX5_advanceOverFigures 70 = .ok (.getfield 31, 3) := by decide +kernel
theorem dX5_advanceOverFigures_73 : decode cX5_advanceOverFigures 73 = .ok (.iconst 1, 1) := by decide +kernel
theorem dX5_advanceOverFigures_74 : decode cX5_advanceOverFigures 74 = .ok (.iadd, 1) := by decide +kernel
theorem dX5_advanceOverFigures_75 : decode cX5_advanceOverFigures 75 = .ok (.putfield 31, 3) := by decide +kernel
theorem dX5_advanceOverFigures_78 : decode cX5_advanceOverFigures 78 = .ok (.goto (-73), 3) := by decide +kernel
theorem dX5_advanceOverFigures_81 : decode cX5_advanceOverFigures 81 = .ok (.aload_n 0, 1) := by decide +kernel
theorem dX5_advanceOverFigures_82 : decode cX5_advanceOverFigures 82 = .ok (.aload_n 0, 1) := by decide +kernel
theorem dX5_advanceOverFigures_83 : decode cX5_advanceOverFigures 83 = .ok (.getfield 31, 3) := by decide +kernel
theorem dX5_advanceOverFigures_86 : decode cX5_advanceOverFigures 86 = .ok (.aload_n 0, 1) := by decide +kernel
theorem dX5_advanceOverFigures_87 : decode cX5_advanceOverFigures 87 = .ok (.getfield 28, 3) := by decide +kernel
theorem dX5_advanceOverFigures_90 : decode cX5_advanceOverFigures 90 = .ok (.isub, 1) := by decide +kernel
theorem dX5_advanceOverFigures_91 : decode cX5_advanceOverFigures 91 = .ok (.iconst 2, 1) := by decide +kernel
theorem dX5_advanceOverFigures_92 : decode cX5_advanceOverFigures 92 = .ok (.if_icmp .gt 7, 3) := by decide +kernel
theorem dX5_advanceOverFigures_95 : decode cX5_advanceOverFigures 95 = .ok (.iconst 1, 1) := by decide +kernel
theorem dX5_advanceOverFigures_96 : decode cX5_advanceOverFigures 96 = .ok (.goto 4, 3) := by decide +kernel
theorem dX5_advanceOverFigures_99 : decode cX5_advanceOverFigures 99 = .ok (.iconst 3, 1) := by decide +kernel
theorem dX5_advanceOverFigures_100 : decode cX5_advanceOverFigures 100 = .ok (.putfield 22, 3) := by decide +kernel
theorem dX5_advanceOverFigures_103 : decode cX5_advanceOverFigures 103 = .ok (.return_, 1) := by decide +kernel
theorem dX5_isFigure_0 : decode cX5_isFigure 0 = .ok (.iload_n 0, 1) := by decide +kernel
theorem dX5_isFigure_1 : decode cX5_isFigure 1 = .ok (.bipush 48, 2) := by decide +kernel
theorem dX5_isFigure_3 : decode cX5_isFigure 3 = .ok (.if_icmp .lt 13, 3) := by decide +kernel
theorem dX5_isFigure_6 : decode cX5_isFigure 6 = .ok (.iload_n 0, 1) := by decide +kernel
theorem dX5_isFigure_7 : decode cX5_isFigure 7 = .ok (.bipush 57, 2) := by decide +kernel
theorem dX5_isFigure_9 : decode cX5_isFigure 9 = .ok (.if_icmp .gt 7, 3) := by decide +kernel
theorem dX5_isFigure_12 : decode cX5_isFigure 12 = .ok (.iconst 1, 1) := by decide +kernel
theorem dX5_isFigure_13 : decode cX5_isFigure 13 = .ok (.goto 4, 3) := by decide +kernel
theorem dX5_isFigure_16 : decode cX5_isFigure 16 = .ok (.iconst 0, 1) := by decide +kernel
theorem dX5_isFigure_17 : decode cX5_isFigure 17 = .ok (.ireturn, 1) := by decide +kernel
theorem dX6_init_0 : decode cX6_init 0 = .ok (.aload_n 0, 1) := by decide +kernel
theorem dX6_init_1 : decode cX6_init 1 = .ok (.invokespecial 3, 3) := by decide +kernel
theorem dX6_init_4 : decode cX6_init 4 = .ok (.aload_n 0, 1) := by decide +kernel
theorem dX6_init_5 : decode cX6_init 5 = .ok (.bipush 8, 2) := by decide +kernel
theorem dX6_init_7 : decode cX6_init 7 = .ok (.newarray .int, 2) := by decide +kernel
theorem dX6_init_9 : decode cX6_init 9 = .ok (.putfield 11, 3) := by decide +kernel
theorem dX6_init_12 : decode cX6_init 12 = .ok (.aload_n 0, 1) := by decide +kernel
theorem dX6_init_13 : decode cX6_init 13 = .ok (.bipush 8, 2) := by decide +kernel
theorem dX6_init_15 : decode cX6_init 15 = .ok (.newarray .int, 2) := by decide +kernel
theorem dX6_init_17 : decode cX6_init 17 = .ok (.putfield 15, 3) := by decide +kernel
theorem dX6_init_20 : decode cX6_init 20 = .ok (.aload_n 0, 1) := by decide +kernel
theorem dX6_init_21 : decode cX6_init 21 = .ok (.bipush 8, 2) := by decide +kernel
theorem dX6_init_23 : decode cX6_init 23 = .ok (.bipush 40, 2) := by decide +kernel
theorem dX6_init_25 : decode cX6_init 25 = .ok (.multianewarray 18 2, 4) := by decide +kernel
theorem dX6_init_29 : decode cX6_init 29 = .ok (.putfield 20, 3) := by decide +kernel
theorem dX6_init_32 : decode cX6_init 32 = .ok (.aload_n 0, 1) := by decide +kernel
theorem dX6_init_33 : decode cX6_init 33 = .ok (.getfield 11, 3) := by decide +kernel
theorem dX6_init_36 : decode cX6_init 36 = .ok (.iconst (-1), 1) := by decide +kernel
theorem dX6_init_37 : decode cX6_init 37 = .ok (.invokestatic 23, 3) := by decide +kernel
theorem dX6_init_40 : decode cX6_init 40 = .ok (.return_, 1) := by decide +kernel
theorem dX6_isRow_0 : decode cX6_isRow 0 = .ok (.iload_n 0, 1) := by decide +kernel
theorem dX6_isRow_1 : decode cX6_isRow 1 = .ok (.ifCond .lt 13, 3) := by decide +kernel
theorem dX6_isRow_4 : decode cX6_isRow 4 = .ok (.iload_n 0, 1) := by decide +kernel
theorem dX6_isRow_5 : decode cX6_isRow 5 = .ok (.bipush 8, 2) := by decide +kernel
theorem dX6_isRow_7 : decode cX6_isRow 7 = .ok (.if_icmp .ge 7, 3) := by decide +kernel
theorem dX6_isRow_10 : decode cX6_isRow 10 = .ok (.iconst 1, 1) := by decide +kernel
theorem dX6_isRow_11 : decode cX6_isRow 11 = .ok (.goto 4, 3) := by decide +kernel
theorem dX6_isRow_14 : decode cX6_isRow 14 = .ok (.iconst 0, 1) := by decide +kernel
theorem dX6_isRow_15 : decode cX6_isRow 15 = .ok (.ireturn, 1) := by decide +kernel
theorem dX6_isMissing_0 : decode cX6_isMissing 0 = .ok (.aload_n 0, 1) := by decide +kernel
theorem dX6_isMissing_1 : decode cX6_isMissing 1 = .ok (.getfield 11, 3) := by decide +kernel
theorem dX6_isMissing_4 : decode cX6_isMissing 4 = .ok (.iload_n 1, 1) := by decide +kernel
theorem dX6_isMissing_5 : decode cX6_isMissing 5 = .ok (.iaload, 1) := by decide +kernel
theorem dX6_isMissing_6 : decode cX6_isMissing 6 = .ok (.iconst (-1), 1) := by decide +kernel
theorem dX6_isMissing_7 : decode cX6_isMissing 7 = .ok (.if_icmp .ne 7, 3) := by decide +kernel
theorem dX6_isMissing_10 : decode cX6_isMissing 10 = .ok (.iconst 1, 1) := by decide +kernel
theorem dX6_isMissing_11 : decode cX6_isMissing 11 = .ok (.goto 4, 3) := by decide +kernel
theorem dX6_isMissing_14 : decode cX6_isMissing 14 = .ok (.iconst 0, 1) := by decide +kernel
theorem dX6_isMissing_15 : decode cX6_isMissing 15 = .ok (.ireturn, 1) := by decide +kernel
theorem dX6_make_0 : decode cX6_make 0 = .ok (.aload_n 0, 1) := by decide +kernel
theorem dX6_make_1 : decode cX6_make 1 = .ok (.getfield 11, 3) := by decide +kernel
theorem dX6_make_4 : decode cX6_make 4 = .ok (.iload_n 1, 1) := by decide +kernel
theorem dX6_make_5 : decode cX6_make 5 = .ok (.iload_n 2, 1) := by decide +kernel
theorem dX6_make_6 : decode cX6_make 6 = .ok (.iastore, 1) := by decide +kernel
theorem dX6_make_7 : decode cX6_make 7 = .ok (.aload_n 0, 1) := by decide +kernel
theorem dX6_make_8 : decode cX6_make 8 = .ok (.getfield 15, 3) := by decide +kernel
theorem dX6_make_11 : decode cX6_make 11 = .ok (.iload_n 1, 1) := by decide +kernel
theorem dX6_make_12 : decode cX6_make 12 = .ok (.iload_n 3, 1) := by decide +kernel
theorem dX6_make_13 : decode cX6_make 13 = .ok (.iastore, 1) := by decide +kernel
theorem dX6_make_14 : decode cX6_make 14 = .ok (.aload_n 0, 1) := by decide +kernel
theorem dX6_make_15 : decode cX6_make 15 = .ok (.getfield 20, 3) := by decide +kernel
theorem dX6_make_18 : decode cX6_make 18 = .ok (.iload_n 1, 1) := by decide +kernel
theorem dX6_make_19 : decode cX6_make 19 = .ok (.aaload, 1) := by decide +kernel
theorem dX6_make_20 : decode cX6_make 20 = .ok (.iconst 0, 1) := by decide +kernel
theorem dX6_make_21 : decode cX6_make 21 = .ok (.invokestatic 23, 3) := by decide +kernel
theorem dX6_make_24 : decode cX6_make 24 = .ok (.return_, 1) := by decide +kernel
theorem dX6_lose_0 : decode cX6_lose 0 = .ok (.aload_n 0, 1) := by decide +kernel
theorem dX6_lose_1 : decode cX6_lose 1 = .ok (.getfield 15, 3) := by decide +kernel
theorem dX6_lose_4 : decode cX6_lose 4 = .ok (.iload_n 1, 1) := by decide +kernel
theorem dX6_lose_5 : decode cX6_lose 5 = .ok (.iaload, 1) := by decide +kernel
theorem dX6_lose_6 : decode cX6_lose 6 = .ok (.istore_n 2, 1) := by decide +kernel
theorem dX6_lose_7 : decode cX6_lose 7 = .ok (.aload_n 0, 1) := by decide +kernel
theorem dX6_lose_8 : decode cX6_lose 8 = .ok (.getfield 11, 3) := by decide +kernel
theorem dX6_lose_11 : decode cX6_lose 11 = .ok (.iload_n 1, 1) := by decide +kernel
theorem dX6_lose_12 : decode cX6_lose 12 = .ok (.iconst (-1), 1) := by decide +kernel
theorem dX6_lose_13 : decode cX6_lose 13 = .ok (.iastore, 1) := by decide +kernel
theorem dX6_lose_14 : decode cX6_lose 14 = .ok (.aload_n 0, 1) := by decide +kernel
theorem dX6_lose_15 : decode cX6_lose 15 = .ok (.getfield 15, 3) := by decide +kernel
theorem dX6_lose_18 : decode cX6_lose 18 = .ok (.iload_n 1, 1) := by decide +kernel
theorem dX6_lose_19 : decode cX6_lose 19 = .ok (.iconst 0, 1) := by decide +kernel
theorem dX6_lose_20 : decode cX6_lose 20 = .ok (.iastore, 1) := by decide +kernel
theorem dX6_lose_21 : decode cX6_lose 21 = .ok (.iload_n 2, 1) := by decide +kernel
theorem dX6_lose_22 : decode cX6_lose 22 = .ok (.ireturn, 1) := by decide +kernel
theorem dX6_troubleWith_0 : decode cX6_troubleWith 0 = .ok (.aload_n 0, 1) := by decide +kernel
theorem dX6_troubleWith_1 : decode cX6_troubleWith 1 = .ok (.iload_n 1, 1) := by decide +kernel
theorem dX6_troubleWith_2 : decode cX6_troubleWith 2 = .ok (.invokevirtual 29, 3) := by decide +kernel
theorem dX6_troubleWith_5 : decode cX6_troubleWith 5 = .ok (.ifCond .eq 5, 3) := by decide +kernel
theorem dX6_troubleWith_8 : decode cX6_troubleWith 8 = .ok (.iconst 1, 1) := by decide +kernel
theorem dX6_troubleWith_9 : decode cX6_troubleWith 9 = .ok (.ireturn, 1) := by decide +kernel
theorem dX6_troubleWith_10 : decode cX6_troubleWith 10 = .ok (.iload_n 2, 1) := by decide +kernel
theorem dX6_troubleWith_11 : decode cX6_troubleWith 11 = .ok (.ifCond .lt 29, 3) := by decide +kernel
theorem dX6_troubleWith_14 : decode cX6_troubleWith 14 = .ok (.iload_n 3, 1) := by decide +kernel
theorem dX6_troubleWith_15 : decode cX6_troubleWith 15 = .ok (.ifCond .lt 25, 3) := by decide +kernel
theorem dX6_troubleWith_18 : decode cX6_troubleWith 18 = .ok (.iload_n 3, 1) := by decide +kernel
theorem dX6_troubleWith_19 : decode cX6_troubleWith 19 = .ok (.aload_n 0, 1) := by decide +kernel
theorem dX6_troubleWith_20 : decode cX6_troubleWith 20 = .ok (.getfield 15, 3) := by decide +kernel
theorem dX6_troubleWith_23 : decode cX6_troubleWith 23 = .ok (.iload_n 1, 1) := by decide +kernel
theorem dX6_troubleWith_24 : decode cX6_troubleWith 24 = .ok (.iaload, 1) := by decide +kernel
theorem dX6_troubleWith_25 : decode cX6_troubleWith 25 = .ok (.if_icmp .gt 15, 3) := by decide +kernel
theorem dX6_troubleWith_28 : decode cX6_troubleWith 28 = .ok (.iload_n 2, 1) := by decide +kernel
theorem dX6_troubleWith_29 : decode cX6_troubleWith 29 = .ok (.aload_n 0, 1) := by decide +kernel
theorem dX6_troubleWith_30 : decode cX6_troubleWith 30 = .ok (.getfield 15, 3) := by decide +kernel
theorem dX6_troubleWith_33 : decode cX6_troubleWith 33 = .ok (.iload_n 1, 1) := by decide +kernel
theorem dX6_troubleWith_34 : decode cX6_troubleWith 34 = .ok (.iaload, 1) := by decide +kernel
theorem dX6_troubleWith_35 : decode cX6_troubleWith 35 = .ok (.iload_n 3, 1) := by decide +kernel
theorem dX6_troubleWith_36 : decode cX6_troubleWith 36 = .ok (.isub, 1) := by decide +kernel
theorem dX6_troubleWith_37 : decode cX6_troubleWith 37 = .ok (.if_icmp .le 7, 3) := by decide +kernel
theorem dX6_troubleWith_40 : decode cX6_troubleWith 40 = .ok (.iconst 2, 1) := by decide +kernel
theorem dX6_troubleWith_41 : decode cX6_troubleWith 41 = .ok (.goto 4, 3) := by decide +kernel
theorem dX6_troubleWith_44 : decode cX6_troubleWith 44 = .ok (.iconst 0, 1) := by decide +kernel
theorem dX6_troubleWith_45 : decode cX6_troubleWith 45 = .ok (.ireturn, 1) := by decide +kernel
theorem dX6_troubleBetween_0 : decode cX6_troubleBetween 0 = .ok (.aload_n 0, 1) := by decide +kernel
theorem dX6_troubleBetween_1 : decode cX6_troubleBetween 1 = .ok (.iload_n 1, 1) := by decide +kernel
theorem dX6_troubleBetween_2 : decode cX6_troubleBetween 2 = .ok (.invokevirtual 29, 3) := by decide +kernel
theorem dX6_troubleBetween_5 : decode cX6_troubleBetween 5 = .ok (.ifCond .ne 11, 3) := by decide +kernel
theorem dX6_troubleBetween_8 : decode cX6_troubleBetween 8 = .ok (.aload_n 0, 1) := by decide +kernel
theorem dX6_troubleBetween_9 : decode cX6_troubleBetween 9 = .ok (.iload_n 3, 1) := by decide +kernel
theorem dX6_troubleBetween_10 : decode cX6_troubleBetween 10 = .ok (.invokevirtual 29, 3) := by decide +kernel
theorem dX6_troubleBetween_13 : decode cX6_troubleBetween 13 = .ok (.ifCond .eq 5, 3) := by decide +kernel
theorem dX6_troubleBetween_16 : decode cX6_troubleBetween 16 = .ok (.iconst 1, 1) := by decide +kernel
theorem dX6_troubleBetween_17 : decode cX6_troubleBetween 17 = .ok (.ireturn, 1) := by decide +kernel
theorem dX6_troubleBetween_18 : decode cX6_troubleBetween 18 = .ok (.aload_n 0, 1) := by decide +kernel
theorem dX6_troubleBetween_19 : decode cX6_troubleBetween 19 = .ok (.getfield 11, 3) := by decide +kernel
theorem dX6_troubleBetween_22 : decode cX6_troubleBetween 22 = .ok (.iload_n 1, 1) := by decide +kernel
theorem dX6_troubleBetween_23 : decode cX6_troubleBetween 23 = .ok (.iaload, 1) := by decide +kernel
theorem dX6_troubleBetween_24 : decode cX6_troubleBetween 24 = .ok (.aload_n 0, 1) := by decide +kernel
theorem dX6_troubleBetween_25 : decode cX6_troubleBetween 25 = .ok (.getfield 11, 3) := by decide +kernel
theorem dX6_troubleBetween_28 : decode cX6_troubleBetween 28 = .ok (.iload_n 3, 1) := by decide +kernel
theorem dX6_troubleBetween_29 : decode cX6_troubleBetween 29 = .ok (.iaload, 1) := by decide +kernel
theorem dX6_troubleBetween_30 : decode cX6_troubleBetween 30 = .ok (.if_icmp .eq 5, 3) := by decide +kernel
theorem dX6_troubleBetween_33 : decode cX6_troubleBetween 33 = .ok (.iconst 5, 1) := by decide +kernel
theorem dX6_troubleBetween_34 : decode cX6_troubleBetween 34 = .ok (.ireturn, 1) := by decide +kernel
theorem dX6_troubleBetween_35 : decode cX6_troubleBetween 35 = .ok (.aload_n 0, 1) := by decide +kernel
theorem dX6_troubleBetween_36 : decode cX6_troubleBetween 36 = .ok (.iload_n 1, 1) := by decide +kernel
theorem dX6_troubleBetween_37 : decode cX6_troubleBetween 37 = .ok (.iload_n 2, 1) := by decide +kernel
theorem dX6_troubleBetween_38 : decode cX6_troubleBetween 38 = .ok (.iload 5, 2) := by decide +kernel
theorem dX6_troubleBetween_40 : decode cX6_troubleBetween 40 = .ok (.invokevirtual 33, 3) := by decide +kernel
theorem dX6_troubleBetween_43 : decode cX6_troubleBetween 43 = .ok (.istore 6, 2) := by decide +kernel
theorem dX6_troubleBetween_45 : decode cX6_troubleBetween 45 = .ok (.iload 6, 2) := by decide +kernel
theorem dX6_troubleBetween_47 : decode cX6_troubleBetween 47 = .ok (.ifCond .eq 8, 3) := by decide +kernel
theorem dX6_troubleBetween_50 : decode cX6_troubleBetween 50 = .ok (.iload 6, 2) := by decide +kernel
theorem dX6_troubleBetween_52 : decode cX6_troubleBetween 52 = .ok (.goto 12, 3) := by decide +kernel
theorem dX6_troubleBetween_55 : decode cX6_troubleBetween 55 = .ok (.aload_n 0, 1) := by decide +kernel
theorem dX6_troubleBetween_56 : decode cX6_troubleBetween 56 = .ok (.iload_n 3, 1) := by decide +kernel
theorem dX6_troubleBetween_57 : decode cX6_troubleBetween 57 = .ok (.iload 4, 2) := by decide +kernel
theorem dX6_troubleBetween_59 : decode cX6_troubleBetween 59 = .ok (.iload 5, 2) := by decide +kernel
theorem dX6_troubleBetween_61 : decode cX6_troubleBetween 61 = .ok (.invokevirtual 33, 3) := by decide +kernel
theorem dX6_troubleBetween_64 : decode cX6_troubleBetween 64 = .ok (.ireturn, 1) := by decide +kernel
theorem dX6_move_0 : decode cX6_move 0 = .ok (.aload_n 0, 1) := by decide +kernel
theorem dX6_move_1 : decode cX6_move 1 = .ok (.getfield 20, 3) := by decide +kernel
theorem dX6_move_4 : decode cX6_move 4 = .ok (.iload_n 1, 1) := by decide +kernel
theorem dX6_move_5 : decode cX6_move 5 = .ok (.aaload, 1) := by decide +kernel
theorem dX6_move_6 : decode cX6_move 6 = .ok (.iload_n 2, 1) := by decide +kernel
theorem dX6_move_7 : decode cX6_move 7 = .ok (.aload_n 0, 1) := by decide +kernel
theorem dX6_move_8 : decode cX6_move 8 = .ok (.getfield 20, 3) := by decide +kernel
theorem dX6_move_11 : decode cX6_move 11 = .ok (.iload_n 3, 1) := by decide +kernel
theorem dX6_move_12 : decode cX6_move 12 = .ok (.aaload, 1) := by decide +kernel
theorem dX6_move_13 : decode cX6_move 13 = .ok (.iload 4, 2) := by decide +kernel
theorem dX6_move_15 : decode cX6_move 15 = .ok (.iload 5, 2) := by decide +kernel
theorem dX6_move_17 : decode cX6_move 17 = .ok (.invokestatic 37, 3) := by decide +kernel
theorem dX6_move_20 : decode cX6_move 20 = .ok (.return_, 1) := by decide +kernel
theorem dX6_put_0 : decode cX6_put 0 = .ok (.iload_n 3, 1) := by decide +kernel
theorem dX6_put_1 : decode cX6_put 1 = .ok (.istore 4, 2) := by decide +kernel
theorem dX6_put_3 : decode cX6_put 3 = .ok (.aload_n 0, 1) := by decide +kernel
theorem dX6_put_4 : decode cX6_put 4 = .ok (.getfield 11, 3) := by decide +kernel
theorem dX6_put_7 : decode cX6_put 7 = .ok (.iload_n 1, 1) := by decide +kernel
theorem dX6_put_8 : decode cX6_put 8 = .ok (.iaload, 1) := by decide +kernel
theorem dX6_put_9 : decode cX6_put 9 = .ok (.ifCond .ne 10, 3) := by decide +kernel
theorem dX6_put_12 : decode cX6_put 12 = .ok (.iload_n 3, 1) := by decide +kernel
theorem dX6_put_13 : decode cX6_put 13 = .ok (.i2b, 1) := by decide +kernel
theorem dX6_put_14 : decode cX6_put 14 = .ok (.istore 4, 2) := by decide +kernel
theorem dX6_put_16 : decode cX6_put 16 = .ok (.goto 17, 3) := by decide +kernel
theorem dX6_put_19 : decode cX6_put 19 = .ok (.aload_n 0, 1) := by decide +kernel
theorem dX6_put_20 : decode cX6_put 20 = .ok (.getfield 11, 3) := by decide +kernel
theorem dX6_put_23 : decode cX6_put 23 = .ok (.iload_n 1, 1) := by decide +kernel
theorem dX6_put_24 : decode cX6_put 24 = .ok (.iaload, 1) := by decide +kernel
theorem dX6_put_25 : decode cX6_put 25 = .ok (.iconst 1, 1) := by decide +kernel
theorem dX6_put_26 : decode cX6_put 26 = .ok (.if_icmp .ne 7, 3) := by decide +kernel
theorem dX6_put_29 : decode cX6_put 29 = .ok (.iload_n 3, 1) := by decide +kernel
theorem dX6_put_30 : decode cX6_put 30 = .ok (.i2s, 1) := by decide +kernel
theorem dX6_put_31 : decode cX6_put 31 = .ok (.istore 4, 2) := by decide +kernel
theorem dX6_put_33 : decode cX6_put 33 = .ok (.aload_n 0, 1) := by decide +kernel
theorem dX6_put_34 : decode cX6_put 34 = .ok (.getfield 20, 3) := by decide +kernel
theorem dX6_put_37 : decode cX6_put 37 = .ok (.iload_n 1, 1) := by decide +kernel
theorem dX6_put_38 : decode cX6_put 38 = .ok (.aaload, 1) := by decide +kernel
theorem dX6_put_39 : decode cX6_put 39 = .ok (.iload_n 2, 1) := by decide +kernel
theorem dX6_put_40 : decode cX6_put 40 = .ok (.iload 4, 2) := by decide +kernel
theorem dX6_put_42 : decode cX6_put 42 = .ok (.iastore, 1) := by decide +kernel
theorem dX6_put_43 : decode cX6_put 43 = .ok (.iload 4, 2) := by decide +kernel
theorem dX6_put_45 : decode cX6_put 45 = .ok (.ireturn, 1) := by decide +kernel
theorem dX6_item_0 : decode cX6_item 0 = .ok (.aload_n 0, 1) := by decide +kernel
theorem dX6_item_1 : decode cX6_item 1 = .ok (.getfield 20, 3) := by decide +kernel
theorem dX6_item_4 : decode cX6_item 4 = .ok (.iload_n 1, 1) := by decide +kernel
theorem dX6_item_5 : decode cX6_item 5 = .ok (.aaload, 1) := by decide +kernel
theorem dX6_item_6 : decode cX6_item 6 = .ok (.iload_n 2, 1) := by decide +kernel
theorem dX6_item_7 : decode cX6_item 7 = .ok (.iaload, 1) := by decide +kernel
theorem dX6_item_8 : decode cX6_item 8 = .ok (.ireturn, 1) := by decide +kernel
theorem dX6_sumOf_0 : decode cX6_sumOf 0 = .ok (.lconst 0, 1) := by decide +kernel
theorem dX6_sumOf_1 : decode cX6_sumOf 1 = .ok (.lstore 4, 2) := by decide +kernel
theorem dX6_sumOf_3 : decode cX6_sumOf 3 = .ok (.iconst 0, 1) := by decide +kernel
theorem dX6_sumOf_4 : decode cX6_sumOf 4 = .ok (.istore 6, 2) := by decide +kernel
theorem dX6_sumOf_6 : decode cX6_sumOf 6 = .ok (.iload 6, 2) := by decide +kernel
theorem dX6_sumOf_8 : decode cX6_sumOf 8 = .ok (.iconst 4, 1) := by decide +kernel
theorem dX6_sumOf_9 : decode cX6_sumOf 9 = .ok (.if_icmp .ge 35, 3) := by decide +kernel
theorem dX6_sumOf_12 : decode cX6_sumOf 12 = .ok (.iload_n 3, 1) := by decide +kernel
theorem dX6_sumOf_13 : decode cX6_sumOf 13 = .ok (.iload 6, 2) := by decide +kernel
theorem dX6_sumOf_15 : decode cX6_sumOf 15 = .ok (.ishr, 1) := by decide +kernel
theorem dX6_sumOf_16 : decode cX6_sumOf 16 = .ok (.iconst 1, 1) := by decide +kernel
theorem dX6_sumOf_17 : decode cX6_sumOf 17 = .ok (.iand, 1) := by decide +kernel
theorem dX6_sumOf_18 : decode cX6_sumOf 18 = .ok (.ifCond .eq 20, 3) := by decide +kernel
theorem dX6_sumOf_21 : decode cX6_sumOf 21 = .ok (.lload 4, 2) := by decide +kernel
theorem dX6_sumOf_23 : decode cX6_sumOf 23 = .ok (.aload_n 0, 1) := by decide +kernel
theorem dX6_sumOf_24 : decode cX6_sumOf 24 = .ok (.getfield 20, 3) := by decide +kernel
theorem dX6_sumOf_27 : decode cX6_sumOf 27 = .ok (.iload_n 1, 1) := by decide +kernel
theorem dX6_sumOf_28 : decode cX6_sumOf 28 = .ok (.aaload, 1) := by decide +kernel
theorem dX6_sumOf_29 : decode cX6_sumOf 29 = .ok (.iload_n 2, 1) := by decide +kernel
theorem dX6_sumOf_30 : decode cX6_sumOf 30 = .ok (.iload 6, 2) := by decide +kernel
theorem dX6_sumOf_32 : decode cX6_sumOf 32 = .ok (.iadd, 1) := by decide +kernel
theorem dX6_sumOf_33 : decode cX6_sumOf 33 = .ok (.iaload, 1) := by decide +kernel
theorem dX6_sumOf_34 : decode cX6_sumOf 34 = .ok (.i2l, 1) := by decide +kernel
theorem dX6_sumOf_35 : decode cX6_sumOf 35 = .ok (.ladd, 1) := by decide +kernel
theorem dX6_sumOf_36 : decode cX6_sumOf 36 = .ok (.lstore 4, 2) := by decide +kernel
theorem dX6_sumOf_38 : decode cX6_sumOf 38 = .ok (.iinc 6 1, 3) := by decide +kernel
theorem dX6_sumOf_41 : decode cX6_sumOf 41 = .ok (.goto (-35), 3) := by decide +kernel
theorem dX6_sumOf_44 : decode cX6_sumOf 44 = .ok (.lload 4, 2) := by decide +kernel
theorem dX6_sumOf_46 : decode cX6_sumOf 46 = .ok (.lreturn, 1) := by decide +kernel
theorem dX6_present_0 : decode cX6_present 0 = .ok (.iconst 0, 1) := by decide +kernel
theorem dX6_present_1 : decode cX6_present 1 = .ok (.istore_n 1, 1) := by decide +kernel
theorem dX6_present_2 : decode cX6_present 2 = .ok (.iconst 0, 1) := by decide +kernel
theorem dX6_present_3 : decode cX6_present 3 = .ok (.istore_n 2, 1) := by decide +kernel
theorem dX6_present_4 : decode cX6_present 4 = .ok (.iload_n 2, 1) := by decide +kernel
theorem dX6_present_5 : decode cX6_present 5 = .ok (.bipush 8, 2) := by decide +kernel
theorem dX6_present_7 : decode cX6_present 7 = .ok (.if_icmp .ge 20, 3) := by decide +kernel
theorem dX6_present_10 : decode cX6_present 10 = .ok (.aload_n 0, 1) := by decide +kernel
theorem dX6_present_11 : decode cX6_present 11 = .ok (.iload_n 2, 1) := by decide +kernel
theorem dX6_present_12 : decode cX6_present 12 = .ok (.invokevirtual 29, 3) := by decide +kernel
theorem dX6_present_15 : decode cX6_present 15 = .ok (.ifCond .ne 6, 3) := by decide +kernel
theorem dX6_present_18 : decode cX6_present 18 = .ok (.iinc 1 1, 3) := by decide +kernel
theorem dX6_present_21 : decode cX6_present 21 = .ok (.iinc 2 1, 3) := by decide +kernel
theorem dX6_present_24 : decode cX6_present 24 = .ok (.goto (-20), 3) := by decide +kernel
theorem dX6_present_27 : decode cX6_present 27 = .ok (.iload_n 1, 1) := by decide +kernel
theorem dX6_present_28 : decode cX6_present 28 = .ok (.ireturn, 1) := by decide +kernel
theorem dX7_init_0 : decode cX7_init 0 = .ok (.aload_n 0, 1) := by decide +kernel
theorem dX7_init_1 : decode cX7_init 1 = .ok (.invokespecial 3, 3) := by decide +kernel
theorem dX7_init_4 : decode cX7_init 4 = .ok (.aload_n 0, 1) := by decide +kernel
theorem dX7_init_5 : decode cX7_init 5 = .ok (.new 9, 3) := by decide +kernel
theorem dX7_init_8 : decode cX7_init 8 = .ok (.dup, 1) := by decide +kernel
theorem dX7_init_9 : decode cX7_init 9 = .ok (.invokespecial 11, 3) := by decide +kernel
theorem dX7_init_12 : decode cX7_init 12 = .ok (.putfield 12, 3) := by decide +kernel
theorem dX7_init_15 : decode cX7_init 15 = .ok (.aload_n 0, 1) := by decide +kernel
theorem dX7_init_16 : decode cX7_init 16 = .ok (.new 16, 3) := by decide +kernel
theorem dX7_init_19 : decode cX7_init 19 = .ok (.dup, 1) := by decide +kernel
theorem dX7_init_20 : decode cX7_init 20 = .ok (.invokespecial 18, 3) := by decide +kernel
theorem dX7_init_23 : decode cX7_init 23 = .ok (.putfield 19, 3) := by decide +kernel
theorem dX7_init_26 : decode cX7_init 26 = .ok (.aload_n 0, 1) := by decide +kernel
theorem dX7_init_27 : decode cX7_init 27 = .ok (.new 23, 3) := by decide +kernel
theorem dX7_init_30 : decode cX7_init 30 = .ok (.dup, 1) := by decide +kernel
theorem dX7_init_31 : decode cX7_init 31 = .ok (.invokespecial 25, 3) := by decide +kernel
theorem dX7_init_34 : decode cX7_init 34 = .ok (.putfield 26, 3) := by decide +kernel
theorem dX7_init_37 : decode cX7_init 37 = .ok (.aload_n 0, 1) := by decide +kernel
theorem dX7_init_38 : decode cX7_init 38 = .ok (.new 23, 3) := by decide +kernel
theorem dX7_init_41 : decode cX7_init 41 = .ok (.dup, 1) := by decide +kernel
theorem dX7_init_42 : decode cX7_init 42 = .ok (.invokespecial 25, 3) := by decide +kernel
theorem dX7_init_45 : decode cX7_init 45 = .ok (.putfield 30, 3) := by decide +kernel
theorem dX7_init_48 : decode cX7_init 48 = .ok (.aload_n 0, 1) := by decide +kernel
theorem dX7_init_49 : decode cX7_init 49 = .ok (.new 23, 3) := by decide +kernel
theorem dX7_init_52 : decode cX7_init 52 = .ok (.dup, 1) := by decide +kernel
theorem dX7_init_53 : decode cX7_init 53 = .ok (.invokespecial 25, 3) := by decide +kernel
theorem dX7_init_56 : decode cX7_init 56 = .ok (.putfield 33, 3) := by decide +kernel
theorem dX7_init_59 : decode cX7_init 59 = .ok (.aload_n 0, 1) := by decide +kernel
theorem dX7_init_60 : decode cX7_init 60 = .ok (.new 23, 3) := by decide +kernel
theorem dX7_init_63 : decode cX7_init 63 = .ok (.dup, 1) := by decide +kernel
theorem dX7_init_64 : decode cX7_init 64 = .ok (.invokespecial 25, 3) := by decide +kernel
theorem dX7_init_67 : decode cX7_init 67 = .ok (.putfield 36, 3) := by decide +kernel
theorem dX7_init_70 : decode cX7_init 70 = .ok (.aload_n 0, 1) := by decide +kernel
theorem dX7_init_71 : decode cX7_init 71 = .ok (.new 39, 3) := by decide +kernel
theorem dX7_init_74 : decode cX7_init 74 = .ok (.dup, 1) := by decide +kernel
theorem dX7_init_75 : decode cX7_init 75 = .ok (.invokespecial 41, 3) := by decide +kernel
theorem dX7_init_78 : decode cX7_init 78 = .ok (.putfield 42, 3) := by decide +kernel
theorem dX7_init_81 : decode cX7_init 81 = .ok (.aload_n 0, 1) := by decide +kernel
theorem dX7_init_82 : decode cX7_init 82 = .ok (.new 46, 3) := by decide +kernel
theorem dX7_init_85 : decode cX7_init 85 = .ok (.dup, 1) := by decide +kernel
theorem dX7_init_86 : decode cX7_init 86 = .ok (.aload_n 0, 1) := by decide +kernel
theorem dX7_init_87 : decode cX7_init 87 = .ok (.getfield 26, 3) := by decide +kernel
theorem dX7_init_90 : decode cX7_init 90 = .ok (.invokespecial 48, 3) := by decide +kernel
theorem dX7_init_93 : decode cX7_init 93 = .ok (.putfield 51, 3) := by decide +kernel
theorem dX7_init_96 : decode cX7_init 96 = .ok (.aload_n 0, 1) := by decide +kernel
theorem dX7_init_97 : decode cX7_init 97 = .ok (.new 55, 3) := by decide +kernel
theorem dX7_init_100 : decode cX7_init 100 = .ok (.dup, 1) := by decide +kernel
theorem dX7_init_101 : decode cX7_init 101 = .ok (.invokespecial 57, 3) := by decide +kernel
theorem dX7_init_104 : decode cX7_init 104 = .ok (.putfield 58, 3) := by decide +kernel
theorem dX7_init_107 : decode cX7_init 107 = .ok (.aload_n 0, 1) := by decide +kernel
theorem dX7_init_108 : decode cX7_init 108 = .ok (.new 62, 3) := by decide +kernel
theorem dX7_init_111 : decode cX7_init 111 = .ok (.dup, 1) := by decide +kernel
theorem dX7_init_112 : decode cX7_init 112 = .ok (.invokespecial 64, 3) := by decide +kernel
theorem dX7_init_115 : decode cX7_init 115 = .ok (.putfield 65, 3) := by decide +kernel
theorem dX7_init_118 : decode cX7_init 118 = .ok (.aload_n 0, 1) := by decide +kernel
theorem dX7_init_119 : decode cX7_init 119 = .ok (.iconst 4, 1) := by decide +kernel
theorem dX7_init_120 : decode cX7_init 120 = .ok (.newarray .int, 2) := by decide +kernel
theorem dX7_init_122 : decode cX7_init 122 = .ok (.putfield 69, 3) := by decide +kernel
theorem dX7_init_125 : decode cX7_init 125 = .ok (.aload_n 0, 1) := by decide +kernel
theorem dX7_init_126 : decode cX7_init 126 = .ok (.bipush 16, 2) := by decide +kernel
theorem dX7_init_128 : decode cX7_init 128 = .ok (.newarray .int, 2) := by decide +kernel
theorem dX7_init_130 : decode cX7_init 130 = .ok (.putfield 73, 3) := by decide +kernel
theorem dX7_init_133 : decode cX7_init 133 = .ok (.aload_n 0, 1) := by decide +kernel
theorem dX7_init_134 : decode cX7_init 134 = .ok (.iconst 0, 1) := by decide +kernel
theorem dX7_init_135 : decode cX7_init 135 = .ok (.putfield 76, 3) := by decide +kernel
theorem dX7_init_138 : decode cX7_init 138 = .ok (.aload_n 0, 1) := by decide +kernel
theorem dX7_init_139 : decode cX7_init 139 = .ok (.iconst 0, 1) := by decide +kernel
theorem dX7_init_140 : decode cX7_init 140 = .ok (.putfield 80, 3) := by decide +kernel
theorem dX7_init_143 : decode cX7_init 143 = .ok (.return_, 1) := by decide +kernel
theorem dX7_row_0 : decode cX7_row 0 = .ok (.iload_n 1, 1) := by decide +kernel
theorem dX7_row_1 : decode cX7_row 1 = .ok (.invokestatic 83, 3) := by decide +kernel
theorem dX7_row_4 : decode cX7_row 4 = .ok (.ifCond .eq 18, 3) := by decide +kernel
theorem dX7_row_7 : decode cX7_row 7 = .ok (.iload_n 2, 1) := by decide +kernel
theorem dX7_row_8 : decode cX7_row 8 = .ok (.ifCond .lt 14, 3) := by decide +kernel
theorem dX7_row_11 : decode cX7_row 11 = .ok (.iload_n 2, 1) := by decide +kernel
theorem dX7_row_12 : decode cX7_row 12 = .ok (.iconst 3, 1) := by decide +kernel
theorem dX7_row_13 : decode cX7_row 13 = .ok (.if_icmp .ge 9, 3) := by decide +kernel
theorem dX7_row_16 : decode cX7_row 16 = .ok (.iload_n 3, 1) := by decide +kernel
theorem dX7_row_17 : decode cX7_row 17 = .ok (.bipush 40, 2) := by decide +kernel
theorem dX7_row_19 : decode cX7_row 19 = .ok (.if_icmp .le 6, 3) := by decide +kernel
theorem dX7_row_22 : decode cX7_row 22 = .ok (.ldc 87, 2) := by decide +kernel
theorem dX7_row_24 : decode cX7_row 24 = .ok (.ireturn, 1) := by decide +kernel
theorem dX7_row_25 : decode cX7_row 25 = .ok (.iload_n 3, 1) := by decide +kernel
theorem dX7_row_26 : decode cX7_row 26 = .ok (.ifCond .ge 9, 3) := by decide +kernel
theorem dX7_row_29 : decode cX7_row 29 = .ok (.aload_n 0, 1) := by decide +kernel
theorem dX7_row_30 : decode cX7_row 30 = .ok (.iconst 4, 1) := by decide +kernel
theorem dX7_row_31 : decode cX7_row 31 = .ok (.invokevirtual 88, 3) := by decide +kernel
theorem dX7_row_34 : decode cX7_row 34 = .ok (.ireturn, 1) := by decide +kernel
theorem dX7_row_35 : decode cX7_row 35 = .ok (.aload_n 0, 1) := by decide +kernel
theorem dX7_row_36 : decode cX7_row 36 = .ok (.getfield 12, 3) := by decide +kernel
theorem dX7_row_39 : decode cX7_row 39 = .ok (.iload_n 1, 1) := by decide +kernel
theorem dX7_row_40 : decode cX7_row 40 = .ok (.iload_n 2, 1) := by decide +kernel
theorem dX7_row_41 : decode cX7_row 41 = .ok (.iload_n 3, 1) := by decide +kernel
theorem dX7_row_42 : decode cX7_row 42 = .ok (.invokevirtual 92, 3) := by decide +kernel
theorem dX7_row_45 : decode cX7_row 45 = .ok (.aload_n 0, 1) := by decide +kernel
theorem dX7_row_46 : decode cX7_row 46 = .ok (.iload_n 3, 1) := by decide +kernel
theorem dX7_row_47 : decode cX7_row 47 = .ok (.invokevirtual 96, 3) := by decide +kernel
theorem dX7_row_50 : decode cX7_row 50 = .ok (.ireturn, 1) := by decide +kernel
theorem dX7_set_0 : decode cX7_set 0 = .ok (.iload_n 1, 1) := by decide +kernel
theorem dX7_set_1 : decode cX7_set 1 = .ok (.invokestatic 83, 3) := by decide +kernel
theorem dX7_set_4 : decode cX7_set 4 = .ok (.ifCond .ne 6, 3) := by decide +kernel
theorem dX7_set_7 : decode cX7_set 7 = .ok (.ldc 87, 2) := by decide +kernel
theorem dX7_set_9 : decode cX7_set 9 = .ok (.ireturn, 1) := by decide +kernel
theorem dX7_set_10 : decode cX7_set 10 = .ok (.aload_n 0, 1) := by decide +kernel
theorem dX7_set_11 : decode cX7_set 11 = .ok (.getfield 12, 3) := by decide +kernel
theorem dX7_set_14 : decode cX7_set 14 = .ok (.iload_n 1, 1) := by decide +kernel
theorem dX7_set_15 : decode cX7_set 15 = .ok (.iload_n 2, 1) := by decide +kernel
theorem dX7_set_16 : decode cX7_set 16 = .ok (.iconst 1, 1) := by decide +kernel
theorem dX7_set_17 : decode cX7_set 17 = .ok (.invokevirtual 99, 3) := by decide +kernel
theorem dX7_set_20 : decode cX7_set 20 = .ok (.istore 4, 2) := by decide +kernel
theorem dX7_set_22 : decode cX7_set 22 = .ok (.iload 4, 2) := by decide +kernel
theorem dX7_set_24 : decode cX7_set 24 = .ok (.ifCond .eq 12, 3) := by decide +kernel
theorem dX7_set_27 : decode cX7_set 27 = .ok (.aload_n 0, 1) := by decide +kernel
theorem dX7_set_28 : decode cX7_set 28 = .ok (.iload 4, 2) := by decide +kernel
theorem dX7_set_30 : decode cX7_set 30 = .ok (.invokevirtual 88, 3) := by decide +kernel
theorem dX7_set_33 : decode cX7_set 33 = .ok (.goto 17, 3) := by decide +kernel
theorem dX7_set_36 : decode cX7_set 36 = .ok (.aload_n 0, 1) := by decide +kernel
theorem dX7_set_37 : decode cX7_set 37 = .ok (.aload_n 0, 1) := by decide +kernel
theorem dX7_set_38 : decode cX7_set 38 = .ok (.getfield 12, 3) := by decide +kernel
theorem dX7_set_41 : decode cX7_set 41 = .ok (.iload_n 1, 1) := by decide +kernel
theorem dX7_set_42 : decode cX7_set 42 = .ok (.iload_n 2, 1) := by decide +kernel
theorem dX7_set_43 : decode cX7_set 43 = .ok (.iload_n 3, 1) := by decide +kernel
theorem dX7_set_44 : decode cX7_set 44 = .ok (.invokevirtual 103, 3) := by decide +kernel
theorem dX7_set_47 : decode cX7_set 47 = .ok (.invokevirtual 96, 3) := by decide +kernel
theorem dX7_set_50 : decode cX7_set 50 = .ok (.ireturn, 1) := by decide +kernel
theorem dX7_copy_0 : decode cX7_copy 0 = .ok (.iload_n 1, 1) := by decide +kernel
theorem dX7_copy_1 : decode cX7_copy 1 = .ok (.invokestatic 83, 3) := by decide +kernel
theorem dX7_copy_4 : decode cX7_copy 4 = .ok (.ifCond .eq 10, 3) := by decide +kernel
theorem dX7_copy_7 : decode cX7_copy 7 = .ok (.iload_n 3, 1) := by decide +kernel
theorem dX7_copy_8 : decode cX7_copy 8 = .ok (.invokestatic 83, 3) := by decide +kernel
theorem dX7_copy_11 : decode cX7_copy 11 = .ok (.ifCond .ne 6, 3) := by decide +kernel
theorem dX7_copy_14 : decode cX7_copy 14 = .ok (.ldc 87, 2) := by decide +kernel
theorem dX7_copy_16 : decode cX7_copy 16 = .ok (.ireturn, 1) := by decide +kernel
theorem dX7_copy_17 : decode cX7_copy 17 = .ok (.aload_n 0, 1) := by decide +kernel
theorem dX7_copy_18 : decode cX7_copy 18 = .ok (.getfield 12, 3) := by decide +kernel
theorem dX7_copy_21 : decode cX7_copy 21 = .ok (.iload_n 1, 1) := by decide +kernel
theorem dX7_copy_22 : decode cX7_copy 22 = .ok (.iload_n 2, 1) := by decide +kernel
theorem dX7_copy_23 : decode cX7_copy 23 = .ok (.iload_n 3, 1) := by decide +kernel
theorem dX7_copy_24 : decode cX7_copy 24 = .ok (.iload 4, 2) := by decide +kernel
theorem dX7_copy_26 : decode cX7_copy 26 = .ok (.iload 5, 2) := by decide +kernel
theorem dX7_copy_28 : decode cX7_copy 28 = .ok (.invokevirtual 106, 3) := by decide +kernel
theorem dX7_copy_31 : decode cX7_copy 31 = .ok (.istore 6, 2) := by decide +kernel
theorem dX7_copy_33 : decode cX7_copy 33 = .ok (.iload 6, 2) := by decide +kernel
theorem dX7_copy_35 : decode cX7_copy 35 = .ok (.ifCond .eq 10, 3) := by decide +kernel
theorem dX7_copy_38 : decode cX7_copy 38 = .ok (.aload_n 0, 1) := by decide +kernel
theorem dX7_copy_39 : decode cX7_copy 39 = .ok (.iload 6, 2) := by decide +kernel
theorem dX7_copy_41 : decode cX7_copy 41 = .ok (.invokevirtual 88, 3) := by decide +kernel
theorem dX7_copy_44 : decode cX7_copy 44 = .ok (.ireturn, 1) := by decide +kernel
theorem dX7_copy_45 : decode cX7_copy 45 = .ok (.aload_n 0, 1) := by decide +kernel
theorem dX7_copy_46 : decode cX7_copy 46 = .ok (.getfield 12, 3) := by decide +kernel
theorem dX7_copy_49 : decode cX7_copy 49 = .ok (.iload_n 1, 1) := by decide +kernel
theorem dX7_copy_50 : decode cX7_copy 50 = .ok (.iload_n 2, 1) := by decide +kernel
theorem dX7_copy_51 : decode cX7_copy 51 = .ok (.iload_n 3, 1) := by decide +kernel
theorem dX7_copy_52 : decode cX7_copy 52 = .ok (.iload 4, 2) := by decide +kernel
theorem dX7_copy_54 : decode cX7_copy 54 = .ok (.iload 5, 2) := by decide +kernel
theorem dX7_copy_56 : decode cX7_copy 56 = .ok (.invokevirtual 110, 3) := by decide +kernel
theorem dX7_copy_59 : decode cX7_copy 59 = .ok (.aload_n 0, 1) := by decide +kernel
theorem dX7_copy_60 : decode cX7_copy 60 = .ok (.iload 5, 2) := by decide +kernel
theorem dX7_copy_62 : decode cX7_copy 62 = .ok (.invokevirtual 96, 3) := by decide +kernel
theorem dX7_copy_65 : decode cX7_copy 65 = .ok (.ireturn, 1) := by decide +kernel
theorem dX7_drop_0 : decode cX7_drop 0 = .ok (.iload_n 1, 1) := by decide +kernel
theorem dX7_drop_1 : decode cX7_drop 1 = .ok (.invokestatic 83, 3) := by decide +kernel
theorem dX7_drop_4 : decode cX7_drop 4 = .ok (.ifCond .ne 6, 3) := by decide +kernel
theorem dX7_drop_7 : decode cX7_drop 7 = .ok (.ldc 87, 2) := by decide +kernel
theorem dX7_drop_9 : decode cX7_drop 9 = .ok (.ireturn, 1) := by decide +kernel
theorem dX7_drop_10 : decode cX7_drop 10 = .ok (.aload_n 0, 1) := by decide +kernel
theorem dX7_drop_11 : decode cX7_drop 11 = .ok (.getfield 12, 3) := by decide +kernel
theorem dX7_drop_14 : decode cX7_drop 14 = .ok (.iload_n 1, 1) := by decide +kernel
theorem dX7_drop_15 : decode cX7_drop 15 = .ok (.invokevirtual 114, 3) := by decide +kernel
theorem dX7_drop_18 : decode cX7_drop 18 = .ok (.ifCond .eq 11, 3) := by decide +kernel
theorem dX7_drop_21 : decode cX7_drop 21 = .ok (.aload_n 0, 1) := by decide +kernel
theorem dX7_drop_22 : decode cX7_drop 22 = .ok (.iconst 1, 1) := by decide +kernel
theorem dX7_drop_23 : decode cX7_drop 23 = .ok (.invokevirtual 88, 3) := by decide +kernel
theorem dX7_drop_26 : decode cX7_drop 26 = .ok (.goto 15, 3) := by decide +kernel
theorem dX7_drop_29 : decode cX7_drop 29 = .ok (.aload_n 0, 1) := by decide +kernel
theorem dX7_drop_30 : decode cX7_drop 30 = .ok (.aload_n 0, 1) := by decide +kernel
theorem dX7_drop_31 : decode cX7_drop 31 = .ok (.getfield 12, 3) := by decide +kernel
theorem dX7_drop_34 : decode cX7_drop 34 = .ok (.iload_n 1, 1) := by decide +kernel
theorem dX7_drop_35 : decode cX7_drop 35 = .ok (.invokevirtual 117, 3) := by decide +kernel
theorem dX7_drop_38 : decode cX7_drop 38 = .ok (.invokevirtual 96, 3) := by decide +kernel
theorem dX7_drop_41 : decode cX7_drop 41 = .ok (.ireturn, 1) := by decide +kernel
theorem dX7_feed_0 : decode cX7_feed 0 = .ok (.iload_n 1, 1) := by decide +kernel
theorem dX7_feed_1 : decode cX7_feed 1 = .ok (.ifCond .lt 10, 3) := by decide +kernel
theorem dX7_feed_4 : decode cX7_feed 4 = .ok (.iload_n 1, 1) := by decide +kernel
theorem dX7_feed_5 : decode cX7_feed 5 = .ok (.sipush 255, 3) := by decide +kernel
theorem dX7_feed_8 : decode cX7_feed 8 = .ok (.if_icmp .le 6, 3) := by decide +kernel
theorem dX7_feed_11 : decode cX7_feed 11 = .ok (.ldc 87, 2) := by decide +kernel
theorem dX7_feed_13 : decode cX7_feed 13 = .ok (.ireturn, 1) := by decide +kernel
theorem dX7_feed_14 : decode cX7_feed 14 = .ok (.aload_n 0, 1) := by decide +kernel
theorem dX7_feed_15 : decode cX7_feed 15 = .ok (.getfield 19, 3) := by decide +kernel
theorem dX7_feed_18 : decode cX7_feed 18 = .ok (.invokevirtual 120, 3) := by decide +kernel
theorem dX7_feed_21 : decode cX7_feed 21 = .ok (.ifCond .eq 8, 3) := by decide +kernel
theorem dX7_feed_24 : decode cX7_feed 24 = .ok (.ldc 124, 2) := by decide +kernel
theorem dX7_feed_26 : decode cX7_feed 26 = .ok (.goto 11, 3) := by decide +kernel
theorem dX7_feed_29 : decode cX7_feed 29 = .ok (.aload_n 0, 1) := by decide +kernel
theorem dX7_feed_30 : decode cX7_feed 30 = .ok (.getfield 19, 3) := by decide +kernel
theorem dX7_feed_33 : decode cX7_feed 33 = .ok (.iload_n 1, 1) := by decide +kernel
theorem dX7_feed_34 : decode cX7_feed 34 = .ok (.invokevirtual 125, 3) := by decide +kernel
theorem dX7_feed_37 : decode cX7_feed 37 = .ok (.ireturn, 1) := by decide +kernel
theorem dX7_orchard_0 : decode cX7_orchard 0 = .ok (.aload_n 0, 1) := by decide +kernel
theorem dX7_orchard_1 : decode cX7_orchard 1 = .ok (.getfield 19, 3) := by decide +kernel
theorem dX7_orchard_4 : decode cX7_orchard 4 = .ok (.aload_n 0, 1) := by decide +kernel
theorem dX7_orchard_5 : decode cX7_orchard 5 = .ok (.getfield 30, 3) := by decide +kernel
theorem dX7_orchard_8 : decode cX7_orchard 8 = .ok (.invokevirtual 128, 3) := by decide +kernel
theorem dX7_orchard_11 : decode cX7_orchard 11 = .ok (.istore_n 1, 1) := by decide +kernel
theorem dX7_orchard_12 : decode cX7_orchard 12 = .ok (.iload_n 1, 1) := by decide +kernel
theorem dX7_orchard_13 : decode cX7_orchard 13 = .ok (.ifCond .lt 8, 3) := by decide +kernel
theorem dX7_orchard_16 : decode cX7_orchard 16 = .ok (.ldc 132, 2) := by decide +kernel
theorem dX7_orchard_18 : decode cX7_orchard 18 = .ok (.iload_n 1, 1) := by decide +kernel
theorem dX7_orchard_19 : decode cX7_orchard 19 = .ok (.isub, 1) := by decide +kernel
theorem dX7_orchard_20 : decode cX7_orchard 20 = .ok (.ireturn, 1) := by decide +kernel
theorem dX7_orchard_21 : decode cX7_orchard 21 = .ok (.aload_n 0, 1) := by decide +kernel
theorem dX7_orchard_22 : decode cX7_orchard 22 = .ok (.getfield 26, 3) := by decide +kernel
theorem dX7_orchard_25 : decode cX7_orchard 25 = .ok (.aload_n 0, 1) := by decide +kernel
theorem dX7_orchard_26 : decode cX7_orchard 26 = .ok (.getfield 30, 3) := by decide +kernel
theorem dX7_orchard_29 : decode cX7_orchard 29 = .ok (.invokevirtual 133, 3) := by decide +kernel
theorem dX7_orchard_32 : decode cX7_orchard 32 = .ok (.aload_n 0, 1) := by decide +kernel
theorem dX7_orchard_33 : decode cX7_orchard 33 = .ok (.getfield 42, 3) := by decide +kernel
theorem dX7_orchard_36 : decode cX7_orchard 36 = .ok (.invokevirtual 136, 3) := by decide +kernel
theorem dX7_orchard_39 : decode cX7_orchard 39 = .ok (.aload_n 0, 1) := by decide +kernel
theorem dX7_orchard_40 : decode cX7_orchard 40 = .ok (.getfield 26, 3) := by decide +kernel
theorem dX7_orchard_43 : decode cX7_orchard 43 = .ok (.getfield 139, 3) := by decide +kernel
theorem dX7_orchard_46 : decode cX7_orchard 46 = .ok (.ireturn, 1) := by decide +kernel
theorem dX7_fault_0 : decode cX7_fault 0 = .ok (.aload_n 0, 1) := by decide +kernel
theorem dX7_fault_1 : decode cX7_fault 1 = .ok (.getfield 19, 3) := by decide +kernel
theorem dX7_fault_4 : decode cX7_fault 4 = .ok (.getfield 142, 3) := by decide +kernel
theorem dX7_fault_7 : decode cX7_fault 7 = .ok (.ireturn, 1) := by decide +kernel
theorem dX7_undo_0 : decode cX7_undo 0 = .ok (.aload_n 0, 1) := by decide +kernel
theorem dX7_undo_1 : decode cX7_undo 1 = .ok (.getfield 42, 3) := by decide +kernel
theorem dX7_undo_4 : decode cX7_undo 4 = .ok (.aload_n 0, 1) := by decide +kernel
theorem dX7_undo_5 : decode cX7_undo 5 = .ok (.getfield 26, 3) := by decide +kernel
theorem dX7_undo_8 : decode cX7_undo 8 = .ok (.invokevirtual 145, 3) := by decide +kernel
theorem dX7_undo_11 : decode cX7_undo 11 = .ok (.ifCond .eq 13, 3) := by decide +kernel
theorem dX7_undo_14 : decode cX7_undo 14 = .ok (.aload_n 0, 1) := by decide +kernel
theorem dX7_undo_15 : decode cX7_undo 15 = .ok (.getfield 42, 3) := by decide +kernel
theorem dX7_undo_18 : decode cX7_undo 18 = .ok (.getfield 149, 3) := by decide +kernel
theorem dX7_undo_21 : decode cX7_undo 21 = .ok (.goto 5, 3) := by decide +kernel
theorem dX7_undo_24 : decode cX7_undo 24 = .ok (.ldc 152, 2) := by decide +kernel
theorem dX7_undo_26 : decode cX7_undo 26 = .ok (.ireturn, 1) := by decide +kernel
