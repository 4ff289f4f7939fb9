theorem dX7_plan_0 : decode cX7_plan 0 = .ok (.aload_n 0, 1) := by decide +kernel
theorem dX7_plan_1 : decode cX7_plan 1 = .ok (.getfield 26, 3) := by decide +kernel
theorem dX7_plan_4 : decode cX7_plan 4 = .ok (.iload_n 1, 1) := by decide +kernel
theorem dX7_plan_5 : decode cX7_plan 5 = .ok (.invokevirtual 153, 3) := by decide +kernel
theorem dX7_plan_8 : decode cX7_plan 8 = .ok (.ifCond .eq 14, 3) := by decide +kernel
theorem dX7_plan_11 : decode cX7_plan 11 = .ok (.aload_n 0, 1) := by decide +kernel
theorem dX7_plan_12 : decode cX7_plan 12 = .ok (.iload_n 2, 1) := by decide +kernel
theorem dX7_plan_13 : decode cX7_plan 13 = .ok (.iload_n 3, 1) := by decide +kernel
theorem dX7_plan_14 : decode cX7_plan 14 = .ok (.iload 4, 2) := by decide +kernel
theorem dX7_plan_16 : decode cX7_plan 16 = .ok (.invokevirtual 156, 3) := by decide +kernel
theorem dX7_plan_19 : decode cX7_plan 19 = .ok (.ifCond .ne 6, 3) := by decide +kernel
theorem dX7_plan_22 : decode cX7_plan 22 = .ok (.ldc 87, 2) := by decide +kernel
theorem dX7_plan_24 : decode cX7_plan 24 = .ok (.ireturn, 1) := by decide +kernel
theorem dX7_plan_25 : decode cX7_plan 25 = .ok (.aload_n 0, 1) := by decide +kernel
theorem dX7_plan_26 : decode cX7_plan 26 = .ok (.getfield 26, 3) := by decide +kernel
theorem dX7_plan_29 : decode cX7_plan 29 = .ok (.iload_n 1, 1) := by decide +kernel
theorem dX7_plan_30 : decode cX7_plan 30 = .ok (.invokevirtual 160, 3) := by decide +kernel
theorem dX7_plan_33 : decode cX7_plan 33 = .ok (.ifCond .ne 6, 3) := by decide +kernel
theorem dX7_plan_36 : decode cX7_plan 36 = .ok (.ldc 152, 2) := by decide +kernel
theorem dX7_plan_38 : decode cX7_plan 38 = .ok (.ireturn, 1) := by decide +kernel
theorem dX7_plan_39 : decode cX7_plan 39 = .ok (.aload_n 0, 1) := by decide +kernel
theorem dX7_plan_40 : decode cX7_plan 40 = .ok (.getfield 26, 3) := by decide +kernel
theorem dX7_plan_43 : decode cX7_plan 43 = .ok (.iload_n 1, 1) := by decide +kernel
theorem dX7_plan_44 : decode cX7_plan 44 = .ok (.invokevirtual 163, 3) := by decide +kernel
theorem dX7_plan_47 : decode cX7_plan 47 = .ok (.istore 5, 2) := by decide +kernel
theorem dX7_plan_49 : decode cX7_plan 49 = .ok (.iload_n 2, 1) := by decide +kernel
theorem dX7_plan_50 : decode cX7_plan 50 = .ok (.ifCond .ge 7, 3) := by decide +kernel
theorem dX7_plan_53 : decode cX7_plan 53 = .ok (.iconst 1, 1) := by decide +kernel
theorem dX7_plan_54 : decode cX7_plan 54 = .ok (.goto 4, 3) := by decide +kernel
theorem dX7_plan_57 : decode cX7_plan 57 = .ok (.iconst 0, 1) := by decide +kernel
theorem dX7_plan_58 : decode cX7_plan 58 = .ok (.istore 6, 2) := by decide +kernel
theorem dX7_plan_60 : decode cX7_plan 60 = .ok (.aload_n 0, 1) := by decide +kernel
theorem dX7_plan_61 : decode cX7_plan 61 = .ok (.getfield 42, 3) := by decide +kernel
theorem dX7_plan_64 : decode cX7_plan 64 = .ok (.aload_n 0, 1) := by decide +kernel
theorem dX7_plan_65 : decode cX7_plan 65 = .ok (.getfield 26, 3) := by decide +kernel
theorem dX7_plan_68 : decode cX7_plan 68 = .ok (.invokevirtual 166, 3) := by decide +kernel
theorem dX7_plan_71 : decode cX7_plan 71 = .ok (.aload_n 0, 1) := by decide +kernel
theorem dX7_plan_72 : decode cX7_plan 72 = .ok (.getfield 26, 3) := by decide +kernel
theorem dX7_plan_75 : decode cX7_plan 75 = .ok (.getfield 169, 3) := by decide +kernel
theorem dX7_plan_78 : decode cX7_plan 78 = .ok (.bipush 6, 2) := by decide +kernel
theorem dX7_plan_80 : decode cX7_plan 80 = .ok (.iload_n 1, 1) := by decide +kernel
theorem dX7_plan_81 : decode cX7_plan 81 = .ok (.iadd, 1) := by decide +kernel
theorem dX7_plan_82 : decode cX7_plan 82 = .ok (.iload_n 2, 1) := by decide +kernel
theorem dX7_plan_83 : decode cX7_plan 83 = .ok (.iastore, 1) := by decide +kernel
theorem dX7_plan_84 : decode cX7_plan 84 = .ok (.aload_n 0, 1) := by decide +kernel
theorem dX7_plan_85 : decode cX7_plan 85 = .ok (.getfield 26, 3) := by decide +kernel
theorem dX7_plan_88 : decode cX7_plan 88 = .ok (.getfield 169, 3) := by decide +kernel
theorem dX7_plan_91 : decode cX7_plan 91 = .ok (.bipush 10, 2) := by decide +kernel
theorem dX7_plan_93 : decode cX7_plan 93 = .ok (.iload_n 1, 1) := by decide +kernel
theorem dX7_plan_94 : decode cX7_plan 94 = .ok (.iadd, 1) := by decide +kernel
theorem dX7_plan_95 : decode cX7_plan 95 = .ok (.iload 6, 2) := by decide +kernel
theorem dX7_plan_97 : decode cX7_plan 97 = .ok (.ifCond .eq 7, 3) := by decide +kernel
theorem dX7_plan_100 : decode cX7_plan 100 = .ok (.iconst 0, 1) := by decide +kernel
theorem dX7_plan_101 : decode cX7_plan 101 = .ok (.goto 4, 3) := by decide +kernel
theorem dX7_plan_104 : decode cX7_plan 104 = .ok (.iload_n 3, 1) := by decide +kernel
theorem dX7_plan_105 : decode cX7_plan 105 = .ok (.iastore, 1) := by decide +kernel
theorem dX7_plan_106 : decode cX7_plan 106 = .ok (.aload_n 0, 1) := by decide +kernel
theorem dX7_plan_107 : decode cX7_plan 107 = .ok (.getfield 26, 3) := by decide +kernel
theorem dX7_plan_110 : decode cX7_plan 110 = .ok (.getfield 169, 3) := by decide +kernel
theorem dX7_plan_113 : decode cX7_plan 113 = .ok (.bipush 14, 2) := by decide +kernel
theorem dX7_plan_115 : decode cX7_plan 115 = .ok (.iload_n 1, 1) := by decide +kernel
theorem dX7_plan_116 : decode cX7_plan 116 = .ok (.iadd, 1) := by decide +kernel
theorem dX7_plan_117 : decode cX7_plan 117 = .ok (.iload 6, 2) := by decide +kernel
theorem dX7_plan_119 : decode cX7_plan 119 = .ok (.ifCond .eq 7, 3) := by decide +kernel
theorem dX7_plan_122 : decode cX7_plan 122 = .ok (.iconst 0, 1) := by decide +kernel
theorem dX7_plan_123 : decode cX7_plan 123 = .ok (.goto 5, 3) := by decide +kernel
theorem dX7_plan_126 : decode cX7_plan 126 = .ok (.iload 4, 2) := by decide +kernel
theorem dX7_plan_128 : decode cX7_plan 128 = .ok (.iastore, 1) := by decide +kernel
theorem dX7_plan_129 : decode cX7_plan 129 = .ok (.iload 5, 2) := by decide +kernel
theorem dX7_plan_131 : decode cX7_plan 131 = .ok (.ifCond .eq 7, 3) := by decide +kernel
theorem dX7_plan_134 : decode cX7_plan 134 = .ok (.iconst 1, 1) := by decide +kernel
theorem dX7_plan_135 : decode cX7_plan 135 = .ok (.goto 4, 3) := by decide +kernel
theorem dX7_plan_138 : decode cX7_plan 138 = .ok (.iconst 0, 1) := by decide +kernel
theorem dX7_plan_139 : decode cX7_plan 139 = .ok (.ireturn, 1) := by decide +kernel
theorem dX7_raid_0 : decode cX7_raid 0 = .ok (.aload_n 0, 1) := by decide +kernel
theorem dX7_raid_1 : decode cX7_raid 1 = .ok (.getfield 26, 3) := by decide +kernel
theorem dX7_raid_4 : decode cX7_raid 4 = .ok (.getfield 172, 3) := by decide +kernel
theorem dX7_raid_7 : decode cX7_raid 7 = .ok (.ifCond .eq 13, 3) := by decide +kernel
theorem dX7_raid_10 : decode cX7_raid 10 = .ok (.aload_n 0, 1) := by decide +kernel
theorem dX7_raid_11 : decode cX7_raid 11 = .ok (.getfield 26, 3) := by decide +kernel
theorem dX7_raid_14 : decode cX7_raid 14 = .ok (.invokevirtual 176, 3) := by decide +kernel
theorem dX7_raid_17 : decode cX7_raid 17 = .ok (.ifCond .ne 6, 3) := by decide +kernel
theorem dX7_raid_20 : decode cX7_raid 20 = .ok (.ldc 152, 2) := by decide +kernel
theorem dX7_raid_22 : decode cX7_raid 22 = .ok (.ireturn, 1) := by decide +kernel
theorem dX7_raid_23 : decode cX7_raid 23 = .ok (.aload_n 0, 1) := by decide +kernel
theorem dX7_raid_24 : decode cX7_raid 24 = .ok (.getfield 26, 3) := by decide +kernel
theorem dX7_raid_27 : decode cX7_raid 27 = .ok (.getfield 169, 3) := by decide +kernel
theorem dX7_raid_30 : decode cX7_raid 30 = .ok (.bipush 22, 2) := by decide +kernel
theorem dX7_raid_32 : decode cX7_raid 32 = .ok (.iaload, 1) := by decide +kernel
theorem dX7_raid_33 : decode cX7_raid 33 = .ok (.bipush 99, 2) := by decide +kernel
theorem dX7_raid_35 : decode cX7_raid 35 = .ok (.if_icmp .lt 6, 3) := by decide +kernel
theorem dX7_raid_38 : decode cX7_raid 38 = .ok (.ldc 124, 2) := by decide +kernel
theorem dX7_raid_40 : decode cX7_raid 40 = .ok (.ireturn, 1) := by decide +kernel
theorem dX7_raid_41 : decode cX7_raid 41 = .ok (.aload_n 0, 1) := by decide +kernel
theorem dX7_raid_42 : decode cX7_raid 42 = .ok (.getfield 42, 3) := by decide +kernel
theorem dX7_raid_45 : decode cX7_raid 45 = .ok (.aload_n 0, 1) := by decide +kernel
theorem dX7_raid_46 : decode cX7_raid 46 = .ok (.getfield 26, 3) := by decide +kernel
theorem dX7_raid_49 : decode cX7_raid 49 = .ok (.invokevirtual 166, 3) := by decide +kernel
theorem dX7_raid_52 : decode cX7_raid 52 = .ok (.aload_n 0, 1) := by decide +kernel
theorem dX7_raid_53 : decode cX7_raid 53 = .ok (.bipush 15, 2) := by decide +kernel
theorem dX7_raid_55 : decode cX7_raid 55 = .ok (.invokevirtual 179, 3) := by decide +kernel
theorem dX7_raid_58 : decode cX7_raid 58 = .ok (.aload_n 0, 1) := by decide +kernel
theorem dX7_raid_59 : decode cX7_raid 59 = .ok (.getfield 51, 3) := by decide +kernel
theorem dX7_raid_62 : decode cX7_raid 62 = .ok (.invokevirtual 183, 3) := by decide +kernel
theorem dX7_raid_65 : decode cX7_raid 65 = .ok (.aload_n 0, 1) := by decide +kernel
theorem dX7_raid_66 : decode cX7_raid 66 = .ok (.getfield 51, 3) := by decide +kernel
theorem dX7_raid_69 : decode cX7_raid 69 = .ok (.invokevirtual 186, 3) := by decide +kernel
theorem dX7_raid_72 : decode cX7_raid 72 = .ok (.ireturn, 1) := by decide +kernel
theorem dX7_grow_0 : decode cX7_grow 0 = .ok (.aload_n 0, 1) := by decide +kernel
theorem dX7_grow_1 : decode cX7_grow 1 = .ok (.getfield 26, 3) := by decide +kernel
theorem dX7_grow_4 : decode cX7_grow 4 = .ok (.iload_n 1, 1) := by decide +kernel
theorem dX7_grow_5 : decode cX7_grow 5 = .ok (.invokevirtual 190, 3) := by decide +kernel
theorem dX7_grow_8 : decode cX7_grow 8 = .ok (.ifCond .eq 14, 3) := by decide +kernel
theorem dX7_grow_11 : decode cX7_grow 11 = .ok (.iload_n 2, 1) := by decide +kernel
theorem dX7_grow_12 : decode cX7_grow 12 = .ok (.iconst 1, 1) := by decide +kernel
theorem dX7_grow_13 : decode cX7_grow 13 = .ok (.if_icmp .lt 9, 3) := by decide +kernel
theorem dX7_grow_16 : decode cX7_grow 16 = .ok (.iload_n 2, 1) := by decide +kernel
theorem dX7_grow_17 : decode cX7_grow 17 = .ok (.bipush 30, 2) := by decide +kernel
theorem dX7_grow_19 : decode cX7_grow 19 = .ok (.if_icmp .le 6, 3) := by decide +kernel
theorem dX7_grow_22 : decode cX7_grow 22 = .ok (.ldc 87, 2) := by decide +kernel
theorem dX7_grow_24 : decode cX7_grow 24 = .ok (.ireturn, 1) := by decide +kernel
theorem dX7_grow_25 : decode cX7_grow 25 = .ok (.aload_n 0, 1) := by decide +kernel
theorem dX7_grow_26 : decode cX7_grow 26 = .ok (.getfield 26, 3) := by decide +kernel
theorem dX7_grow_29 : decode cX7_grow 29 = .ok (.getfield 169, 3) := by decide +kernel
theorem dX7_grow_32 : decode cX7_grow 32 = .ok (.iconst 0, 1) := by decide +kernel
theorem dX7_grow_33 : decode cX7_grow 33 = .ok (.iload_n 1, 1) := by decide +kernel
theorem dX7_grow_34 : decode cX7_grow 34 = .ok (.iadd, 1) := by decide +kernel
theorem dX7_grow_35 : decode cX7_grow 35 = .ok (.iaload, 1) := by decide +kernel
theorem dX7_grow_36 : decode cX7_grow 36 = .ok (.iload_n 2, 1) := by decide +kernel
theorem dX7_grow_37 : decode cX7_grow 37 = .ok (.iadd, 1) := by decide +kernel
theorem dX7_grow_38 : decode cX7_grow 38 = .ok (.bipush 60, 2) := by decide +kernel
theorem dX7_grow_40 : decode cX7_grow 40 = .ok (.if_icmp .le 6, 3) := by decide +kernel
theorem dX7_grow_43 : decode cX7_grow 43 = .ok (.ldc 124, 2) := by decide +kernel
theorem dX7_grow_45 : decode cX7_grow 45 = .ok (.ireturn, 1) := by decide +kernel
theorem dX7_grow_46 : decode cX7_grow 46 = .ok (.aload_n 0, 1) := by decide +kernel
theorem dX7_grow_47 : decode cX7_grow 47 = .ok (.getfield 42, 3) := by decide +kernel
theorem dX7_grow_50 : decode cX7_grow 50 = .ok (.aload_n 0, 1) := by decide +kernel
theorem dX7_grow_51 : decode cX7_grow 51 = .ok (.getfield 26, 3) := by decide +kernel
theorem dX7_grow_54 : decode cX7_grow 54 = .ok (.invokevirtual 166, 3) := by decide +kernel
theorem dX7_grow_57 : decode cX7_grow 57 = .ok (.aload_n 0, 1) := by decide +kernel
theorem dX7_grow_58 : decode cX7_grow 58 = .ok (.getfield 26, 3) := by decide +kernel
theorem dX7_grow_61 : decode cX7_grow 61 = .ok (.getfield 169, 3) := by decide +kernel
theorem dX7_grow_64 : decode cX7_grow 64 = .ok (.iconst 0, 1) := by decide +kernel
theorem dX7_grow_65 : decode cX7_grow 65 = .ok (.iload_n 1, 1) := by decide +kernel
theorem dX7_grow_66 : decode cX7_grow 66 = .ok (.iadd, 1) := by decide +kernel
theorem dX7_grow_67 : decode cX7_grow 67 = .ok (.dup2, 1) := by decide +kernel
theorem dX7_grow_68 : decode cX7_grow 68 = .ok (.iaload, 1) := by decide +kernel
theorem dX7_grow_69 : decode cX7_grow 69 = .ok (.iload_n 2, 1) := by decide +kernel
theorem dX7_grow_70 : decode cX7_grow 70 = .ok (.iadd, 1) := by decide +kernel
theorem dX7_grow_71 : decode cX7_grow 71 = .ok (.iastore, 1) := by decide +kernel
theorem dX7_grow_72 : decode cX7_grow 72 = .ok (.aload_n 0, 1) := by decide +kernel
theorem dX7_grow_73 : decode cX7_grow 73 = .ok (.getfield 26, 3) := by decide +kernel
theorem dX7_grow_76 : decode cX7_grow 76 = .ok (.getfield 169, 3) := by decide +kernel
theorem dX7_grow_79 : decode cX7_grow 79 = .ok (.iconst 0, 1) := by decide +kernel
theorem dX7_grow_80 : decode cX7_grow 80 = .ok (.iload_n 1, 1) := by decide +kernel
theorem dX7_grow_81 : decode cX7_grow 81 = .ok (.iadd, 1) := by decide +kernel
theorem dX7_grow_82 : decode cX7_grow 82 = .ok (.iaload, 1) := by decide +kernel
theorem dX7_grow_83 : decode cX7_grow 83 = .ok (.ireturn, 1) := by decide +kernel
theorem dX7_write_0 : decode cX7_write 0 = .ok (.iload_n 1, 1) := by decide +kernel
theorem dX7_write_1 : decode cX7_write 1 = .ok (.invokestatic 193, 3) := by decide +kernel
theorem dX7_write_4 : decode cX7_write 4 = .ok (.ifCond .eq 10, 3) := by decide +kernel
theorem dX7_write_7 : decode cX7_write 7 = .ok (.iload_n 2, 1) := by decide +kernel
theorem dX7_write_8 : decode cX7_write 8 = .ok (.invokestatic 196, 3) := by decide +kernel
theorem dX7_write_11 : decode cX7_write 11 = .ok (.ifCond .ne 6, 3) := by decide +kernel
theorem dX7_write_14 : decode cX7_write 14 = .ok (.ldc 87, 2) := by decide +kernel
theorem dX7_write_16 : decode cX7_write 16 = .ok (.ireturn, 1) := by decide +kernel
theorem dX7_write_17 : decode cX7_write 17 = .ok (.aload_n 0, 1) := by decide +kernel
theorem dX7_write_18 : decode cX7_write 18 = .ok (.getfield 58, 3) := by decide +kernel
theorem dX7_write_21 : decode cX7_write 21 = .ok (.invokevirtual 199, 3) := by decide +kernel
theorem dX7_write_24 : decode cX7_write 24 = .ok (.ifCond .eq 8, 3) := by decide +kernel
theorem dX7_write_27 : decode cX7_write 27 = .ok (.ldc 124, 2) := by decide +kernel
theorem dX7_write_29 : decode cX7_write 29 = .ok (.goto 12, 3) := by decide +kernel
theorem dX7_write_32 : decode cX7_write 32 = .ok (.aload_n 0, 1) := by decide +kernel
theorem dX7_write_33 : decode cX7_write 33 = .ok (.getfield 58, 3) := by decide +kernel
theorem dX7_write_36 : decode cX7_write 36 = .ok (.iload_n 1, 1) := by decide +kernel
theorem dX7_write_37 : decode cX7_write 37 = .ok (.iload_n 2, 1) := by decide +kernel
theorem dX7_write_38 : decode cX7_write 38 = .ok (.invokevirtual 200, 3) := by decide +kernel
theorem dX7_write_41 : decode cX7_write 41 = .ok (.ireturn, 1) := by decide +kernel
theorem dX7_tear_0 : decode cX7_tear 0 = .ok (.aload_n 0, 1) := by decide +kernel
theorem dX7_tear_1 : decode cX7_tear 1 = .ok (.getfield 58, 3) := by decide +kernel
theorem dX7_tear_4 : decode cX7_tear 4 = .ok (.invokevirtual 203, 3) := by decide +kernel
theorem dX7_tear_7 : decode cX7_tear 7 = .ok (.ireturn, 1) := by decide +kernel
theorem dX7_raider_0 : decode cX7_raider 0 = .ok (.aload_n 0, 1) := by decide +kernel
theorem dX7_raider_1 : decode cX7_raider 1 = .ok (.getfield 26, 3) := by decide +kernel
theorem dX7_raider_4 : decode cX7_raider 4 = .ok (.iload_n 1, 1) := by decide +kernel
theorem dX7_raider_5 : decode cX7_raider 5 = .ok (.invokevirtual 153, 3) := by decide +kernel
theorem dX7_raider_8 : decode cX7_raider 8 = .ok (.ifCond .ne 6, 3) := by decide +kernel
theorem dX7_raider_11 : decode cX7_raider 11 = .ok (.ldc 87, 2) := by decide +kernel
theorem dX7_raider_13 : decode cX7_raider 13 = .ok (.ireturn, 1) := by decide +kernel
theorem dX7_raider_14 : decode cX7_raider 14 = .ok (.iload_n 2, 1) := by decide +kernel
theorem dX7_raider_15 : decode cX7_raider 15 = .ok (.tableswitch 95 0 4 #[33, 43, 56, 69, 82], 33) := by decide +kernel
theorem dX7_raider_48 : decode cX7_raider 48 = .ok (.aload_n 0, 1) := by decide +kernel
theorem dX7_raider_49 : decode cX7_raider 49 = .ok (.getfield 26, 3) := by decide +kernel
theorem dX7_raider_52 : decode cX7_raider 52 = .ok (.getfield 206, 3) := by decide +kernel
theorem dX7_raider_55 : decode cX7_raider 55 = .ok (.iload_n 1, 1) := by decide +kernel
theorem dX7_raider_56 : decode cX7_raider 56 = .ok (.iaload, 1) := by decide +kernel
theorem dX7_raider_57 : decode cX7_raider 57 = .ok (.ireturn, 1) := by decide +kernel
theorem dX7_raider_58 : decode cX7_raider 58 = .ok (.aload_n 0, 1) := by decide +kernel
theorem dX7_raider_59 : decode cX7_raider 59 = .ok (.getfield 26, 3) := by decide +kernel
theorem dX7_raider_62 : decode cX7_raider 62 = .ok (.getfield 169, 3) := by decide +kernel
theorem dX7_raider_65 : decode cX7_raider 65 = .ok (.bipush 6, 2) := by decide +kernel
theorem dX7_raider_67 : decode cX7_raider 67 = .ok (.iload_n 1, 1) := by decide +kernel
theorem dX7_raider_68 : decode cX7_raider 68 = .ok (.iadd, 1) := by decide +kernel
theorem dX7_raider_69 : decode cX7_raider 69 = .ok (.iaload, 1) := by decide +kernel
theorem dX7_raider_70 : decode cX7_raider 70 = .ok (.ireturn, 1) := by decide +kernel
theorem dX7_raider_71 : decode cX7_raider 71 = .ok (.aload_n 0, 1) := by decide +kernel
theorem dX7_raider_72 : decode cX7_raider 72 = .ok (.getfield 26, 3) := by decide +kernel
theorem dX7_raider_75 : decode cX7_raider 75 = .ok (.getfield 169, 3) := by decide +kernel
theorem dX7_raider_78 : decode cX7_raider 78 = .ok (.bipush 10, 2) := by decide +kernel
theorem dX7_raider_80 : decode cX7_raider 80 = .ok (.iload_n 1, 1) := by decide +kernel
theorem dX7_raider_81 : decode cX7_raider 81 = .ok (.iadd, 1) := by decide +kernel
theorem dX7_raider_82 : decode cX7_raider 82 = .ok (.iaload, 1) := by decide +kernel
theorem dX7_raider_83 : decode cX7_raider 83 = .ok (.ireturn, 1) := by decide +kernel
theorem dX7_raider_84 : decode cX7_raider 84 = .ok (.aload_n 0, 1) := by decide +kernel
theorem dX7_raider_85 : decode cX7_raider 85 = .ok (.getfield 26, 3) := by decide +kernel
theorem dX7_raider_88 : decode cX7_raider 88 = .ok (.getfield 169, 3) := by decide +kernel
theorem dX7_raider_91 : decode cX7_raider 91 = .ok (.bipush 14, 2) := by decide +kernel
theorem dX7_raider_93 : decode cX7_raider 93 = .ok (.iload_n 1, 1) := by decide +kernel
theorem dX7_raider_94 : decode cX7_raider 94 = .ok (.iadd, 1) := by decide +kernel
theorem dX7_raider_95 : decode cX7_raider 95 = .ok (.iaload, 1) := by decide +kernel
theorem dX7_raider_96 : decode cX7_raider 96 = .ok (.ireturn, 1) := by decide +kernel
theorem dX7_raider_97 : decode cX7_raider 97 = .ok (.aload_n 0, 1) := by decide +kernel
theorem dX7_raider_98 : decode cX7_raider 98 = .ok (.getfield 26, 3) := by decide +kernel
theorem dX7_raider_101 : decode cX7_raider 101 = .ok (.getfield 169, 3) := by decide +kernel
theorem dX7_raider_104 : decode cX7_raider 104 = .ok (.bipush 18, 2) := by decide +kernel
theorem dX7_raider_106 : decode cX7_raider 106 = .ok (.iload_n 1, 1) := by decide +kernel
theorem dX7_raider_107 : decode cX7_raider 107 = .ok (.iadd, 1) := by decide +kernel
theorem dX7_raider_108 : decode cX7_raider 108 = .ok (.iaload, 1) := by decide +kernel
theorem dX7_raider_109 : decode cX7_raider 109 = .ok (.ireturn, 1) := by decide +kernel
theorem dX7_raider_110 : decode cX7_raider 110 = .ok (.ldc 87, 2) := by decide +kernel
theorem dX7_raider_112 : decode cX7_raider 112 = .ok (.ireturn, 1) := by decide +kernel
theorem dX7_tree_0 : decode cX7_tree 0 = .ok (.aload_n 0, 1) := by decide +kernel
theorem dX7_tree_1 : decode cX7_tree 1 = .ok (.getfield 26, 3) := by decide +kernel
theorem dX7_tree_4 : decode cX7_tree 4 = .ok (.iload_n 1, 1) := by decide +kernel
theorem dX7_tree_5 : decode cX7_tree 5 = .ok (.invokevirtual 190, 3) := by decide +kernel
theorem dX7_tree_8 : decode cX7_tree 8 = .ok (.ifCond .ne 6, 3) := by decide +kernel
theorem dX7_tree_11 : decode cX7_tree 11 = .ok (.ldc 87, 2) := by decide +kernel
theorem dX7_tree_13 : decode cX7_tree 13 = .ok (.ireturn, 1) := by decide +kernel
theorem dX7_tree_14 : decode cX7_tree 14 = .ok (.iload_n 2, 1) := by decide +kernel
theorem dX7_tree_15 : decode cX7_tree 15 = .ok (.tableswitch 57 0 2 #[25, 35, 47], 25) := by decide +kernel
theorem dX7_tree_40 : decode cX7_tree 40 = .ok (.aload_n 0, 1) := by decide +kernel
theorem dX7_tree_41 : decode cX7_tree 41 = .ok (.getfield 26, 3) := by decide +kernel
theorem dX7_tree_44 : decode cX7_tree 44 = .ok (.getfield 209, 3) := by decide +kernel
theorem dX7_tree_47 : decode cX7_tree 47 = .ok (.iload_n 1, 1) := by decide +kernel
theorem dX7_tree_48 : decode cX7_tree 48 = .ok (.iaload, 1) := by decide +kernel
theorem dX7_tree_49 : decode cX7_tree 49 = .ok (.ireturn, 1) := by decide +kernel
theorem dX7_tree_50 : decode cX7_tree 50 = .ok (.aload_n 0, 1) := by decide +kernel
theorem dX7_tree_51 : decode cX7_tree 51 = .ok (.getfield 26, 3) := by decide +kernel
theorem dX7_tree_54 : decode cX7_tree 54 = .ok (.getfield 169, 3) := by decide +kernel
theorem dX7_tree_57 : decode cX7_tree 57 = .ok (.iconst 0, 1) := by decide +kernel
theorem dX7_tree_58 : decode cX7_tree 58 = .ok (.iload_n 1, 1) := by decide +kernel
theorem dX7_tree_59 : decode cX7_tree 59 = .ok (.iadd, 1) := by decide +kernel
theorem dX7_tree_60 : decode cX7_tree 60 = .ok (.iaload, 1) := by decide +kernel
theorem dX7_tree_61 : decode cX7_tree 61 = .ok (.ireturn, 1) := by decide +kernel
theorem dX7_tree_62 : decode cX7_tree 62 = .ok (.aload_n 0, 1) := by decide +kernel
theorem dX7_tree_63 : decode cX7_tree 63 = .ok (.getfield 26, 3) := by decide +kernel
theorem dX7_tree_66 : decode cX7_tree 66 = .ok (.getfield 212, 3) := by decide +kernel
theorem dX7_tree_69 : decode cX7_tree 69 = .ok (.iload_n 1, 1) := by decide +kernel
theorem dX7_tree_70 : decode cX7_tree 70 = .ok (.iaload, 1) := by decide +kernel
theorem dX7_tree_71 : decode cX7_tree 71 = .ok (.ireturn, 1) := by decide +kernel
theorem dX7_tree_72 : decode cX7_tree 72 = .ok (.ldc 87, 2) := by decide +kernel
theorem dX7_tree_74 : decode cX7_tree 74 = .ok (.ireturn, 1) := by decide +kernel
theorem dX7_far_0 : decode cX7_far 0 = .ok (.iload_n 1, 1) := by decide +kernel
theorem dX7_far_1 : decode cX7_far 1 = .ok (.invokestatic 215, 3) := by decide +kernel
theorem dX7_far_4 : decode cX7_far 4 = .ok (.ifCond .eq 18, 3) := by decide +kernel
theorem dX7_far_7 : decode cX7_far 7 = .ok (.iload_n 2, 1) := by decide +kernel
theorem dX7_far_8 : decode cX7_far 8 = .ok (.invokestatic 215, 3) := by decide +kernel
theorem dX7_far_11 : decode cX7_far 11 = .ok (.ifCond .eq 11, 3) := by decide +kernel
theorem dX7_far_14 : decode cX7_far 14 = .ok (.iload_n 1, 1) := by decide +kernel
theorem dX7_far_15 : decode cX7_far 15 = .ok (.iload_n 2, 1) := by decide +kernel
theorem dX7_far_16 : decode cX7_far 16 = .ok (.invokestatic 218, 3) := by decide +kernel
theorem dX7_far_19 : decode cX7_far 19 = .ok (.goto 5, 3) := by decide +kernel
theorem dX7_far_22 : decode cX7_far 22 = .ok (.ldc 87, 2) := by decide +kernel
theorem dX7_far_24 : decode cX7_far 24 = .ok (.ireturn, 1) := by decide +kernel
theorem dX7_ahead_0 : decode cX7_ahead 0 = .ok (.aload_n 0, 1) := by decide +kernel
theorem dX7_ahead_1 : decode cX7_ahead 1 = .ok (.getfield 26, 3) := by decide +kernel
theorem dX7_ahead_4 : decode cX7_ahead 4 = .ok (.getfield 172, 3) := by decide +kernel
theorem dX7_ahead_7 : decode cX7_ahead 7 = .ok (.ifCond .ne 6, 3) := by decide +kernel
theorem dX7_ahead_10 : decode cX7_ahead 10 = .ok (.ldc 152, 2) := by decide +kernel
theorem dX7_ahead_12 : decode cX7_ahead 12 = .ok (.ireturn, 1) := by decide +kernel
theorem dX7_ahead_13 : decode cX7_ahead 13 = .ok (.iload_n 1, 1) := by decide +kernel
theorem dX7_ahead_14 : decode cX7_ahead 14 = .ok (.ifCond .lt 8, 3) := by decide +kernel
theorem dX7_ahead_17 : decode cX7_ahead 17 = .ok (.iload_n 1, 1) := by decide +kernel
theorem dX7_ahead_18 : decode cX7_ahead 18 = .ok (.iconst 3, 1) := by decide +kernel
theorem dX7_ahead_19 : decode cX7_ahead 19 = .ok (.if_icmp .le 6, 3) := by decide +kernel
theorem dX7_ahead_22 : decode cX7_ahead 22 = .ok (.ldc 87, 2) := by decide +kernel
theorem dX7_ahead_24 : decode cX7_ahead 24 = .ok (.ireturn, 1) := by decide +kernel
theorem dX7_ahead_25 : decode cX7_ahead 25 = .ok (.aload_n 0, 1) := by decide +kernel
theorem dX7_ahead_26 : decode cX7_ahead 26 = .ok (.bipush 15, 2) := by decide +kernel
theorem dX7_ahead_28 : decode cX7_ahead 28 = .ok (.invokevirtual 179, 3) := by decide +kernel
theorem dX7_ahead_31 : decode cX7_ahead 31 = .ok (.iload_n 1, 1) := by decide +kernel
theorem dX7_ahead_32 : decode cX7_ahead 32 = .ok (.tableswitch 67 0 2 #[28, 36, 44], 28) := by decide +kernel
theorem dX7_ahead_60 : decode cX7_ahead 60 = .ok (.aload_n 0, 1) := by decide +kernel
theorem dX7_ahead_61 : decode cX7_ahead 61 = .ok (.getfield 51, 3) := by decide +kernel
theorem dX7_ahead_64 : decode cX7_ahead 64 = .ok (.invokevirtual 186, 3) := by decide +kernel
theorem dX7_ahead_67 : decode cX7_ahead 67 = .ok (.ireturn, 1) := by decide +kernel
theorem dX7_ahead_68 : decode cX7_ahead 68 = .ok (.aload_n 0, 1) := by decide +kernel
theorem dX7_ahead_69 : decode cX7_ahead 69 = .ok (.getfield 51, 3) := by decide +kernel
theorem dX7_ahead_72 : decode cX7_ahead 72 = .ok (.invokevirtual 221, 3) := by decide +kernel
theorem dX7_ahead_75 : decode cX7_ahead 75 = .ok (.ireturn, 1) := by decide +kernel
theorem dX7_ahead_76 : decode cX7_ahead 76 = .ok (.aload_n 0, 1) := by decide +kernel
theorem dX7_ahead_77 : decode cX7_ahead 77 = .ok (.getfield 51, 3) := by decide +kernel
theorem dX7_ahead_80 : decode cX7_ahead 80 = .ok (.getfield 224, 3) := by decide +kernel
theorem dX7_ahead_83 : decode cX7_ahead 83 = .ok (.ifCond .le 13, 3) := by decide +kernel
theorem dX7_ahead_86 : decode cX7_ahead 86 = .ok (.aload_n 0, 1) := by decide +kernel
theorem dX7_ahead_87 : decode cX7_ahead 87 = .ok (.getfield 51, 3) := by decide +kernel
theorem dX7_ahead_90 : decode cX7_ahead 90 = .ok (.getfield 224, 3) := by decide +kernel
theorem dX7_ahead_93 : decode cX7_ahead 93 = .ok (.goto 5, 3) := by decide +kernel
theorem dX7_ahead_96 : decode cX7_ahead 96 = .ok (.ldc 227, 2) := by decide +kernel
theorem dX7_ahead_98 : decode cX7_ahead 98 = .ok (.ireturn, 1) := by decide +kernel
theorem dX7_ahead_99 : decode cX7_ahead 99 = .ok (.aload_n 0, 1) := by decide +kernel
theorem dX7_ahead_100 : decode cX7_ahead 100 = .ok (.getfield 51, 3) := by decide +kernel
theorem dX7_ahead_103 : decode cX7_ahead 103 = .ok (.getfield 228, 3) := by decide +kernel
theorem dX7_ahead_106 : decode cX7_ahead 106 = .ok (.ireturn, 1) := by decide +kernel
theorem dX7_raiderAhead_0 : decode cX7_raiderAhead 0 = .ok (.aload_n 0, 1) := by decide +kernel
theorem dX7_raiderAhead_1 : decode cX7_raiderAhead 1 = .ok (.getfield 26, 3) := by decide +kernel
theorem dX7_raiderAhead_4 : decode cX7_raiderAhead 4 = .ok (.iload_n 1, 1) := by decide +kernel
theorem dX7_raiderAhead_5 : decode cX7_raiderAhead 5 = .ok (.invokevirtual 153, 3) := by decide +kernel
theorem dX7_raiderAhead_8 : decode cX7_raiderAhead 8 = .ok (.ifCond .eq 10, 3) := by decide +kernel
theorem dX7_raiderAhead_11 : decode cX7_raiderAhead 11 = .ok (.iload_n 2, 1) := by decide +kernel
theorem dX7_raiderAhead_12 : decode cX7_raiderAhead 12 = .ok (.invokestatic 196, 3) := by decide +kernel
theorem dX7_raiderAhead_15 : decode cX7_raiderAhead 15 = .ok (.ifCond .ne 6, 3) := by decide +kernel
theorem dX7_raiderAhead_18 : decode cX7_raiderAhead 18 = .ok (.ldc 87, 2) := by decide +kernel
theorem dX7_raiderAhead_20 : decode cX7_raiderAhead 20 = .ok (.ireturn, 1) := by decide +kernel
theorem dX7_raiderAhead_21 : decode cX7_raiderAhead 21 = .ok (.aload_n 0, 1) := by decide +kernel
theorem dX7_raiderAhead_22 : decode cX7_raiderAhead 22 = .ok (.bipush 15, 2) := by decide +kernel
theorem dX7_raiderAhead_24 : decode cX7_raiderAhead 24 = .ok (.invokevirtual 179, 3) := by decide +kernel
theorem dX7_raiderAhead_27 : decode cX7_raiderAhead 27 = .ok (.iload_n 2, 1) := by decide +kernel
theorem dX7_raiderAhead_28 : decode cX7_raiderAhead 28 = .ok (.iconst 1, 1) := by decide +kernel
theorem dX7_raiderAhead_29 : decode cX7_raiderAhead 29 = .ok (.if_icmp .ne 12, 3) := by decide +kernel
theorem dX7_raiderAhead_32 : decode cX7_raiderAhead 32 = .ok (.aload_n 0, 1) := by decide +kernel
theorem dX7_raiderAhead_33 : decode cX7_raiderAhead 33 = .ok (.getfield 51, 3) := by decide +kernel
theorem dX7_raiderAhead_36 : decode cX7_raiderAhead 36 = .ok (.iload_n 1, 1) := by decide +kernel
theorem dX7_raiderAhead_37 : decode cX7_raiderAhead 37 = .ok (.invokevirtual 231, 3) := by decide +kernel
theorem dX7_raiderAhead_40 : decode cX7_raiderAhead 40 = .ok (.ireturn, 1) := by decide +kernel
theorem dX7_raiderAhead_41 : decode cX7_raiderAhead 41 = .ok (.aload_n 0, 1) := by decide +kernel
theorem dX7_raiderAhead_42 : decode cX7_raiderAhead 42 = .ok (.getfield 51, 3) := by decide +kernel
theorem dX7_raiderAhead_45 : decode cX7_raiderAhead 45 = .ok (.iload_n 1, 1) := by decide +kernel
theorem dX7_raiderAhead_46 : decode cX7_raiderAhead 46 = .ok (.invokevirtual 234, 3) := by decide +kernel
theorem dX7_raiderAhead_49 : decode cX7_raiderAhead 49 = .ok (.ifCond .eq 15, 3) := by decide +kernel
theorem dX7_raiderAhead_52 : decode cX7_raiderAhead 52 = .ok (.aload_n 0, 1) := by decide +kernel
theorem dX7_raiderAhead_53 : decode cX7_raiderAhead 53 = .ok (.getfield 51, 3) := by decide +kernel
theorem dX7_raiderAhead_56 : decode cX7_raiderAhead 56 = .ok (.getfield 237, 3) := by decide +kernel
theorem dX7_raiderAhead_59 : decode cX7_raiderAhead 59 = .ok (.iload_n 1, 1) := by decide +kernel
theorem dX7_raiderAhead_60 : decode cX7_raiderAhead 60 = .ok (.iaload, 1) := by decide +kernel
theorem dX7_raiderAhead_61 : decode cX7_raiderAhead 61 = .ok (.goto 5, 3) := by decide +kernel
theorem dX7_raiderAhead_64 : decode cX7_raiderAhead 64 = .ok (.ldc 227, 2) := by decide +kernel
theorem dX7_raiderAhead_66 : decode cX7_raiderAhead 66 = .ok (.ireturn, 1) := by decide +kernel
theorem dX7_safe_0 : decode cX7_safe 0 = .ok (.aload_n 0, 1) := by decide +kernel
theorem dX7_safe_1 : decode cX7_safe 1 = .ok (.getfield 26, 3) := by decide +kernel
theorem dX7_safe_4 : decode cX7_safe 4 = .ok (.iload_n 1, 1) := by decide +kernel
theorem dX7_safe_5 : decode cX7_safe 5 = .ok (.invokevirtual 153, 3) := by decide +kernel
theorem dX7_safe_8 : decode cX7_safe 8 = .ok (.ifCond .eq 21, 3) := by decide +kernel
theorem dX7_safe_11 : decode cX7_safe 11 = .ok (.aload_n 0, 1) := by decide +kernel
theorem dX7_safe_12 : decode cX7_safe 12 = .ok (.getfield 26, 3) := by decide +kernel
theorem dX7_safe_15 : decode cX7_safe 15 = .ok (.iload_n 2, 1) := by decide +kernel
theorem dX7_safe_16 : decode cX7_safe 16 = .ok (.invokevirtual 190, 3) := by decide +kernel
theorem dX7_safe_19 : decode cX7_safe 19 = .ok (.ifCond .eq 10, 3) := by decide +kernel
theorem dX7_safe_22 : decode cX7_safe 22 = .ok (.iload_n 3, 1) := by decide +kernel
theorem dX7_safe_23 : decode cX7_safe 23 = .ok (.invokestatic 196, 3) := by decide +kernel
theorem dX7_safe_26 : decode cX7_safe 26 = .ok (.ifCond .ne 6, 3) := by decide +kernel
theorem dX7_safe_29 : decode cX7_safe 29 = .ok (.ldc 87, 2) := by decide +kernel
theorem dX7_safe_31 : decode cX7_safe 31 = .ok (.ireturn, 1) := by decide +kernel
theorem dX7_safe_32 : decode cX7_safe 32 = .ok (.aload_n 0, 1) := by decide +kernel
theorem dX7_safe_33 : decode cX7_safe 33 = .ok (.getfield 26, 3) := by decide +kernel
theorem dX7_safe_36 : decode cX7_safe 36 = .ok (.iload_n 1, 1) := by decide +kernel
theorem dX7_safe_37 : decode cX7_safe 37 = .ok (.invokevirtual 160, 3) := by decide +kernel
theorem dX7_safe_40 : decode cX7_safe 40 = .ok (.ifCond .ne 6, 3) := by decide +kernel
theorem dX7_safe_43 : decode cX7_safe 43 = .ok (.ldc 152, 2) := by decide +kernel
theorem dX7_safe_45 : decode cX7_safe 45 = .ok (.ireturn, 1) := by decide +kernel
theorem dX7_safe_46 : decode cX7_safe 46 = .ok (.iconst 0, 1) := by decide +kernel
theorem dX7_safe_47 : decode cX7_safe 47 = .ok (.istore 4, 2) := by decide +kernel
theorem dX7_safe_49 : decode cX7_safe 49 = .ok (.iconst 1, 1) := by decide +kernel
theorem dX7_safe_50 : decode cX7_safe 50 = .ok (.istore 5, 2) := by decide +kernel
theorem dX7_safe_52 : decode cX7_safe 52 = .ok (.iload 5, 2) := by decide +kernel
theorem dX7_safe_54 : decode cX7_safe 54 = .ok (.bipush 20, 2) := by decide +kernel
theorem dX7_safe_56 : decode cX7_safe 56 = .ok (.if_icmp .gt 64, 3) := by decide +kernel
theorem dX7_safe_59 : decode cX7_safe 59 = .ok (.aload_n 0, 1) := by decide +kernel
theorem dX7_safe_60 : decode cX7_safe 60 = .ok (.iload_n 1, 1) := by decide +kernel
theorem dX7_safe_61 : decode cX7_safe 61 = .ok (.iload_n 2, 1) := by decide +kernel
theorem dX7_safe_62 : decode cX7_safe 62 = .ok (.iload 5, 2) := by decide +kernel
theorem dX7_safe_64 : decode cX7_safe 64 = .ok (.iload_n 3, 1) := by decide +kernel
theorem dX7_safe_65 : decode cX7_safe 65 = .ok (.invokevirtual 240, 3) := by decide +kernel
theorem dX7_safe_68 : decode cX7_safe 68 = .ok (.aload_n 0, 1) := by decide +kernel
theorem dX7_safe_69 : decode cX7_safe 69 = .ok (.getfield 51, 3) := by decide +kernel
theorem dX7_safe_72 : decode cX7_safe 72 = .ok (.iload_n 1, 1) := by decide +kernel
theorem dX7_safe_73 : decode cX7_safe 73 = .ok (.invokevirtual 234, 3) := by decide +kernel
theorem dX7_safe_76 : decode cX7_safe 76 = .ok (.istore 6, 2) := by decide +kernel
theorem dX7_safe_78 : decode cX7_safe 78 = .ok (.iload 6, 2) := by decide +kernel
theorem dX7_safe_80 : decode cX7_safe 80 = .ok (.ifCond .eq 7, 3) := by decide +kernel
theorem dX7_safe_83 : decode cX7_safe 83 = .ok (.iload 5, 2) := by decide +kernel
theorem dX7_safe_85 : decode cX7_safe 85 = .ok (.istore 4, 2) := by decide +kernel
theorem dX7_safe_87 : decode cX7_safe 87 = .ok (.aload_n 0, 1) := by decide +kernel
theorem dX7_safe_88 : decode cX7_safe 88 = .ok (.getfield 51, 3) := by decide +kernel
theorem dX7_safe_91 : decode cX7_safe 91 = .ok (.getfield 244, 3) := by decide +kernel
theorem dX7_safe_94 : decode cX7_safe 94 = .ok (.iload_n 1, 1) := by decide +kernel
theorem dX7_safe_95 : decode cX7_safe 95 = .ok (.iaload, 1) := by decide +kernel
theorem dX7_safe_96 : decode cX7_safe 96 = .ok (.iload 5, 2) := by decide +kernel
theorem dX7_safe_98 : decode cX7_safe 98 = .ok (.if_icmp .ge 16, 3) := by decide +kernel
theorem dX7_safe_101 : decode cX7_safe 101 = .ok (.iload 6, 2) := by decide +kernel
theorem dX7_safe_103 : decode cX7_safe 103 = .ok (.ifCond .eq 8, 3) := by decide +kernel
theorem dX7_safe_106 : decode cX7_safe 106 = .ok (.bipush 20, 2) := by decide +kernel
theorem dX7_safe_108 : decode cX7_safe 108 = .ok (.goto 5, 3) := by decide +kernel
theorem dX7_safe_111 : decode cX7_safe 111 = .ok (.iload 4, 2) := by decide +kernel
theorem dX7_safe_113 : decode cX7_safe 113 = .ok (.ireturn, 1) := by decide +kernel
theorem dX7_safe_114 : decode cX7_safe 114 = .ok (.iinc 5 1, 3) := by decide +kernel
theorem dX7_safe_117 : decode cX7_safe 117 = .ok (.goto (-65), 3) := by decide +kernel
theorem dX7_safe_120 : decode cX7_safe 120 = .ok (.iload 4, 2) := by decide +kernel
theorem dX7_safe_122 : decode cX7_safe 122 = .ok (.ireturn, 1) := by decide +kernel
theorem dX7_bestAlone_0 : decode cX7_bestAlone 0 = .ok (.aload_n 0, 1) := by decide +kernel
theorem dX7_bestAlone_1 : decode cX7_bestAlone 1 = .ok (.getfield 26, 3) := by decide +kernel
theorem dX7_bestAlone_4 : decode cX7_bestAlone 4 = .ok (.iload_n 1, 1) := by decide +kernel
theorem dX7_bestAlone_5 : decode cX7_bestAlone 5 = .ok (.invokevirtual 153, 3) := by decide +kernel
theorem dX7_bestAlone_8 : decode cX7_bestAlone 8 = .ok (.ifCond .eq 12, 3) := by decide +kernel
theorem dX7_bestAlone_11 : decode cX7_bestAlone 11 = .ok (.iload_n 2, 1) := by decide +kernel
theorem dX7_bestAlone_12 : decode cX7_bestAlone 12 = .ok (.ifCond .lt 8, 3) := by decide +kernel
theorem dX7_bestAlone_15 : decode cX7_bestAlone 15 = .ok (.iload_n 2, 1) := by decide +kernel
theorem dX7_bestAlone_16 : decode cX7_bestAlone 16 = .ok (.iconst 4, 1) := by decide +kernel
theorem dX7_bestAlone_17 : decode cX7_bestAlone 17 = .ok (.if_icmp .lt 6, 3) := by decide +kernel
theorem dX7_bestAlone_20 : decode cX7_bestAlone 20 = .ok (.ldc 87, 2) := by decide +kernel
theorem dX7_bestAlone_22 : decode cX7_bestAlone 22 = .ok (.ireturn, 1) := by decide +kernel
theorem dX7_bestAlone_23 : decode cX7_bestAlone 23 = .ok (.aload_n 0, 1) := by decide +kernel
theorem dX7_bestAlone_24 : decode cX7_bestAlone 24 = .ok (.getfield 26, 3) := by decide +kernel
theorem dX7_bestAlone_27 : decode cX7_bestAlone 27 = .ok (.iload_n 1, 1) := by decide +kernel
theorem dX7_bestAlone_28 : decode cX7_bestAlone 28 = .ok (.invokevirtual 160, 3) := by decide +kernel
theorem dX7_bestAlone_31 : decode cX7_bestAlone 31 = .ok (.ifCond .ne 6, 3) := by decide +kernel
theorem dX7_bestAlone_34 : decode cX7_bestAlone 34 = .ok (.ldc 152, 2) := by decide +kernel
theorem dX7_bestAlone_36 : decode cX7_bestAlone 36 = .ok (.ireturn, 1) := by decide +kernel
theorem dX7_bestAlone_37 : decode cX7_bestAlone 37 = .ok (.aload_n 0, 1) := by decide +kernel
theorem dX7_bestAlone_38 : decode cX7_bestAlone 38 = .ok (.getfield 69, 3) := by decide +kernel
theorem dX7_bestAlone_41 : decode cX7_bestAlone 41 = .ok (.ldc 227, 2) := by decide +kernel
theorem dX7_bestAlone_43 : decode cX7_bestAlone 43 = .ok (.invokestatic 247, 3) := by decide +kernel
theorem dX7_bestAlone_46 : decode cX7_bestAlone 46 = .ok (.iconst 0, 1) := by decide +kernel
theorem dX7_bestAlone_47 : decode cX7_bestAlone 47 = .ok (.istore_n 3, 1) := by decide +kernel
theorem dX7_bestAlone_48 : decode cX7_bestAlone 48 = .ok (.iload_n 3, 1) := by decide +kernel
theorem dX7_bestAlone_49 : decode cX7_bestAlone 49 = .ok (.aload_n 0, 1) := by decide +kernel
theorem dX7_bestAlone_50 : decode cX7_bestAlone 50 = .ok (.getfield 26, 3) := by decide +kernel
theorem dX7_bestAlone_53 : decode cX7_bestAlone 53 = .ok (.getfield 139, 3) := by decide +kernel
theorem dX7_bestAlone_56 : decode cX7_bestAlone 56 = .ok (.if_icmp .ge 72, 3) := by decide +kernel
theorem dX7_bestAlone_59 : decode cX7_bestAlone 59 = .ok (.iconst 1, 1) := by decide +kernel
theorem dX7_bestAlone_60 : decode cX7_bestAlone 60 = .ok (.istore 4, 2) := by decide +kernel
theorem dX7_bestAlone_62 : decode cX7_bestAlone 62 = .ok (.iconst 1, 1) := by decide +kernel
theorem dX7_bestAlone_63 : decode cX7_bestAlone 63 = .ok (.istore 5, 2) := by decide +kernel
theorem dX7_bestAlone_65 : decode cX7_bestAlone 65 = .ok (.iload 5, 2) := by decide +kernel
theorem dX7_bestAlone_67 : decode cX7_bestAlone 67 = .ok (.bipush 20, 2) := by decide +kernel
theorem dX7_bestAlone_69 : decode cX7_bestAlone 69 = .ok (.if_icmp .gt 53, 3) := by decide +kernel
theorem dX7_bestAlone_72 : decode cX7_bestAlone 72 = .ok (.iload 4, 2) := by decide +kernel
theorem dX7_bestAlone_74 : decode cX7_bestAlone 74 = .ok (.ifCond .eq 48, 3) := by decide +kernel
theorem dX7_bestAlone_77 : decode cX7_bestAlone 77 = .ok (.aload_n 0, 1) := by decide +kernel
theorem dX7_bestAlone_78 : decode cX7_bestAlone 78 = .ok (.iload_n 1, 1) := by decide +kernel
theorem dX7_bestAlone_79 : decode cX7_bestAlone 79 = .ok (.iload_n 3, 1) := by decide +kernel
theorem dX7_bestAlone_80 : decode cX7_bestAlone 80 = .ok (.iload 5, 2) := by decide +kernel
theorem dX7_bestAlone_82 : decode cX7_bestAlone 82 = .ok (.iconst 0, 1) := by decide +kernel
theorem dX7_bestAlone_83 : decode cX7_bestAlone 83 = .ok (.invokevirtual 253, 3) := by decide +kernel
theorem dX7_bestAlone_86 : decode cX7_bestAlone 86 = .ok (.istore 6, 2) := by decide +kernel
theorem dX7_bestAlone_88 : decode cX7_bestAlone 88 = .ok (.aload_n 0, 1) := by decide +kernel
theorem dX7_bestAlone_89 : decode cX7_bestAlone 89 = .ok (.iload_n 1, 1) := by decide +kernel
theorem dX7_bestAlone_90 : decode cX7_bestAlone 90 = .ok (.iload_n 3, 1) := by decide +kernel
theorem dX7_bestAlone_91 : decode cX7_bestAlone 91 = .ok (.iload 5, 2) := by decide +kernel
theorem dX7_bestAlone_93 : decode cX7_bestAlone 93 = .ok (.iconst 1, 1) := by decide +kernel
theorem dX7_bestAlone_94 : decode cX7_bestAlone 94 = .ok (.invokevirtual 253, 3) := by decide +kernel
theorem dX7_bestAlone_97 : decode cX7_bestAlone 97 = .ok (.istore 7, 2) := by decide +kernel
theorem dX7_bestAlone_99 : decode cX7_bestAlone 99 = .ok (.iload 6, 2) := by decide +kernel
theorem dX7_bestAlone_101 : decode cX7_bestAlone 101 = .ok (.ifCond .ne 8, 3) := by decide +kernel
theorem dX7_bestAlone_104 : decode cX7_bestAlone 104 = .ok (.iload 7, 2) := by decide +kernel
theorem dX7_bestAlone_106 : decode cX7_bestAlone 106 = .ok (.ifCond .eq 7, 3) := by decide +kernel
theorem dX7_bestAlone_109 : decode cX7_bestAlone 109 = .ok (.iconst 1, 1) := by decide +kernel
theorem dX7_bestAlone_110 : decode cX7_bestAlone 110 = .ok (.goto 4, 3) := by decide +kernel
theorem dX7_bestAlone_113 : decode cX7_bestAlone 113 = .ok (.iconst 0, 1) := by decide +kernel
theorem dX7_bestAlone_114 : decode cX7_bestAlone 114 = .ok (.istore 4, 2) := by decide +kernel
theorem dX7_bestAlone_116 : decode cX7_bestAlone 116 = .ok (.iinc 5 1, 3) := by decide +kernel
theorem dX7_bestAlone_119 : decode cX7_bestAlone 119 = .ok (.goto (-54), 3) := by decide +kernel
theorem dX7_bestAlone_122 : decode cX7_bestAlone 122 = .ok (.iinc 3 1, 3) := by decide +kernel
theorem dX7_bestAlone_125 : decode cX7_bestAlone 125 = .ok (.goto (-77), 3) := by decide +kernel
theorem dX7_bestAlone_128 : decode cX7_bestAlone 128 = .ok (.aload_n 0, 1) := by decide +kernel
theorem dX7_bestAlone_129 : decode cX7_bestAlone 129 = .ok (.getfield 69, 3) := by decide +kernel
theorem dX7_bestAlone_132 : decode cX7_bestAlone 132 = .ok (.iload_n 2, 1) := by decide +kernel
theorem dX7_bestAlone_133 : decode cX7_bestAlone 133 = .ok (.iaload, 1) := by decide +kernel
theorem dX7_bestAlone_134 : decode cX7_bestAlone 134 = .ok (.ireturn, 1) := by decide +kernel
theorem dX7_watch_0 : decode cX7_watch 0 = .ok (.aload_n 0, 1) := by decide +kernel
theorem dX7_watch_1 : decode cX7_watch 1 = .ok (.getfield 26, 3) := by decide +kernel
theorem dX7_watch_4 : decode cX7_watch 4 = .ok (.iload_n 1, 1) := by decide +kernel
theorem dX7_watch_5 : decode cX7_watch 5 = .ok (.invokevirtual 153, 3) := by decide +kernel
theorem dX7_watch_8 : decode cX7_watch 8 = .ok (.ifCond .ne 6, 3) := by decide +kernel
theorem dX7_watch_11 : decode cX7_watch 11 = .ok (.ldc 87, 2) := by decide +kernel
theorem dX7_watch_13 : decode cX7_watch 13 = .ok (.ireturn, 1) := by decide +kernel
theorem dX7_watch_14 : decode cX7_watch 14 = .ok (.aload_n 0, 1) := by decide +kernel
theorem dX7_watch_15 : decode cX7_watch 15 = .ok (.getfield 26, 3) := by decide +kernel
theorem dX7_watch_18 : decode cX7_watch 18 = .ok (.iload_n 1, 1) := by decide +kernel
theorem dX7_watch_19 : decode cX7_watch 19 = .ok (.invokevirtual 163, 3) := by decide +kernel
theorem dX7_watch_22 : decode cX7_watch 22 = .ok (.ifCond .ne 6, 3) := by decide +kernel
theorem dX7_watch_25 : decode cX7_watch 25 = .ok (.ldc 152, 2) := by decide +kernel
theorem dX7_watch_27 : decode cX7_watch 27 = .ok (.ireturn, 1) := by decide +kernel
theorem dX7_watch_28 : decode cX7_watch 28 = .ok (.aload_n 0, 1) := by decide +kernel
theorem dX7_watch_29 : decode cX7_watch 29 = .ok (.bipush 15, 2) := by decide +kernel
theorem dX7_watch_31 : decode cX7_watch 31 = .ok (.invokevirtual 179, 3) := by decide +kernel
theorem dX7_watch_34 : decode cX7_watch 34 = .ok (.aload_n 0, 1) := by decide +kernel
theorem dX7_watch_35 : decode cX7_watch 35 = .ok (.getfield 51, 3) := by decide +kernel
theorem dX7_watch_38 : decode cX7_watch 38 = .ok (.invokevirtual 186, 3) := by decide +kernel
theorem dX7_watch_41 : decode cX7_watch 41 = .ok (.istore_n 2, 1) := by decide +kernel
theorem dX7_watch_42 : decode cX7_watch 42 = .ok (.aload_n 0, 1) := by decide +kernel
theorem dX7_watch_43 : decode cX7_watch 43 = .ok (.getfield 51, 3) := by decide +kernel
theorem dX7_watch_46 : decode cX7_watch 46 = .ok (.bipush 15, 2) := by decide +kernel
theorem dX7_watch_48 : decode cX7_watch 48 = .ok (.iconst 1, 1) := by decide +kernel
theorem dX7_watch_49 : decode cX7_watch 49 = .ok (.iload_n 1, 1) := by decide +kernel
theorem dX7_watch_50 : decode cX7_watch 50 = .ok (.ishl, 1) := by decide +kernel
theorem dX7_watch_51 : decode cX7_watch 51 = .ok (.iconst (-1), 1) := by decide +kernel
theorem dX7_watch_52 : decode cX7_watch 52 = .ok (.ixor, 1) := by decide +kernel
theorem dX7_watch_53 : decode cX7_watch 53 = .ok (.iand, 1) := by decide +kernel
theorem dX7_watch_54 : decode cX7_watch 54 = .ok (.invokevirtual 257, 3) := by decide +kernel
theorem dX7_watch_57 : decode cX7_watch 57 = .ok (.aload_n 0, 1) := by decide +kernel
theorem dX7_watch_58 : decode cX7_watch 58 = .ok (.getfield 51, 3) := by decide +kernel
theorem dX7_watch_61 : decode cX7_watch 61 = .ok (.iconst 0, 1) := by decide +kernel
theorem dX7_watch_62 : decode cX7_watch 62 = .ok (.putfield 260, 3) := by decide +kernel
theorem dX7_watch_65 : decode cX7_watch 65 = .ok (.aload_n 0, 1) := by decide +kernel
theorem dX7_watch_66 : decode cX7_watch 66 = .ok (.getfield 51, 3) := by decide +kernel
theorem dX7_watch_69 : decode cX7_watch 69 = .ok (.invokevirtual 263, 3) := by decide +kernel
theorem dX7_watch_72 : decode cX7_watch 72 = .ok (.aload_n 0, 1) := by decide +kernel
theorem dX7_watch_73 : decode cX7_watch 73 = .ok (.getfield 51, 3) := by decide +kernel
theorem dX7_watch_76 : decode cX7_watch 76 = .ok (.invokevirtual 186, 3) := by decide +kernel
theorem dX7_watch_79 : decode cX7_watch 79 = .ok (.iload_n 2, 1) := by decide +kernel
theorem dX7_watch_80 : decode cX7_watch 80 = .ok (.isub, 1) := by decide +kernel
theorem dX7_watch_81 : decode cX7_watch 81 = .ok (.ireturn, 1) := by decide +kernel
theorem dX7_days_0 : decode cX7_days 0 = .ok (.aload_n 0, 1) := by decide +kernel
theorem dX7_days_1 : decode cX7_days 1 = .ok (.iload_n 1, 1) := by decide +kernel
theorem dX7_days_2 : decode cX7_days 2 = .ok (.iload_n 2, 1) := by decide +kernel
theorem dX7_days_3 : decode cX7_days 3 = .ok (.iload_n 3, 1) := by decide +kernel
theorem dX7_days_4 : decode cX7_days 4 = .ok (.invokevirtual 266, 3) := by decide +kernel
theorem dX7_days_7 : decode cX7_days 7 = .ok (.istore 4, 2) := by decide +kernel
theorem dX7_days_9 : decode cX7_days 9 = .ok (.iload 4, 2) := by decide +kernel
theorem dX7_days_11 : decode cX7_days 11 = .ok (.ifCond .eq 8, 3) := by decide +kernel
theorem dX7_days_14 : decode cX7_days 14 = .ok (.iload 4, 2) := by decide +kernel
theorem dX7_days_16 : decode cX7_days 16 = .ok (.goto 10, 3) := by decide +kernel
theorem dX7_days_19 : decode cX7_days 19 = .ok (.aload_n 0, 1) := by decide +kernel
theorem dX7_days_20 : decode cX7_days 20 = .ok (.getfield 65, 3) := by decide +kernel
theorem dX7_days_23 : decode cX7_days 23 = .ok (.getfield 269, 3) := by decide +kernel
theorem dX7_days_26 : decode cX7_days 26 = .ok (.ireturn, 1) := by decide +kernel
theorem dX7_daysValue_0 : decode cX7_daysValue 0 = .ok (.iload 4, 2) := by decide +kernel
theorem dX7_daysValue_2 : decode cX7_daysValue 2 = .ok (.iconst (-1), 1) := by decide +kernel
theorem dX7_daysValue_3 : decode cX7_daysValue 3 = .ok (.if_icmp .lt 18, 3) := by decide +kernel
theorem dX7_daysValue_6 : decode cX7_daysValue 6 = .ok (.iload 4, 2) := by decide +kernel
theorem dX7_daysValue_8 : decode cX7_daysValue 8 = .ok (.bipush 6, 2) := by decide +kernel
theorem dX7_daysValue_10 : decode cX7_daysValue 10 = .ok (.if_icmp .ge 11, 3) := by decide +kernel
theorem dX7_daysValue_13 : decode cX7_daysValue 13 = .ok (.iload 5, 2) := by decide +kernel
theorem dX7_daysValue_15 : decode cX7_daysValue 15 = .ok (.invokestatic 196, 3) := by decide +kernel
theorem dX7_daysValue_18 : decode cX7_daysValue 18 = .ok (.ifCond .ne 7, 3) := by decide +kernel
theorem dX7_daysValue_21 : decode cX7_daysValue 21 = .ok (.ldc2_w 272, 3) := by decide +kernel
theorem dX7_daysValue_24 : decode cX7_daysValue 24 = .ok (.lreturn, 1) := by decide +kernel
theorem dX7_daysValue_25 : decode cX7_daysValue 25 = .ok (.aload_n 0, 1) := by decide +kernel
theorem dX7_daysValue_26 : decode cX7_daysValue 26 = .ok (.iload_n 1, 1) := by decide +kernel
theorem dX7_daysValue_27 : decode cX7_daysValue 27 = .ok (.iload_n 2, 1) := by decide +kernel
theorem dX7_daysValue_28 : decode cX7_daysValue 28 = .ok (.iload_n 3, 1) := by decide +kernel
theorem dX7_daysValue_29 : decode cX7_daysValue 29 = .ok (.invokevirtual 266, 3) := by decide +kernel
theorem dX7_daysValue_32 : decode cX7_daysValue 32 = .ok (.istore 6, 2) := by decide +kernel
theorem dX7_daysValue_34 : decode cX7_daysValue 34 = .ok (.iload 6, 2) := by decide +kernel
theorem dX7_daysValue_36 : decode cX7_daysValue 36 = .ok (.ifCond .eq 7, 3) := by decide +kernel
theorem dX7_daysValue_39 : decode cX7_daysValue 39 = .ok (.iload 6, 2) := by decide +kernel
theorem dX7_daysValue_41 : decode cX7_daysValue 41 = .ok (.i2l, 1) := by decide +kernel
theorem dX7_daysValue_42 : decode cX7_daysValue 42 = .ok (.lreturn, 1) := by decide +kernel
theorem dX7_daysValue_43 : decode cX7_daysValue 43 = .ok (.iload 4, 2) := by decide +kernel
theorem dX7_daysValue_45 : decode cX7_daysValue 45 = .ok (.ifCond .ge 26, 3) := by decide +kernel
theorem dX7_daysValue_48 : decode cX7_daysValue 48 = .ok (.iload 5, 2) := by decide +kernel
theorem dX7_daysValue_50 : decode cX7_daysValue 50 = .ok (.ifCond .ne 13, 3) := by decide +kernel
theorem dX7_daysValue_53 : decode cX7_daysValue 53 = .ok (.aload_n 0, 1) := by decide +kernel
theorem dX7_daysValue_54 : decode cX7_daysValue 54 = .ok (.getfield 65, 3) := by decide +kernel
theorem dX7_daysValue_57 : decode cX7_daysValue 57 = .ok (.getfield 274, 3) := by decide +kernel
theorem dX7_daysValue_60 : decode cX7_daysValue 60 = .ok (.goto 10, 3) := by decide +kernel
theorem dX7_daysValue_63 : decode cX7_daysValue 63 = .ok (.aload_n 0, 1) := by decide +kernel
theorem dX7_daysValue_64 : decode cX7_daysValue 64 = .ok (.getfield 65, 3) := by decide +kernel
theorem dX7_daysValue_67 : decode cX7_daysValue 67 = .ok (.getfield 278, 3) := by decide +kernel
theorem dX7_daysValue_70 : decode cX7_daysValue 70 = .ok (.lreturn, 1) := by decide +kernel
theorem dX7_daysValue_71 : decode cX7_daysValue 71 = .ok (.aload_n 0, 1) := by decide +kernel
theorem dX7_daysValue_72 : decode cX7_daysValue 72 = .ok (.getfield 65, 3) := by decide +kernel
theorem dX7_daysValue_75 : decode cX7_daysValue 75 = .ok (.iload 4, 2) := by decide +kernel
theorem dX7_daysValue_77 : decode cX7_daysValue 77 = .ok (.iload 5, 2) := by decide +kernel
theorem dX7_daysValue_79 : decode cX7_daysValue 79 = .ok (.ifCond .ne 7, 3) := by decide +kernel
theorem dX7_daysValue_82 : decode cX7_daysValue 82 = .ok (.iconst 1, 1) := by decide +kernel
theorem dX7_daysValue_83 : decode cX7_daysValue 83 = .ok (.goto 4, 3) := by decide +kernel
theorem dX7_daysValue_86 : decode cX7_daysValue 86 = .ok (.iconst 0, 1) := by decide +kernel
theorem dX7_daysValue_87 : decode cX7_daysValue 87 = .ok (.invokevirtual 281, 3) := by decide +kernel
theorem dX7_daysValue_90 : decode cX7_daysValue 90 = .ok (.lreturn, 1) := by decide +kernel
theorem dX7_shares_0 : decode cX7_shares 0 = .ok (.aload_n 0, 1) := by decide +kernel
theorem dX7_shares_1 : decode cX7_shares 1 = .ok (.iload_n 1, 1) := by decide +kernel
theorem dX7_shares_2 : decode cX7_shares 2 = .ok (.iload_n 2, 1) := by decide +kernel
theorem dX7_shares_3 : decode cX7_shares 3 = .ok (.aload_n 0, 1) := by decide +kernel
theorem dX7_shares_4 : decode cX7_shares 4 = .ok (.getfield 26, 3) := by decide +kernel
theorem dX7_shares_7 : decode cX7_shares 7 = .ok (.getfield 285, 3) := by decide +kernel
theorem dX7_shares_10 : decode cX7_shares 10 = .ok (.iconst 1, 1) := by decide +kernel
theorem dX7_shares_11 : decode cX7_shares 11 = .ok (.invokevirtual 288, 3) := by decide +kernel
theorem dX7_shares_14 : decode cX7_shares 14 = .ok (.istore_n 3, 1) := by decide +kernel
theorem dX7_shares_15 : decode cX7_shares 15 = .ok (.iload_n 3, 1) := by decide +kernel
theorem dX7_shares_16 : decode cX7_shares 16 = .ok (.ifCond .eq 5, 3) := by decide +kernel
theorem dX7_shares_19 : decode cX7_shares 19 = .ok (.iload_n 3, 1) := by decide +kernel
theorem dX7_shares_20 : decode cX7_shares 20 = .ok (.ireturn, 1) := by decide +kernel
theorem dX7_shares_21 : decode cX7_shares 21 = .ok (.aload_n 0, 1) := by decide +kernel
theorem dX7_shares_22 : decode cX7_shares 22 = .ok (.bipush 15, 2) := by decide +kernel
theorem dX7_shares_24 : decode cX7_shares 24 = .ok (.invokevirtual 179, 3) := by decide +kernel
theorem dX7_shares_27 : decode cX7_shares 27 = .ok (.iconst 1, 1) := by decide +kernel
theorem dX7_shares_28 : decode cX7_shares 28 = .ok (.aload_n 0, 1) := by decide +kernel
theorem dX7_shares_29 : decode cX7_shares 29 = .ok (.getfield 26, 3) := by decide +kernel
theorem dX7_shares_32 : decode cX7_shares 32 = .ok (.getfield 285, 3) := by decide +kernel
theorem dX7_shares_35 : decode cX7_shares 35 = .ok (.ishl, 1) := by decide +kernel
theorem dX7_shares_36 : decode cX7_shares 36 = .ok (.iconst 1, 1) := by decide +kernel
theorem dX7_shares_37 : decode cX7_shares 37 = .ok (.isub, 1) := by decide +kernel
theorem dX7_shares_38 : decode cX7_shares 38 = .ok (.istore 4, 2) := by decide +kernel
theorem dX7_shares_40 : decode cX7_shares 40 = .ok (.aload_n 0, 1) := by decide +kernel
theorem dX7_shares_41 : decode cX7_shares 41 = .ok (.getfield 12, 3) := by decide +kernel
theorem dX7_shares_44 : decode cX7_shares 44 = .ok (.iload_n 1, 1) := by decide +kernel
theorem dX7_shares_45 : decode cX7_shares 45 = .ok (.iload_n 2, 1) := by decide +kernel
theorem dX7_shares_46 : decode cX7_shares 46 = .ok (.iload 4, 2) := by decide +kernel
theorem dX7_shares_48 : decode cX7_shares 48 = .ok (.invokevirtual 292, 3) := by decide +kernel
theorem dX7_shares_51 : decode cX7_shares 51 = .ok (.aload_n 0, 1) := by decide +kernel
theorem dX7_shares_52 : decode cX7_shares 52 = .ok (.getfield 51, 3) := by decide +kernel
theorem dX7_shares_55 : decode cX7_shares 55 = .ok (.invokevirtual 186, 3) := by decide +kernel
theorem dX7_shares_58 : decode cX7_shares 58 = .ok (.i2l, 1) := by decide +kernel
theorem dX7_shares_59 : decode cX7_shares 59 = .ok (.lcmp, 1) := by decide +kernel
theorem dX7_shares_60 : decode cX7_shares 60 = .ok (.ifCond .eq 6, 3) := by decide +kernel
theorem dX7_shares_63 : decode cX7_shares 63 = .ok (.ldc 227, 2) := by decide +kernel
theorem dX7_shares_65 : decode cX7_shares 65 = .ok (.ireturn, 1) := by decide +kernel
theorem dX7_shares_66 : decode cX7_shares 66 = .ok (.iconst 1, 1) := by decide +kernel
theorem dX7_shares_67 : decode cX7_shares 67 = .ok (.istore 5, 2) := by decide +kernel
theorem dX7_shares_69 : decode cX7_shares 69 = .ok (.iload 5, 2) := by decide +kernel
theorem dX7_shares_71 : decode cX7_shares 71 = .ok (.iload 4, 2) := by decide +kernel
theorem dX7_shares_73 : decode cX7_shares 73 = .ok (.if_icmp .gt 41, 3) := by decide +kernel
theorem dX7_shares_76 : decode cX7_shares 76 = .ok (.aload_n 0, 1) := by decide +kernel
theorem dX7_shares_77 : decode cX7_shares 77 = .ok (.iload 5, 2) := by decide +kernel
theorem dX7_shares_79 : decode cX7_shares 79 = .ok (.invokevirtual 179, 3) := by decide +kernel
theorem dX7_shares_82 : decode cX7_shares 82 = .ok (.aload_n 0, 1) := by decide +kernel
theorem dX7_shares_83 : decode cX7_shares 83 = .ok (.getfield 51, 3) := by decide +kernel
theorem dX7_shares_86 : decode cX7_shares 86 = .ok (.invokevirtual 186, 3) := by decide +kernel
theorem dX7_shares_89 : decode cX7_shares 89 = .ok (.i2l, 1) := by decide +kernel
theorem dX7_shares_90 : decode cX7_shares 90 = .ok (.aload_n 0, 1) := by decide +kernel
theorem dX7_shares_91 : decode cX7_shares 91 = .ok (.getfield 12, 3) := by decide +kernel
theorem dX7_shares_94 : decode cX7_shares 94 = .ok (.iload_n 1, 1) := by decide +kernel
theorem dX7_shares_95 : decode cX7_shares 95 = .ok (.iload_n 2, 1) := by decide +kernel
theorem dX7_shares_96 : decode cX7_shares 96 = .ok (.iload 5, 2) := by decide +kernel
theorem dX7_shares_98 : decode cX7_shares 98 = .ok (.invokevirtual 292, 3) := by decide +kernel
theorem dX7_shares_101 : decode cX7_shares 101 = .ok (.lcmp, 1) := by decide +kernel
theorem dX7_shares_102 : decode cX7_shares 102 = .ok (.ifCond .le 6, 3) := by decide +kernel
theorem dX7_shares_105 : decode cX7_shares 105 = .ok (.iload 5, 2) := by decide +kernel
theorem dX7_shares_107 : decode cX7_shares 107 = .ok (.ireturn, 1) := by decide +kernel
theorem dX7_shares_108 : decode cX7_shares 108 = .ok (.iinc 5 1, 3) := by decide +kernel
theorem dX7_shares_111 : decode cX7_shares 111 = .ok (.goto (-42), 3) := by decide +kernel
theorem dX7_shares_114 : decode cX7_shares 114 = .ok (.iconst 0, 1) := by decide +kernel
theorem dX7_shares_115 : decode cX7_shares 115 = .ok (.ireturn, 1) := by decide +kernel
theorem dX7_bare_0 : decode cX7_bare 0 = .ok (.aload_n 0, 1) := by decide +kernel
theorem dX7_bare_1 : decode cX7_bare 1 = .ok (.getfield 26, 3) := by decide +kernel
theorem dX7_bare_4 : decode cX7_bare 4 = .ok (.getfield 172, 3) := by decide +kernel
theorem dX7_bare_7 : decode cX7_bare 7 = .ok (.ifCond .ne 6, 3) := by decide +kernel
theorem dX7_bare_10 : decode cX7_bare 10 = .ok (.ldc 152, 2) := by decide +kernel
theorem dX7_bare_12 : decode cX7_bare 12 = .ok (.ireturn, 1) := by decide +kernel
theorem dX7_bare_13 : decode cX7_bare 13 = .ok (.iload_n 1, 1) := by decide +kernel
theorem dX7_bare_14 : decode cX7_bare 14 = .ok (.invokestatic 196, 3) := by decide +kernel
theorem dX7_bare_17 : decode cX7_bare 17 = .ok (.ifCond .ne 6, 3) := by decide +kernel
theorem dX7_bare_20 : decode cX7_bare 20 = .ok (.ldc 87, 2) := by decide +kernel
theorem dX7_bare_22 : decode cX7_bare 22 = .ok (.ireturn, 1) := by decide +kernel
theorem dX7_bare_23 : decode cX7_bare 23 = .ok (.aload_n 0, 1) := by decide +kernel
theorem dX7_bare_24 : decode cX7_bare 24 = .ok (.getfield 51, 3) := by decide +kernel
theorem dX7_bare_27 : decode cX7_bare 27 = .ok (.bipush 15, 2) := by decide +kernel
theorem dX7_bare_29 : decode cX7_bare 29 = .ok (.invokevirtual 257, 3) := by decide +kernel
theorem dX7_bare_32 : decode cX7_bare 32 = .ok (.iconst 0, 1) := by decide +kernel
theorem dX7_bare_33 : decode cX7_bare 33 = .ok (.istore_n 2, 1) := by decide +kernel
theorem dX7_bare_34 : decode cX7_bare 34 = .ok (.iconst 0, 1) := by decide +kernel
theorem dX7_bare_35 : decode cX7_bare 35 = .ok (.istore_n 3, 1) := by decide +kernel
theorem dX7_bare_36 : decode cX7_bare 36 = .ok (.iload_n 3, 1) := by decide +kernel
theorem dX7_bare_37 : decode cX7_bare 37 = .ok (.bipush 40, 2) := by decide +kernel
theorem dX7_bare_39 : decode cX7_bare 39 = .ok (.if_icmp .gt 46, 3) := by decide +kernel
theorem dX7_bare_42 : decode cX7_bare 42 = .ok (.aload_n 0, 1) := by decide +kernel
theorem dX7_bare_43 : decode cX7_bare 43 = .ok (.getfield 51, 3) := by decide +kernel
theorem dX7_bare_46 : decode cX7_bare 46 = .ok (.invokevirtual 263, 3) := by decide +kernel
theorem dX7_bare_49 : decode cX7_bare 49 = .ok (.aload_n 0, 1) := by decide +kernel
theorem dX7_bare_50 : decode cX7_bare 50 = .ok (.getfield 51, 3) := by decide +kernel
theorem dX7_bare_53 : decode cX7_bare 53 = .ok (.invokevirtual 186, 3) := by decide +kernel
theorem dX7_bare_56 : decode cX7_bare 56 = .ok (.ifCond .ne 13, 3) := by decide +kernel
theorem dX7_bare_59 : decode cX7_bare 59 = .ok (.iload_n 1, 1) := by decide +kernel
theorem dX7_bare_60 : decode cX7_bare 60 = .ok (.ifCond .ne 7, 3) := by decide +kernel
theorem dX7_bare_63 : decode cX7_bare 63 = .ok (.iload_n 3, 1) := by decide +kernel
theorem dX7_bare_64 : decode cX7_bare 64 = .ok (.goto 4, 3) := by decide +kernel
theorem dX7_bare_67 : decode cX7_bare 67 = .ok (.iload_n 2, 1) := by decide +kernel
theorem dX7_bare_68 : decode cX7_bare 68 = .ok (.ireturn, 1) := by decide +kernel
theorem dX7_bare_69 : decode cX7_bare 69 = .ok (.iload_n 2, 1) := by decide +kernel
theorem dX7_bare_70 : decode cX7_bare 70 = .ok (.aload_n 0, 1) := by decide +kernel
theorem dX7_bare_71 : decode cX7_bare 71 = .ok (.getfield 51, 3) := by decide +kernel
theorem dX7_bare_74 : decode cX7_bare 74 = .ok (.invokevirtual 186, 3) := by decide +kernel
theorem dX7_bare_77 : decode cX7_bare 77 = .ok (.iadd, 1) := by decide +kernel
theorem dX7_bare_78 : decode cX7_bare 78 = .ok (.istore_n 2, 1) := by decide +kernel
theorem dX7_bare_79 : decode cX7_bare 79 = .ok (.iinc 3 1, 3) := by decide +kernel
theorem dX7_bare_82 : decode cX7_bare 82 = .ok (.goto (-46), 3) := by decide +kernel
theorem dX7_bare_85 : decode cX7_bare 85 = .ok (.ldc 227, 2) := by decide +kernel
theorem dX7_bare_87 : decode cX7_bare 87 = .ok (.ireturn, 1) := by decide +kernel
theorem dX7_who_0 : decode cX7_who 0 = .ok (.aload_n 0, 1) := by decide +kernel
theorem dX7_who_1 : decode cX7_who 1 = .ok (.iload_n 1, 1) := by decide +kernel
theorem dX7_who_2 : decode cX7_who 2 = .ok (.iload_n 2, 1) := by decide +kernel
theorem dX7_who_3 : decode cX7_who 3 = .ok (.aload_n 0, 1) := by decide +kernel
theorem dX7_who_4 : decode cX7_who 4 = .ok (.getfield 26, 3) := by decide +kernel
theorem dX7_who_7 : decode cX7_who 7 = .ok (.getfield 139, 3) := by decide +kernel
theorem dX7_who_10 : decode cX7_who 10 = .ok (.iload_n 3, 1) := by decide +kernel
theorem dX7_who_11 : decode cX7_who 11 = .ok (.invokestatic 196, 3) := by decide +kernel
theorem dX7_who_14 : decode cX7_who 14 = .ok (.invokevirtual 288, 3) := by decide +kernel
theorem dX7_who_17 : decode cX7_who 17 = .ok (.istore 4, 2) := by decide +kernel
theorem dX7_who_19 : decode cX7_who 19 = .ok (.iload 4, 2) := by decide +kernel
theorem dX7_who_21 : decode cX7_who 21 = .ok (.ifCond .eq 6, 3) := by decide +kernel
theorem dX7_who_24 : decode cX7_who 24 = .ok (.iload 4, 2) := by decide +kernel
theorem dX7_who_26 : decode cX7_who 26 = .ok (.ireturn, 1) := by decide +kernel
theorem dX7_who_27 : decode cX7_who 27 = .ok (.iconst 0, 1) := by decide +kernel
theorem dX7_who_28 : decode cX7_who 28 = .ok (.istore 5, 2) := by decide +kernel
theorem dX7_who_30 : decode cX7_who 30 = .ok (.ldc 227, 2) := by decide +kernel
theorem dX7_who_32 : decode cX7_who 32 = .ok (.istore 6, 2) := by decide +kernel
theorem dX7_who_34 : decode cX7_who 34 = .ok (.iconst 1, 1) := by decide +kernel
theorem dX7_who_35 : decode cX7_who 35 = .ok (.aload_n 0, 1) := by decide +kernel
theorem dX7_who_36 : decode cX7_who 36 = .ok (.getfield 26, 3) := by decide +kernel
theorem dX7_who_39 : decode cX7_who 39 = .ok (.getfield 285, 3) := by decide +kernel
theorem dX7_who_42 : decode cX7_who 42 = .ok (.ishl, 1) := by decide +kernel
theorem dX7_who_43 : decode cX7_who 43 = .ok (.iconst 1, 1) := by decide +kernel
theorem dX7_who_44 : decode cX7_who 44 = .ok (.isub, 1) := by decide +kernel
theorem dX7_who_45 : decode cX7_who 45 = .ok (.istore 7, 2) := by decide +kernel
theorem dX7_who_47 : decode cX7_who 47 = .ok (.iload 7, 2) := by decide +kernel
theorem dX7_who_49 : decode cX7_who 49 = .ok (.iconst 1, 1) := by decide +kernel
theorem dX7_who_50 : decode cX7_who 50 = .ok (.if_icmp .lt 46, 3) := by decide +kernel
theorem dX7_who_53 : decode cX7_who 53 = .ok (.aload_n 0, 1) := by decide +kernel
theorem dX7_who_54 : decode cX7_who 54 = .ok (.getfield 26, 3) := by decide +kernel
theorem dX7_who_57 : decode cX7_who 57 = .ok (.iload 7, 2) := by decide +kernel
theorem dX7_who_59 : decode cX7_who 59 = .ok (.invokevirtual 296, 3) := by decide +kernel
theorem dX7_who_62 : decode cX7_who 62 = .ok (.ifCond .ne 6, 3) := by decide +kernel
theorem dX7_who_65 : decode cX7_who 65 = .ok (.goto 25, 3) := by decide +kernel
theorem dX7_who_68 : decode cX7_who 68 = .ok (.aload_n 0, 1) := by decide +kernel
theorem dX7_who_69 : decode cX7_who 69 = .ok (.iload 7, 2) := by decide +kernel
theorem dX7_who_71 : decode cX7_who 71 = .ok (.invokevirtual 179, 3) := by decide +kernel
theorem dX7_who_74 : decode cX7_who 74 = .ok (.aload_n 0, 1) := by decide +kernel
theorem dX7_who_75 : decode cX7_who 75 = .ok (.iload_n 1, 1) := by decide +kernel
theorem dX7_who_76 : decode cX7_who 76 = .ok (.iload_n 2, 1) := by decide +kernel
theorem dX7_who_77 : decode cX7_who 77 = .ok (.invokevirtual 299, 3) := by decide +kernel
theorem dX7_who_80 : decode cX7_who 80 = .ok (.ifCond .eq 10, 3) := by decide +kernel
theorem dX7_who_83 : decode cX7_who 83 = .ok (.iinc 5 1, 3) := by decide +kernel
theorem dX7_who_86 : decode cX7_who 86 = .ok (.iload 7, 2) := by decide +kernel
theorem dX7_who_88 : decode cX7_who 88 = .ok (.istore 6, 2) := by decide +kernel
theorem dX7_who_90 : decode cX7_who 90 = .ok (.iinc 7 (-1), 3) := by decide +kernel
theorem dX7_who_93 : decode cX7_who 93 = .ok (.goto (-46), 3) := by decide +kernel
theorem dX7_who_96 : decode cX7_who 96 = .ok (.iload_n 3, 1) := by decide +kernel
theorem dX7_who_97 : decode cX7_who 97 = .ok (.ifCond .ne 8, 3) := by decide +kernel
theorem dX7_who_100 : decode cX7_who 100 = .ok (.iload 5, 2) := by decide +kernel
theorem dX7_who_102 : decode cX7_who 102 = .ok (.goto 5, 3) := by decide +kernel
theorem dX7_who_105 : decode cX7_who 105 = .ok (.iload 6, 2) := by decide +kernel
theorem dX7_who_107 : decode cX7_who 107 = .ok (.ireturn, 1) := by decide +kernel
theorem dX7_sleep_0 : decode cX7_sleep 0 = .ok (.iload_n 1, 1) := by decide +kernel
theorem dX7_sleep_1 : decode cX7_sleep 1 = .ok (.invokestatic 193, 3) := by decide +kernel
theorem dX7_sleep_4 : decode cX7_sleep 4 = .ok (.ifCond .eq 10, 3) := by decide +kernel
theorem dX7_sleep_7 : decode cX7_sleep 7 = .ok (.iload_n 2, 1) := by decide +kernel
theorem dX7_sleep_8 : decode cX7_sleep 8 = .ok (.invokestatic 196, 3) := by decide +kernel
theorem dX7_sleep_11 : decode cX7_sleep 11 = .ok (.ifCond .ne 6, 3) := by decide +kernel
theorem dX7_sleep_14 : decode cX7_sleep 14 = .ok (.ldc 87, 2) := by decide +kernel
theorem dX7_sleep_16 : decode cX7_sleep 16 = .ok (.ireturn, 1) := by decide +kernel
theorem dX7_sleep_17 : decode cX7_sleep 17 = .ok (.aload_n 0, 1) := by decide +kernel
theorem dX7_sleep_18 : decode cX7_sleep 18 = .ok (.getfield 58, 3) := by decide +kernel
theorem dX7_sleep_21 : decode cX7_sleep 21 = .ok (.iload_n 1, 1) := by decide +kernel
theorem dX7_sleep_22 : decode cX7_sleep 22 = .ok (.invokevirtual 303, 3) := by decide +kernel
theorem dX7_sleep_25 : decode cX7_sleep 25 = .ok (.istore_n 3, 1) := by decide +kernel
theorem dX7_sleep_26 : decode cX7_sleep 26 = .ok (.iload_n 3, 1) := by decide +kernel
theorem dX7_sleep_27 : decode cX7_sleep 27 = .ok (.ifCond .ne 6, 3) := by decide +kernel
theorem dX7_sleep_30 : decode cX7_sleep 30 = .ok (.ldc 227, 2) := by decide +kernel
theorem dX7_sleep_32 : decode cX7_sleep 32 = .ok (.ireturn, 1) := by decide +kernel
theorem dX7_sleep_33 : decode cX7_sleep 33 = .ok (.aload_n 0, 1) := by decide +kernel
theorem dX7_sleep_34 : decode cX7_sleep 34 = .ok (.getfield 58, 3) := by decide +kernel
theorem dX7_sleep_37 : decode cX7_sleep 37 = .ok (.iload_n 1, 1) := by decide +kernel
theorem dX7_sleep_38 : decode cX7_sleep 38 = .ok (.invokevirtual 306, 3) := by decide +kernel
theorem dX7_sleep_41 : decode cX7_sleep 41 = .ok (.istore 4, 2) := by decide +kernel
theorem dX7_sleep_43 : decode cX7_sleep 43 = .ok (.iload_n 2, 1) := by decide +kernel
theorem dX7_sleep_44 : decode cX7_sleep 44 = .ok (.ifCond .ne 8, 3) := by decide +kernel
theorem dX7_sleep_47 : decode cX7_sleep 47 = .ok (.iload 4, 2) := by decide +kernel
theorem dX7_sleep_49 : decode cX7_sleep 49 = .ok (.goto 4, 3) := by decide +kernel
theorem dX7_sleep_52 : decode cX7_sleep 52 = .ok (.iload_n 3, 1) := by decide +kernel
theorem dX7_sleep_53 : decode cX7_sleep 53 = .ok (.iload 4, 2) := by decide +kernel
theorem dX7_sleep_55 : decode cX7_sleep 55 = .ok (.i2l, 1) := by decide +kernel
theorem dX7_sleep_56 : decode cX7_sleep 56 = .ok (.iload_n 3, 1) := by decide +kernel
theorem dX7_sleep_57 : decode cX7_sleep 57 = .ok (.i2l, 1) := by decide +kernel
theorem dX7_sleep_58 : decode cX7_sleep 58 = .ok (.invokestatic 309, 3) := by decide +kernel
theorem dX7_sleep_61 : decode cX7_sleep 61 = .ok (.l2i, 1) := by decide +kernel
theorem dX7_sleep_62 : decode cX7_sleep 62 = .ok (.idiv, 1) := by decide +kernel
theorem dX7_sleep_63 : decode cX7_sleep 63 = .ok (.ireturn, 1) := by decide +kernel
theorem dX7_quietest_0 : decode cX7_quietest 0 = .ok (.aload_n 0, 1) := by decide +kernel
theorem dX7_quietest_1 : decode cX7_quietest 1 = .ok (.getfield 58, 3) := by decide +kernel
theorem dX7_quietest_4 : decode cX7_quietest 4 = .ok (.invokevirtual 313, 3) := by decide +kernel
theorem dX7_quietest_7 : decode cX7_quietest 7 = .ok (.ireturn, 1) := by decide +kernel
theorem dX7_image_0 : decode cX7_image 0 = .ok (.iload_n 1, 1) := by decide +kernel
theorem dX7_image_1 : decode cX7_image 1 = .ok (.ifCond .lt 8, 3) := by decide +kernel
theorem dX7_image_4 : decode cX7_image 4 = .ok (.iload_n 1, 1) := by decide +kernel
theorem dX7_image_5 : decode cX7_image 5 = .ok (.iconst 2, 1) := by decide +kernel
theorem dX7_image_6 : decode cX7_image 6 = .ok (.if_icmp .lt 6, 3) := by decide +kernel
theorem dX7_image_9 : decode cX7_image 9 = .ok (.ldc 87, 2) := by decide +kernel
theorem dX7_image_11 : decode cX7_image 11 = .ok (.ireturn, 1) := by decide +kernel
theorem dX7_image_12 : decode cX7_image 12 = .ok (.aload_n 0, 1) := by decide +kernel
theorem dX7_image_13 : decode cX7_image 13 = .ok (.getfield 26, 3) := by decide +kernel
theorem dX7_image_16 : decode cX7_image 16 = .ok (.getfield 172, 3) := by decide +kernel
theorem dX7_image_19 : decode cX7_image 19 = .ok (.ifCond .ne 6, 3) := by decide +kernel
theorem dX7_image_22 : decode cX7_image 22 = .ok (.ldc 152, 2) := by decide +kernel
theorem dX7_image_24 : decode cX7_image 24 = .ok (.ireturn, 1) := by decide +kernel
theorem dX7_image_25 : decode cX7_image 25 = .ok (.aload_n 0, 1) := by decide +kernel
theorem dX7_image_26 : decode cX7_image 26 = .ok (.iload_n 1, 1) := by decide +kernel
theorem dX7_image_27 : decode cX7_image 27 = .ok (.invokevirtual 316, 3) := by decide +kernel
theorem dX7_image_30 : decode cX7_image 30 = .ok (.aload_n 0, 1) := by decide +kernel
theorem dX7_image_31 : decode cX7_image 31 = .ok (.getfield 26, 3) := by decide +kernel
theorem dX7_image_34 : decode cX7_image 34 = .ok (.invokevirtual 133, 3) := by decide +kernel
theorem dX7_image_37 : decode cX7_image 37 = .ok (.iconst 1, 1) := by decide +kernel
theorem dX7_image_38 : decode cX7_image 38 = .ok (.ireturn, 1) := by decide +kernel
theorem dX7_restore_0 : decode cX7_restore 0 = .ok (.iload_n 1, 1) := by decide +kernel
theorem dX7_restore_1 : decode cX7_restore 1 = .ok (.ifCond .lt 8, 3) := by decide +kernel
theorem dX7_restore_4 : decode cX7_restore 4 = .ok (.iload_n 1, 1) := by decide +kernel
theorem dX7_restore_5 : decode cX7_restore 5 = .ok (.iconst 2, 1) := by decide +kernel
theorem dX7_restore_6 : decode cX7_restore 6 = .ok (.if_icmp .lt 6, 3) := by decide +kernel
theorem dX7_restore_9 : decode cX7_restore 9 = .ok (.ldc 87, 2) := by decide +kernel
theorem dX7_restore_11 : decode cX7_restore 11 = .ok (.ireturn, 1) := by decide +kernel
theorem dX7_restore_12 : decode cX7_restore 12 = .ok (.aload_n 0, 1) := by decide +kernel
theorem dX7_restore_13 : decode cX7_restore 13 = .ok (.iload_n 1, 1) := by decide +kernel
theorem dX7_restore_14 : decode cX7_restore 14 = .ok (.invokevirtual 316, 3) := by decide +kernel
theorem dX7_restore_17 : decode cX7_restore 17 = .ok (.getfield 172, 3) := by decide +kernel
theorem dX7_restore_20 : decode cX7_restore 20 = .ok (.ifCond .ne 6, 3) := by decide +kernel
theorem dX7_restore_23 : decode cX7_restore 23 = .ok (.ldc 152, 2) := by decide +kernel
theorem dX7_restore_25 : decode cX7_restore 25 = .ok (.ireturn, 1) := by decide +kernel
theorem dX7_restore_26 : decode cX7_restore 26 = .ok (.aload_n 0, 1) := by decide +kernel
theorem dX7_restore_27 : decode cX7_restore 27 = .ok (.getfield 26, 3) := by decide +kernel
theorem dX7_restore_30 : decode cX7_restore 30 = .ok (.aload_n 0, 1) := by decide +kernel
theorem dX7_restore_31 : decode cX7_restore 31 = .ok (.iload_n 1, 1) := by decide +kernel
theorem dX7_restore_32 : decode cX7_restore 32 = .ok (.invokevirtual 316, 3) := by decide +kernel
theorem dX7_restore_35 : decode cX7_restore 35 = .ok (.invokevirtual 133, 3) := by decide +kernel
theorem dX7_restore_38 : decode cX7_restore 38 = .ok (.aload_n 0, 1) := by decide +kernel
theorem dX7_restore_39 : decode cX7_restore 39 = .ok (.getfield 42, 3) := by decide +kernel
theorem dX7_restore_42 : decode cX7_restore 42 = .ok (.invokevirtual 136, 3) := by decide +kernel
theorem dX7_restore_45 : decode cX7_restore 45 = .ok (.iconst 1, 1) := by decide +kernel
theorem dX7_restore_46 : decode cX7_restore 46 = .ok (.ireturn, 1) := by decide +kernel
theorem dX7_kind_0 : decode cX7_kind 0 = .ok (.aload_n 0, 1) := by decide +kernel
theorem dX7_kind_1 : decode cX7_kind 1 = .ok (.getfield 26, 3) := by decide +kernel
theorem dX7_kind_4 : decode cX7_kind 4 = .ok (.iload_n 1, 1) := by decide +kernel
theorem dX7_kind_5 : decode cX7_kind 5 = .ok (.invokevirtual 153, 3) := by decide +kernel
theorem dX7_kind_8 : decode cX7_kind 8 = .ok (.ifCond .eq 15, 3) := by decide +kernel
theorem dX7_kind_11 : decode cX7_kind 11 = .ok (.aload_n 0, 1) := by decide +kernel
theorem dX7_kind_12 : decode cX7_kind 12 = .ok (.getfield 26, 3) := by decide +kernel
theorem dX7_kind_15 : decode cX7_kind 15 = .ok (.getfield 320, 3) := by decide +kernel
theorem dX7_kind_18 : decode cX7_kind 18 = .ok (.iload_n 1, 1) := by decide +kernel
theorem dX7_kind_19 : decode cX7_kind 19 = .ok (.iaload, 1) := by decide +kernel
theorem dX7_kind_20 : decode cX7_kind 20 = .ok (.goto 5, 3) := by decide +kernel
theorem dX7_kind_23 : decode cX7_kind 23 = .ok (.ldc 87, 2) := by decide +kernel
theorem dX7_kind_25 : decode cX7_kind 25 = .ok (.ireturn, 1) := by decide +kernel
theorem dX7_as_0 : decode cX7_as 0 = .ok (.aload_n 0, 1) := by decide +kernel
theorem dX7_as_1 : decode cX7_as 1 = .ok (.getfield 26, 3) := by decide +kernel
theorem dX7_as_4 : decode cX7_as 4 = .ok (.iload_n 1, 1) := by decide +kernel
theorem dX7_as_5 : decode cX7_as 5 = .ok (.invokevirtual 153, 3) := by decide +kernel
theorem dX7_as_8 : decode cX7_as 8 = .ok (.ifCond .eq 13, 3) := by decide +kernel
theorem dX7_as_11 : decode cX7_as 11 = .ok (.iload_n 2, 1) := by decide +kernel
theorem dX7_as_12 : decode cX7_as 12 = .ok (.ifCond .lt 9, 3) := by decide +kernel
theorem dX7_as_15 : decode cX7_as 15 = .ok (.iload_n 2, 1) := by decide +kernel
theorem dX7_as_16 : decode cX7_as 16 = .ok (.bipush 6, 2) := by decide +kernel
theorem dX7_as_18 : decode cX7_as 18 = .ok (.if_icmp .lt 6, 3) := by decide +kernel
theorem dX7_as_21 : decode cX7_as 21 = .ok (.ldc 87, 2) := by decide +kernel
theorem dX7_as_23 : decode cX7_as 23 = .ok (.ireturn, 1) := by decide +kernel
theorem dX7_as_24 : decode cX7_as 24 = .ok (.aload_n 0, 1) := by decide +kernel
theorem dX7_as_25 : decode cX7_as 25 = .ok (.getfield 26, 3) := by decide +kernel
theorem dX7_as_28 : decode cX7_as 28 = .ok (.getfield 320, 3) := by decide +kernel
theorem dX7_as_31 : decode cX7_as 31 = .ok (.iload_n 1, 1) := by decide +kernel
theorem dX7_as_32 : decode cX7_as 32 = .ok (.iaload, 1) := by decide +kernel
theorem dX7_as_33 : decode cX7_as 33 = .ok (.iload_n 2, 1) := by decide +kernel
theorem dX7_as_34 : decode cX7_as 34 = .ok (.invokestatic 323, 3) := by decide +kernel
theorem dX7_as_37 : decode cX7_as 37 = .ok (.ifCond .eq 11, 3) := by decide +kernel
theorem dX7_as_40 : decode cX7_as 40 = .ok (.aload_n 0, 1) := by decide +kernel
theorem dX7_as_41 : decode cX7_as 41 = .ok (.iload_n 1, 1) := by decide +kernel
theorem dX7_as_42 : decode cX7_as 42 = .ok (.invokevirtual 96, 3) := by decide +kernel
theorem dX7_as_45 : decode cX7_as 45 = .ok (.goto 8, 3) := by decide +kernel
theorem dX7_as_48 : decode cX7_as 48 = .ok (.aload_n 0, 1) := by decide +kernel
theorem dX7_as_49 : decode cX7_as 49 = .ok (.iconst 3, 1) := by decide +kernel
theorem dX7_as_50 : decode cX7_as 50 = .ok (.invokevirtual 88, 3) := by decide +kernel
theorem dX7_as_53 : decode cX7_as 53 = .ok (.ireturn, 1) := by decide +kernel
theorem dX7_ask_0 : decode cX7_ask 0 = .ok (.aload_n 0, 1) := by decide +kernel
theorem dX7_ask_1 : decode cX7_ask 1 = .ok (.getfield 26, 3) := by decide +kernel
theorem dX7_ask_4 : decode cX7_ask 4 = .ok (.iload_n 1, 1) := by decide +kernel
theorem dX7_ask_5 : decode cX7_ask 5 = .ok (.invokevirtual 153, 3) := by decide +kernel
theorem dX7_ask_8 : decode cX7_ask 8 = .ok (.ifCond .eq 10, 3) := by decide +kernel
theorem dX7_ask_11 : decode cX7_ask 11 = .ok (.iload_n 2, 1) := by decide +kernel
theorem dX7_ask_12 : decode cX7_ask 12 = .ok (.invokestatic 196, 3) := by decide +kernel
theorem dX7_ask_15 : decode cX7_ask 15 = .ok (.ifCond .ne 6, 3) := by decide +kernel
theorem dX7_ask_18 : decode cX7_ask 18 = .ok (.ldc 87, 2) := by decide +kernel
theorem dX7_ask_20 : decode cX7_ask 20 = .ok (.ireturn, 1) := by decide +kernel
theorem dX7_ask_21 : decode cX7_ask 21 = .ok (.aload_n 0, 1) := by decide +kernel
theorem dX7_ask_22 : decode cX7_ask 22 = .ok (.iconst 0, 1) := by decide +kernel
theorem dX7_ask_23 : decode cX7_ask 23 = .ok (.putfield 76, 3) := by decide +kernel
theorem dX7_ask_26 : decode cX7_ask 26 = .ok (.aload_n 0, 1) := by decide +kernel
theorem dX7_ask_27 : decode cX7_ask 27 = .ok (.aload_n 0, 1) := by decide +kernel
theorem dX7_ask_28 : decode cX7_ask 28 = .ok (.iload_n 1, 1) := by decide +kernel
theorem dX7_ask_29 : decode cX7_ask 29 = .ok (.iload_n 2, 1) := by decide +kernel
theorem dX7_ask_30 : decode cX7_ask 30 = .ok (.invokevirtual 326, 3) := by decide +kernel
theorem dX7_ask_33 : decode cX7_ask 33 = .ok (.iload_n 1, 1) := by decide +kernel
theorem dX7_ask_34 : decode cX7_ask 34 = .ok (.iconst 0, 1) := by decide +kernel
theorem dX7_ask_35 : decode cX7_ask 35 = .ok (.invokevirtual 329, 3) := by decide +kernel
theorem dX7_ask_38 : decode cX7_ask 38 = .ok (.ireturn, 1) := by decide +kernel
theorem dX7_trace_0 : decode cX7_trace 0 = .ok (.iload_n 1, 1) := by decide +kernel
theorem dX7_trace_1 : decode cX7_trace 1 = .ok (.ifCond .lt 20, 3) := by decide +kernel
theorem dX7_trace_4 : decode cX7_trace 4 = .ok (.iload_n 1, 1) := by decide +kernel
theorem dX7_trace_5 : decode cX7_trace 5 = .ok (.aload_n 0, 1) := by decide +kernel
theorem dX7_trace_6 : decode cX7_trace 6 = .ok (.getfield 76, 3) := by decide +kernel
theorem dX7_trace_9 : decode cX7_trace 9 = .ok (.if_icmp .ge 12, 3) := by decide +kernel
theorem dX7_trace_12 : decode cX7_trace 12 = .ok (.aload_n 0, 1) := by decide +kernel
theorem dX7_trace_13 : decode cX7_trace 13 = .ok (.getfield 73, 3) := by decide +kernel
theorem dX7_trace_16 : decode cX7_trace 16 = .ok (.iload_n 1, 1) := by decide +kernel
theorem dX7_trace_17 : decode cX7_trace 17 = .ok (.iaload, 1) := by decide +kernel
theorem dX7_trace_18 : decode cX7_trace 18 = .ok (.goto 5, 3) := by decide +kernel
theorem dX7_trace_21 : decode cX7_trace 21 = .ok (.ldc 227, 2) := by decide +kernel
theorem dX7_trace_23 : decode cX7_trace 23 = .ok (.ireturn, 1) := by decide +kernel
theorem dX7_count_0 : decode cX7_count 0 = .ok (.iload_n 1, 1) := by decide +kernel
theorem dX7_count_1 : decode cX7_count 1 = .ok (.tableswitch 129 0 8 #[51, 59, 67, 75, 83, 94, 105, 113, 121], 51) := by decide +kernel
theorem dX7_count_52 : decode cX7_count 52 = .ok (.aload_n 0, 1) := by decide +kernel
theorem dX7_count_53 : decode cX7_count 53 = .ok (.getfield 12, 3) := by decide +kernel
theorem dX7_count_56 : decode cX7_count 56 = .ok (.invokevirtual 332, 3) := by decide +kernel
theorem dX7_count_59 : decode cX7_count 59 = .ok (.ireturn, 1) := by decide +kernel
theorem dX7_count_60 : decode cX7_count 60 = .ok (.aload_n 0, 1) := by decide +kernel
theorem dX7_count_61 : decode cX7_count 61 = .ok (.getfield 26, 3) := by decide +kernel
theorem dX7_count_64 : decode cX7_count 64 = .ok (.getfield 139, 3) := by decide +kernel
theorem dX7_count_67 : decode cX7_count 67 = .ok (.ireturn, 1) := by decide +kernel
theorem dX7_count_68 : decode cX7_count 68 = .ok (.aload_n 0, 1) := by decide +kernel
theorem dX7_count_69 : decode cX7_count 69 = .ok (.getfield 26, 3) := by decide +kernel
theorem dX7_count_72 : decode cX7_count 72 = .ok (.getfield 285, 3) := by decide +kernel
theorem dX7_count_75 : decode cX7_count 75 = .ok (.ireturn, 1) := by decide +kernel
theorem dX7_count_76 : decode cX7_count 76 = .ok (.aload_n 0, 1) := by decide +kernel
theorem dX7_count_77 : decode cX7_count 77 = .ok (.getfield 26, 3) := by decide +kernel
theorem dX7_count_80 : decode cX7_count 80 = .ok (.getfield 335, 3) := by decide +kernel
theorem dX7_count_83 : decode cX7_count 83 = .ok (.ireturn, 1) := by decide +kernel
theorem dX7_count_84 : decode cX7_count 84 = .ok (.aload_n 0, 1) := by decide +kernel
theorem dX7_count_85 : decode cX7_count 85 = .ok (.getfield 26, 3) := by decide +kernel
theorem dX7_count_88 : decode cX7_count 88 = .ok (.getfield 169, 3) := by decide +kernel
theorem dX7_count_91 : decode cX7_count 91 = .ok (.bipush 22, 2) := by decide +kernel
theorem dX7_count_93 : decode cX7_count 93 = .ok (.iaload, 1) := by decide +kernel
theorem dX7_count_94 : decode cX7_count 94 = .ok (.ireturn, 1) := by decide +kernel
theorem dX7_count_95 : decode cX7_count 95 = .ok (.aload_n 0, 1) := by decide +kernel
theorem dX7_count_96 : decode cX7_count 96 = .ok (.getfield 26, 3) := by decide +kernel
theorem dX7_count_99 : decode cX7_count 99 = .ok (.getfield 169, 3) := by decide +kernel
theorem dX7_count_102 : decode cX7_count 102 = .ok (.bipush 23, 2) := by decide +kernel
theorem dX7_count_104 : decode cX7_count 104 = .ok (.iaload, 1) := by decide +kernel
theorem dX7_count_105 : decode cX7_count 105 = .ok (.ireturn, 1) := by decide +kernel
theorem dX7_count_106 : decode cX7_count 106 = .ok (.aload_n 0, 1) := by decide +kernel
theorem dX7_count_107 : decode cX7_count 107 = .ok (.getfield 58, 3) := by decide +kernel
theorem dX7_count_110 : decode cX7_count 110 = .ok (.getfield 338, 3) := by decide +kernel
theorem dX7_count_113 : decode cX7_count 113 = .ok (.ireturn, 1) := by decide +kernel
theorem dX7_count_114 : decode cX7_count 114 = .ok (.aload_n 0, 1) := by decide +kernel
theorem dX7_count_115 : decode cX7_count 115 = .ok (.getfield 42, 3) := by decide +kernel
theorem dX7_count_118 : decode cX7_count 118 = .ok (.getfield 149, 3) := by decide +kernel
theorem dX7_count_121 : decode cX7_count 121 = .ok (.ireturn, 1) := by decide +kernel
theorem dX7_count_122 : decode cX7_count 122 = .ok (.aload_n 0, 1) := by decide +kernel
theorem dX7_count_123 : decode cX7_count 123 = .ok (.getfield 19, 3) := by decide +kernel
theorem dX7_count_126 : decode cX7_count 126 = .ok (.getfield 341, 3) := by decide +kernel
theorem dX7_count_129 : decode cX7_count 129 = .ok (.ireturn, 1) := by decide +kernel
theorem dX7_count_130 : decode cX7_count 130 = .ok (.ldc 87, 2) := by decide +kernel
theorem dX7_count_132 : decode cX7_count 132 = .ok (.ireturn, 1) := by decide +kernel
theorem dX7_status_0 : decode cX7_status 0 = .ok (.aload_n 0, 1) := by decide +kernel
theorem dX7_status_1 : decode cX7_status 1 = .ok (.getfield 80, 3) := by decide +kernel
theorem dX7_status_4 : decode cX7_status 4 = .ok (.ireturn, 1) := by decide +kernel
theorem dX7_found_0 : decode cX7_found 0 = .ok (.aload_n 0, 1) := by decide +kernel
theorem dX7_found_1 : decode cX7_found 1 = .ok (.iload_n 1, 1) := by decide +kernel
theorem dX7_found_2 : decode cX7_found 2 = .ok (.putfield 80, 3) := by decide +kernel
theorem dX7_found_5 : decode cX7_found 5 = .ok (.ldc_w 344, 3) := by decide +kernel
theorem dX7_found_8 : decode cX7_found 8 = .ok (.iload_n 1, 1) := by decide +kernel
theorem dX7_found_9 : decode cX7_found 9 = .ok (.isub, 1) := by decide +kernel
theorem dX7_found_10 : decode cX7_found 10 = .ok (.ireturn, 1) := by decide +kernel
theorem dX7_well_0 : decode cX7_well 0 = .ok (.aload_n 0, 1) := by decide +kernel
theorem dX7_well_1 : decode cX7_well 1 = .ok (.iconst 0, 1) := by decide +kernel
theorem dX7_well_2 : decode cX7_well 2 = .ok (.putfield 80, 3) := by decide +kernel
theorem dX7_well_5 : decode cX7_well 5 = .ok (.iload_n 1, 1) := by decide +kernel
theorem dX7_well_6 : decode cX7_well 6 = .ok (.ireturn, 1) := by decide +kernel
theorem dX7_isBit_0 : decode cX7_isBit 0 = .ok (.iload_n 0, 1) := by decide +kernel
theorem dX7_isBit_1 : decode cX7_isBit 1 = .ok (.ifCond .eq 8, 3) := by decide +kernel
theorem dX7_isBit_4 : decode cX7_isBit 4 = .ok (.iload_n 0, 1) := by decide +kernel
theorem dX7_isBit_5 : decode cX7_isBit 5 = .ok (.iconst 1, 1) := by decide +kernel
theorem dX7_isBit_6 : decode cX7_isBit 6 = .ok (.if_icmp .ne 7, 3) := by decide +kernel
theorem dX7_isBit_9 : decode cX7_isBit 9 = .ok (.iconst 1, 1) := by decide +kernel
theorem dX7_isBit_10 : decode cX7_isBit 10 = .ok (.goto 4, 3) := by decide +kernel
theorem dX7_isBit_13 : decode cX7_isBit 13 = .ok (.iconst 0, 1) := by decide +kernel
theorem dX7_isBit_14 : decode cX7_isBit 14 = .ok (.ireturn, 1) := by decide +kernel
theorem dX7_isHour_0 : decode cX7_isHour 0 = .ok (.iload_n 0, 1) := by decide +kernel
theorem dX7_isHour_1 : decode cX7_isHour 1 = .ok (.ifCond .lt 13, 3) := by decide +kernel
theorem dX7_isHour_4 : decode cX7_isHour 4 = .ok (.iload_n 0, 1) := by decide +kernel
theorem dX7_isHour_5 : decode cX7_isHour 5 = .ok (.bipush 24, 2) := by decide +kernel
theorem dX7_isHour_7 : decode cX7_isHour 7 = .ok (.if_icmp .ge 7, 3) := by decide +kernel
theorem dX7_isHour_10 : decode cX7_isHour 10 = .ok (.iconst 1, 1) := by decide +kernel
theorem dX7_isHour_11 : decode cX7_isHour 11 = .ok (.goto 4, 3) := by decide +kernel
theorem dX7_isHour_14 : decode cX7_isHour 14 = .ok (.iconst 0, 1) := by decide +kernel
theorem dX7_isHour_15 : decode cX7_isHour 15 = .ok (.ireturn, 1) := by decide +kernel
theorem dX7_isCell_0 : decode cX7_isCell 0 = .ok (.iload_n 0, 1) := by decide +kernel
theorem dX7_isCell_1 : decode cX7_isCell 1 = .ok (.ifCond .lt 13, 3) := by decide +kernel
theorem dX7_isCell_4 : decode cX7_isCell 4 = .ok (.iload_n 0, 1) := by decide +kernel
theorem dX7_isCell_5 : decode cX7_isCell 5 = .ok (.bipush 24, 2) := by decide +kernel
theorem dX7_isCell_7 : decode cX7_isCell 7 = .ok (.if_icmp .ge 7, 3) := by decide +kernel
theorem dX7_isCell_10 : decode cX7_isCell 10 = .ok (.iconst 1, 1) := by decide +kernel
theorem dX7_isCell_11 : decode cX7_isCell 11 = .ok (.goto 4, 3) := by decide +kernel
theorem dX7_isCell_14 : decode cX7_isCell 14 = .ok (.iconst 0, 1) := by decide +kernel
theorem dX7_isCell_15 : decode cX7_isCell 15 = .ok (.ireturn, 1) := by decide +kernel
theorem dX7_distance_0 : decode cX7_distance 0 = .ok (.iload_n 0, 1) := by decide +kernel
theorem dX7_distance_1 : decode cX7_distance 1 = .ok (.bipush 6, 2) := by decide +kernel
theorem dX7_distance_3 : decode cX7_distance 3 = .ok (.irem, 1) := by decide +kernel
theorem dX7_distance_4 : decode cX7_distance 4 = .ok (.iload_n 1, 1) := by decide +kernel
theorem dX7_distance_5 : decode cX7_distance 5 = .ok (.bipush 6, 2) := by decide +kernel
theorem dX7_distance_7 : decode cX7_distance 7 = .ok (.irem, 1) := by decide +kernel
theorem dX7_distance_8 : decode cX7_distance 8 = .ok (.isub, 1) := by decide +kernel
theorem dX7_distance_9 : decode cX7_distance 9 = .ok (.invokestatic 345, 3) := by decide +kernel
theorem dX7_distance_12 : decode cX7_distance 12 = .ok (.iload_n 0, 1) := by decide +kernel
theorem dX7_distance_13 : decode cX7_distance 13 = .ok (.bipush 6, 2) := by decide +kernel
theorem dX7_distance_15 : decode cX7_distance 15 = .ok (.idiv, 1) := by decide +kernel
theorem dX7_distance_16 : decode cX7_distance 16 = .ok (.iload_n 1, 1) := by decide +kernel
theorem dX7_distance_17 : decode cX7_distance 17 = .ok (.bipush 6, 2) := by decide +kernel
theorem dX7_distance_19 : decode cX7_distance 19 = .ok (.idiv, 1) := by decide +kernel
theorem dX7_distance_20 : decode cX7_distance 20 = .ok (.isub, 1) := by decide +kernel
theorem dX7_distance_21 : decode cX7_distance 21 = .ok (.invokestatic 345, 3) := by decide +kernel
theorem dX7_distance_24 : decode cX7_distance 24 = .ok (.iadd, 1) := by decide +kernel
theorem dX7_distance_25 : decode cX7_distance 25 = .ok (.ireturn, 1) := by decide +kernel
theorem dX7_commonPart_0 : decode cX7_commonPart 0 = .ok (.lload_n 0, 1) := by decide +kernel
theorem dX7_commonPart_1 : decode cX7_commonPart 1 = .ok (.invokestatic 350, 3) := by decide +kernel
theorem dX7_commonPart_4 : decode cX7_commonPart 4 = .ok (.lstore 4, 2) := by decide +kernel
theorem dX7_commonPart_6 : decode cX7_commonPart 6 = .ok (.lload_n 2, 1) := by decide +kernel
theorem dX7_commonPart_7 : decode cX7_commonPart 7 = .ok (.invokestatic 350, 3) := by decide +kernel
theorem dX7_commonPart_10 : decode cX7_commonPart 10 = .ok (.lstore 6, 2) := by decide +kernel
theorem dX7_commonPart_12 : decode cX7_commonPart 12 = .ok (.iconst 0, 1) := by decide +kernel
theorem dX7_commonPart_13 : decode cX7_commonPart 13 = .ok (.istore 8, 2) := by decide +kernel
theorem dX7_commonPart_15 : decode cX7_commonPart 15 = .ok (.iload 8, 2) := by decide +kernel
theorem dX7_commonPart_17 : decode cX7_commonPart 17 = .ok (.bipush 100, 2) := by decide +kernel
theorem dX7_commonPart_19 : decode cX7_commonPart 19 = .ok (.if_icmp .ge 31, 3) := by decide +kernel
theorem dX7_commonPart_22 : decode cX7_commonPart 22 = .ok (.lload 6, 2) := by decide +kernel
theorem dX7_commonPart_24 : decode cX7_commonPart 24 = .ok (.lconst 0, 1) := by decide +kernel
theorem dX7_commonPart_25 : decode cX7_commonPart 25 = .ok (.lcmp, 1) := by decide +kernel
theorem dX7_commonPart_26 : decode cX7_commonPart 26 = .ok (.ifCond .eq 24, 3) := by decide +kernel
theorem dX7_commonPart_29 : decode cX7_commonPart 29 = .ok (.lload 4, 2) := by decide +kernel
theorem dX7_commonPart_31 : decode cX7_commonPart 31 = .ok (.lload 6, 2) := by decide +kernel
theorem dX7_commonPart_33 : decode cX7_commonPart 33 = .ok (.lrem, 1) := by decide +kernel
theorem dX7_commonPart_34 : decode cX7_commonPart 34 = .ok (.lstore 9, 2) := by decide +kernel
theorem dX7_commonPart_36 : decode cX7_commonPart 36 = .ok (.lload 6, 2) := by decide +kernel
theorem dX7_commonPart_38 : decode cX7_commonPart 38 = .ok (.lstore 4, 2) := by decide +kernel
theorem dX7_commonPart_40 : decode cX7_commonPart 40 = .ok (.lload 9, 2) := by decide +kernel
theorem dX7_commonPart_42 : decode cX7_commonPart 42 = .ok (.lstore 6, 2) := by decide +kernel
theorem dX7_commonPart_44 : decode cX7_commonPart 44 = .ok (.iinc 8 1, 3) := by decide +kernel
theorem dX7_commonPart_47 : decode cX7_commonPart 47 = .ok (.goto (-32), 3) := by decide +kernel
theorem dX7_commonPart_50 : decode cX7_commonPart 50 = .ok (.lload 4, 2) := by decide +kernel
theorem dX7_commonPart_52 : decode cX7_commonPart 52 = .ok (.lconst 0, 1) := by decide +kernel
theorem dX7_commonPart_53 : decode cX7_commonPart 53 = .ok (.lcmp, 1) := by decide +kernel
theorem dX7_commonPart_54 : decode cX7_commonPart 54 = .ok (.ifCond .le 8, 3) := by decide +kernel
theorem dX7_commonPart_57 : decode cX7_commonPart 57 = .ok (.lload 4, 2) := by decide +kernel
theorem dX7_commonPart_59 : decode cX7_commonPart 59 = .ok (.goto 4, 3) := by decide +kernel
theorem dX7_commonPart_62 : decode cX7_commonPart 62 = .ok (.lconst 1, 1) := by decide +kernel
theorem dX7_commonPart_63 : decode cX7_commonPart 63 = .ok (.lreturn, 1) := by decide +kernel
theorem dX7_isPlan_0 : decode cX7_isPlan 0 = .ok (.iload_n 1, 1) := by decide +kernel
theorem dX7_isPlan_1 : decode cX7_isPlan 1 = .ok (.iconst (-1), 1) := by decide +kernel
theorem dX7_isPlan_2 : decode cX7_isPlan 2 = .ok (.if_icmp .ne 5, 3) := by decide +kernel
theorem dX7_isPlan_5 : decode cX7_isPlan 5 = .ok (.iconst 1, 1) := by decide +kernel
theorem dX7_isPlan_6 : decode cX7_isPlan 6 = .ok (.ireturn, 1) := by decide +kernel
theorem dX7_isPlan_7 : decode cX7_isPlan 7 = .ok (.aload_n 0, 1) := by decide +kernel
theorem dX7_isPlan_8 : decode cX7_isPlan 8 = .ok (.getfield 26, 3) := by decide +kernel
theorem dX7_isPlan_11 : decode cX7_isPlan 11 = .ok (.iload_n 1, 1) := by decide +kernel
theorem dX7_isPlan_12 : decode cX7_isPlan 12 = .ok (.invokevirtual 190, 3) := by decide +kernel
theorem dX7_isPlan_15 : decode cX7_isPlan 15 = .ok (.ifCond .eq 25, 3) := by decide +kernel
theorem dX7_isPlan_18 : decode cX7_isPlan 18 = .ok (.iload_n 2, 1) := by decide +kernel
theorem dX7_isPlan_19 : decode cX7_isPlan 19 = .ok (.iconst 1, 1) := by decide +kernel
theorem dX7_isPlan_20 : decode cX7_isPlan 20 = .ok (.if_icmp .lt 20, 3) := by decide +kernel
theorem dX7_isPlan_23 : decode cX7_isPlan 23 = .ok (.iload_n 2, 1) := by decide +kernel
theorem dX7_isPlan_24 : decode cX7_isPlan 24 = .ok (.bipush 20, 2) := by decide +kernel
theorem dX7_isPlan_26 : decode cX7_isPlan 26 = .ok (.if_icmp .gt 14, 3) := by decide +kernel
theorem dX7_isPlan_29 : decode cX7_isPlan 29 = .ok (.iload_n 3, 1) := by decide +kernel
theorem dX7_isPlan_30 : decode cX7_isPlan 30 = .ok (.invokestatic 196, 3) := by decide +kernel
theorem dX7_isPlan_33 : decode cX7_isPlan 33 = .ok (.ifCond .eq 7, 3) := by decide +kernel
theorem dX7_isPlan_36 : decode cX7_isPlan 36 = .ok (.iconst 1, 1) := by decide +kernel
theorem dX7_isPlan_37 : decode cX7_isPlan 37 = .ok (.goto 4, 3) := by decide +kernel
theorem dX7_isPlan_40 : decode cX7_isPlan 40 = .ok (.iconst 0, 1) := by decide +kernel
theorem dX7_isPlan_41 : decode cX7_isPlan 41 = .ok (.ireturn, 1) := by decide +kernel
theorem dX7_raidOf_0 : decode cX7_raidOf 0 = .ok (.aload_n 0, 1) := by decide +kernel
theorem dX7_raidOf_1 : decode cX7_raidOf 1 = .ok (.getfield 51, 3) := by decide +kernel
theorem dX7_raidOf_4 : decode cX7_raidOf 4 = .ok (.iload_n 1, 1) := by decide +kernel
theorem dX7_raidOf_5 : decode cX7_raidOf 5 = .ok (.invokevirtual 257, 3) := by decide +kernel
theorem dX7_raidOf_8 : decode cX7_raidOf 8 = .ok (.aload_n 0, 1) := by decide +kernel
theorem dX7_raidOf_9 : decode cX7_raidOf 9 = .ok (.getfield 51, 3) := by decide +kernel
theorem dX7_raidOf_12 : decode cX7_raidOf 12 = .ok (.invokevirtual 263, 3) := by decide +kernel
theorem dX7_raidOf_15 : decode cX7_raidOf 15 = .ok (.return_, 1) := by decide +kernel
theorem dX7_raidAlone_0 : decode cX7_raidAlone 0 = .ok (.aload_n 0, 1) := by decide +kernel
theorem dX7_raidAlone_1 : decode cX7_raidAlone 1 = .ok (.getfield 51, 3) := by decide +kernel
theorem dX7_raidAlone_4 : decode cX7_raidAlone 4 = .ok (.iconst 0, 1) := by decide +kernel
theorem dX7_raidAlone_5 : decode cX7_raidAlone 5 = .ok (.invokevirtual 257, 3) := by decide +kernel
theorem dX7_raidAlone_8 : decode cX7_raidAlone 8 = .ok (.aload_n 0, 1) := by decide +kernel
theorem dX7_raidAlone_9 : decode cX7_raidAlone 9 = .ok (.getfield 51, 3) := by decide +kernel
theorem dX7_raidAlone_12 : decode cX7_raidAlone 12 = .ok (.iload_n 1, 1) := by decide +kernel
theorem dX7_raidAlone_13 : decode cX7_raidAlone 13 = .ok (.iload_n 2, 1) := by decide +kernel
theorem dX7_raidAlone_14 : decode cX7_raidAlone 14 = .ok (.iload_n 3, 1) := by decide +kernel
theorem dX7_raidAlone_15 : decode cX7_raidAlone 15 = .ok (.iload 4, 2) := by decide +kernel
theorem dX7_raidAlone_17 : decode cX7_raidAlone 17 = .ok (.invokevirtual 353, 3) := by decide +kernel
theorem dX7_raidAlone_20 : decode cX7_raidAlone 20 = .ok (.aload_n 0, 1) := by decide +kernel
theorem dX7_raidAlone_21 : decode cX7_raidAlone 21 = .ok (.getfield 51, 3) := by decide +kernel
theorem dX7_raidAlone_24 : decode cX7_raidAlone 24 = .ok (.invokevirtual 263, 3) := by decide +kernel
theorem dX7_raidAlone_27 : decode cX7_raidAlone 27 = .ok (.return_, 1) := by decide +kernel
theorem dX7_compareAlone_0 : decode cX7_compareAlone 0 = .ok (.aload_n 0, 1) := by decide +kernel
theorem dX7_compareAlone_1 : decode cX7_compareAlone 1 = .ok (.iload_n 1, 1) := by decide +kernel
theorem dX7_compareAlone_2 : decode cX7_compareAlone 2 = .ok (.iload_n 2, 1) := by decide +kernel
theorem dX7_compareAlone_3 : decode cX7_compareAlone 3 = .ok (.iload_n 3, 1) := by decide +kernel
theorem dX7_compareAlone_4 : decode cX7_compareAlone 4 = .ok (.iload 4, 2) := by decide +kernel
theorem dX7_compareAlone_6 : decode cX7_compareAlone 6 = .ok (.invokevirtual 240, 3) := by decide +kernel
theorem dX7_compareAlone_9 : decode cX7_compareAlone 9 = .ok (.aload_n 0, 1) := by decide +kernel
theorem dX7_compareAlone_10 : decode cX7_compareAlone 10 = .ok (.getfield 51, 3) := by decide +kernel
theorem dX7_compareAlone_13 : decode cX7_compareAlone 13 = .ok (.iload_n 1, 1) := by decide +kernel
theorem dX7_compareAlone_14 : decode cX7_compareAlone 14 = .ok (.invokevirtual 234, 3) := by decide +kernel
theorem dX7_compareAlone_17 : decode cX7_compareAlone 17 = .ok (.ifCond .eq 54, 3) := by decide +kernel
theorem dX7_compareAlone_20 : decode cX7_compareAlone 20 = .ok (.aload_n 0, 1) := by decide +kernel
theorem dX7_compareAlone_21 : decode cX7_compareAlone 21 = .ok (.getfield 51, 3) := by decide +kernel
theorem dX7_compareAlone_24 : decode cX7_compareAlone 24 = .ok (.invokevirtual 186, 3) := by decide +kernel
theorem dX7_compareAlone_27 : decode cX7_compareAlone 27 = .ok (.aload_n 0, 1) := by decide +kernel
theorem dX7_compareAlone_28 : decode cX7_compareAlone 28 = .ok (.getfield 69, 3) := by decide +kernel
theorem dX7_compareAlone_31 : decode cX7_compareAlone 31 = .ok (.iconst 3, 1) := by decide +kernel
theorem dX7_compareAlone_32 : decode cX7_compareAlone 32 = .ok (.iaload, 1) := by decide +kernel
theorem dX7_compareAlone_33 : decode cX7_compareAlone 33 = .ok (.if_icmp .le 38, 3) := by decide +kernel
theorem dX7_compareAlone_36 : decode cX7_compareAlone 36 = .ok (.aload_n 0, 1) := by decide +kernel
theorem dX7_compareAlone_37 : decode cX7_compareAlone 37 = .ok (.getfield 69, 3) := by decide +kernel
theorem dX7_compareAlone_40 : decode cX7_compareAlone 40 = .ok (.iconst 0, 1) := by decide +kernel
theorem dX7_compareAlone_41 : decode cX7_compareAlone 41 = .ok (.iload_n 2, 1) := by decide +kernel
theorem dX7_compareAlone_42 : decode cX7_compareAlone 42 = .ok (.iastore, 1) := by decide +kernel
theorem dX7_compareAlone_43 : decode cX7_compareAlone 43 = .ok (.aload_n 0, 1) := by decide +kernel
theorem dX7_compareAlone_44 : decode cX7_compareAlone 44 = .ok (.getfield 69, 3) := by decide +kernel
theorem dX7_compareAlone_47 : decode cX7_compareAlone 47 = .ok (.iconst 1, 1) := by decide +kernel
theorem dX7_compareAlone_48 : decode cX7_compareAlone 48 = .ok (.iload_n 3, 1) := by decide +kernel
theorem dX7_compareAlone_49 : decode cX7_compareAlone 49 = .ok (.iastore, 1) := by decide +kernel
theorem dX7_compareAlone_50 : decode cX7_compareAlone 50 = .ok (.aload_n 0, 1) := by decide +kernel
theorem dX7_compareAlone_51 : decode cX7_compareAlone 51 = .ok (.getfield 69, 3) := by decide +kernel
theorem dX7_compareAlone_54 : decode cX7_compareAlone 54 = .ok (.iconst 2, 1) := by decide +kernel
theorem dX7_compareAlone_55 : decode cX7_compareAlone 55 = .ok (.iload 4, 2) := by decide +kernel
theorem dX7_compareAlone_57 : decode cX7_compareAlone 57 = .ok (.iastore, 1) := by decide +kernel
theorem dX7_compareAlone_58 : decode cX7_compareAlone 58 = .ok (.aload_n 0, 1) := by decide +kernel
theorem dX7_compareAlone_59 : decode cX7_compareAlone 59 = .ok (.getfield 69, 3) := by decide +kernel
theorem dX7_compareAlone_62 : decode cX7_compareAlone 62 = .ok (.iconst 3, 1) := by decide +kernel
theorem dX7_compareAlone_63 : decode cX7_compareAlone 63 = .ok (.aload_n 0, 1) := by decide +kernel
theorem dX7_compareAlone_64 : decode cX7_compareAlone 64 = .ok (.getfield 51, 3) := by decide +kernel
theorem dX7_compareAlone_67 : decode cX7_compareAlone 67 = .ok (.invokevirtual 186, 3) := by decide +kernel
theorem dX7_compareAlone_70 : decode cX7_compareAlone 70 = .ok (.iastore, 1) := by decide +kernel
theorem dX7_compareAlone_71 : decode cX7_compareAlone 71 = .ok (.aload_n 0, 1) := by decide +kernel
theorem dX7_compareAlone_72 : decode cX7_compareAlone 72 = .ok (.getfield 51, 3) := by decide +kernel
theorem dX7_compareAlone_75 : decode cX7_compareAlone 75 = .ok (.getfield 244, 3) := by decide +kernel
theorem dX7_compareAlone_78 : decode cX7_compareAlone 78 = .ok (.iload_n 1, 1) := by decide +kernel
theorem dX7_compareAlone_79 : decode cX7_compareAlone 79 = .ok (.iaload, 1) := by decide +kernel
theorem dX7_compareAlone_80 : decode cX7_compareAlone 80 = .ok (.iload_n 3, 1) := by decide +kernel
theorem dX7_compareAlone_81 : decode cX7_compareAlone 81 = .ok (.if_icmp .lt 7, 3) := by decide +kernel
theorem dX7_compareAlone_84 : decode cX7_compareAlone 84 = .ok (.iconst 1, 1) := by decide +kernel
theorem dX7_compareAlone_85 : decode cX7_compareAlone 85 = .ok (.goto 4, 3) := by decide +kernel
theorem dX7_compareAlone_88 : decode cX7_compareAlone 88 = .ok (.iconst 0, 1) := by decide +kernel
theorem dX7_compareAlone_89 : decode cX7_compareAlone 89 = .ok (.ireturn, 1) := by decide +kernel
theorem dX7_refusalOfDays_0 : decode cX7_refusalOfDays 0 = .ok (.iload_n 1, 1) := by decide +kernel
theorem dX7_refusalOfDays_1 : decode cX7_refusalOfDays 1 = .ok (.invokestatic 83, 3) := by decide +kernel
theorem dX7_refusalOfDays_4 : decode cX7_refusalOfDays 4 = .ok (.ifCond .eq 14, 3) := by decide +kernel
theorem dX7_refusalOfDays_7 : decode cX7_refusalOfDays 7 = .ok (.iload_n 3, 1) := by decide +kernel
theorem dX7_refusalOfDays_8 : decode cX7_refusalOfDays 8 = .ok (.iconst 1, 1) := by decide +kernel
theorem dX7_refusalOfDays_9 : decode cX7_refusalOfDays 9 = .ok (.if_icmp .lt 9, 3) := by decide +kernel
theorem dX7_refusalOfDays_12 : decode cX7_refusalOfDays 12 = .ok (.iload_n 3, 1) := by decide +kernel
theorem dX7_refusalOfDays_13 : decode cX7_refusalOfDays 13 = .ok (.bipush 20, 2) := by decide +kernel
theorem dX7_refusalOfDays_15 : decode cX7_refusalOfDays 15 = .ok (.if_icmp .le 6, 3) := by decide +kernel
theorem dX7_refusalOfDays_18 : decode cX7_refusalOfDays 18 = .ok (.ldc 87, 2) := by decide +kernel
theorem dX7_refusalOfDays_20 : decode cX7_refusalOfDays 20 = .ok (.ireturn, 1) := by decide +kernel
theorem dX7_refusalOfDays_21 : decode cX7_refusalOfDays 21 = .ok (.aload_n 0, 1) := by decide +kernel
theorem dX7_refusalOfDays_22 : decode cX7_refusalOfDays 22 = .ok (.getfield 12, 3) := by decide +kernel
theorem dX7_refusalOfDays_25 : decode cX7_refusalOfDays 25 = .ok (.iload_n 1, 1) := by decide +kernel
theorem dX7_refusalOfDays_26 : decode cX7_refusalOfDays 26 = .ok (.iload_n 2, 1) := by decide +kernel
theorem dX7_refusalOfDays_27 : decode cX7_refusalOfDays 27 = .ok (.bipush 6, 2) := by decide +kernel
theorem dX7_refusalOfDays_29 : decode cX7_refusalOfDays 29 = .ok (.invokevirtual 99, 3) := by decide +kernel
theorem dX7_refusalOfDays_32 : decode cX7_refusalOfDays 32 = .ok (.istore 4, 2) := by decide +kernel
theorem dX7_refusalOfDays_34 : decode cX7_refusalOfDays 34 = .ok (.iload 4, 2) := by decide +kernel
theorem dX7_refusalOfDays_36 : decode cX7_refusalOfDays 36 = .ok (.ifCond .eq 10, 3) := by decide +kernel
theorem dX7_refusalOfDays_39 : decode cX7_refusalOfDays 39 = .ok (.aload_n 0, 1) := by decide +kernel
theorem dX7_refusalOfDays_40 : decode cX7_refusalOfDays 40 = .ok (.iload 4, 2) := by decide +kernel
theorem dX7_refusalOfDays_42 : decode cX7_refusalOfDays 42 = .ok (.invokevirtual 88, 3) := by decide +kernel
theorem dX7_refusalOfDays_45 : decode cX7_refusalOfDays 45 = .ok (.ireturn, 1) := by decide +kernel
theorem dX7_refusalOfDays_46 : decode cX7_refusalOfDays 46 = .ok (.iconst 0, 1) := by decide +kernel
theorem dX7_refusalOfDays_47 : decode cX7_refusalOfDays 47 = .ok (.istore 5, 2) := by decide +kernel
theorem dX7_refusalOfDays_49 : decode cX7_refusalOfDays 49 = .ok (.iload 5, 2) := by decide +kernel
theorem dX7_refusalOfDays_51 : decode cX7_refusalOfDays 51 = .ok (.bipush 6, 2) := by decide +kernel
theorem dX7_refusalOfDays_53 : decode cX7_refusalOfDays 53 = .ok (.if_icmp .ge 52, 3) := by decide +kernel
theorem dX7_refusalOfDays_56 : decode cX7_refusalOfDays 56 = .ok (.aload_n 0, 1) := by decide +kernel
theorem dX7_refusalOfDays_57 : decode cX7_refusalOfDays 57 = .ok (.getfield 12, 3) := by decide +kernel
theorem dX7_refusalOfDays_60 : decode cX7_refusalOfDays 60 = .ok (.iload_n 1, 1) := by decide +kernel
theorem dX7_refusalOfDays_61 : decode cX7_refusalOfDays 61 = .ok (.iload_n 2, 1) := by decide +kernel
theorem dX7_refusalOfDays_62 : decode cX7_refusalOfDays 62 = .ok (.iload 5, 2) := by decide +kernel
theorem dX7_refusalOfDays_64 : decode cX7_refusalOfDays 64 = .ok (.iadd, 1) := by decide +kernel
theorem dX7_refusalOfDays_65 : decode cX7_refusalOfDays 65 = .ok (.invokevirtual 356, 3) := by decide +kernel
theorem dX7_refusalOfDays_68 : decode cX7_refusalOfDays 68 = .ok (.istore 6, 2) := by decide +kernel
theorem dX7_refusalOfDays_70 : decode cX7_refusalOfDays 70 = .ok (.iload 6, 2) := by decide +kernel
theorem dX7_refusalOfDays_72 : decode cX7_refusalOfDays 72 = .ok (.ifCond .lt 10, 3) := by decide +kernel
theorem dX7_refusalOfDays_75 : decode cX7_refusalOfDays 75 = .ok (.iload 6, 2) := by decide +kernel
theorem dX7_refusalOfDays_77 : decode cX7_refusalOfDays 77 = .ok (.bipush 20, 2) := by decide +kernel
theorem dX7_refusalOfDays_79 : decode cX7_refusalOfDays 79 = .ok (.if_icmp .le 6, 3) := by decide +kernel
theorem dX7_refusalOfDays_82 : decode cX7_refusalOfDays 82 = .ok (.ldc 87, 2) := by decide +kernel
theorem dX7_refusalOfDays_84 : decode cX7_refusalOfDays 84 = .ok (.ireturn, 1) := by decide +kernel
theorem dX7_refusalOfDays_85 : decode cX7_refusalOfDays 85 = .ok (.aload_n 0, 1) := by decide +kernel
theorem dX7_refusalOfDays_86 : decode cX7_refusalOfDays 86 = .ok (.getfield 65, 3) := by decide +kernel
theorem dX7_refusalOfDays_89 : decode cX7_refusalOfDays 89 = .ok (.getfield 359, 3) := by decide +kernel
theorem dX7_refusalOfDays_92 : decode cX7_refusalOfDays 92 = .ok (.iload 5, 2) := by decide +kernel
theorem dX7_refusalOfDays_94 : decode cX7_refusalOfDays 94 = .ok (.iload 6, 2) := by decide +kernel
theorem dX7_refusalOfDays_96 : decode cX7_refusalOfDays 96 = .ok (.iload_n 3, 1) := by decide +kernel
theorem dX7_refusalOfDays_97 : decode cX7_refusalOfDays 97 = .ok (.iadd, 1) := by decide +kernel
theorem dX7_refusalOfDays_98 : decode cX7_refusalOfDays 98 = .ok (.iastore, 1) := by decide +kernel
theorem dX7_refusalOfDays_99 : decode cX7_refusalOfDays 99 = .ok (.iinc 5 1, 3) := by decide +kernel
theorem dX7_refusalOfDays_102 : decode cX7_refusalOfDays 102 = .ok (.goto (-53), 3) := by decide +kernel
theorem dX7_refusalOfDays_105 : decode cX7_refusalOfDays 105 = .ok (.aload_n 0, 1) := by decide +kernel
theorem dX7_refusalOfDays_106 : decode cX7_refusalOfDays 106 = .ok (.getfield 65, 3) := by decide +kernel
theorem dX7_refusalOfDays_109 : decode cX7_refusalOfDays 109 = .ok (.iload_n 3, 1) := by decide +kernel
theorem dX7_refusalOfDays_110 : decode cX7_refusalOfDays 110 = .ok (.invokevirtual 362, 3) := by decide +kernel
theorem dX7_refusalOfDays_113 : decode cX7_refusalOfDays 113 = .ok (.aload_n 0, 1) := by decide +kernel
theorem dX7_refusalOfDays_114 : decode cX7_refusalOfDays 114 = .ok (.iconst 0, 1) := by decide +kernel
theorem dX7_refusalOfDays_115 : decode cX7_refusalOfDays 115 = .ok (.invokevirtual 96, 3) := by decide +kernel
theorem dX7_refusalOfDays_118 : decode cX7_refusalOfDays 118 = .ok (.ireturn, 1) := by decide +kernel
theorem dX7_refusalOfTold_0 : decode cX7_refusalOfTold 0 = .ok (.aload_n 0, 1) := by decide +kernel
theorem dX7_refusalOfTold_1 : decode cX7_refusalOfTold 1 = .ok (.getfield 26, 3) := by decide +kernel
theorem dX7_refusalOfTold_4 : decode cX7_refusalOfTold 4 = .ok (.getfield 172, 3) := by decide +kernel
theorem dX7_refusalOfTold_7 : decode cX7_refusalOfTold 7 = .ok (.ifCond .ne 6, 3) := by decide +kernel
theorem dX7_refusalOfTold_10 : decode cX7_refusalOfTold 10 = .ok (.ldc 152, 2) := by decide +kernel
theorem dX7_refusalOfTold_12 : decode cX7_refusalOfTold 12 = .ok (.ireturn, 1) := by decide +kernel
theorem dX7_refusalOfTold_13 : decode cX7_refusalOfTold 13 = .ok (.iload_n 1, 1) := by decide +kernel
theorem dX7_refusalOfTold_14 : decode cX7_refusalOfTold 14 = .ok (.invokestatic 83, 3) := by decide +kernel
theorem dX7_refusalOfTold_17 : decode cX7_refusalOfTold 17 = .ok (.ifCond .eq 8, 3) := by decide +kernel
theorem dX7_refusalOfTold_20 : decode cX7_refusalOfTold 20 = .ok (.iload 4, 2) := by decide +kernel
theorem dX7_refusalOfTold_22 : decode cX7_refusalOfTold 22 = .ok (.ifCond .ne 6, 3) := by decide +kernel
theorem dX7_refusalOfTold_25 : decode cX7_refusalOfTold 25 = .ok (.ldc 87, 2) := by decide +kernel
theorem dX7_refusalOfTold_27 : decode cX7_refusalOfTold 27 = .ok (.ireturn, 1) := by decide +kernel
theorem dX7_refusalOfTold_28 : decode cX7_refusalOfTold 28 = .ok (.aload_n 0, 1) := by decide +kernel
theorem dX7_refusalOfTold_29 : decode cX7_refusalOfTold 29 = .ok (.getfield 12, 3) := by decide +kernel
theorem dX7_refusalOfTold_32 : decode cX7_refusalOfTold 32 = .ok (.iload_n 1, 1) := by decide +kernel
theorem dX7_refusalOfTold_33 : decode cX7_refusalOfTold 33 = .ok (.iload_n 2, 1) := by decide +kernel
theorem dX7_refusalOfTold_34 : decode cX7_refusalOfTold 34 = .ok (.iload_n 3, 1) := by decide +kernel
theorem dX7_refusalOfTold_35 : decode cX7_refusalOfTold 35 = .ok (.invokevirtual 99, 3) := by decide +kernel
theorem dX7_refusalOfTold_38 : decode cX7_refusalOfTold 38 = .ok (.istore 5, 2) := by decide +kernel
theorem dX7_refusalOfTold_40 : decode cX7_refusalOfTold 40 = .ok (.iload 5, 2) := by decide +kernel
theorem dX7_refusalOfTold_42 : decode cX7_refusalOfTold 42 = .ok (.ifCond .eq 12, 3) := by decide +kernel
theorem dX7_refusalOfTold_45 : decode cX7_refusalOfTold 45 = .ok (.aload_n 0, 1) := by decide +kernel
theorem dX7_refusalOfTold_46 : decode cX7_refusalOfTold 46 = .ok (.iload 5, 2) := by decide +kernel
theorem dX7_refusalOfTold_48 : decode cX7_refusalOfTold 48 = .ok (.invokevirtual 88, 3) := by decide +kernel
theorem dX7_refusalOfTold_51 : decode cX7_refusalOfTold 51 = .ok (.goto 8, 3) := by decide +kernel
theorem dX7_refusalOfTold_54 : decode cX7_refusalOfTold 54 = .ok (.aload_n 0, 1) := by decide +kernel
theorem dX7_refusalOfTold_55 : decode cX7_refusalOfTold 55 = .ok (.iconst 0, 1) := by decide +kernel
theorem dX7_refusalOfTold_56 : decode cX7_refusalOfTold 56 = .ok (.invokevirtual 96, 3) := by decide +kernel
theorem dX7_refusalOfTold_59 : decode cX7_refusalOfTold 59 = .ok (.ireturn, 1) := by decide +kernel
theorem dX7_isMissingJustSo_0 : decode cX7_isMissingJustSo 0 = .ok (.iconst 0, 1) := by decide +kernel
theorem dX7_isMissingJustSo_1 : decode cX7_isMissingJustSo 1 = .ok (.istore_n 3, 1) := by decide +kernel
theorem dX7_isMissingJustSo_2 : decode cX7_isMissingJustSo 2 = .ok (.iload_n 3, 1) := by decide +kernel
theorem dX7_isMissingJustSo_3 : decode cX7_isMissingJustSo 3 = .ok (.aload_n 0, 1) := by decide +kernel
theorem dX7_isMissingJustSo_4 : decode cX7_isMissingJustSo 4 = .ok (.getfield 26, 3) := by decide +kernel
theorem dX7_isMissingJustSo_7 : decode cX7_isMissingJustSo 7 = .ok (.getfield 139, 3) := by decide +kernel
theorem dX7_isMissingJustSo_10 : decode cX7_isMissingJustSo 10 = .ok (.if_icmp .ge 46, 3) := by decide +kernel
theorem dX7_isMissingJustSo_13 : decode cX7_isMissingJustSo 13 = .ok (.aload_n 0, 1) := by decide +kernel
theorem dX7_isMissingJustSo_14 : decode cX7_isMissingJustSo 14 = .ok (.getfield 26, 3) := by decide +kernel
theorem dX7_isMissingJustSo_17 : decode cX7_isMissingJustSo 17 = .ok (.getfield 169, 3) := by decide +kernel
theorem dX7_isMissingJustSo_20 : decode cX7_isMissingJustSo 20 = .ok (.iconst 0, 1) := by decide +kernel
theorem dX7_isMissingJustSo_21 : decode cX7_isMissingJustSo 21 = .ok (.iload_n 3, 1) := by decide +kernel
theorem dX7_isMissingJustSo_22 : decode cX7_isMissingJustSo 22 = .ok (.iadd, 1) := by decide +kernel
theorem dX7_isMissingJustSo_23 : decode cX7_isMissingJustSo 23 = .ok (.iaload, 1) := by decide +kernel
theorem dX7_isMissingJustSo_24 : decode cX7_isMissingJustSo 24 = .ok (.aload_n 0, 1) := by decide +kernel
theorem dX7_isMissingJustSo_25 : decode cX7_isMissingJustSo 25 = .ok (.getfield 51, 3) := by decide +kernel
theorem dX7_isMissingJustSo_28 : decode cX7_isMissingJustSo 28 = .ok (.getfield 365, 3) := by decide +kernel
theorem dX7_isMissingJustSo_31 : decode cX7_isMissingJustSo 31 = .ok (.iload_n 3, 1) := by decide +kernel
theorem dX7_isMissingJustSo_32 : decode cX7_isMissingJustSo 32 = .ok (.iaload, 1) := by decide +kernel
theorem dX7_isMissingJustSo_33 : decode cX7_isMissingJustSo 33 = .ok (.isub, 1) := by decide +kernel
theorem dX7_isMissingJustSo_34 : decode cX7_isMissingJustSo 34 = .ok (.aload_n 0, 1) := by decide +kernel
theorem dX7_isMissingJustSo_35 : decode cX7_isMissingJustSo 35 = .ok (.getfield 12, 3) := by decide +kernel
theorem dX7_isMissingJustSo_38 : decode cX7_isMissingJustSo 38 = .ok (.iload_n 1, 1) := by decide +kernel
theorem dX7_isMissingJustSo_39 : decode cX7_isMissingJustSo 39 = .ok (.iload_n 2, 1) := by decide +kernel
theorem dX7_isMissingJustSo_40 : decode cX7_isMissingJustSo 40 = .ok (.iload_n 3, 1) := by decide +kernel
theorem dX7_isMissingJustSo_41 : decode cX7_isMissingJustSo 41 = .ok (.iadd, 1) := by decide +kernel
theorem dX7_isMissingJustSo_42 : decode cX7_isMissingJustSo 42 = .ok (.invokevirtual 356, 3) := by decide +kernel
theorem dX7_isMissingJustSo_45 : decode cX7_isMissingJustSo 45 = .ok (.if_icmp .eq 5, 3) := by decide +kernel
theorem dX7_isMissingJustSo_48 : decode cX7_isMissingJustSo 48 = .ok (.iconst 0, 1) := by decide +kernel
theorem dX7_isMissingJustSo_49 : decode cX7_isMissingJustSo 49 = .ok (.ireturn, 1) := by decide +kernel
theorem dX7_isMissingJustSo_50 : decode cX7_isMissingJustSo 50 = .ok (.iinc 3 1, 3) := by decide +kernel
theorem dX7_isMissingJustSo_53 : decode cX7_isMissingJustSo 53 = .ok (.goto (-51), 3) := by decide +kernel
theorem dX7_isMissingJustSo_56 : decode cX7_isMissingJustSo 56 = .ok (.iconst 1, 1) := by decide +kernel
theorem dX7_isMissingJustSo_57 : decode cX7_isMissingJustSo 57 = .ok (.ireturn, 1) := by decide +kernel
theorem dX7_imageAt_0 : decode cX7_imageAt 0 = .ok (.iload_n 1, 1) := by decide +kernel
theorem dX7_imageAt_1 : decode cX7_imageAt 1 = .ok (.ifCond .ne 10, 3) := by decide +kernel
theorem dX7_imageAt_4 : decode cX7_imageAt 4 = .ok (.aload_n 0, 1) := by decide +kernel
theorem dX7_imageAt_5 : decode cX7_imageAt 5 = .ok (.getfield 33, 3) := by decide +kernel
theorem dX7_imageAt_8 : decode cX7_imageAt 8 = .ok (.goto 7, 3) := by decide +kernel
theorem dX7_imageAt_11 : decode cX7_imageAt 11 = .ok (.aload_n 0, 1) := by decide +kernel
theorem dX7_imageAt_12 : decode cX7_imageAt 12 = .ok (.getfield 36, 3) := by decide +kernel
theorem dX7_imageAt_15 : decode cX7_imageAt 15 = .ok (.areturn, 1) := by decide +kernel
theorem dX7_isOfKind_0 : decode cX7_isOfKind 0 = .ok (.iload_n 0, 1) := by decide +kernel
theorem dX7_isOfKind_1 : decode cX7_isOfKind 1 = .ok (.istore_n 2, 1) := by decide +kernel
theorem dX7_isOfKind_2 : decode cX7_isOfKind 2 = .ok (.iconst 0, 1) := by decide +kernel
theorem dX7_isOfKind_3 : decode cX7_isOfKind 3 = .ok (.istore_n 3, 1) := by decide +kernel
theorem dX7_isOfKind_4 : decode cX7_isOfKind 4 = .ok (.iload_n 3, 1) := by decide +kernel
theorem dX7_isOfKind_5 : decode cX7_isOfKind 5 = .ok (.bipush 6, 2) := by decide +kernel
theorem dX7_isOfKind_7 : decode cX7_isOfKind 7 = .ok (.if_icmp .ge 32, 3) := by decide +kernel
theorem dX7_isOfKind_10 : decode cX7_isOfKind 10 = .ok (.iload_n 2, 1) := by decide +kernel
theorem dX7_isOfKind_11 : decode cX7_isOfKind 11 = .ok (.ifCond .lt 28, 3) := by decide +kernel
theorem dX7_isOfKind_14 : decode cX7_isOfKind 14 = .ok (.iload_n 2, 1) := by decide +kernel
theorem dX7_isOfKind_15 : decode cX7_isOfKind 15 = .ok (.bipush 6, 2) := by decide +kernel
theorem dX7_isOfKind_17 : decode cX7_isOfKind 17 = .ok (.if_icmp .ge 22, 3) := by decide +kernel
theorem dX7_isOfKind_20 : decode cX7_isOfKind 20 = .ok (.iload_n 2, 1) := by decide +kernel
theorem dX7_isOfKind_21 : decode cX7_isOfKind 21 = .ok (.iload_n 1, 1) := by decide +kernel
theorem dX7_isOfKind_22 : decode cX7_isOfKind 22 = .ok (.if_icmp .ne 5, 3) := by decide +kernel
theorem dX7_isOfKind_25 : decode cX7_isOfKind 25 = .ok (.iconst 1, 1) := by decide +kernel
theorem dX7_isOfKind_26 : decode cX7_isOfKind 26 = .ok (.ireturn, 1) := by decide +kernel
theorem dX7_isOfKind_27 : decode cX7_isOfKind 27 = .ok (.getstatic 368, 3) := by decide +kernel
theorem dX7_isOfKind_30 : decode cX7_isOfKind 30 = .ok (.iload_n 2, 1) := by decide +kernel
theorem dX7_isOfKind_31 : decode cX7_isOfKind 31 = .ok (.iaload, 1) := by decide +kernel
theorem dX7_isOfKind_32 : decode cX7_isOfKind 32 = .ok (.istore_n 2, 1) := by decide +kernel
theorem dX7_isOfKind_33 : decode cX7_isOfKind 33 = .ok (.iinc 3 1, 3) := by decide +kernel
theorem dX7_isOfKind_36 : decode cX7_isOfKind 36 = .ok (.goto (-32), 3) := by decide +kernel
theorem dX7_isOfKind_39 : decode cX7_isOfKind 39 = .ok (.iconst 0, 1) := by decide +kernel
theorem dX7_isOfKind_40 : decode cX7_isOfKind 40 = .ok (.ireturn, 1) := by decide +kernel
