theorem dX8_raid_0 : decode cX8_raid 0 = .ok (.aload_n 0, 1) := by decide +kernel
theorem dX8_raid_1 : decode cX8_raid 1 = .ok (.iconst 0, 1) := by decide +kernel
theorem dX8_raid_2 : decode cX8_raid 2 = .ok (.putfield 79, 3) := by decide +kernel
theorem dX8_raid_5 : decode cX8_raid 5 = .ok (.aload_n 0, 1) := by decide +kernel
theorem dX8_raid_6 : decode cX8_raid 6 = .ok (.invokevirtual 265, 3) := by decide +kernel
theorem dX8_raid_9 : decode cX8_raid 9 = .ok (.ifCond .eq 10, 3) := by decide +kernel
theorem dX8_raid_12 : decode cX8_raid 12 = .ok (.aload_n 0, 1) := by decide +kernel
theorem dX8_raid_13 : decode cX8_raid 13 = .ok (.invokevirtual 268, 3) := by decide +kernel
theorem dX8_raid_16 : decode cX8_raid 16 = .ok (.ifCond .ne 7, 3) := by decide +kernel
theorem dX8_raid_19 : decode cX8_raid 19 = .ok (.ldc_w 261, 3) := by decide +kernel
theorem dX8_raid_22 : decode cX8_raid 22 = .ok (.ireturn, 1) := by decide +kernel
theorem dX8_raid_23 : decode cX8_raid 23 = .ok (.aload_n 0, 1) := by decide +kernel
theorem dX8_raid_24 : decode cX8_raid 24 = .ok (.getfield 19, 3) := by decide +kernel
theorem dX8_raid_27 : decode cX8_raid 27 = .ok (.bipush 9, 2) := by decide +kernel
theorem dX8_raid_29 : decode cX8_raid 29 = .ok (.iaload, 1) := by decide +kernel
theorem dX8_raid_30 : decode cX8_raid 30 = .ok (.bipush 99, 2) := by decide +kernel
theorem dX8_raid_32 : decode cX8_raid 32 = .ok (.if_icmp .ne 6, 3) := by decide +kernel
theorem dX8_raid_35 : decode cX8_raid 35 = .ok (.ldc 108, 2) := by decide +kernel
theorem dX8_raid_37 : decode cX8_raid 37 = .ok (.ireturn, 1) := by decide +kernel
theorem dX8_raid_38 : decode cX8_raid 38 = .ok (.aload_n 0, 1) := by decide +kernel
theorem dX8_raid_39 : decode cX8_raid 39 = .ok (.invokevirtual 262, 3) := by decide +kernel
theorem dX8_raid_42 : decode cX8_raid 42 = .ok (.aload_n 0, 1) := by decide +kernel
theorem dX8_raid_43 : decode cX8_raid 43 = .ok (.invokevirtual 271, 3) := by decide +kernel
theorem dX8_raid_46 : decode cX8_raid 46 = .ok (.istore_n 1, 1) := by decide +kernel
theorem dX8_raid_47 : decode cX8_raid 47 = .ok (.iconst 0, 1) := by decide +kernel
theorem dX8_raid_48 : decode cX8_raid 48 = .ok (.istore_n 2, 1) := by decide +kernel
theorem dX8_raid_49 : decode cX8_raid 49 = .ok (.iload_n 2, 1) := by decide +kernel
theorem dX8_raid_50 : decode cX8_raid 50 = .ok (.aload_n 0, 1) := by decide +kernel
theorem dX8_raid_51 : decode cX8_raid 51 = .ok (.getfield 19, 3) := by decide +kernel
theorem dX8_raid_54 : decode cX8_raid 54 = .ok (.bipush 7, 2) := by decide +kernel
theorem dX8_raid_56 : decode cX8_raid 56 = .ok (.iaload, 1) := by decide +kernel
theorem dX8_raid_57 : decode cX8_raid 57 = .ok (.if_icmp .ge 28, 3) := by decide +kernel
theorem dX8_raid_60 : decode cX8_raid 60 = .ok (.aload_n 0, 1) := by decide +kernel
theorem dX8_raid_61 : decode cX8_raid 61 = .ok (.getfield 19, 3) := by decide +kernel
theorem dX8_raid_64 : decode cX8_raid 64 = .ok (.bipush 17, 2) := by decide +kernel
theorem dX8_raid_66 : decode cX8_raid 66 = .ok (.iconst 3, 1) := by decide +kernel
theorem dX8_raid_67 : decode cX8_raid 67 = .ok (.iload_n 2, 1) := by decide +kernel
theorem dX8_raid_68 : decode cX8_raid 68 = .ok (.imul, 1) := by decide +kernel
theorem dX8_raid_69 : decode cX8_raid 69 = .ok (.iadd, 1) := by decide +kernel
theorem dX8_raid_70 : decode cX8_raid 70 = .ok (.iconst 1, 1) := by decide +kernel
theorem dX8_raid_71 : decode cX8_raid 71 = .ok (.iadd, 1) := by decide +kernel
theorem dX8_raid_72 : decode cX8_raid 72 = .ok (.aload_n 0, 1) := by decide +kernel
theorem dX8_raid_73 : decode cX8_raid 73 = .ok (.getfield 40, 3) := by decide +kernel
theorem dX8_raid_76 : decode cX8_raid 76 = .ok (.iload_n 2, 1) := by decide +kernel
theorem dX8_raid_77 : decode cX8_raid 77 = .ok (.iaload, 1) := by decide +kernel
theorem dX8_raid_78 : decode cX8_raid 78 = .ok (.iastore, 1) := by decide +kernel
theorem dX8_raid_79 : decode cX8_raid 79 = .ok (.iinc 2 1, 3) := by decide +kernel
theorem dX8_raid_82 : decode cX8_raid 82 = .ok (.goto (-33), 3) := by decide +kernel
theorem dX8_raid_85 : decode cX8_raid 85 = .ok (.iconst 0, 1) := by decide +kernel
theorem dX8_raid_86 : decode cX8_raid 86 = .ok (.istore_n 2, 1) := by decide +kernel
theorem dX8_raid_87 : decode cX8_raid 87 = .ok (.iload_n 2, 1) := by decide +kernel
theorem dX8_raid_88 : decode cX8_raid 88 = .ok (.aload_n 0, 1) := by decide +kernel
theorem dX8_raid_89 : decode cX8_raid 89 = .ok (.getfield 19, 3) := by decide +kernel
theorem dX8_raid_92 : decode cX8_raid 92 = .ok (.bipush 8, 2) := by decide +kernel
theorem dX8_raid_94 : decode cX8_raid 94 = .ok (.iaload, 1) := by decide +kernel
theorem dX8_raid_95 : decode cX8_raid 95 = .ok (.if_icmp .ge 41, 3) := by decide +kernel
theorem dX8_raid_98 : decode cX8_raid 98 = .ok (.aload_n 0, 1) := by decide +kernel
theorem dX8_raid_99 : decode cX8_raid 99 = .ok (.getfield 19, 3) := by decide +kernel
theorem dX8_raid_102 : decode cX8_raid 102 = .ok (.bipush 35, 2) := by decide +kernel
theorem dX8_raid_104 : decode cX8_raid 104 = .ok (.bipush 6, 2) := by decide +kernel
theorem dX8_raid_106 : decode cX8_raid 106 = .ok (.iload_n 2, 1) := by decide +kernel
theorem dX8_raid_107 : decode cX8_raid 107 = .ok (.imul, 1) := by decide +kernel
theorem dX8_raid_108 : decode cX8_raid 108 = .ok (.iadd, 1) := by decide +kernel
theorem dX8_raid_109 : decode cX8_raid 109 = .ok (.iconst 5, 1) := by decide +kernel
theorem dX8_raid_110 : decode cX8_raid 110 = .ok (.iadd, 1) := by decide +kernel
theorem dX8_raid_111 : decode cX8_raid 111 = .ok (.dup2, 1) := by decide +kernel
theorem dX8_raid_112 : decode cX8_raid 112 = .ok (.iaload, 1) := by decide +kernel
theorem dX8_raid_113 : decode cX8_raid 113 = .ok (.aload_n 0, 1) := by decide +kernel
theorem dX8_raid_114 : decode cX8_raid 114 = .ok (.getfield 46, 3) := by decide +kernel
theorem dX8_raid_117 : decode cX8_raid 117 = .ok (.iload_n 2, 1) := by decide +kernel
theorem dX8_raid_118 : decode cX8_raid 118 = .ok (.iaload, 1) := by decide +kernel
theorem dX8_raid_119 : decode cX8_raid 119 = .ok (.iconst 4, 1) := by decide +kernel
theorem dX8_raid_120 : decode cX8_raid 120 = .ok (.if_icmp .ne 7, 3) := by decide +kernel
theorem dX8_raid_123 : decode cX8_raid 123 = .ok (.iconst 1, 1) := by decide +kernel
theorem dX8_raid_124 : decode cX8_raid 124 = .ok (.goto 4, 3) := by decide +kernel
theorem dX8_raid_127 : decode cX8_raid 127 = .ok (.iconst 0, 1) := by decide +kernel
theorem dX8_raid_128 : decode cX8_raid 128 = .ok (.iadd, 1) := by decide +kernel
theorem dX8_raid_129 : decode cX8_raid 129 = .ok (.iastore, 1) := by decide +kernel
theorem dX8_raid_130 : decode cX8_raid 130 = .ok (.iinc 2 1, 3) := by decide +kernel
theorem dX8_raid_133 : decode cX8_raid 133 = .ok (.goto (-46), 3) := by decide +kernel
theorem dX8_raid_136 : decode cX8_raid 136 = .ok (.aload_n 0, 1) := by decide +kernel
theorem dX8_raid_137 : decode cX8_raid 137 = .ok (.getfield 19, 3) := by decide +kernel
theorem dX8_raid_140 : decode cX8_raid 140 = .ok (.bipush 9, 2) := by decide +kernel
theorem dX8_raid_142 : decode cX8_raid 142 = .ok (.dup2, 1) := by decide +kernel
theorem dX8_raid_143 : decode cX8_raid 143 = .ok (.iaload, 1) := by decide +kernel
theorem dX8_raid_144 : decode cX8_raid 144 = .ok (.iconst 1, 1) := by decide +kernel
theorem dX8_raid_145 : decode cX8_raid 145 = .ok (.iadd, 1) := by decide +kernel
theorem dX8_raid_146 : decode cX8_raid 146 = .ok (.iastore, 1) := by decide +kernel
theorem dX8_raid_147 : decode cX8_raid 147 = .ok (.aload_n 0, 1) := by decide +kernel
theorem dX8_raid_148 : decode cX8_raid 148 = .ok (.getfield 19, 3) := by decide +kernel
theorem dX8_raid_151 : decode cX8_raid 151 = .ok (.bipush 10, 2) := by decide +kernel
theorem dX8_raid_153 : decode cX8_raid 153 = .ok (.dup2, 1) := by decide +kernel
theorem dX8_raid_154 : decode cX8_raid 154 = .ok (.iaload, 1) := by decide +kernel
theorem dX8_raid_155 : decode cX8_raid 155 = .ok (.iload_n 1, 1) := by decide +kernel
theorem dX8_raid_156 : decode cX8_raid 156 = .ok (.iadd, 1) := by decide +kernel
theorem dX8_raid_157 : decode cX8_raid 157 = .ok (.iastore, 1) := by decide +kernel
theorem dX8_raid_158 : decode cX8_raid 158 = .ok (.iload_n 1, 1) := by decide +kernel
theorem dX8_raid_159 : decode cX8_raid 159 = .ok (.ireturn, 1) := by decide +kernel
theorem dX8_grow_0 : decode cX8_grow 0 = .ok (.aload_n 0, 1) := by decide +kernel
theorem dX8_grow_1 : decode cX8_grow 1 = .ok (.iconst 0, 1) := by decide +kernel
theorem dX8_grow_2 : decode cX8_grow 2 = .ok (.putfield 79, 3) := by decide +kernel
theorem dX8_grow_5 : decode cX8_grow 5 = .ok (.aload_n 0, 1) := by decide +kernel
theorem dX8_grow_6 : decode cX8_grow 6 = .ok (.iload_n 1, 1) := by decide +kernel
theorem dX8_grow_7 : decode cX8_grow 7 = .ok (.invokevirtual 253, 3) := by decide +kernel
theorem dX8_grow_10 : decode cX8_grow 10 = .ok (.ifCond .eq 15, 3) := by decide +kernel
theorem dX8_grow_13 : decode cX8_grow 13 = .ok (.iload_n 2, 1) := by decide +kernel
theorem dX8_grow_14 : decode cX8_grow 14 = .ok (.i2l, 1) := by decide +kernel
theorem dX8_grow_15 : decode cX8_grow 15 = .ok (.lconst 1, 1) := by decide +kernel
theorem dX8_grow_16 : decode cX8_grow 16 = .ok (.ldc2_w 274, 3) := by decide +kernel
theorem dX8_grow_19 : decode cX8_grow 19 = .ok (.invokestatic 88, 3) := by decide +kernel
theorem dX8_grow_22 : decode cX8_grow 22 = .ok (.ifCond .ne 6, 3) := by decide +kernel
theorem dX8_grow_25 : decode cX8_grow 25 = .ok (.ldc 98, 2) := by decide +kernel
theorem dX8_grow_27 : decode cX8_grow 27 = .ok (.ireturn, 1) := by decide +kernel
theorem dX8_grow_28 : decode cX8_grow 28 = .ok (.bipush 17, 2) := by decide +kernel
theorem dX8_grow_30 : decode cX8_grow 30 = .ok (.iconst 3, 1) := by decide +kernel
theorem dX8_grow_31 : decode cX8_grow 31 = .ok (.iload_n 1, 1) := by decide +kernel
theorem dX8_grow_32 : decode cX8_grow 32 = .ok (.imul, 1) := by decide +kernel
theorem dX8_grow_33 : decode cX8_grow 33 = .ok (.iadd, 1) := by decide +kernel
theorem dX8_grow_34 : decode cX8_grow 34 = .ok (.iconst 1, 1) := by decide +kernel
theorem dX8_grow_35 : decode cX8_grow 35 = .ok (.iadd, 1) := by decide +kernel
theorem dX8_grow_36 : decode cX8_grow 36 = .ok (.istore_n 3, 1) := by decide +kernel
theorem dX8_grow_37 : decode cX8_grow 37 = .ok (.aload_n 0, 1) := by decide +kernel
theorem dX8_grow_38 : decode cX8_grow 38 = .ok (.getfield 19, 3) := by decide +kernel
theorem dX8_grow_41 : decode cX8_grow 41 = .ok (.iload_n 3, 1) := by decide +kernel
theorem dX8_grow_42 : decode cX8_grow 42 = .ok (.iaload, 1) := by decide +kernel
theorem dX8_grow_43 : decode cX8_grow 43 = .ok (.iload_n 2, 1) := by decide +kernel
theorem dX8_grow_44 : decode cX8_grow 44 = .ok (.iadd, 1) := by decide +kernel
theorem dX8_grow_45 : decode cX8_grow 45 = .ok (.bipush 60, 2) := by decide +kernel
theorem dX8_grow_47 : decode cX8_grow 47 = .ok (.if_icmp .le 6, 3) := by decide +kernel
theorem dX8_grow_50 : decode cX8_grow 50 = .ok (.ldc 108, 2) := by decide +kernel
theorem dX8_grow_52 : decode cX8_grow 52 = .ok (.ireturn, 1) := by decide +kernel
theorem dX8_grow_53 : decode cX8_grow 53 = .ok (.aload_n 0, 1) := by decide +kernel
theorem dX8_grow_54 : decode cX8_grow 54 = .ok (.invokevirtual 262, 3) := by decide +kernel
theorem dX8_grow_57 : decode cX8_grow 57 = .ok (.aload_n 0, 1) := by decide +kernel
theorem dX8_grow_58 : decode cX8_grow 58 = .ok (.getfield 19, 3) := by decide +kernel
theorem dX8_grow_61 : decode cX8_grow 61 = .ok (.iload_n 3, 1) := by decide +kernel
theorem dX8_grow_62 : decode cX8_grow 62 = .ok (.dup2, 1) := by decide +kernel
theorem dX8_grow_63 : decode cX8_grow 63 = .ok (.iaload, 1) := by decide +kernel
theorem dX8_grow_64 : decode cX8_grow 64 = .ok (.iload_n 2, 1) := by decide +kernel
theorem dX8_grow_65 : decode cX8_grow 65 = .ok (.iadd, 1) := by decide +kernel
theorem dX8_grow_66 : decode cX8_grow 66 = .ok (.iastore, 1) := by decide +kernel
theorem dX8_grow_67 : decode cX8_grow 67 = .ok (.aload_n 0, 1) := by decide +kernel
theorem dX8_grow_68 : decode cX8_grow 68 = .ok (.getfield 19, 3) := by decide +kernel
theorem dX8_grow_71 : decode cX8_grow 71 = .ok (.iload_n 3, 1) := by decide +kernel
theorem dX8_grow_72 : decode cX8_grow 72 = .ok (.iaload, 1) := by decide +kernel
theorem dX8_grow_73 : decode cX8_grow 73 = .ok (.ireturn, 1) := by decide +kernel
theorem dX8_undo_0 : decode cX8_undo 0 = .ok (.aload_n 0, 1) := by decide +kernel
theorem dX8_undo_1 : decode cX8_undo 1 = .ok (.iconst 0, 1) := by decide +kernel
theorem dX8_undo_2 : decode cX8_undo 2 = .ok (.putfield 79, 3) := by decide +kernel
theorem dX8_undo_5 : decode cX8_undo 5 = .ok (.aload_n 0, 1) := by decide +kernel
theorem dX8_undo_6 : decode cX8_undo 6 = .ok (.getfield 183, 3) := by decide +kernel
theorem dX8_undo_9 : decode cX8_undo 9 = .ok (.ifCond .ne 7, 3) := by decide +kernel
theorem dX8_undo_12 : decode cX8_undo 12 = .ok (.ldc_w 261, 3) := by decide +kernel
theorem dX8_undo_15 : decode cX8_undo 15 = .ok (.ireturn, 1) := by decide +kernel
theorem dX8_undo_16 : decode cX8_undo 16 = .ok (.aload_n 0, 1) := by decide +kernel
theorem dX8_undo_17 : decode cX8_undo 17 = .ok (.dup, 1) := by decide +kernel
theorem dX8_undo_18 : decode cX8_undo 18 = .ok (.getfield 183, 3) := by decide +kernel
theorem dX8_undo_21 : decode cX8_undo 21 = .ok (.iconst 1, 1) := by decide +kernel
theorem dX8_undo_22 : decode cX8_undo 22 = .ok (.isub, 1) := by decide +kernel
theorem dX8_undo_23 : decode cX8_undo 23 = .ok (.putfield 183, 3) := by decide +kernel
theorem dX8_undo_26 : decode cX8_undo 26 = .ok (.iconst 0, 1) := by decide +kernel
theorem dX8_undo_27 : decode cX8_undo 27 = .ok (.istore_n 1, 1) := by decide +kernel
theorem dX8_undo_28 : decode cX8_undo 28 = .ok (.iload_n 1, 1) := by decide +kernel
theorem dX8_undo_29 : decode cX8_undo 29 = .ok (.bipush 59, 2) := by decide +kernel
theorem dX8_undo_31 : decode cX8_undo 31 = .ok (.if_icmp .ge 29, 3) := by decide +kernel
theorem dX8_undo_34 : decode cX8_undo 34 = .ok (.aload_n 0, 1) := by decide +kernel
theorem dX8_undo_35 : decode cX8_undo 35 = .ok (.getfield 19, 3) := by decide +kernel
theorem dX8_undo_38 : decode cX8_undo 38 = .ok (.iload_n 1, 1) := by decide +kernel
theorem dX8_undo_39 : decode cX8_undo 39 = .ok (.aload_n 0, 1) := by decide +kernel
theorem dX8_undo_40 : decode cX8_undo 40 = .ok (.getfield 25, 3) := by decide +kernel
theorem dX8_undo_43 : decode cX8_undo 43 = .ok (.bipush 59, 2) := by decide +kernel
theorem dX8_undo_45 : decode cX8_undo 45 = .ok (.aload_n 0, 1) := by decide +kernel
theorem dX8_undo_46 : decode cX8_undo 46 = .ok (.getfield 183, 3) := by decide +kernel
theorem dX8_undo_49 : decode cX8_undo 49 = .ok (.imul, 1) := by decide +kernel
theorem dX8_undo_50 : decode cX8_undo 50 = .ok (.iload_n 1, 1) := by decide +kernel
theorem dX8_undo_51 : decode cX8_undo 51 = .ok (.iadd, 1) := by decide +kernel
theorem dX8_undo_52 : decode cX8_undo 52 = .ok (.iaload, 1) := by decide +kernel
theorem dX8_undo_53 : decode cX8_undo 53 = .ok (.iastore, 1) := by decide +kernel
theorem dX8_undo_54 : decode cX8_undo 54 = .ok (.iinc 1 1, 3) := by decide +kernel
theorem dX8_undo_57 : decode cX8_undo 57 = .ok (.goto (-29), 3) := by decide +kernel
theorem dX8_undo_60 : decode cX8_undo 60 = .ok (.aload_n 0, 1) := by decide +kernel
theorem dX8_undo_61 : decode cX8_undo 61 = .ok (.getfield 183, 3) := by decide +kernel
theorem dX8_undo_64 : decode cX8_undo 64 = .ok (.ireturn, 1) := by decide +kernel
theorem dX8_write_0 : decode cX8_write 0 = .ok (.aload_n 0, 1) := by decide +kernel
theorem dX8_write_1 : decode cX8_write 1 = .ok (.iconst 0, 1) := by decide +kernel
theorem dX8_write_2 : decode cX8_write 2 = .ok (.putfield 79, 3) := by decide +kernel
theorem dX8_write_5 : decode cX8_write 5 = .ok (.iload_n 1, 1) := by decide +kernel
theorem dX8_write_6 : decode cX8_write 6 = .ok (.i2l, 1) := by decide +kernel
theorem dX8_write_7 : decode cX8_write 7 = .ok (.lconst 0, 1) := by decide +kernel
theorem dX8_write_8 : decode cX8_write 8 = .ok (.ldc2_w 186, 3) := by decide +kernel
theorem dX8_write_11 : decode cX8_write 11 = .ok (.invokestatic 88, 3) := by decide +kernel
theorem dX8_write_14 : decode cX8_write 14 = .ok (.ifCond .eq 13, 3) := by decide +kernel
theorem dX8_write_17 : decode cX8_write 17 = .ok (.iload_n 2, 1) := by decide +kernel
theorem dX8_write_18 : decode cX8_write 18 = .ok (.i2l, 1) := by decide +kernel
theorem dX8_write_19 : decode cX8_write 19 = .ok (.lconst 0, 1) := by decide +kernel
theorem dX8_write_20 : decode cX8_write 20 = .ok (.lconst 1, 1) := by decide +kernel
theorem dX8_write_21 : decode cX8_write 21 = .ok (.invokestatic 88, 3) := by decide +kernel
theorem dX8_write_24 : decode cX8_write 24 = .ok (.ifCond .ne 6, 3) := by decide +kernel
theorem dX8_write_27 : decode cX8_write 27 = .ok (.ldc 98, 2) := by decide +kernel
theorem dX8_write_29 : decode cX8_write 29 = .ok (.ireturn, 1) := by decide +kernel
theorem dX8_write_30 : decode cX8_write 30 = .ok (.aload_n 0, 1) := by decide +kernel
theorem dX8_write_31 : decode cX8_write 31 = .ok (.getfield 276, 3) := by decide +kernel
theorem dX8_write_34 : decode cX8_write 34 = .ok (.bipush 16, 2) := by decide +kernel
theorem dX8_write_36 : decode cX8_write 36 = .ok (.if_icmp .ne 6, 3) := by decide +kernel
theorem dX8_write_39 : decode cX8_write 39 = .ok (.ldc 108, 2) := by decide +kernel
theorem dX8_write_41 : decode cX8_write 41 = .ok (.ireturn, 1) := by decide +kernel
theorem dX8_write_42 : decode cX8_write 42 = .ok (.aload_n 0, 1) := by decide +kernel
theorem dX8_write_43 : decode cX8_write 43 = .ok (.getfield 66, 3) := by decide +kernel
theorem dX8_write_46 : decode cX8_write 46 = .ok (.iconst 2, 1) := by decide +kernel
theorem dX8_write_47 : decode cX8_write 47 = .ok (.aload_n 0, 1) := by decide +kernel
theorem dX8_write_48 : decode cX8_write 48 = .ok (.getfield 276, 3) := by decide +kernel
theorem dX8_write_51 : decode cX8_write 51 = .ok (.imul, 1) := by decide +kernel
theorem dX8_write_52 : decode cX8_write 52 = .ok (.iload_n 1, 1) := by decide +kernel
theorem dX8_write_53 : decode cX8_write 53 = .ok (.iastore, 1) := by decide +kernel
theorem dX8_write_54 : decode cX8_write 54 = .ok (.aload_n 0, 1) := by decide +kernel
theorem dX8_write_55 : decode cX8_write 55 = .ok (.getfield 66, 3) := by decide +kernel
theorem dX8_write_58 : decode cX8_write 58 = .ok (.iconst 2, 1) := by decide +kernel
theorem dX8_write_59 : decode cX8_write 59 = .ok (.aload_n 0, 1) := by decide +kernel
theorem dX8_write_60 : decode cX8_write 60 = .ok (.getfield 276, 3) := by decide +kernel
theorem dX8_write_63 : decode cX8_write 63 = .ok (.imul, 1) := by decide +kernel
theorem dX8_write_64 : decode cX8_write 64 = .ok (.iconst 1, 1) := by decide +kernel
theorem dX8_write_65 : decode cX8_write 65 = .ok (.iadd, 1) := by decide +kernel
theorem dX8_write_66 : decode cX8_write 66 = .ok (.iload_n 2, 1) := by decide +kernel
theorem dX8_write_67 : decode cX8_write 67 = .ok (.iastore, 1) := by decide +kernel
theorem dX8_write_68 : decode cX8_write 68 = .ok (.aload_n 0, 1) := by decide +kernel
theorem dX8_write_69 : decode cX8_write 69 = .ok (.dup, 1) := by decide +kernel
theorem dX8_write_70 : decode cX8_write 70 = .ok (.getfield 276, 3) := by decide +kernel
theorem dX8_write_73 : decode cX8_write 73 = .ok (.iconst 1, 1) := by decide +kernel
theorem dX8_write_74 : decode cX8_write 74 = .ok (.iadd, 1) := by decide +kernel
theorem dX8_write_75 : decode cX8_write 75 = .ok (.putfield 276, 3) := by decide +kernel
theorem dX8_write_78 : decode cX8_write 78 = .ok (.aload_n 0, 1) := by decide +kernel
theorem dX8_write_79 : decode cX8_write 79 = .ok (.getfield 276, 3) := by decide +kernel
theorem dX8_write_82 : decode cX8_write 82 = .ok (.ireturn, 1) := by decide +kernel
theorem dX8_tear_0 : decode cX8_tear 0 = .ok (.aload_n 0, 1) := by decide +kernel
theorem dX8_tear_1 : decode cX8_tear 1 = .ok (.iconst 0, 1) := by decide +kernel
theorem dX8_tear_2 : decode cX8_tear 2 = .ok (.putfield 79, 3) := by decide +kernel
theorem dX8_tear_5 : decode cX8_tear 5 = .ok (.aload_n 0, 1) := by decide +kernel
theorem dX8_tear_6 : decode cX8_tear 6 = .ok (.getfield 276, 3) := by decide +kernel
theorem dX8_tear_9 : decode cX8_tear 9 = .ok (.istore_n 1, 1) := by decide +kernel
theorem dX8_tear_10 : decode cX8_tear 10 = .ok (.aload_n 0, 1) := by decide +kernel
theorem dX8_tear_11 : decode cX8_tear 11 = .ok (.iconst 0, 1) := by decide +kernel
theorem dX8_tear_12 : decode cX8_tear 12 = .ok (.putfield 276, 3) := by decide +kernel
theorem dX8_tear_15 : decode cX8_tear 15 = .ok (.iload_n 1, 1) := by decide +kernel
theorem dX8_tear_16 : decode cX8_tear 16 = .ok (.ireturn, 1) := by decide +kernel
theorem dX8_linesOf_0 : decode cX8_linesOf 0 = .ok (.iconst 0, 1) := by decide +kernel
theorem dX8_linesOf_1 : decode cX8_linesOf 1 = .ok (.istore_n 3, 1) := by decide +kernel
theorem dX8_linesOf_2 : decode cX8_linesOf 2 = .ok (.iconst 0, 1) := by decide +kernel
theorem dX8_linesOf_3 : decode cX8_linesOf 3 = .ok (.istore 4, 2) := by decide +kernel
theorem dX8_linesOf_5 : decode cX8_linesOf 5 = .ok (.iload 4, 2) := by decide +kernel
theorem dX8_linesOf_7 : decode cX8_linesOf 7 = .ok (.aload_n 0, 1) := by decide +kernel
theorem dX8_linesOf_8 : decode cX8_linesOf 8 = .ok (.getfield 276, 3) := by decide +kernel
theorem dX8_linesOf_11 : decode cX8_linesOf 11 = .ok (.if_icmp .ge 49, 3) := by decide +kernel
theorem dX8_linesOf_14 : decode cX8_linesOf 14 = .ok (.iload_n 3, 1) := by decide +kernel
theorem dX8_linesOf_15 : decode cX8_linesOf 15 = .ok (.aload_n 0, 1) := by decide +kernel
theorem dX8_linesOf_16 : decode cX8_linesOf 16 = .ok (.getfield 66, 3) := by decide +kernel
theorem dX8_linesOf_19 : decode cX8_linesOf 19 = .ok (.iconst 2, 1) := by decide +kernel
theorem dX8_linesOf_20 : decode cX8_linesOf 20 = .ok (.iload 4, 2) := by decide +kernel
theorem dX8_linesOf_22 : decode cX8_linesOf 22 = .ok (.imul, 1) := by decide +kernel
theorem dX8_linesOf_23 : decode cX8_linesOf 23 = .ok (.iaload, 1) := by decide +kernel
theorem dX8_linesOf_24 : decode cX8_linesOf 24 = .ok (.iload_n 1, 1) := by decide +kernel
theorem dX8_linesOf_25 : decode cX8_linesOf 25 = .ok (.if_icmp .ne 26, 3) := by decide +kernel
theorem dX8_linesOf_28 : decode cX8_linesOf 28 = .ok (.iload_n 2, 1) := by decide +kernel
theorem dX8_linesOf_29 : decode cX8_linesOf 29 = .ok (.ifCond .eq 18, 3) := by decide +kernel
theorem dX8_linesOf_32 : decode cX8_linesOf 32 = .ok (.aload_n 0, 1) := by decide +kernel
theorem dX8_linesOf_33 : decode cX8_linesOf 33 = .ok (.getfield 66, 3) := by decide +kernel
theorem dX8_linesOf_36 : decode cX8_linesOf 36 = .ok (.iconst 2, 1) := by decide +kernel
theorem dX8_linesOf_37 : decode cX8_linesOf 37 = .ok (.iload 4, 2) := by decide +kernel
theorem dX8_linesOf_39 : decode cX8_linesOf 39 = .ok (.imul, 1) := by decide +kernel
theorem dX8_linesOf_40 : decode cX8_linesOf 40 = .ok (.iconst 1, 1) := by decide +kernel
theorem dX8_linesOf_41 : decode cX8_linesOf 41 = .ok (.iadd, 1) := by decide +kernel
theorem dX8_linesOf_42 : decode cX8_linesOf 42 = .ok (.iaload, 1) := by decide +kernel
theorem dX8_linesOf_43 : decode cX8_linesOf 43 = .ok (.iconst 1, 1) := by decide +kernel
theorem dX8_linesOf_44 : decode cX8_linesOf 44 = .ok (.if_icmp .ne 7, 3) := by decide +kernel
theorem dX8_linesOf_47 : decode cX8_linesOf 47 = .ok (.iconst 1, 1) := by decide +kernel
theorem dX8_linesOf_48 : decode cX8_linesOf 48 = .ok (.goto 4, 3) := by decide +kernel
theorem dX8_linesOf_51 : decode cX8_linesOf 51 = .ok (.iconst 0, 1) := by decide +kernel
theorem dX8_linesOf_52 : decode cX8_linesOf 52 = .ok (.iadd, 1) := by decide +kernel
theorem dX8_linesOf_53 : decode cX8_linesOf 53 = .ok (.istore_n 3, 1) := by decide +kernel
theorem dX8_linesOf_54 : decode cX8_linesOf 54 = .ok (.iinc 4 1, 3) := by decide +kernel
theorem dX8_linesOf_57 : decode cX8_linesOf 57 = .ok (.goto (-52), 3) := by decide +kernel
theorem dX8_linesOf_60 : decode cX8_linesOf 60 = .ok (.iload_n 3, 1) := by decide +kernel
theorem dX8_linesOf_61 : decode cX8_linesOf 61 = .ok (.ireturn, 1) := by decide +kernel
theorem dX8_common_0 : decode cX8_common 0 = .ok (.lload_n 0, 1) := by decide +kernel
theorem dX8_common_1 : decode cX8_common 1 = .ok (.lconst 0, 1) := by decide +kernel
theorem dX8_common_2 : decode cX8_common 2 = .ok (.lcmp, 1) := by decide +kernel
theorem dX8_common_3 : decode cX8_common 3 = .ok (.ifCond .ge 8, 3) := by decide +kernel
theorem dX8_common_6 : decode cX8_common 6 = .ok (.lload_n 0, 1) := by decide +kernel
theorem dX8_common_7 : decode cX8_common 7 = .ok (.lneg, 1) := by decide +kernel
theorem dX8_common_8 : decode cX8_common 8 = .ok (.goto 4, 3) := by decide +kernel
theorem dX8_common_11 : decode cX8_common 11 = .ok (.lload_n 0, 1) := by decide +kernel
theorem dX8_common_12 : decode cX8_common 12 = .ok (.lstore 4, 2) := by decide +kernel
theorem dX8_common_14 : decode cX8_common 14 = .ok (.lload_n 2, 1) := by decide +kernel
theorem dX8_common_15 : decode cX8_common 15 = .ok (.lstore 6, 2) := by decide +kernel
theorem dX8_common_17 : decode cX8_common 17 = .ok (.lload 6, 2) := by decide +kernel
theorem dX8_common_19 : decode cX8_common 19 = .ok (.lconst 0, 1) := by decide +kernel
theorem dX8_common_20 : decode cX8_common 20 = .ok (.lcmp, 1) := by decide +kernel
theorem dX8_common_21 : decode cX8_common 21 = .ok (.ifCond .eq 21, 3) := by decide +kernel
theorem dX8_common_24 : decode cX8_common 24 = .ok (.lload 4, 2) := by decide +kernel
theorem dX8_common_26 : decode cX8_common 26 = .ok (.lload 6, 2) := by decide +kernel
theorem dX8_common_28 : decode cX8_common 28 = .ok (.lrem, 1) := by decide +kernel
theorem dX8_common_29 : decode cX8_common 29 = .ok (.lstore 8, 2) := by decide +kernel
theorem dX8_common_31 : decode cX8_common 31 = .ok (.lload 6, 2) := by decide +kernel
theorem dX8_common_33 : decode cX8_common 33 = .ok (.lstore 4, 2) := by decide +kernel
theorem dX8_common_35 : decode cX8_common 35 = .ok (.lload 8, 2) := by decide +kernel
theorem dX8_common_37 : decode cX8_common 37 = .ok (.lstore 6, 2) := by decide +kernel
theorem dX8_common_39 : decode cX8_common 39 = .ok (.goto (-22), 3) := by decide +kernel
theorem dX8_common_42 : decode cX8_common 42 = .ok (.lload 4, 2) := by decide +kernel
theorem dX8_common_44 : decode cX8_common 44 = .ok (.lreturn, 1) := by decide +kernel
theorem dX8_sleep_0 : decode cX8_sleep 0 = .ok (.aload_n 0, 1) := by decide +kernel
theorem dX8_sleep_1 : decode cX8_sleep 1 = .ok (.iconst 0, 1) := by decide +kernel
theorem dX8_sleep_2 : decode cX8_sleep 2 = .ok (.putfield 79, 3) := by decide +kernel
theorem dX8_sleep_5 : decode cX8_sleep 5 = .ok (.iload_n 1, 1) := by decide +kernel
theorem dX8_sleep_6 : decode cX8_sleep 6 = .ok (.i2l, 1) := by decide +kernel
theorem dX8_sleep_7 : decode cX8_sleep 7 = .ok (.lconst 0, 1) := by decide +kernel
theorem dX8_sleep_8 : decode cX8_sleep 8 = .ok (.ldc2_w 186, 3) := by decide +kernel
theorem dX8_sleep_11 : decode cX8_sleep 11 = .ok (.invokestatic 88, 3) := by decide +kernel
theorem dX8_sleep_14 : decode cX8_sleep 14 = .ok (.ifCond .eq 13, 3) := by decide +kernel
theorem dX8_sleep_17 : decode cX8_sleep 17 = .ok (.iload_n 2, 1) := by decide +kernel
theorem dX8_sleep_18 : decode cX8_sleep 18 = .ok (.i2l, 1) := by decide +kernel
theorem dX8_sleep_19 : decode cX8_sleep 19 = .ok (.lconst 0, 1) := by decide +kernel
theorem dX8_sleep_20 : decode cX8_sleep 20 = .ok (.lconst 1, 1) := by decide +kernel
theorem dX8_sleep_21 : decode cX8_sleep 21 = .ok (.invokestatic 88, 3) := by decide +kernel
theorem dX8_sleep_24 : decode cX8_sleep 24 = .ok (.ifCond .ne 6, 3) := by decide +kernel
theorem dX8_sleep_27 : decode cX8_sleep 27 = .ok (.ldc 98, 2) := by decide +kernel
theorem dX8_sleep_29 : decode cX8_sleep 29 = .ok (.ireturn, 1) := by decide +kernel
theorem dX8_sleep_30 : decode cX8_sleep 30 = .ok (.aload_n 0, 1) := by decide +kernel
theorem dX8_sleep_31 : decode cX8_sleep 31 = .ok (.iload_n 1, 1) := by decide +kernel
theorem dX8_sleep_32 : decode cX8_sleep 32 = .ok (.iconst 0, 1) := by decide +kernel
theorem dX8_sleep_33 : decode cX8_sleep 33 = .ok (.invokevirtual 279, 3) := by decide +kernel
theorem dX8_sleep_36 : decode cX8_sleep 36 = .ok (.istore_n 3, 1) := by decide +kernel
theorem dX8_sleep_37 : decode cX8_sleep 37 = .ok (.iload_n 3, 1) := by decide +kernel
theorem dX8_sleep_38 : decode cX8_sleep 38 = .ok (.ifCond .ne 6, 3) := by decide +kernel
theorem dX8_sleep_41 : decode cX8_sleep 41 = .ok (.ldc 61, 2) := by decide +kernel
theorem dX8_sleep_43 : decode cX8_sleep 43 = .ok (.ireturn, 1) := by decide +kernel
theorem dX8_sleep_44 : decode cX8_sleep 44 = .ok (.aload_n 0, 1) := by decide +kernel
theorem dX8_sleep_45 : decode cX8_sleep 45 = .ok (.iload_n 1, 1) := by decide +kernel
theorem dX8_sleep_46 : decode cX8_sleep 46 = .ok (.iconst 1, 1) := by decide +kernel
theorem dX8_sleep_47 : decode cX8_sleep 47 = .ok (.invokevirtual 279, 3) := by decide +kernel
theorem dX8_sleep_50 : decode cX8_sleep 50 = .ok (.istore 4, 2) := by decide +kernel
theorem dX8_sleep_52 : decode cX8_sleep 52 = .ok (.iload_n 2, 1) := by decide +kernel
theorem dX8_sleep_53 : decode cX8_sleep 53 = .ok (.ifCond .ne 8, 3) := by decide +kernel
theorem dX8_sleep_56 : decode cX8_sleep 56 = .ok (.iload 4, 2) := by decide +kernel
theorem dX8_sleep_58 : decode cX8_sleep 58 = .ok (.goto 4, 3) := by decide +kernel
theorem dX8_sleep_61 : decode cX8_sleep 61 = .ok (.iload_n 3, 1) := by decide +kernel
theorem dX8_sleep_62 : decode cX8_sleep 62 = .ok (.i2l, 1) := by decide +kernel
theorem dX8_sleep_63 : decode cX8_sleep 63 = .ok (.iload 4, 2) := by decide +kernel
theorem dX8_sleep_65 : decode cX8_sleep 65 = .ok (.i2l, 1) := by decide +kernel
theorem dX8_sleep_66 : decode cX8_sleep 66 = .ok (.iload_n 3, 1) := by decide +kernel
theorem dX8_sleep_67 : decode cX8_sleep 67 = .ok (.i2l, 1) := by decide +kernel
theorem dX8_sleep_68 : decode cX8_sleep 68 = .ok (.invokestatic 283, 3) := by decide +kernel
theorem dX8_sleep_71 : decode cX8_sleep 71 = .ok (.ldiv, 1) := by decide +kernel
theorem dX8_sleep_72 : decode cX8_sleep 72 = .ok (.l2i, 1) := by decide +kernel
theorem dX8_sleep_73 : decode cX8_sleep 73 = .ok (.ireturn, 1) := by decide +kernel
theorem dX8_quietest_0 : decode cX8_quietest 0 = .ok (.aload_n 0, 1) := by decide +kernel
theorem dX8_quietest_1 : decode cX8_quietest 1 = .ok (.iconst 0, 1) := by decide +kernel
theorem dX8_quietest_2 : decode cX8_quietest 2 = .ok (.putfield 79, 3) := by decide +kernel
theorem dX8_quietest_5 : decode cX8_quietest 5 = .ok (.ldc 61, 2) := by decide +kernel
theorem dX8_quietest_7 : decode cX8_quietest 7 = .ok (.istore_n 1, 1) := by decide +kernel
theorem dX8_quietest_8 : decode cX8_quietest 8 = .ok (.iconst 0, 1) := by decide +kernel
theorem dX8_quietest_9 : decode cX8_quietest 9 = .ok (.istore_n 2, 1) := by decide +kernel
theorem dX8_quietest_10 : decode cX8_quietest 10 = .ok (.iload_n 2, 1) := by decide +kernel
theorem dX8_quietest_11 : decode cX8_quietest 11 = .ok (.bipush 24, 2) := by decide +kernel
theorem dX8_quietest_13 : decode cX8_quietest 13 = .ok (.if_icmp .ge 68, 3) := by decide +kernel
theorem dX8_quietest_16 : decode cX8_quietest 16 = .ok (.aload_n 0, 1) := by decide +kernel
theorem dX8_quietest_17 : decode cX8_quietest 17 = .ok (.iload_n 2, 1) := by decide +kernel
theorem dX8_quietest_18 : decode cX8_quietest 18 = .ok (.iconst 0, 1) := by decide +kernel
theorem dX8_quietest_19 : decode cX8_quietest 19 = .ok (.invokevirtual 279, 3) := by decide +kernel
theorem dX8_quietest_22 : decode cX8_quietest 22 = .ok (.istore_n 3, 1) := by decide +kernel
theorem dX8_quietest_23 : decode cX8_quietest 23 = .ok (.iload_n 3, 1) := by decide +kernel
theorem dX8_quietest_24 : decode cX8_quietest 24 = .ok (.ifCond .le 37, 3) := by decide +kernel
theorem dX8_quietest_27 : decode cX8_quietest 27 = .ok (.iload_n 1, 1) := by decide +kernel
theorem dX8_quietest_28 : decode cX8_quietest 28 = .ok (.ldc 61, 2) := by decide +kernel
theorem dX8_quietest_30 : decode cX8_quietest 30 = .ok (.if_icmp .eq 27, 3) := by decide +kernel
theorem dX8_quietest_33 : decode cX8_quietest 33 = .ok (.aload_n 0, 1) := by decide +kernel
theorem dX8_quietest_34 : decode cX8_quietest 34 = .ok (.iload_n 2, 1) := by decide +kernel
theorem dX8_quietest_35 : decode cX8_quietest 35 = .ok (.iconst 1, 1) := by decide +kernel
theorem dX8_quietest_36 : decode cX8_quietest 36 = .ok (.invokevirtual 279, 3) := by decide +kernel
theorem dX8_quietest_39 : decode cX8_quietest 39 = .ok (.aload_n 0, 1) := by decide +kernel
theorem dX8_quietest_40 : decode cX8_quietest 40 = .ok (.iload_n 1, 1) := by decide +kernel
theorem dX8_quietest_41 : decode cX8_quietest 41 = .ok (.iconst 0, 1) := by decide +kernel
theorem dX8_quietest_42 : decode cX8_quietest 42 = .ok (.invokevirtual 279, 3) := by decide +kernel
theorem dX8_quietest_45 : decode cX8_quietest 45 = .ok (.imul, 1) := by decide +kernel
theorem dX8_quietest_46 : decode cX8_quietest 46 = .ok (.aload_n 0, 1) := by decide +kernel
theorem dX8_quietest_47 : decode cX8_quietest 47 = .ok (.iload_n 1, 1) := by decide +kernel
theorem dX8_quietest_48 : decode cX8_quietest 48 = .ok (.iconst 1, 1) := by decide +kernel
theorem dX8_quietest_49 : decode cX8_quietest 49 = .ok (.invokevirtual 279, 3) := by decide +kernel
theorem dX8_quietest_52 : decode cX8_quietest 52 = .ok (.iload_n 3, 1) := by decide +kernel
theorem dX8_quietest_53 : decode cX8_quietest 53 = .ok (.imul, 1) := by decide +kernel
theorem dX8_quietest_54 : decode cX8_quietest 54 = .ok (.if_icmp .le 7, 3) := by decide +kernel
theorem dX8_quietest_57 : decode cX8_quietest 57 = .ok (.iconst 1, 1) := by decide +kernel
theorem dX8_quietest_58 : decode cX8_quietest 58 = .ok (.goto 4, 3) := by decide +kernel
theorem dX8_quietest_61 : decode cX8_quietest 61 = .ok (.iconst 0, 1) := by decide +kernel
theorem dX8_quietest_62 : decode cX8_quietest 62 = .ok (.istore 4, 2) := by decide +kernel
theorem dX8_quietest_64 : decode cX8_quietest 64 = .ok (.iload 4, 2) := by decide +kernel
theorem dX8_quietest_66 : decode cX8_quietest 66 = .ok (.ifCond .eq 7, 3) := by decide +kernel
theorem dX8_quietest_69 : decode cX8_quietest 69 = .ok (.iload_n 2, 1) := by decide +kernel
theorem dX8_quietest_70 : decode cX8_quietest 70 = .ok (.goto 4, 3) := by decide +kernel
theorem dX8_quietest_73 : decode cX8_quietest 73 = .ok (.iload_n 1, 1) := by decide +kernel
theorem dX8_quietest_74 : decode cX8_quietest 74 = .ok (.istore_n 1, 1) := by decide +kernel
theorem dX8_quietest_75 : decode cX8_quietest 75 = .ok (.iinc 2 1, 3) := by decide +kernel
theorem dX8_quietest_78 : decode cX8_quietest 78 = .ok (.goto (-68), 3) := by decide +kernel
theorem dX8_quietest_81 : decode cX8_quietest 81 = .ok (.iload_n 1, 1) := by decide +kernel
theorem dX8_quietest_82 : decode cX8_quietest 82 = .ok (.ireturn, 1) := by decide +kernel
theorem dX8_raider_0 : decode cX8_raider 0 = .ok (.aload_n 0, 1) := by decide +kernel
theorem dX8_raider_1 : decode cX8_raider 1 = .ok (.iconst 0, 1) := by decide +kernel
theorem dX8_raider_2 : decode cX8_raider 2 = .ok (.putfield 79, 3) := by decide +kernel
theorem dX8_raider_5 : decode cX8_raider 5 = .ok (.aload_n 0, 1) := by decide +kernel
theorem dX8_raider_6 : decode cX8_raider 6 = .ok (.iload_n 1, 1) := by decide +kernel
theorem dX8_raider_7 : decode cX8_raider 7 = .ok (.invokevirtual 250, 3) := by decide +kernel
theorem dX8_raider_10 : decode cX8_raider 10 = .ok (.ifCond .eq 26, 3) := by decide +kernel
theorem dX8_raider_13 : decode cX8_raider 13 = .ok (.iload_n 2, 1) := by decide +kernel
theorem dX8_raider_14 : decode cX8_raider 14 = .ok (.i2l, 1) := by decide +kernel
theorem dX8_raider_15 : decode cX8_raider 15 = .ok (.lconst 0, 1) := by decide +kernel
theorem dX8_raider_16 : decode cX8_raider 16 = .ok (.ldc2_w 287, 3) := by decide +kernel
theorem dX8_raider_19 : decode cX8_raider 19 = .ok (.invokestatic 88, 3) := by decide +kernel
theorem dX8_raider_22 : decode cX8_raider 22 = .ok (.ifCond .eq 14, 3) := by decide +kernel
theorem dX8_raider_25 : decode cX8_raider 25 = .ok (.aload_n 0, 1) := by decide +kernel
theorem dX8_raider_26 : decode cX8_raider 26 = .ok (.iload_n 1, 1) := by decide +kernel
theorem dX8_raider_27 : decode cX8_raider 27 = .ok (.iconst 1, 1) := by decide +kernel
theorem dX8_raider_28 : decode cX8_raider 28 = .ok (.iload_n 2, 1) := by decide +kernel
theorem dX8_raider_29 : decode cX8_raider 29 = .ok (.iadd, 1) := by decide +kernel
theorem dX8_raider_30 : decode cX8_raider 30 = .ok (.invokevirtual 188, 3) := by decide +kernel
theorem dX8_raider_33 : decode cX8_raider 33 = .ok (.goto 5, 3) := by decide +kernel
theorem dX8_raider_36 : decode cX8_raider 36 = .ok (.ldc 98, 2) := by decide +kernel
theorem dX8_raider_38 : decode cX8_raider 38 = .ok (.ireturn, 1) := by decide +kernel
theorem dX8_tree_0 : decode cX8_tree 0 = .ok (.aload_n 0, 1) := by decide +kernel
theorem dX8_tree_1 : decode cX8_tree 1 = .ok (.iconst 0, 1) := by decide +kernel
theorem dX8_tree_2 : decode cX8_tree 2 = .ok (.putfield 79, 3) := by decide +kernel
theorem dX8_tree_5 : decode cX8_tree 5 = .ok (.aload_n 0, 1) := by decide +kernel
theorem dX8_tree_6 : decode cX8_tree 6 = .ok (.iload_n 1, 1) := by decide +kernel
theorem dX8_tree_7 : decode cX8_tree 7 = .ok (.invokevirtual 253, 3) := by decide +kernel
theorem dX8_tree_10 : decode cX8_tree 10 = .ok (.ifCond .eq 31, 3) := by decide +kernel
theorem dX8_tree_13 : decode cX8_tree 13 = .ok (.iload_n 2, 1) := by decide +kernel
theorem dX8_tree_14 : decode cX8_tree 14 = .ok (.i2l, 1) := by decide +kernel
theorem dX8_tree_15 : decode cX8_tree 15 = .ok (.lconst 0, 1) := by decide +kernel
theorem dX8_tree_16 : decode cX8_tree 16 = .ok (.ldc2_w 96, 3) := by decide +kernel
theorem dX8_tree_19 : decode cX8_tree 19 = .ok (.invokestatic 88, 3) := by decide +kernel
theorem dX8_tree_22 : decode cX8_tree 22 = .ok (.ifCond .eq 19, 3) := by decide +kernel
theorem dX8_tree_25 : decode cX8_tree 25 = .ok (.aload_n 0, 1) := by decide +kernel
theorem dX8_tree_26 : decode cX8_tree 26 = .ok (.getfield 19, 3) := by decide +kernel
theorem dX8_tree_29 : decode cX8_tree 29 = .ok (.bipush 17, 2) := by decide +kernel
theorem dX8_tree_31 : decode cX8_tree 31 = .ok (.iconst 3, 1) := by decide +kernel
theorem dX8_tree_32 : decode cX8_tree 32 = .ok (.iload_n 1, 1) := by decide +kernel
theorem dX8_tree_33 : decode cX8_tree 33 = .ok (.imul, 1) := by decide +kernel
theorem dX8_tree_34 : decode cX8_tree 34 = .ok (.iadd, 1) := by decide +kernel
theorem dX8_tree_35 : decode cX8_tree 35 = .ok (.iload_n 2, 1) := by decide +kernel
theorem dX8_tree_36 : decode cX8_tree 36 = .ok (.iadd, 1) := by decide +kernel
theorem dX8_tree_37 : decode cX8_tree 37 = .ok (.iaload, 1) := by decide +kernel
theorem dX8_tree_38 : decode cX8_tree 38 = .ok (.goto 5, 3) := by decide +kernel
theorem dX8_tree_41 : decode cX8_tree 41 = .ok (.ldc 98, 2) := by decide +kernel
theorem dX8_tree_43 : decode cX8_tree 43 = .ok (.ireturn, 1) := by decide +kernel
theorem dX8_far_0 : decode cX8_far 0 = .ok (.aload_n 0, 1) := by decide +kernel
theorem dX8_far_1 : decode cX8_far 1 = .ok (.iconst 0, 1) := by decide +kernel
theorem dX8_far_2 : decode cX8_far 2 = .ok (.putfield 79, 3) := by decide +kernel
theorem dX8_far_5 : decode cX8_far 5 = .ok (.iload_n 1, 1) := by decide +kernel
theorem dX8_far_6 : decode cX8_far 6 = .ok (.invokestatic 289, 3) := by decide +kernel
theorem dX8_far_9 : decode cX8_far 9 = .ok (.ifCond .eq 18, 3) := by decide +kernel
theorem dX8_far_12 : decode cX8_far 12 = .ok (.iload_n 2, 1) := by decide +kernel
theorem dX8_far_13 : decode cX8_far 13 = .ok (.invokestatic 289, 3) := by decide +kernel
theorem dX8_far_16 : decode cX8_far 16 = .ok (.ifCond .eq 11, 3) := by decide +kernel
theorem dX8_far_19 : decode cX8_far 19 = .ok (.iload_n 1, 1) := by decide +kernel
theorem dX8_far_20 : decode cX8_far 20 = .ok (.iload_n 2, 1) := by decide +kernel
theorem dX8_far_21 : decode cX8_far 21 = .ok (.invokestatic 197, 3) := by decide +kernel
theorem dX8_far_24 : decode cX8_far 24 = .ok (.goto 5, 3) := by decide +kernel
theorem dX8_far_27 : decode cX8_far 27 = .ok (.ldc 98, 2) := by decide +kernel
theorem dX8_far_29 : decode cX8_far 29 = .ok (.ireturn, 1) := by decide +kernel
theorem dX8_ahead_0 : decode cX8_ahead 0 = .ok (.aload_n 0, 1) := by decide +kernel
theorem dX8_ahead_1 : decode cX8_ahead 1 = .ok (.iconst 0, 1) := by decide +kernel
theorem dX8_ahead_2 : decode cX8_ahead 2 = .ok (.putfield 79, 3) := by decide +kernel
theorem dX8_ahead_5 : decode cX8_ahead 5 = .ok (.aload_n 0, 1) := by decide +kernel
theorem dX8_ahead_6 : decode cX8_ahead 6 = .ok (.invokevirtual 265, 3) := by decide +kernel
theorem dX8_ahead_9 : decode cX8_ahead 9 = .ok (.ifCond .ne 7, 3) := by decide +kernel
theorem dX8_ahead_12 : decode cX8_ahead 12 = .ok (.ldc_w 261, 3) := by decide +kernel
theorem dX8_ahead_15 : decode cX8_ahead 15 = .ok (.ireturn, 1) := by decide +kernel
theorem dX8_ahead_16 : decode cX8_ahead 16 = .ok (.iload_n 1, 1) := by decide +kernel
theorem dX8_ahead_17 : decode cX8_ahead 17 = .ok (.i2l, 1) := by decide +kernel
theorem dX8_ahead_18 : decode cX8_ahead 18 = .ok (.lconst 0, 1) := by decide +kernel
theorem dX8_ahead_19 : decode cX8_ahead 19 = .ok (.ldc2_w 292, 3) := by decide +kernel
theorem dX8_ahead_22 : decode cX8_ahead 22 = .ok (.invokestatic 88, 3) := by decide +kernel
theorem dX8_ahead_25 : decode cX8_ahead 25 = .ok (.ifCond .ne 6, 3) := by decide +kernel
theorem dX8_ahead_28 : decode cX8_ahead 28 = .ok (.ldc 98, 2) := by decide +kernel
theorem dX8_ahead_30 : decode cX8_ahead 30 = .ok (.ireturn, 1) := by decide +kernel
theorem dX8_ahead_31 : decode cX8_ahead 31 = .ok (.aload_n 0, 1) := by decide +kernel
theorem dX8_ahead_32 : decode cX8_ahead 32 = .ok (.invokevirtual 271, 3) := by decide +kernel
theorem dX8_ahead_35 : decode cX8_ahead 35 = .ok (.istore_n 2, 1) := by decide +kernel
theorem dX8_ahead_36 : decode cX8_ahead 36 = .ok (.iconst 0, 1) := by decide +kernel
theorem dX8_ahead_37 : decode cX8_ahead 37 = .ok (.istore_n 3, 1) := by decide +kernel
theorem dX8_ahead_38 : decode cX8_ahead 38 = .ok (.iconst 0, 1) := by decide +kernel
theorem dX8_ahead_39 : decode cX8_ahead 39 = .ok (.istore 4, 2) := by decide +kernel
theorem dX8_ahead_41 : decode cX8_ahead 41 = .ok (.iload 4, 2) := by decide +kernel
theorem dX8_ahead_43 : decode cX8_ahead 43 = .ok (.iconst 4, 1) := by decide +kernel
theorem dX8_ahead_44 : decode cX8_ahead 44 = .ok (.if_icmp .ge 31, 3) := by decide +kernel
theorem dX8_ahead_47 : decode cX8_ahead 47 = .ok (.iload_n 3, 1) := by decide +kernel
theorem dX8_ahead_48 : decode cX8_ahead 48 = .ok (.aload_n 0, 1) := by decide +kernel
theorem dX8_ahead_49 : decode cX8_ahead 49 = .ok (.getfield 46, 3) := by decide +kernel
theorem dX8_ahead_52 : decode cX8_ahead 52 = .ok (.iload 4, 2) := by decide +kernel
theorem dX8_ahead_54 : decode cX8_ahead 54 = .ok (.iaload, 1) := by decide +kernel
theorem dX8_ahead_55 : decode cX8_ahead 55 = .ok (.iconst 4, 1) := by decide +kernel
theorem dX8_ahead_56 : decode cX8_ahead 56 = .ok (.if_icmp .ne 10, 3) := by decide +kernel
theorem dX8_ahead_59 : decode cX8_ahead 59 = .ok (.iconst 1, 1) := by decide +kernel
theorem dX8_ahead_60 : decode cX8_ahead 60 = .ok (.iload 4, 2) := by decide +kernel
theorem dX8_ahead_62 : decode cX8_ahead 62 = .ok (.ishl, 1) := by decide +kernel
theorem dX8_ahead_63 : decode cX8_ahead 63 = .ok (.goto 4, 3) := by decide +kernel
theorem dX8_ahead_66 : decode cX8_ahead 66 = .ok (.iconst 0, 1) := by decide +kernel
theorem dX8_ahead_67 : decode cX8_ahead 67 = .ok (.ior, 1) := by decide +kernel
theorem dX8_ahead_68 : decode cX8_ahead 68 = .ok (.istore_n 3, 1) := by decide +kernel
theorem dX8_ahead_69 : decode cX8_ahead 69 = .ok (.iinc 4 1, 3) := by decide +kernel
theorem dX8_ahead_72 : decode cX8_ahead 72 = .ok (.goto (-31), 3) := by decide +kernel
theorem dX8_ahead_75 : decode cX8_ahead 75 = .ok (.iload_n 1, 1) := by decide +kernel
theorem dX8_ahead_76 : decode cX8_ahead 76 = .ok (.ifCond .ne 7, 3) := by decide +kernel
theorem dX8_ahead_79 : decode cX8_ahead 79 = .ok (.iload_n 2, 1) := by decide +kernel
theorem dX8_ahead_80 : decode cX8_ahead 80 = .ok (.goto 28, 3) := by decide +kernel
theorem dX8_ahead_83 : decode cX8_ahead 83 = .ok (.iload_n 1, 1) := by decide +kernel
theorem dX8_ahead_84 : decode cX8_ahead 84 = .ok (.iconst 1, 1) := by decide +kernel
theorem dX8_ahead_85 : decode cX8_ahead 85 = .ok (.if_icmp .ne 7, 3) := by decide +kernel
theorem dX8_ahead_88 : decode cX8_ahead 88 = .ok (.iload_n 3, 1) := by decide +kernel
theorem dX8_ahead_89 : decode cX8_ahead 89 = .ok (.goto 19, 3) := by decide +kernel
theorem dX8_ahead_92 : decode cX8_ahead 92 = .ok (.iload_n 1, 1) := by decide +kernel
theorem dX8_ahead_93 : decode cX8_ahead 93 = .ok (.iconst 2, 1) := by decide +kernel
theorem dX8_ahead_94 : decode cX8_ahead 94 = .ok (.if_icmp .ne 10, 3) := by decide +kernel
theorem dX8_ahead_97 : decode cX8_ahead 97 = .ok (.aload_n 0, 1) := by decide +kernel
theorem dX8_ahead_98 : decode cX8_ahead 98 = .ok (.getfield 213, 3) := by decide +kernel
theorem dX8_ahead_101 : decode cX8_ahead 101 = .ok (.goto 7, 3) := by decide +kernel
theorem dX8_ahead_104 : decode cX8_ahead 104 = .ok (.aload_n 0, 1) := by decide +kernel
theorem dX8_ahead_105 : decode cX8_ahead 105 = .ok (.getfield 219, 3) := by decide +kernel
theorem dX8_ahead_108 : decode cX8_ahead 108 = .ok (.ireturn, 1) := by decide +kernel
theorem dX8_raiderAhead_0 : decode cX8_raiderAhead 0 = .ok (.aload_n 0, 1) := by decide +kernel
theorem dX8_raiderAhead_1 : decode cX8_raiderAhead 1 = .ok (.iconst 0, 1) := by decide +kernel
theorem dX8_raiderAhead_2 : decode cX8_raiderAhead 2 = .ok (.putfield 79, 3) := by decide +kernel
theorem dX8_raiderAhead_5 : decode cX8_raiderAhead 5 = .ok (.aload_n 0, 1) := by decide +kernel
theorem dX8_raiderAhead_6 : decode cX8_raiderAhead 6 = .ok (.iload_n 1, 1) := by decide +kernel
theorem dX8_raiderAhead_7 : decode cX8_raiderAhead 7 = .ok (.invokevirtual 250, 3) := by decide +kernel
theorem dX8_raiderAhead_10 : decode cX8_raiderAhead 10 = .ok (.ifCond .eq 13, 3) := by decide +kernel
theorem dX8_raiderAhead_13 : decode cX8_raiderAhead 13 = .ok (.iload_n 2, 1) := by decide +kernel
theorem dX8_raiderAhead_14 : decode cX8_raiderAhead 14 = .ok (.i2l, 1) := by decide +kernel
theorem dX8_raiderAhead_15 : decode cX8_raiderAhead 15 = .ok (.lconst 0, 1) := by decide +kernel
theorem dX8_raiderAhead_16 : decode cX8_raiderAhead 16 = .ok (.lconst 1, 1) := by decide +kernel
theorem dX8_raiderAhead_17 : decode cX8_raiderAhead 17 = .ok (.invokestatic 88, 3) := by decide +kernel
theorem dX8_raiderAhead_20 : decode cX8_raiderAhead 20 = .ok (.ifCond .ne 6, 3) := by decide +kernel
theorem dX8_raiderAhead_23 : decode cX8_raiderAhead 23 = .ok (.ldc 98, 2) := by decide +kernel
theorem dX8_raiderAhead_25 : decode cX8_raiderAhead 25 = .ok (.ireturn, 1) := by decide +kernel
theorem dX8_raiderAhead_26 : decode cX8_raiderAhead 26 = .ok (.aload_n 0, 1) := by decide +kernel
theorem dX8_raiderAhead_27 : decode cX8_raiderAhead 27 = .ok (.invokevirtual 271, 3) := by decide +kernel
theorem dX8_raiderAhead_30 : decode cX8_raiderAhead 30 = .ok (.istore_n 3, 1) := by decide +kernel
theorem dX8_raiderAhead_31 : decode cX8_raiderAhead 31 = .ok (.iload_n 2, 1) := by decide +kernel
theorem dX8_raiderAhead_32 : decode cX8_raiderAhead 32 = .ok (.ifCond .ne 12, 3) := by decide +kernel
theorem dX8_raiderAhead_35 : decode cX8_raiderAhead 35 = .ok (.aload_n 0, 1) := by decide +kernel
theorem dX8_raiderAhead_36 : decode cX8_raiderAhead 36 = .ok (.getfield 58, 3) := by decide +kernel
theorem dX8_raiderAhead_39 : decode cX8_raiderAhead 39 = .ok (.iload_n 1, 1) := by decide +kernel
theorem dX8_raiderAhead_40 : decode cX8_raiderAhead 40 = .ok (.iaload, 1) := by decide +kernel
theorem dX8_raiderAhead_41 : decode cX8_raiderAhead 41 = .ok (.goto 16, 3) := by decide +kernel
theorem dX8_raiderAhead_44 : decode cX8_raiderAhead 44 = .ok (.iload_n 3, 1) := by decide +kernel
theorem dX8_raiderAhead_45 : decode cX8_raiderAhead 45 = .ok (.ifCond .ge 7, 3) := by decide +kernel
theorem dX8_raiderAhead_48 : decode cX8_raiderAhead 48 = .ok (.iload_n 3, 1) := by decide +kernel
theorem dX8_raiderAhead_49 : decode cX8_raiderAhead 49 = .ok (.goto 8, 3) := by decide +kernel
theorem dX8_raiderAhead_52 : decode cX8_raiderAhead 52 = .ok (.aload_n 0, 1) := by decide +kernel
theorem dX8_raiderAhead_53 : decode cX8_raiderAhead 53 = .ok (.iload_n 1, 1) := by decide +kernel
theorem dX8_raiderAhead_54 : decode cX8_raiderAhead 54 = .ok (.invokevirtual 237, 3) := by decide +kernel
theorem dX8_raiderAhead_57 : decode cX8_raiderAhead 57 = .ok (.ireturn, 1) := by decide +kernel
theorem dX8_aloneOf_0 : decode cX8_aloneOf 0 = .ok (.aload_n 0, 1) := by decide +kernel
theorem dX8_aloneOf_1 : decode cX8_aloneOf 1 = .ok (.invokevirtual 191, 3) := by decide +kernel
theorem dX8_aloneOf_4 : decode cX8_aloneOf 4 = .ok (.aload_n 0, 1) := by decide +kernel
theorem dX8_aloneOf_5 : decode cX8_aloneOf 5 = .ok (.getfield 31, 3) := by decide +kernel
theorem dX8_aloneOf_8 : decode cX8_aloneOf 8 = .ok (.iload_n 1, 1) := by decide +kernel
theorem dX8_aloneOf_9 : decode cX8_aloneOf 9 = .ok (.iload_n 2, 1) := by decide +kernel
theorem dX8_aloneOf_10 : decode cX8_aloneOf 10 = .ok (.iastore, 1) := by decide +kernel
theorem dX8_aloneOf_11 : decode cX8_aloneOf 11 = .ok (.aload_n 0, 1) := by decide +kernel
theorem dX8_aloneOf_12 : decode cX8_aloneOf 12 = .ok (.getfield 34, 3) := by decide +kernel
theorem dX8_aloneOf_15 : decode cX8_aloneOf 15 = .ok (.iload_n 1, 1) := by decide +kernel
theorem dX8_aloneOf_16 : decode cX8_aloneOf 16 = .ok (.iload_n 3, 1) := by decide +kernel
theorem dX8_aloneOf_17 : decode cX8_aloneOf 17 = .ok (.iastore, 1) := by decide +kernel
theorem dX8_aloneOf_18 : decode cX8_aloneOf 18 = .ok (.aload_n 0, 1) := by decide +kernel
theorem dX8_aloneOf_19 : decode cX8_aloneOf 19 = .ok (.getfield 37, 3) := by decide +kernel
theorem dX8_aloneOf_22 : decode cX8_aloneOf 22 = .ok (.iload_n 1, 1) := by decide +kernel
theorem dX8_aloneOf_23 : decode cX8_aloneOf 23 = .ok (.iload 4, 2) := by decide +kernel
theorem dX8_aloneOf_25 : decode cX8_aloneOf 25 = .ok (.iastore, 1) := by decide +kernel
theorem dX8_aloneOf_26 : decode cX8_aloneOf 26 = .ok (.aload_n 0, 1) := by decide +kernel
theorem dX8_aloneOf_27 : decode cX8_aloneOf 27 = .ok (.iconst 1, 1) := by decide +kernel
theorem dX8_aloneOf_28 : decode cX8_aloneOf 28 = .ok (.iload_n 1, 1) := by decide +kernel
theorem dX8_aloneOf_29 : decode cX8_aloneOf 29 = .ok (.ishl, 1) := by decide +kernel
theorem dX8_aloneOf_30 : decode cX8_aloneOf 30 = .ok (.invokevirtual 247, 3) := by decide +kernel
theorem dX8_aloneOf_33 : decode cX8_aloneOf 33 = .ok (.istore 5, 2) := by decide +kernel
theorem dX8_aloneOf_35 : decode cX8_aloneOf 35 = .ok (.aload_n 0, 1) := by decide +kernel
theorem dX8_aloneOf_36 : decode cX8_aloneOf 36 = .ok (.getfield 46, 3) := by decide +kernel
theorem dX8_aloneOf_39 : decode cX8_aloneOf 39 = .ok (.iload_n 1, 1) := by decide +kernel
theorem dX8_aloneOf_40 : decode cX8_aloneOf 40 = .ok (.iaload, 1) := by decide +kernel
theorem dX8_aloneOf_41 : decode cX8_aloneOf 41 = .ok (.iconst 4, 1) := by decide +kernel
theorem dX8_aloneOf_42 : decode cX8_aloneOf 42 = .ok (.if_icmp .ne 8, 3) := by decide +kernel
theorem dX8_aloneOf_45 : decode cX8_aloneOf 45 = .ok (.ldc 61, 2) := by decide +kernel
theorem dX8_aloneOf_47 : decode cX8_aloneOf 47 = .ok (.goto 5, 3) := by decide +kernel
theorem dX8_aloneOf_50 : decode cX8_aloneOf 50 = .ok (.iload 5, 2) := by decide +kernel
theorem dX8_aloneOf_52 : decode cX8_aloneOf 52 = .ok (.ireturn, 1) := by decide +kernel
theorem dX8_safe_0 : decode cX8_safe 0 = .ok (.aload_n 0, 1) := by decide +kernel
theorem dX8_safe_1 : decode cX8_safe 1 = .ok (.iconst 0, 1) := by decide +kernel
theorem dX8_safe_2 : decode cX8_safe 2 = .ok (.putfield 79, 3) := by decide +kernel
theorem dX8_safe_5 : decode cX8_safe 5 = .ok (.aload_n 0, 1) := by decide +kernel
theorem dX8_safe_6 : decode cX8_safe 6 = .ok (.iload_n 1, 1) := by decide +kernel
theorem dX8_safe_7 : decode cX8_safe 7 = .ok (.invokevirtual 250, 3) := by decide +kernel
theorem dX8_safe_10 : decode cX8_safe 10 = .ok (.ifCond .eq 21, 3) := by decide +kernel
theorem dX8_safe_13 : decode cX8_safe 13 = .ok (.aload_n 0, 1) := by decide +kernel
theorem dX8_safe_14 : decode cX8_safe 14 = .ok (.iload_n 2, 1) := by decide +kernel
theorem dX8_safe_15 : decode cX8_safe 15 = .ok (.invokevirtual 253, 3) := by decide +kernel
theorem dX8_safe_18 : decode cX8_safe 18 = .ok (.ifCond .eq 13, 3) := by decide +kernel
theorem dX8_safe_21 : decode cX8_safe 21 = .ok (.iload_n 3, 1) := by decide +kernel
theorem dX8_safe_22 : decode cX8_safe 22 = .ok (.i2l, 1) := by decide +kernel
theorem dX8_safe_23 : decode cX8_safe 23 = .ok (.lconst 0, 1) := by decide +kernel
theorem dX8_safe_24 : decode cX8_safe 24 = .ok (.lconst 1, 1) := by decide +kernel
theorem dX8_safe_25 : decode cX8_safe 25 = .ok (.invokestatic 88, 3) := by decide +kernel
theorem dX8_safe_28 : decode cX8_safe 28 = .ok (.ifCond .ne 6, 3) := by decide +kernel
theorem dX8_safe_31 : decode cX8_safe 31 = .ok (.ldc 98, 2) := by decide +kernel
theorem dX8_safe_33 : decode cX8_safe 33 = .ok (.ireturn, 1) := by decide +kernel
theorem dX8_safe_34 : decode cX8_safe 34 = .ok (.aload_n 0, 1) := by decide +kernel
theorem dX8_safe_35 : decode cX8_safe 35 = .ok (.iload_n 1, 1) := by decide +kernel
theorem dX8_safe_36 : decode cX8_safe 36 = .ok (.invokevirtual 258, 3) := by decide +kernel
theorem dX8_safe_39 : decode cX8_safe 39 = .ok (.ifCond .eq 7, 3) := by decide +kernel
theorem dX8_safe_42 : decode cX8_safe 42 = .ok (.ldc_w 261, 3) := by decide +kernel
theorem dX8_safe_45 : decode cX8_safe 45 = .ok (.ireturn, 1) := by decide +kernel
theorem dX8_safe_46 : decode cX8_safe 46 = .ok (.iconst 0, 1) := by decide +kernel
theorem dX8_safe_47 : decode cX8_safe 47 = .ok (.istore 4, 2) := by decide +kernel
theorem dX8_safe_49 : decode cX8_safe 49 = .ok (.iconst 1, 1) := by decide +kernel
theorem dX8_safe_50 : decode cX8_safe 50 = .ok (.istore 5, 2) := by decide +kernel
theorem dX8_safe_52 : decode cX8_safe 52 = .ok (.iload 5, 2) := by decide +kernel
theorem dX8_safe_54 : decode cX8_safe 54 = .ok (.bipush 20, 2) := by decide +kernel
theorem dX8_safe_56 : decode cX8_safe 56 = .ok (.if_icmp .gt 32, 3) := by decide +kernel
theorem dX8_safe_59 : decode cX8_safe 59 = .ok (.aload_n 0, 1) := by decide +kernel
theorem dX8_safe_60 : decode cX8_safe 60 = .ok (.iload_n 1, 1) := by decide +kernel
theorem dX8_safe_61 : decode cX8_safe 61 = .ok (.iload_n 2, 1) := by decide +kernel
theorem dX8_safe_62 : decode cX8_safe 62 = .ok (.iload 5, 2) := by decide +kernel
theorem dX8_safe_64 : decode cX8_safe 64 = .ok (.iload_n 3, 1) := by decide +kernel
theorem dX8_safe_65 : decode cX8_safe 65 = .ok (.invokevirtual 294, 3) := by decide +kernel
theorem dX8_safe_68 : decode cX8_safe 68 = .ok (.ldc 61, 2) := by decide +kernel
theorem dX8_safe_70 : decode cX8_safe 70 = .ok (.if_icmp .eq 8, 3) := by decide +kernel
theorem dX8_safe_73 : decode cX8_safe 73 = .ok (.iload 5, 2) := by decide +kernel
theorem dX8_safe_75 : decode cX8_safe 75 = .ok (.goto 5, 3) := by decide +kernel
theorem dX8_safe_78 : decode cX8_safe 78 = .ok (.iload 4, 2) := by decide +kernel
theorem dX8_safe_80 : decode cX8_safe 80 = .ok (.istore 4, 2) := by decide +kernel
theorem dX8_safe_82 : decode cX8_safe 82 = .ok (.iinc 5 1, 3) := by decide +kernel
theorem dX8_safe_85 : decode cX8_safe 85 = .ok (.goto (-33), 3) := by decide +kernel
theorem dX8_safe_88 : decode cX8_safe 88 = .ok (.iload 4, 2) := by decide +kernel
theorem dX8_safe_90 : decode cX8_safe 90 = .ok (.ireturn, 1) := by decide +kernel
theorem dX8_bestAlone_0 : decode cX8_bestAlone 0 = .ok (.aload_n 0, 1) := by decide +kernel
theorem dX8_bestAlone_1 : decode cX8_bestAlone 1 = .ok (.iconst 0, 1) := by decide +kernel
theorem dX8_bestAlone_2 : decode cX8_bestAlone 2 = .ok (.putfield 79, 3) := by decide +kernel
theorem dX8_bestAlone_5 : decode cX8_bestAlone 5 = .ok (.aload_n 0, 1) := by decide +kernel
theorem dX8_bestAlone_6 : decode cX8_bestAlone 6 = .ok (.iload_n 1, 1) := by decide +kernel
theorem dX8_bestAlone_7 : decode cX8_bestAlone 7 = .ok (.invokevirtual 250, 3) := by decide +kernel
theorem dX8_bestAlone_10 : decode cX8_bestAlone 10 = .ok (.ifCond .eq 15, 3) := by decide +kernel
theorem dX8_bestAlone_13 : decode cX8_bestAlone 13 = .ok (.iload_n 2, 1) := by decide +kernel
theorem dX8_bestAlone_14 : decode cX8_bestAlone 14 = .ok (.i2l, 1) := by decide +kernel
theorem dX8_bestAlone_15 : decode cX8_bestAlone 15 = .ok (.lconst 0, 1) := by decide +kernel
theorem dX8_bestAlone_16 : decode cX8_bestAlone 16 = .ok (.ldc2_w 292, 3) := by decide +kernel
theorem dX8_bestAlone_19 : decode cX8_bestAlone 19 = .ok (.invokestatic 88, 3) := by decide +kernel
theorem dX8_bestAlone_22 : decode cX8_bestAlone 22 = .ok (.ifCond .ne 6, 3) := by decide +kernel
theorem dX8_bestAlone_25 : decode cX8_bestAlone 25 = .ok (.ldc 98, 2) := by decide +kernel
theorem dX8_bestAlone_27 : decode cX8_bestAlone 27 = .ok (.ireturn, 1) := by decide +kernel
theorem dX8_bestAlone_28 : decode cX8_bestAlone 28 = .ok (.aload_n 0, 1) := by decide +kernel
theorem dX8_bestAlone_29 : decode cX8_bestAlone 29 = .ok (.iload_n 1, 1) := by decide +kernel
theorem dX8_bestAlone_30 : decode cX8_bestAlone 30 = .ok (.invokevirtual 258, 3) := by decide +kernel
theorem dX8_bestAlone_33 : decode cX8_bestAlone 33 = .ok (.ifCond .eq 7, 3) := by decide +kernel
theorem dX8_bestAlone_36 : decode cX8_bestAlone 36 = .ok (.ldc_w 261, 3) := by decide +kernel
theorem dX8_bestAlone_39 : decode cX8_bestAlone 39 = .ok (.ireturn, 1) := by decide +kernel
theorem dX8_bestAlone_40 : decode cX8_bestAlone 40 = .ok (.ldc 61, 2) := by decide +kernel
theorem dX8_bestAlone_42 : decode cX8_bestAlone 42 = .ok (.istore_n 3, 1) := by decide +kernel
theorem dX8_bestAlone_43 : decode cX8_bestAlone 43 = .ok (.ldc 61, 2) := by decide +kernel
theorem dX8_bestAlone_45 : decode cX8_bestAlone 45 = .ok (.istore 4, 2) := by decide +kernel
theorem dX8_bestAlone_47 : decode cX8_bestAlone 47 = .ok (.iconst 0, 1) := by decide +kernel
theorem dX8_bestAlone_48 : decode cX8_bestAlone 48 = .ok (.istore 5, 2) := by decide +kernel
theorem dX8_bestAlone_50 : decode cX8_bestAlone 50 = .ok (.iload 5, 2) := by decide +kernel
theorem dX8_bestAlone_52 : decode cX8_bestAlone 52 = .ok (.bipush 40, 2) := by decide +kernel
theorem dX8_bestAlone_54 : decode cX8_bestAlone 54 = .ok (.aload_n 0, 1) := by decide +kernel
theorem dX8_bestAlone_55 : decode cX8_bestAlone 55 = .ok (.getfield 19, 3) := by decide +kernel
theorem dX8_bestAlone_58 : decode cX8_bestAlone 58 = .ok (.bipush 7, 2) := by decide +kernel
theorem dX8_bestAlone_60 : decode cX8_bestAlone 60 = .ok (.iaload, 1) := by decide +kernel
theorem dX8_bestAlone_61 : decode cX8_bestAlone 61 = .ok (.imul, 1) := by decide +kernel
theorem dX8_bestAlone_62 : decode cX8_bestAlone 62 = .ok (.if_icmp .ge 64, 3) := by decide +kernel
theorem dX8_bestAlone_65 : decode cX8_bestAlone 65 = .ok (.aload_n 0, 1) := by decide +kernel
theorem dX8_bestAlone_66 : decode cX8_bestAlone 66 = .ok (.iload_n 1, 1) := by decide +kernel
theorem dX8_bestAlone_67 : decode cX8_bestAlone 67 = .ok (.iload 5, 2) := by decide +kernel
theorem dX8_bestAlone_69 : decode cX8_bestAlone 69 = .ok (.bipush 40, 2) := by decide +kernel
theorem dX8_bestAlone_71 : decode cX8_bestAlone 71 = .ok (.idiv, 1) := by decide +kernel
theorem dX8_bestAlone_72 : decode cX8_bestAlone 72 = .ok (.iconst 1, 1) := by decide +kernel
theorem dX8_bestAlone_73 : decode cX8_bestAlone 73 = .ok (.iload 5, 2) := by decide +kernel
theorem dX8_bestAlone_75 : decode cX8_bestAlone 75 = .ok (.bipush 40, 2) := by decide +kernel
theorem dX8_bestAlone_77 : decode cX8_bestAlone 77 = .ok (.irem, 1) := by decide +kernel
theorem dX8_bestAlone_78 : decode cX8_bestAlone 78 = .ok (.iconst 2, 1) := by decide +kernel
theorem dX8_bestAlone_79 : decode cX8_bestAlone 79 = .ok (.idiv, 1) := by decide +kernel
theorem dX8_bestAlone_80 : decode cX8_bestAlone 80 = .ok (.iadd, 1) := by decide +kernel
theorem dX8_bestAlone_81 : decode cX8_bestAlone 81 = .ok (.iload 5, 2) := by decide +kernel
theorem dX8_bestAlone_83 : decode cX8_bestAlone 83 = .ok (.iconst 2, 1) := by decide +kernel
theorem dX8_bestAlone_84 : decode cX8_bestAlone 84 = .ok (.irem, 1) := by decide +kernel
theorem dX8_bestAlone_85 : decode cX8_bestAlone 85 = .ok (.invokevirtual 294, 3) := by decide +kernel
theorem dX8_bestAlone_88 : decode cX8_bestAlone 88 = .ok (.istore 6, 2) := by decide +kernel
theorem dX8_bestAlone_90 : decode cX8_bestAlone 90 = .ok (.iload 6, 2) := by decide +kernel
theorem dX8_bestAlone_92 : decode cX8_bestAlone 92 = .ok (.iload 4, 2) := by decide +kernel
theorem dX8_bestAlone_94 : decode cX8_bestAlone 94 = .ok (.if_icmp .le 8, 3) := by decide +kernel
theorem dX8_bestAlone_97 : decode cX8_bestAlone 97 = .ok (.iload 5, 2) := by decide +kernel
theorem dX8_bestAlone_99 : decode cX8_bestAlone 99 = .ok (.goto 4, 3) := by decide +kernel
theorem dX8_bestAlone_102 : decode cX8_bestAlone 102 = .ok (.iload_n 3, 1) := by decide +kernel
theorem dX8_bestAlone_103 : decode cX8_bestAlone 103 = .ok (.istore_n 3, 1) := by decide +kernel
theorem dX8_bestAlone_104 : decode cX8_bestAlone 104 = .ok (.iload 6, 2) := by decide +kernel
theorem dX8_bestAlone_106 : decode cX8_bestAlone 106 = .ok (.iload 4, 2) := by decide +kernel
theorem dX8_bestAlone_108 : decode cX8_bestAlone 108 = .ok (.if_icmp .le 8, 3) := by decide +kernel
theorem dX8_bestAlone_111 : decode cX8_bestAlone 111 = .ok (.iload 6, 2) := by decide +kernel
theorem dX8_bestAlone_113 : decode cX8_bestAlone 113 = .ok (.goto 5, 3) := by decide +kernel
theorem dX8_bestAlone_116 : decode cX8_bestAlone 116 = .ok (.iload 4, 2) := by decide +kernel
theorem dX8_bestAlone_118 : decode cX8_bestAlone 118 = .ok (.istore 4, 2) := by decide +kernel
theorem dX8_bestAlone_120 : decode cX8_bestAlone 120 = .ok (.iinc 5 1, 3) := by decide +kernel
theorem dX8_bestAlone_123 : decode cX8_bestAlone 123 = .ok (.goto (-73), 3) := by decide +kernel
theorem dX8_bestAlone_126 : decode cX8_bestAlone 126 = .ok (.iload_n 3, 1) := by decide +kernel
theorem dX8_bestAlone_127 : decode cX8_bestAlone 127 = .ok (.ldc 61, 2) := by decide +kernel
theorem dX8_bestAlone_129 : decode cX8_bestAlone 129 = .ok (.if_icmp .eq 8, 3) := by decide +kernel
theorem dX8_bestAlone_132 : decode cX8_bestAlone 132 = .ok (.iload_n 2, 1) := by decide +kernel
theorem dX8_bestAlone_133 : decode cX8_bestAlone 133 = .ok (.iconst 3, 1) := by decide +kernel
theorem dX8_bestAlone_134 : decode cX8_bestAlone 134 = .ok (.if_icmp .ne 6, 3) := by decide +kernel
theorem dX8_bestAlone_137 : decode cX8_bestAlone 137 = .ok (.iload 4, 2) := by decide +kernel
theorem dX8_bestAlone_139 : decode cX8_bestAlone 139 = .ok (.ireturn, 1) := by decide +kernel
theorem dX8_bestAlone_140 : decode cX8_bestAlone 140 = .ok (.iload_n 2, 1) := by decide +kernel
theorem dX8_bestAlone_141 : decode cX8_bestAlone 141 = .ok (.ifCond .ne 10, 3) := by decide +kernel
theorem dX8_bestAlone_144 : decode cX8_bestAlone 144 = .ok (.iload_n 3, 1) := by decide +kernel
theorem dX8_bestAlone_145 : decode cX8_bestAlone 145 = .ok (.bipush 40, 2) := by decide +kernel
theorem dX8_bestAlone_147 : decode cX8_bestAlone 147 = .ok (.idiv, 1) := by decide +kernel
theorem dX8_bestAlone_148 : decode cX8_bestAlone 148 = .ok (.goto 22, 3) := by decide +kernel
theorem dX8_bestAlone_151 : decode cX8_bestAlone 151 = .ok (.iload_n 2, 1) := by decide +kernel
theorem dX8_bestAlone_152 : decode cX8_bestAlone 152 = .ok (.iconst 1, 1) := by decide +kernel
theorem dX8_bestAlone_153 : decode cX8_bestAlone 153 = .ok (.if_icmp .ne 14, 3) := by decide +kernel
theorem dX8_bestAlone_156 : decode cX8_bestAlone 156 = .ok (.iconst 1, 1) := by decide +kernel
theorem dX8_bestAlone_157 : decode cX8_bestAlone 157 = .ok (.iload_n 3, 1) := by decide +kernel
theorem dX8_bestAlone_158 : decode cX8_bestAlone 158 = .ok (.bipush 40, 2) := by decide +kernel
theorem dX8_bestAlone_160 : decode cX8_bestAlone 160 = .ok (.irem, 1) := by decide +kernel
theorem dX8_bestAlone_161 : decode cX8_bestAlone 161 = .ok (.iconst 2, 1) := by decide +kernel
theorem dX8_bestAlone_162 : decode cX8_bestAlone 162 = .ok (.idiv, 1) := by decide +kernel
theorem dX8_bestAlone_163 : decode cX8_bestAlone 163 = .ok (.iadd, 1) := by decide +kernel
theorem dX8_bestAlone_164 : decode cX8_bestAlone 164 = .ok (.goto 6, 3) := by decide +kernel
theorem dX8_bestAlone_167 : decode cX8_bestAlone 167 = .ok (.iload_n 3, 1) := by decide +kernel
theorem dX8_bestAlone_168 : decode cX8_bestAlone 168 = .ok (.iconst 2, 1) := by decide +kernel
theorem dX8_bestAlone_169 : decode cX8_bestAlone 169 = .ok (.irem, 1) := by decide +kernel
theorem dX8_bestAlone_170 : decode cX8_bestAlone 170 = .ok (.ireturn, 1) := by decide +kernel
theorem dX8_watch_0 : decode cX8_watch 0 = .ok (.aload_n 0, 1) := by decide +kernel
theorem dX8_watch_1 : decode cX8_watch 1 = .ok (.iconst 0, 1) := by decide +kernel
theorem dX8_watch_2 : decode cX8_watch 2 = .ok (.putfield 79, 3) := by decide +kernel
theorem dX8_watch_5 : decode cX8_watch 5 = .ok (.aload_n 0, 1) := by decide +kernel
theorem dX8_watch_6 : decode cX8_watch 6 = .ok (.iload_n 1, 1) := by decide +kernel
theorem dX8_watch_7 : decode cX8_watch 7 = .ok (.invokevirtual 250, 3) := by decide +kernel
theorem dX8_watch_10 : decode cX8_watch 10 = .ok (.ifCond .ne 6, 3) := by decide +kernel
theorem dX8_watch_13 : decode cX8_watch 13 = .ok (.ldc 98, 2) := by decide +kernel
theorem dX8_watch_15 : decode cX8_watch 15 = .ok (.ireturn, 1) := by decide +kernel
theorem dX8_watch_16 : decode cX8_watch 16 = .ok (.aload_n 0, 1) := by decide +kernel
theorem dX8_watch_17 : decode cX8_watch 17 = .ok (.iload_n 1, 1) := by decide +kernel
theorem dX8_watch_18 : decode cX8_watch 18 = .ok (.iconst 2, 1) := by decide +kernel
theorem dX8_watch_19 : decode cX8_watch 19 = .ok (.invokevirtual 188, 3) := by decide +kernel
theorem dX8_watch_22 : decode cX8_watch 22 = .ok (.ifCond .ge 7, 3) := by decide +kernel
theorem dX8_watch_25 : decode cX8_watch 25 = .ok (.ldc_w 261, 3) := by decide +kernel
theorem dX8_watch_28 : decode cX8_watch 28 = .ok (.ireturn, 1) := by decide +kernel
theorem dX8_watch_29 : decode cX8_watch 29 = .ok (.aload_n 0, 1) := by decide +kernel
theorem dX8_watch_30 : decode cX8_watch 30 = .ok (.invokevirtual 271, 3) := by decide +kernel
theorem dX8_watch_33 : decode cX8_watch 33 = .ok (.istore_n 2, 1) := by decide +kernel
theorem dX8_watch_34 : decode cX8_watch 34 = .ok (.aload_n 0, 1) := by decide +kernel
theorem dX8_watch_35 : decode cX8_watch 35 = .ok (.invokevirtual 240, 3) := by decide +kernel
theorem dX8_watch_38 : decode cX8_watch 38 = .ok (.aload_n 0, 1) := by decide +kernel
theorem dX8_watch_39 : decode cX8_watch 39 = .ok (.getfield 31, 3) := by decide +kernel
theorem dX8_watch_42 : decode cX8_watch 42 = .ok (.iload_n 1, 1) := by decide +kernel
theorem dX8_watch_43 : decode cX8_watch 43 = .ok (.iconst (-1), 1) := by decide +kernel
theorem dX8_watch_44 : decode cX8_watch 44 = .ok (.iastore, 1) := by decide +kernel
theorem dX8_watch_45 : decode cX8_watch 45 = .ok (.aload_n 0, 1) := by decide +kernel
theorem dX8_watch_46 : decode cX8_watch 46 = .ok (.iload_n 1, 1) := by decide +kernel
theorem dX8_watch_47 : decode cX8_watch 47 = .ok (.putfield 62, 3) := by decide +kernel
theorem dX8_watch_50 : decode cX8_watch 50 = .ok (.aload_n 0, 1) := by decide +kernel
theorem dX8_watch_51 : decode cX8_watch 51 = .ok (.aload_n 0, 1) := by decide +kernel
theorem dX8_watch_52 : decode cX8_watch 52 = .ok (.invokevirtual 243, 3) := by decide +kernel
theorem dX8_watch_55 : decode cX8_watch 55 = .ok (.invokevirtual 247, 3) := by decide +kernel
theorem dX8_watch_58 : decode cX8_watch 58 = .ok (.istore_n 3, 1) := by decide +kernel
theorem dX8_watch_59 : decode cX8_watch 59 = .ok (.aload_n 0, 1) := by decide +kernel
theorem dX8_watch_60 : decode cX8_watch 60 = .ok (.ldc 61, 2) := by decide +kernel
theorem dX8_watch_62 : decode cX8_watch 62 = .ok (.putfield 62, 3) := by decide +kernel
theorem dX8_watch_65 : decode cX8_watch 65 = .ok (.iload_n 3, 1) := by decide +kernel
theorem dX8_watch_66 : decode cX8_watch 66 = .ok (.iload_n 2, 1) := by decide +kernel
theorem dX8_watch_67 : decode cX8_watch 67 = .ok (.isub, 1) := by decide +kernel
theorem dX8_watch_68 : decode cX8_watch 68 = .ok (.ireturn, 1) := by decide +kernel
theorem dX8_layValue_0 : decode cX8_layValue 0 = .ok (.lconst 1, 1) := by decide +kernel
theorem dX8_layValue_1 : decode cX8_layValue 1 = .ok (.lstore 4, 2) := by decide +kernel
theorem dX8_layValue_3 : decode cX8_layValue 3 = .ok (.iconst 0, 1) := by decide +kernel
theorem dX8_layValue_4 : decode cX8_layValue 4 = .ok (.istore 6, 2) := by decide +kernel
theorem dX8_layValue_6 : decode cX8_layValue 6 = .ok (.iconst 0, 1) := by decide +kernel
theorem dX8_layValue_7 : decode cX8_layValue 7 = .ok (.istore 7, 2) := by decide +kernel
theorem dX8_layValue_9 : decode cX8_layValue 9 = .ok (.iload 7, 2) := by decide +kernel
theorem dX8_layValue_11 : decode cX8_layValue 11 = .ok (.bipush 6, 2) := by decide +kernel
theorem dX8_layValue_13 : decode cX8_layValue 13 = .ok (.if_icmp .ge 51, 3) := by decide +kernel
theorem dX8_layValue_16 : decode cX8_layValue 16 = .ok (.lload 4, 2) := by decide +kernel
theorem dX8_layValue_18 : decode cX8_layValue 18 = .ok (.iload_n 3, 1) := by decide +kernel
theorem dX8_layValue_19 : decode cX8_layValue 19 = .ok (.iload 7, 2) := by decide +kernel
theorem dX8_layValue_21 : decode cX8_layValue 21 = .ok (.ishr, 1) := by decide +kernel
theorem dX8_layValue_22 : decode cX8_layValue 22 = .ok (.iconst 1, 1) := by decide +kernel
theorem dX8_layValue_23 : decode cX8_layValue 23 = .ok (.iand, 1) := by decide +kernel
theorem dX8_layValue_24 : decode cX8_layValue 24 = .ok (.iconst 1, 1) := by decide +kernel
theorem dX8_layValue_25 : decode cX8_layValue 25 = .ok (.if_icmp .ne 18, 3) := by decide +kernel
theorem dX8_layValue_28 : decode cX8_layValue 28 = .ok (.aload_n 0, 1) := by decide +kernel
theorem dX8_layValue_29 : decode cX8_layValue 29 = .ok (.getfield 16, 3) := by decide +kernel
theorem dX8_layValue_32 : decode cX8_layValue 32 = .ok (.iload_n 1, 1) := by decide +kernel
theorem dX8_layValue_33 : decode cX8_layValue 33 = .ok (.iload 7, 2) := by decide +kernel
theorem dX8_layValue_35 : decode cX8_layValue 35 = .ok (.iadd, 1) := by decide +kernel
theorem dX8_layValue_36 : decode cX8_layValue 36 = .ok (.iaload, 1) := by decide +kernel
theorem dX8_layValue_37 : decode cX8_layValue 37 = .ok (.iload_n 2, 1) := by decide +kernel
theorem dX8_layValue_38 : decode cX8_layValue 38 = .ok (.iadd, 1) := by decide +kernel
theorem dX8_layValue_39 : decode cX8_layValue 39 = .ok (.i2l, 1) := by decide +kernel
theorem dX8_layValue_40 : decode cX8_layValue 40 = .ok (.goto 4, 3) := by decide +kernel
theorem dX8_layValue_43 : decode cX8_layValue 43 = .ok (.lconst 1, 1) := by decide +kernel
theorem dX8_layValue_44 : decode cX8_layValue 44 = .ok (.lmul, 1) := by decide +kernel
theorem dX8_layValue_45 : decode cX8_layValue 45 = .ok (.lstore 4, 2) := by decide +kernel
theorem dX8_layValue_47 : decode cX8_layValue 47 = .ok (.iload 6, 2) := by decide +kernel
theorem dX8_layValue_49 : decode cX8_layValue 49 = .ok (.iload_n 3, 1) := by decide +kernel
theorem dX8_layValue_50 : decode cX8_layValue 50 = .ok (.iload 7, 2) := by decide +kernel
theorem dX8_layValue_52 : decode cX8_layValue 52 = .ok (.ishr, 1) := by decide +kernel
theorem dX8_layValue_53 : decode cX8_layValue 53 = .ok (.iconst 1, 1) := by decide +kernel
theorem dX8_layValue_54 : decode cX8_layValue 54 = .ok (.iand, 1) := by decide +kernel
theorem dX8_layValue_55 : decode cX8_layValue 55 = .ok (.iadd, 1) := by decide +kernel
theorem dX8_layValue_56 : decode cX8_layValue 56 = .ok (.istore 6, 2) := by decide +kernel
theorem dX8_layValue_58 : decode cX8_layValue 58 = .ok (.iinc 7 1, 3) := by decide +kernel
theorem dX8_layValue_61 : decode cX8_layValue 61 = .ok (.goto (-52), 3) := by decide +kernel
theorem dX8_layValue_64 : decode cX8_layValue 64 = .ok (.aload_n 0, 1) := by decide +kernel
theorem dX8_layValue_65 : decode cX8_layValue 65 = .ok (.iload_n 1, 1) := by decide +kernel
theorem dX8_layValue_66 : decode cX8_layValue 66 = .ok (.iload_n 2, 1) := by decide +kernel
theorem dX8_layValue_67 : decode cX8_layValue 67 = .ok (.iload_n 3, 1) := by decide +kernel
theorem dX8_layValue_68 : decode cX8_layValue 68 = .ok (.lload 4, 2) := by decide +kernel
theorem dX8_layValue_70 : decode cX8_layValue 70 = .ok (.invokevirtual 298, 3) := by decide +kernel
theorem dX8_layValue_73 : decode cX8_layValue 73 = .ok (.lstore 7, 2) := by decide +kernel
theorem dX8_layValue_75 : decode cX8_layValue 75 = .ok (.aload_n 0, 1) := by decide +kernel
theorem dX8_layValue_76 : decode cX8_layValue 76 = .ok (.iload 6, 2) := by decide +kernel
theorem dX8_layValue_78 : decode cX8_layValue 78 = .ok (.iconst 1, 1) := by decide +kernel
theorem dX8_layValue_79 : decode cX8_layValue 79 = .ok (.isub, 1) := by decide +kernel
theorem dX8_layValue_80 : decode cX8_layValue 80 = .ok (.i2l, 1) := by decide +kernel
theorem dX8_layValue_81 : decode cX8_layValue 81 = .ok (.lload 4, 2) := by decide +kernel
theorem dX8_layValue_83 : decode cX8_layValue 83 = .ok (.lmul, 1) := by decide +kernel
theorem dX8_layValue_84 : decode cX8_layValue 84 = .ok (.iload_n 2, 1) := by decide +kernel
theorem dX8_layValue_85 : decode cX8_layValue 85 = .ok (.i2l, 1) := by decide +kernel
theorem dX8_layValue_86 : decode cX8_layValue 86 = .ok (.lload 7, 2) := by decide +kernel
theorem dX8_layValue_88 : decode cX8_layValue 88 = .ok (.lmul, 1) := by decide +kernel
theorem dX8_layValue_89 : decode cX8_layValue 89 = .ok (.lsub, 1) := by decide +kernel
theorem dX8_layValue_90 : decode cX8_layValue 90 = .ok (.putfield 302, 3) := by decide +kernel
theorem dX8_layValue_93 : decode cX8_layValue 93 = .ok (.aload_n 0, 1) := by decide +kernel
theorem dX8_layValue_94 : decode cX8_layValue 94 = .ok (.lload 7, 2) := by decide +kernel
theorem dX8_layValue_96 : decode cX8_layValue 96 = .ok (.putfield 306, 3) := by decide +kernel
theorem dX8_layValue_99 : decode cX8_layValue 99 = .ok (.aload_n 0, 1) := by decide +kernel
theorem dX8_layValue_100 : decode cX8_layValue 100 = .ok (.getfield 302, 3) := by decide +kernel
theorem dX8_layValue_103 : decode cX8_layValue 103 = .ok (.aload_n 0, 1) := by decide +kernel
theorem dX8_layValue_104 : decode cX8_layValue 104 = .ok (.getfield 306, 3) := by decide +kernel
theorem dX8_layValue_107 : decode cX8_layValue 107 = .ok (.invokestatic 283, 3) := by decide +kernel
theorem dX8_layValue_110 : decode cX8_layValue 110 = .ok (.lstore 9, 2) := by decide +kernel
theorem dX8_layValue_112 : decode cX8_layValue 112 = .ok (.aload_n 0, 1) := by decide +kernel
theorem dX8_layValue_113 : decode cX8_layValue 113 = .ok (.dup, 1) := by decide +kernel
theorem dX8_layValue_114 : decode cX8_layValue 114 = .ok (.getfield 302, 3) := by decide +kernel
theorem dX8_layValue_117 : decode cX8_layValue 117 = .ok (.lload 9, 2) := by decide +kernel
theorem dX8_layValue_119 : decode cX8_layValue 119 = .ok (.ldiv, 1) := by decide +kernel
theorem dX8_layValue_120 : decode cX8_layValue 120 = .ok (.putfield 302, 3) := by decide +kernel
theorem dX8_layValue_123 : decode cX8_layValue 123 = .ok (.aload_n 0, 1) := by decide +kernel
theorem dX8_layValue_124 : decode cX8_layValue 124 = .ok (.dup, 1) := by decide +kernel
theorem dX8_layValue_125 : decode cX8_layValue 125 = .ok (.getfield 306, 3) := by decide +kernel
theorem dX8_layValue_128 : decode cX8_layValue 128 = .ok (.lload 9, 2) := by decide +kernel
theorem dX8_layValue_130 : decode cX8_layValue 130 = .ok (.ldiv, 1) := by decide +kernel
theorem dX8_layValue_131 : decode cX8_layValue 131 = .ok (.putfield 306, 3) := by decide +kernel
theorem dX8_layValue_134 : decode cX8_layValue 134 = .ok (.return_, 1) := by decide +kernel
theorem dX8_partsOf_0 : decode cX8_partsOf 0 = .ok (.lconst 0, 1) := by decide +kernel
theorem dX8_partsOf_1 : decode cX8_partsOf 1 = .ok (.lstore 6, 2) := by decide +kernel
theorem dX8_partsOf_3 : decode cX8_partsOf 3 = .ok (.iconst 0, 1) := by decide +kernel
theorem dX8_partsOf_4 : decode cX8_partsOf 4 = .ok (.istore 8, 2) := by decide +kernel
theorem dX8_partsOf_6 : decode cX8_partsOf 6 = .ok (.iload 8, 2) := by decide +kernel
theorem dX8_partsOf_8 : decode cX8_partsOf 8 = .ok (.bipush 6, 2) := by decide +kernel
theorem dX8_partsOf_10 : decode cX8_partsOf 10 = .ok (.if_icmp .ge 43, 3) := by decide +kernel
theorem dX8_partsOf_13 : decode cX8_partsOf 13 = .ok (.lload 6, 2) := by decide +kernel
theorem dX8_partsOf_15 : decode cX8_partsOf 15 = .ok (.iload_n 3, 1) := by decide +kernel
theorem dX8_partsOf_16 : decode cX8_partsOf 16 = .ok (.iload 8, 2) := by decide +kernel
theorem dX8_partsOf_18 : decode cX8_partsOf 18 = .ok (.ishr, 1) := by decide +kernel
theorem dX8_partsOf_19 : decode cX8_partsOf 19 = .ok (.iconst 1, 1) := by decide +kernel
theorem dX8_partsOf_20 : decode cX8_partsOf 20 = .ok (.iand, 1) := by decide +kernel
theorem dX8_partsOf_21 : decode cX8_partsOf 21 = .ok (.iconst 1, 1) := by decide +kernel
theorem dX8_partsOf_22 : decode cX8_partsOf 22 = .ok (.if_icmp .ne 21, 3) := by decide +kernel
theorem dX8_partsOf_25 : decode cX8_partsOf 25 = .ok (.lload 4, 2) := by decide +kernel
theorem dX8_partsOf_27 : decode cX8_partsOf 27 = .ok (.aload_n 0, 1) := by decide +kernel
theorem dX8_partsOf_28 : decode cX8_partsOf 28 = .ok (.getfield 16, 3) := by decide +kernel
theorem dX8_partsOf_31 : decode cX8_partsOf 31 = .ok (.iload_n 1, 1) := by decide +kernel
theorem dX8_partsOf_32 : decode cX8_partsOf 32 = .ok (.iload 8, 2) := by decide +kernel
theorem dX8_partsOf_34 : decode cX8_partsOf 34 = .ok (.iadd, 1) := by decide +kernel
theorem dX8_partsOf_35 : decode cX8_partsOf 35 = .ok (.iaload, 1) := by decide +kernel
theorem dX8_partsOf_36 : decode cX8_partsOf 36 = .ok (.iload_n 2, 1) := by decide +kernel
theorem dX8_partsOf_37 : decode cX8_partsOf 37 = .ok (.iadd, 1) := by decide +kernel
theorem dX8_partsOf_38 : decode cX8_partsOf 38 = .ok (.i2l, 1) := by decide +kernel
theorem dX8_partsOf_39 : decode cX8_partsOf 39 = .ok (.ldiv, 1) := by decide +kernel
theorem dX8_partsOf_40 : decode cX8_partsOf 40 = .ok (.goto 4, 3) := by decide +kernel
theorem dX8_partsOf_43 : decode cX8_partsOf 43 = .ok (.lconst 0, 1) := by decide +kernel
theorem dX8_partsOf_44 : decode cX8_partsOf 44 = .ok (.ladd, 1) := by decide +kernel
theorem dX8_partsOf_45 : decode cX8_partsOf 45 = .ok (.lstore 6, 2) := by decide +kernel
theorem dX8_partsOf_47 : decode cX8_partsOf 47 = .ok (.iinc 8 1, 3) := by decide +kernel
theorem dX8_partsOf_50 : decode cX8_partsOf 50 = .ok (.goto (-44), 3) := by decide +kernel
theorem dX8_partsOf_53 : decode cX8_partsOf 53 = .ok (.lload 6, 2) := by decide +kernel
theorem dX8_partsOf_55 : decode cX8_partsOf 55 = .ok (.lreturn, 1) := by decide +kernel
theorem dX8_bestDays_0 : decode cX8_bestDays 0 = .ok (.iconst 0, 1) := by decide +kernel
theorem dX8_bestDays_1 : decode cX8_bestDays 1 = .ok (.istore_n 3, 1) := by decide +kernel
theorem dX8_bestDays_2 : decode cX8_bestDays 2 = .ok (.lconst 0, 1) := by decide +kernel
theorem dX8_bestDays_3 : decode cX8_bestDays 3 = .ok (.lstore 4, 2) := by decide +kernel
theorem dX8_bestDays_5 : decode cX8_bestDays 5 = .ok (.lconst 1, 1) := by decide +kernel
theorem dX8_bestDays_6 : decode cX8_bestDays 6 = .ok (.lstore 6, 2) := by decide +kernel
theorem dX8_bestDays_8 : decode cX8_bestDays 8 = .ok (.iconst 1, 1) := by decide +kernel
theorem dX8_bestDays_9 : decode cX8_bestDays 9 = .ok (.istore 8, 2) := by decide +kernel
theorem dX8_bestDays_11 : decode cX8_bestDays 11 = .ok (.iload 8, 2) := by decide +kernel
theorem dX8_bestDays_13 : decode cX8_bestDays 13 = .ok (.bipush 64, 2) := by decide +kernel
theorem dX8_bestDays_15 : decode cX8_bestDays 15 = .ok (.if_icmp .ge 54, 3) := by decide +kernel
theorem dX8_bestDays_18 : decode cX8_bestDays 18 = .ok (.aload_n 0, 1) := by decide +kernel
theorem dX8_bestDays_19 : decode cX8_bestDays 19 = .ok (.iload_n 1, 1) := by decide +kernel
theorem dX8_bestDays_20 : decode cX8_bestDays 20 = .ok (.iload_n 2, 1) := by decide +kernel
theorem dX8_bestDays_21 : decode cX8_bestDays 21 = .ok (.iload 8, 2) := by decide +kernel
theorem dX8_bestDays_23 : decode cX8_bestDays 23 = .ok (.invokevirtual 309, 3) := by decide +kernel
theorem dX8_bestDays_26 : decode cX8_bestDays 26 = .ok (.iload_n 3, 1) := by decide +kernel
theorem dX8_bestDays_27 : decode cX8_bestDays 27 = .ok (.ifCond .eq 21, 3) := by decide +kernel
theorem dX8_bestDays_30 : decode cX8_bestDays 30 = .ok (.aload_n 0, 1) := by decide +kernel
theorem dX8_bestDays_31 : decode cX8_bestDays 31 = .ok (.getfield 302, 3) := by decide +kernel
theorem dX8_bestDays_34 : decode cX8_bestDays 34 = .ok (.lload 6, 2) := by decide +kernel
theorem dX8_bestDays_36 : decode cX8_bestDays 36 = .ok (.lmul, 1) := by decide +kernel
theorem dX8_bestDays_37 : decode cX8_bestDays 37 = .ok (.lload 4, 2) := by decide +kernel
theorem dX8_bestDays_39 : decode cX8_bestDays 39 = .ok (.aload_n 0, 1) := by decide +kernel
theorem dX8_bestDays_40 : decode cX8_bestDays 40 = .ok (.getfield 306, 3) := by decide +kernel
theorem dX8_bestDays_43 : decode cX8_bestDays 43 = .ok (.lmul, 1) := by decide +kernel
theorem dX8_bestDays_44 : decode cX8_bestDays 44 = .ok (.lcmp, 1) := by decide +kernel
theorem dX8_bestDays_45 : decode cX8_bestDays 45 = .ok (.ifCond .le 18, 3) := by decide +kernel
theorem dX8_bestDays_48 : decode cX8_bestDays 48 = .ok (.iload 8, 2) := by decide +kernel
theorem dX8_bestDays_50 : decode cX8_bestDays 50 = .ok (.istore_n 3, 1) := by decide +kernel
theorem dX8_bestDays_51 : decode cX8_bestDays 51 = .ok (.aload_n 0, 1) := by decide +kernel
theorem dX8_bestDays_52 : decode cX8_bestDays 52 = .ok (.getfield 302, 3) := by decide +kernel
theorem dX8_bestDays_55 : decode cX8_bestDays 55 = .ok (.lstore 4, 2) := by decide +kernel
theorem dX8_bestDays_57 : decode cX8_bestDays 57 = .ok (.aload_n 0, 1) := by decide +kernel
theorem dX8_bestDays_58 : decode cX8_bestDays 58 = .ok (.getfield 306, 3) := by decide +kernel
theorem dX8_bestDays_61 : decode cX8_bestDays 61 = .ok (.lstore 6, 2) := by decide +kernel
theorem dX8_bestDays_63 : decode cX8_bestDays 63 = .ok (.iinc 8 1, 3) := by decide +kernel
theorem dX8_bestDays_66 : decode cX8_bestDays 66 = .ok (.goto (-55), 3) := by decide +kernel
theorem dX8_bestDays_69 : decode cX8_bestDays 69 = .ok (.iload_n 3, 1) := by decide +kernel
theorem dX8_bestDays_70 : decode cX8_bestDays 70 = .ok (.ireturn, 1) := by decide +kernel
theorem dX8_noDays_0 : decode cX8_noDays 0 = .ok (.aload_n 0, 1) := by decide +kernel
theorem dX8_noDays_1 : decode cX8_noDays 1 = .ok (.getfield 7, 3) := by decide +kernel
theorem dX8_noDays_4 : decode cX8_noDays 4 = .ok (.iload_n 1, 1) := by decide +kernel
theorem dX8_noDays_5 : decode cX8_noDays 5 = .ok (.iaload, 1) := by decide +kernel
theorem dX8_noDays_6 : decode cX8_noDays 6 = .ok (.ifCond .ge 9, 3) := by decide +kernel
theorem dX8_noDays_9 : decode cX8_noDays 9 = .ok (.aload_n 0, 1) := by decide +kernel
theorem dX8_noDays_10 : decode cX8_noDays 10 = .ok (.iconst 1, 1) := by decide +kernel
theorem dX8_noDays_11 : decode cX8_noDays 11 = .ok (.invokevirtual 99, 3) := by decide +kernel
theorem dX8_noDays_14 : decode cX8_noDays 14 = .ok (.ireturn, 1) := by decide +kernel
theorem dX8_noDays_15 : decode cX8_noDays 15 = .ok (.iload_n 2, 1) := by decide +kernel
theorem dX8_noDays_16 : decode cX8_noDays 16 = .ok (.ifCond .lt 20, 3) := by decide +kernel
theorem dX8_noDays_19 : decode cX8_noDays 19 = .ok (.iload_n 2, 1) := by decide +kernel
theorem dX8_noDays_20 : decode cX8_noDays 20 = .ok (.i2l, 1) := by decide +kernel
theorem dX8_noDays_21 : decode cX8_noDays 21 = .ok (.ldc2_w 313, 3) := by decide +kernel
theorem dX8_noDays_24 : decode cX8_noDays 24 = .ok (.ladd, 1) := by decide +kernel
theorem dX8_noDays_25 : decode cX8_noDays 25 = .ok (.aload_n 0, 1) := by decide +kernel
theorem dX8_noDays_26 : decode cX8_noDays 26 = .ok (.getfield 13, 3) := by decide +kernel
theorem dX8_noDays_29 : decode cX8_noDays 29 = .ok (.iload_n 1, 1) := by decide +kernel
theorem dX8_noDays_30 : decode cX8_noDays 30 = .ok (.iaload, 1) := by decide +kernel
theorem dX8_noDays_31 : decode cX8_noDays 31 = .ok (.i2l, 1) := by decide +kernel
theorem dX8_noDays_32 : decode cX8_noDays 32 = .ok (.lcmp, 1) := by decide +kernel
theorem dX8_noDays_33 : decode cX8_noDays 33 = .ok (.ifCond .le 9, 3) := by decide +kernel
theorem dX8_noDays_36 : decode cX8_noDays 36 = .ok (.aload_n 0, 1) := by decide +kernel
theorem dX8_noDays_37 : decode cX8_noDays 37 = .ok (.iconst 2, 1) := by decide +kernel
theorem dX8_noDays_38 : decode cX8_noDays 38 = .ok (.invokevirtual 99, 3) := by decide +kernel
theorem dX8_noDays_41 : decode cX8_noDays 41 = .ok (.ireturn, 1) := by decide +kernel
theorem dX8_noDays_42 : decode cX8_noDays 42 = .ok (.iconst 0, 1) := by decide +kernel
theorem dX8_noDays_43 : decode cX8_noDays 43 = .ok (.istore_n 3, 1) := by decide +kernel
theorem dX8_noDays_44 : decode cX8_noDays 44 = .ok (.iload_n 3, 1) := by decide +kernel
theorem dX8_noDays_45 : decode cX8_noDays 45 = .ok (.bipush 6, 2) := by decide +kernel
theorem dX8_noDays_47 : decode cX8_noDays 47 = .ok (.if_icmp .ge 36, 3) := by decide +kernel
theorem dX8_noDays_50 : decode cX8_noDays 50 = .ok (.aload_n 0, 1) := by decide +kernel
theorem dX8_noDays_51 : decode cX8_noDays 51 = .ok (.getfield 16, 3) := by decide +kernel
theorem dX8_noDays_54 : decode cX8_noDays 54 = .ok (.bipush 40, 2) := by decide +kernel
theorem dX8_noDays_56 : decode cX8_noDays 56 = .ok (.iload_n 1, 1) := by decide +kernel
theorem dX8_noDays_57 : decode cX8_noDays 57 = .ok (.imul, 1) := by decide +kernel
theorem dX8_noDays_58 : decode cX8_noDays 58 = .ok (.iload_n 2, 1) := by decide +kernel
theorem dX8_noDays_59 : decode cX8_noDays 59 = .ok (.iadd, 1) := by decide +kernel
theorem dX8_noDays_60 : decode cX8_noDays 60 = .ok (.iload_n 3, 1) := by decide +kernel
theorem dX8_noDays_61 : decode cX8_noDays 61 = .ok (.iadd, 1) := by decide +kernel
theorem dX8_noDays_62 : decode cX8_noDays 62 = .ok (.iaload, 1) := by decide +kernel
theorem dX8_noDays_63 : decode cX8_noDays 63 = .ok (.i2l, 1) := by decide +kernel
theorem dX8_noDays_64 : decode cX8_noDays 64 = .ok (.lconst 0, 1) := by decide +kernel
theorem dX8_noDays_65 : decode cX8_noDays 65 = .ok (.ldc2_w 256, 3) := by decide +kernel
theorem dX8_noDays_68 : decode cX8_noDays 68 = .ok (.invokestatic 88, 3) := by decide +kernel
theorem dX8_noDays_71 : decode cX8_noDays 71 = .ok (.ifCond .ne 6, 3) := by decide +kernel
theorem dX8_noDays_74 : decode cX8_noDays 74 = .ok (.ldc 98, 2) := by decide +kernel
theorem dX8_noDays_76 : decode cX8_noDays 76 = .ok (.ireturn, 1) := by decide +kernel
theorem dX8_noDays_77 : decode cX8_noDays 77 = .ok (.iinc 3 1, 3) := by decide +kernel
theorem dX8_noDays_80 : decode cX8_noDays 80 = .ok (.goto (-36), 3) := by decide +kernel
theorem dX8_noDays_83 : decode cX8_noDays 83 = .ok (.aload_n 0, 1) := by decide +kernel
theorem dX8_noDays_84 : decode cX8_noDays 84 = .ok (.iconst 0, 1) := by decide +kernel
theorem dX8_noDays_85 : decode cX8_noDays 85 = .ok (.putfield 82, 3) := by decide +kernel
theorem dX8_noDays_88 : decode cX8_noDays 88 = .ok (.iconst 0, 1) := by decide +kernel
theorem dX8_noDays_89 : decode cX8_noDays 89 = .ok (.ireturn, 1) := by decide +kernel
theorem dX8_days_0 : decode cX8_days 0 = .ok (.aload_n 0, 1) := by decide +kernel
theorem dX8_days_1 : decode cX8_days 1 = .ok (.iconst 0, 1) := by decide +kernel
theorem dX8_days_2 : decode cX8_days 2 = .ok (.putfield 79, 3) := by decide +kernel
theorem dX8_days_5 : decode cX8_days 5 = .ok (.iload_n 1, 1) := by decide +kernel
theorem dX8_days_6 : decode cX8_days 6 = .ok (.invokestatic 92, 3) := by decide +kernel
theorem dX8_days_9 : decode cX8_days 9 = .ok (.ifCond .eq 15, 3) := by decide +kernel
theorem dX8_days_12 : decode cX8_days 12 = .ok (.iload_n 3, 1) := by decide +kernel
theorem dX8_days_13 : decode cX8_days 13 = .ok (.i2l, 1) := by decide +kernel
theorem dX8_days_14 : decode cX8_days 14 = .ok (.lconst 1, 1) := by decide +kernel
theorem dX8_days_15 : decode cX8_days 15 = .ok (.ldc2_w 256, 3) := by decide +kernel
theorem dX8_days_18 : decode cX8_days 18 = .ok (.invokestatic 88, 3) := by decide +kernel
theorem dX8_days_21 : decode cX8_days 21 = .ok (.ifCond .ne 6, 3) := by decide +kernel
theorem dX8_days_24 : decode cX8_days 24 = .ok (.ldc 98, 2) := by decide +kernel
theorem dX8_days_26 : decode cX8_days 26 = .ok (.ireturn, 1) := by decide +kernel
theorem dX8_days_27 : decode cX8_days 27 = .ok (.aload_n 0, 1) := by decide +kernel
theorem dX8_days_28 : decode cX8_days 28 = .ok (.iload_n 1, 1) := by decide +kernel
theorem dX8_days_29 : decode cX8_days 29 = .ok (.iload_n 2, 1) := by decide +kernel
theorem dX8_days_30 : decode cX8_days 30 = .ok (.invokevirtual 315, 3) := by decide +kernel
theorem dX8_days_33 : decode cX8_days 33 = .ok (.istore 4, 2) := by decide +kernel
theorem dX8_days_35 : decode cX8_days 35 = .ok (.iload 4, 2) := by decide +kernel
theorem dX8_days_37 : decode cX8_days 37 = .ok (.ifCond .ge 8, 3) := by decide +kernel
theorem dX8_days_40 : decode cX8_days 40 = .ok (.iload 4, 2) := by decide +kernel
theorem dX8_days_42 : decode cX8_days 42 = .ok (.goto 14, 3) := by decide +kernel
theorem dX8_days_45 : decode cX8_days 45 = .ok (.aload_n 0, 1) := by decide +kernel
theorem dX8_days_46 : decode cX8_days 46 = .ok (.bipush 40, 2) := by decide +kernel
theorem dX8_days_48 : decode cX8_days 48 = .ok (.iload_n 1, 1) := by decide +kernel
theorem dX8_days_49 : decode cX8_days 49 = .ok (.imul, 1) := by decide +kernel
theorem dX8_days_50 : decode cX8_days 50 = .ok (.iload_n 2, 1) := by decide +kernel
theorem dX8_days_51 : decode cX8_days 51 = .ok (.iadd, 1) := by decide +kernel
theorem dX8_days_52 : decode cX8_days 52 = .ok (.iload_n 3, 1) := by decide +kernel
theorem dX8_days_53 : decode cX8_days 53 = .ok (.invokevirtual 318, 3) := by decide +kernel
theorem dX8_days_56 : decode cX8_days 56 = .ok (.ireturn, 1) := by decide +kernel
theorem dX8_daysValue_0 : decode cX8_daysValue 0 = .ok (.aload_n 0, 1) := by decide +kernel
theorem dX8_daysValue_1 : decode cX8_daysValue 1 = .ok (.iconst 0, 1) := by decide +kernel
theorem dX8_daysValue_2 : decode cX8_daysValue 2 = .ok (.putfield 79, 3) := by decide +kernel
theorem dX8_daysValue_5 : decode cX8_daysValue 5 = .ok (.iload_n 1, 1) := by decide +kernel
theorem dX8_daysValue_6 : decode cX8_daysValue 6 = .ok (.invokestatic 92, 3) := by decide +kernel
theorem dX8_daysValue_9 : decode cX8_daysValue 9 = .ok (.ifCond .eq 41, 3) := by decide +kernel
theorem dX8_daysValue_12 : decode cX8_daysValue 12 = .ok (.iload_n 3, 1) := by decide +kernel
theorem dX8_daysValue_13 : decode cX8_daysValue 13 = .ok (.i2l, 1) := by decide +kernel
theorem dX8_daysValue_14 : decode cX8_daysValue 14 = .ok (.lconst 1, 1) := by decide +kernel
theorem dX8_daysValue_15 : decode cX8_daysValue 15 = .ok (.ldc2_w 256, 3) := by decide +kernel
theorem dX8_daysValue_18 : decode cX8_daysValue 18 = .ok (.invokestatic 88, 3) := by decide +kernel
theorem dX8_daysValue_21 : decode cX8_daysValue 21 = .ok (.ifCond .eq 29, 3) := by decide +kernel
theorem dX8_daysValue_24 : decode cX8_daysValue 24 = .ok (.iload 4, 2) := by decide +kernel
theorem dX8_daysValue_26 : decode cX8_daysValue 26 = .ok (.i2l, 1) := by decide +kernel
theorem dX8_daysValue_27 : decode cX8_daysValue 27 = .ok (.ldc2_w 321, 3) := by decide +kernel
theorem dX8_daysValue_30 : decode cX8_daysValue 30 = .ok (.ldc2_w 323, 3) := by decide +kernel
theorem dX8_daysValue_33 : decode cX8_daysValue 33 = .ok (.invokestatic 88, 3) := by decide +kernel
theorem dX8_daysValue_36 : decode cX8_daysValue 36 = .ok (.ifCond .eq 14, 3) := by decide +kernel
theorem dX8_daysValue_39 : decode cX8_daysValue 39 = .ok (.iload 5, 2) := by decide +kernel
theorem dX8_daysValue_41 : decode cX8_daysValue 41 = .ok (.i2l, 1) := by decide +kernel
theorem dX8_daysValue_42 : decode cX8_daysValue 42 = .ok (.lconst 0, 1) := by decide +kernel
theorem dX8_daysValue_43 : decode cX8_daysValue 43 = .ok (.lconst 1, 1) := by decide +kernel
theorem dX8_daysValue_44 : decode cX8_daysValue 44 = .ok (.invokestatic 88, 3) := by decide +kernel
theorem dX8_daysValue_47 : decode cX8_daysValue 47 = .ok (.ifCond .ne 7, 3) := by decide +kernel
theorem dX8_daysValue_50 : decode cX8_daysValue 50 = .ok (.ldc2_w 325, 3) := by decide +kernel
theorem dX8_daysValue_53 : decode cX8_daysValue 53 = .ok (.lreturn, 1) := by decide +kernel
theorem dX8_daysValue_54 : decode cX8_daysValue 54 = .ok (.aload_n 0, 1) := by decide +kernel
theorem dX8_daysValue_55 : decode cX8_daysValue 55 = .ok (.iload_n 1, 1) := by decide +kernel
theorem dX8_daysValue_56 : decode cX8_daysValue 56 = .ok (.iload_n 2, 1) := by decide +kernel
theorem dX8_daysValue_57 : decode cX8_daysValue 57 = .ok (.invokevirtual 315, 3) := by decide +kernel
theorem dX8_daysValue_60 : decode cX8_daysValue 60 = .ok (.istore 6, 2) := by decide +kernel
theorem dX8_daysValue_62 : decode cX8_daysValue 62 = .ok (.iload 6, 2) := by decide +kernel
theorem dX8_daysValue_64 : decode cX8_daysValue 64 = .ok (.ifCond .ge 7, 3) := by decide +kernel
theorem dX8_daysValue_67 : decode cX8_daysValue 67 = .ok (.iload 6, 2) := by decide +kernel
theorem dX8_daysValue_69 : decode cX8_daysValue 69 = .ok (.i2l, 1) := by decide +kernel
theorem dX8_daysValue_70 : decode cX8_daysValue 70 = .ok (.lreturn, 1) := by decide +kernel
theorem dX8_daysValue_71 : decode cX8_daysValue 71 = .ok (.bipush 40, 2) := by decide +kernel
theorem dX8_daysValue_73 : decode cX8_daysValue 73 = .ok (.iload_n 1, 1) := by decide +kernel
theorem dX8_daysValue_74 : decode cX8_daysValue 74 = .ok (.imul, 1) := by decide +kernel
theorem dX8_daysValue_75 : decode cX8_daysValue 75 = .ok (.iload_n 2, 1) := by decide +kernel
theorem dX8_daysValue_76 : decode cX8_daysValue 76 = .ok (.iadd, 1) := by decide +kernel
theorem dX8_daysValue_77 : decode cX8_daysValue 77 = .ok (.istore 7, 2) := by decide +kernel
theorem dX8_daysValue_79 : decode cX8_daysValue 79 = .ok (.aload_n 0, 1) := by decide +kernel
theorem dX8_daysValue_80 : decode cX8_daysValue 80 = .ok (.iload 7, 2) := by decide +kernel
theorem dX8_daysValue_82 : decode cX8_daysValue 82 = .ok (.iload_n 3, 1) := by decide +kernel
theorem dX8_daysValue_83 : decode cX8_daysValue 83 = .ok (.invokevirtual 318, 3) := by decide +kernel
theorem dX8_daysValue_86 : decode cX8_daysValue 86 = .ok (.istore 8, 2) := by decide +kernel
theorem dX8_daysValue_88 : decode cX8_daysValue 88 = .ok (.iload 4, 2) := by decide +kernel
theorem dX8_daysValue_90 : decode cX8_daysValue 90 = .ok (.ifCond .ge 29, 3) := by decide +kernel
theorem dX8_daysValue_93 : decode cX8_daysValue 93 = .ok (.aload_n 0, 1) := by decide +kernel
theorem dX8_daysValue_94 : decode cX8_daysValue 94 = .ok (.iload 7, 2) := by decide +kernel
theorem dX8_daysValue_96 : decode cX8_daysValue 96 = .ok (.iload_n 3, 1) := by decide +kernel
theorem dX8_daysValue_97 : decode cX8_daysValue 97 = .ok (.iload 8, 2) := by decide +kernel
theorem dX8_daysValue_99 : decode cX8_daysValue 99 = .ok (.invokevirtual 309, 3) := by decide +kernel
theorem dX8_daysValue_102 : decode cX8_daysValue 102 = .ok (.iload 5, 2) := by decide +kernel
theorem dX8_daysValue_104 : decode cX8_daysValue 104 = .ok (.ifCond .ne 10, 3) := by decide +kernel
theorem dX8_daysValue_107 : decode cX8_daysValue 107 = .ok (.aload_n 0, 1) := by decide +kernel
theorem dX8_daysValue_108 : decode cX8_daysValue 108 = .ok (.getfield 302, 3) := by decide +kernel
theorem dX8_daysValue_111 : decode cX8_daysValue 111 = .ok (.goto 7, 3) := by decide +kernel
theorem dX8_daysValue_114 : decode cX8_daysValue 114 = .ok (.aload_n 0, 1) := by decide +kernel
theorem dX8_daysValue_115 : decode cX8_daysValue 115 = .ok (.getfield 306, 3) := by decide +kernel
theorem dX8_daysValue_118 : decode cX8_daysValue 118 = .ok (.lreturn, 1) := by decide +kernel
theorem dX8_daysValue_119 : decode cX8_daysValue 119 = .ok (.iload 8, 2) := by decide +kernel
theorem dX8_daysValue_121 : decode cX8_daysValue 121 = .ok (.iload 4, 2) := by decide +kernel
theorem dX8_daysValue_123 : decode cX8_daysValue 123 = .ok (.ishr, 1) := by decide +kernel
theorem dX8_daysValue_124 : decode cX8_daysValue 124 = .ok (.iconst 1, 1) := by decide +kernel
theorem dX8_daysValue_125 : decode cX8_daysValue 125 = .ok (.iand, 1) := by decide +kernel
theorem dX8_daysValue_126 : decode cX8_daysValue 126 = .ok (.ifCond .ne 7, 3) := by decide +kernel
theorem dX8_daysValue_129 : decode cX8_daysValue 129 = .ok (.iload 5, 2) := by decide +kernel
theorem dX8_daysValue_131 : decode cX8_daysValue 131 = .ok (.i2l, 1) := by decide +kernel
theorem dX8_daysValue_132 : decode cX8_daysValue 132 = .ok (.lreturn, 1) := by decide +kernel
theorem dX8_daysValue_133 : decode cX8_daysValue 133 = .ok (.lconst 1, 1) := by decide +kernel
theorem dX8_daysValue_134 : decode cX8_daysValue 134 = .ok (.lstore 9, 2) := by decide +kernel
theorem dX8_daysValue_136 : decode cX8_daysValue 136 = .ok (.iconst 0, 1) := by decide +kernel
theorem dX8_daysValue_137 : decode cX8_daysValue 137 = .ok (.istore 11, 2) := by decide +kernel
theorem dX8_daysValue_139 : decode cX8_daysValue 139 = .ok (.iload 11, 2) := by decide +kernel
theorem dX8_daysValue_141 : decode cX8_daysValue 141 = .ok (.bipush 6, 2) := by decide +kernel
theorem dX8_daysValue_143 : decode cX8_daysValue 143 = .ok (.if_icmp .ge 42, 3) := by decide +kernel
theorem dX8_daysValue_146 : decode cX8_daysValue 146 = .ok (.lload 9, 2) := by decide +kernel
theorem dX8_daysValue_148 : decode cX8_daysValue 148 = .ok (.iload 8, 2) := by decide +kernel
theorem dX8_daysValue_150 : decode cX8_daysValue 150 = .ok (.iload 11, 2) := by decide +kernel
theorem dX8_daysValue_152 : decode cX8_daysValue 152 = .ok (.ishr, 1) := by decide +kernel
theorem dX8_daysValue_153 : decode cX8_daysValue 153 = .ok (.iconst 1, 1) := by decide +kernel
theorem dX8_daysValue_154 : decode cX8_daysValue 154 = .ok (.iand, 1) := by decide +kernel
theorem dX8_daysValue_155 : decode cX8_daysValue 155 = .ok (.iconst 1, 1) := by decide +kernel
theorem dX8_daysValue_156 : decode cX8_daysValue 156 = .ok (.if_icmp .ne 19, 3) := by decide +kernel
theorem dX8_daysValue_159 : decode cX8_daysValue 159 = .ok (.aload_n 0, 1) := by decide +kernel
theorem dX8_daysValue_160 : decode cX8_daysValue 160 = .ok (.getfield 16, 3) := by decide +kernel
theorem dX8_daysValue_163 : decode cX8_daysValue 163 = .ok (.iload 7, 2) := by decide +kernel
theorem dX8_daysValue_165 : decode cX8_daysValue 165 = .ok (.iload 11, 2) := by decide +kernel
theorem dX8_daysValue_167 : decode cX8_daysValue 167 = .ok (.iadd, 1) := by decide +kernel
theorem dX8_daysValue_168 : decode cX8_daysValue 168 = .ok (.iaload, 1) := by decide +kernel
theorem dX8_daysValue_169 : decode cX8_daysValue 169 = .ok (.iload_n 3, 1) := by decide +kernel
theorem dX8_daysValue_170 : decode cX8_daysValue 170 = .ok (.iadd, 1) := by decide +kernel
theorem dX8_daysValue_171 : decode cX8_daysValue 171 = .ok (.i2l, 1) := by decide +kernel
theorem dX8_daysValue_172 : decode cX8_daysValue 172 = .ok (.goto 4, 3) := by decide +kernel
theorem dX8_daysValue_175 : decode cX8_daysValue 175 = .ok (.lconst 1, 1) := by decide +kernel
theorem dX8_daysValue_176 : decode cX8_daysValue 176 = .ok (.lmul, 1) := by decide +kernel
theorem dX8_daysValue_177 : decode cX8_daysValue 177 = .ok (.lstore 9, 2) := by decide +kernel
theorem dX8_daysValue_179 : decode cX8_daysValue 179 = .ok (.iinc 11 1, 3) := by decide +kernel
theorem dX8_daysValue_182 : decode cX8_daysValue 182 = .ok (.goto (-43), 3) := by decide +kernel
theorem dX8_daysValue_185 : decode cX8_daysValue 185 = .ok (.lload 9, 2) := by decide +kernel
theorem dX8_daysValue_187 : decode cX8_daysValue 187 = .ok (.aload_n 0, 1) := by decide +kernel
theorem dX8_daysValue_188 : decode cX8_daysValue 188 = .ok (.getfield 16, 3) := by decide +kernel
theorem dX8_daysValue_191 : decode cX8_daysValue 191 = .ok (.iload 7, 2) := by decide +kernel
theorem dX8_daysValue_193 : decode cX8_daysValue 193 = .ok (.iload 4, 2) := by decide +kernel
theorem dX8_daysValue_195 : decode cX8_daysValue 195 = .ok (.iadd, 1) := by decide +kernel
theorem dX8_daysValue_196 : decode cX8_daysValue 196 = .ok (.iaload, 1) := by decide +kernel
theorem dX8_daysValue_197 : decode cX8_daysValue 197 = .ok (.iload_n 3, 1) := by decide +kernel
theorem dX8_daysValue_198 : decode cX8_daysValue 198 = .ok (.iadd, 1) := by decide +kernel
theorem dX8_daysValue_199 : decode cX8_daysValue 199 = .ok (.i2l, 1) := by decide +kernel
theorem dX8_daysValue_200 : decode cX8_daysValue 200 = .ok (.ldiv, 1) := by decide +kernel
theorem dX8_daysValue_201 : decode cX8_daysValue 201 = .ok (.lstore 11, 2) := by decide +kernel
theorem dX8_daysValue_203 : decode cX8_daysValue 203 = .ok (.aload_n 0, 1) := by decide +kernel
theorem dX8_daysValue_204 : decode cX8_daysValue 204 = .ok (.iload 7, 2) := by decide +kernel
theorem dX8_daysValue_206 : decode cX8_daysValue 206 = .ok (.iload_n 3, 1) := by decide +kernel
theorem dX8_daysValue_207 : decode cX8_daysValue 207 = .ok (.iload 8, 2) := by decide +kernel
theorem dX8_daysValue_209 : decode cX8_daysValue 209 = .ok (.lload 9, 2) := by decide +kernel
theorem dX8_daysValue_211 : decode cX8_daysValue 211 = .ok (.invokevirtual 298, 3) := by decide +kernel
theorem dX8_daysValue_214 : decode cX8_daysValue 214 = .ok (.lstore 13, 2) := by decide +kernel
theorem dX8_daysValue_216 : decode cX8_daysValue 216 = .ok (.iload 5, 2) := by decide +kernel
theorem dX8_daysValue_218 : decode cX8_daysValue 218 = .ok (.ifCond .ne 8, 3) := by decide +kernel
theorem dX8_daysValue_221 : decode cX8_daysValue 221 = .ok (.lload 11, 2) := by decide +kernel
theorem dX8_daysValue_223 : decode cX8_daysValue 223 = .ok (.goto 5, 3) := by decide +kernel
theorem dX8_daysValue_226 : decode cX8_daysValue 226 = .ok (.lload 13, 2) := by decide +kernel
theorem dX8_daysValue_228 : decode cX8_daysValue 228 = .ok (.lload 11, 2) := by decide +kernel
theorem dX8_daysValue_230 : decode cX8_daysValue 230 = .ok (.lload 13, 2) := by decide +kernel
theorem dX8_daysValue_232 : decode cX8_daysValue 232 = .ok (.invokestatic 283, 3) := by decide +kernel
theorem dX8_daysValue_235 : decode cX8_daysValue 235 = .ok (.ldiv, 1) := by decide +kernel
theorem dX8_daysValue_236 : decode cX8_daysValue 236 = .ok (.lreturn, 1) := by decide +kernel
theorem dX8_shares_0 : decode cX8_shares 0 = .ok (.aload_n 0, 1) := by decide +kernel
theorem dX8_shares_1 : decode cX8_shares 1 = .ok (.iconst 0, 1) := by decide +kernel
theorem dX8_shares_2 : decode cX8_shares 2 = .ok (.putfield 79, 3) := by decide +kernel
theorem dX8_shares_5 : decode cX8_shares 5 = .ok (.aload_n 0, 1) := by decide +kernel
theorem dX8_shares_6 : decode cX8_shares 6 = .ok (.invokevirtual 265, 3) := by decide +kernel
theorem dX8_shares_9 : decode cX8_shares 9 = .ok (.ifCond .ne 7, 3) := by decide +kernel
theorem dX8_shares_12 : decode cX8_shares 12 = .ok (.ldc_w 261, 3) := by decide +kernel
theorem dX8_shares_15 : decode cX8_shares 15 = .ok (.ireturn, 1) := by decide +kernel
theorem dX8_shares_16 : decode cX8_shares 16 = .ok (.iload_n 1, 1) := by decide +kernel
theorem dX8_shares_17 : decode cX8_shares 17 = .ok (.invokestatic 92, 3) := by decide +kernel
theorem dX8_shares_20 : decode cX8_shares 20 = .ok (.ifCond .ne 6, 3) := by decide +kernel
theorem dX8_shares_23 : decode cX8_shares 23 = .ok (.ldc 98, 2) := by decide +kernel
theorem dX8_shares_25 : decode cX8_shares 25 = .ok (.ireturn, 1) := by decide +kernel
theorem dX8_shares_26 : decode cX8_shares 26 = .ok (.aload_n 0, 1) := by decide +kernel
theorem dX8_shares_27 : decode cX8_shares 27 = .ok (.getfield 7, 3) := by decide +kernel
theorem dX8_shares_30 : decode cX8_shares 30 = .ok (.iload_n 1, 1) := by decide +kernel
theorem dX8_shares_31 : decode cX8_shares 31 = .ok (.iaload, 1) := by decide +kernel
theorem dX8_shares_32 : decode cX8_shares 32 = .ok (.ifCond .ge 9, 3) := by decide +kernel
theorem dX8_shares_35 : decode cX8_shares 35 = .ok (.aload_n 0, 1) := by decide +kernel
theorem dX8_shares_36 : decode cX8_shares 36 = .ok (.iconst 1, 1) := by decide +kernel
theorem dX8_shares_37 : decode cX8_shares 37 = .ok (.invokevirtual 99, 3) := by decide +kernel
theorem dX8_shares_40 : decode cX8_shares 40 = .ok (.ireturn, 1) := by decide +kernel
theorem dX8_shares_41 : decode cX8_shares 41 = .ok (.iload_n 2, 1) := by decide +kernel
theorem dX8_shares_42 : decode cX8_shares 42 = .ok (.ifCond .lt 25, 3) := by decide +kernel
theorem dX8_shares_45 : decode cX8_shares 45 = .ok (.iload_n 2, 1) := by decide +kernel
theorem dX8_shares_46 : decode cX8_shares 46 = .ok (.i2l, 1) := by decide +kernel
theorem dX8_shares_47 : decode cX8_shares 47 = .ok (.aload_n 0, 1) := by decide +kernel
theorem dX8_shares_48 : decode cX8_shares 48 = .ok (.getfield 19, 3) := by decide +kernel
theorem dX8_shares_51 : decode cX8_shares 51 = .ok (.bipush 8, 2) := by decide +kernel
theorem dX8_shares_53 : decode cX8_shares 53 = .ok (.iaload, 1) := by decide +kernel
theorem dX8_shares_54 : decode cX8_shares 54 = .ok (.i2l, 1) := by decide +kernel
theorem dX8_shares_55 : decode cX8_shares 55 = .ok (.ladd, 1) := by decide +kernel
theorem dX8_shares_56 : decode cX8_shares 56 = .ok (.aload_n 0, 1) := by decide +kernel
theorem dX8_shares_57 : decode cX8_shares 57 = .ok (.getfield 13, 3) := by decide +kernel
theorem dX8_shares_60 : decode cX8_shares 60 = .ok (.iload_n 1, 1) := by decide +kernel
theorem dX8_shares_61 : decode cX8_shares 61 = .ok (.iaload, 1) := by decide +kernel
theorem dX8_shares_62 : decode cX8_shares 62 = .ok (.i2l, 1) := by decide +kernel
theorem dX8_shares_63 : decode cX8_shares 63 = .ok (.lcmp, 1) := by decide +kernel
theorem dX8_shares_64 : decode cX8_shares 64 = .ok (.ifCond .le 9, 3) := by decide +kernel
theorem dX8_shares_67 : decode cX8_shares 67 = .ok (.aload_n 0, 1) := by decide +kernel
theorem dX8_shares_68 : decode cX8_shares 68 = .ok (.iconst 2, 1) := by decide +kernel
theorem dX8_shares_69 : decode cX8_shares 69 = .ok (.invokevirtual 99, 3) := by decide +kernel
theorem dX8_shares_72 : decode cX8_shares 72 = .ok (.ireturn, 1) := by decide +kernel
theorem dX8_shares_73 : decode cX8_shares 73 = .ok (.aload_n 0, 1) := by decide +kernel
theorem dX8_shares_74 : decode cX8_shares 74 = .ok (.iconst 0, 1) := by decide +kernel
theorem dX8_shares_75 : decode cX8_shares 75 = .ok (.putfield 82, 3) := by decide +kernel
theorem dX8_shares_78 : decode cX8_shares 78 = .ok (.bipush 40, 2) := by decide +kernel
theorem dX8_shares_80 : decode cX8_shares 80 = .ok (.iload_n 1, 1) := by decide +kernel
theorem dX8_shares_81 : decode cX8_shares 81 = .ok (.imul, 1) := by decide +kernel
theorem dX8_shares_82 : decode cX8_shares 82 = .ok (.iload_n 2, 1) := by decide +kernel
theorem dX8_shares_83 : decode cX8_shares 83 = .ok (.iadd, 1) := by decide +kernel
theorem dX8_shares_84 : decode cX8_shares 84 = .ok (.istore_n 3, 1) := by decide +kernel
theorem dX8_shares_85 : decode cX8_shares 85 = .ok (.lconst 0, 1) := by decide +kernel
theorem dX8_shares_86 : decode cX8_shares 86 = .ok (.lstore 4, 2) := by decide +kernel
theorem dX8_shares_88 : decode cX8_shares 88 = .ok (.iconst 0, 1) := by decide +kernel
theorem dX8_shares_89 : decode cX8_shares 89 = .ok (.istore 6, 2) := by decide +kernel
theorem dX8_shares_91 : decode cX8_shares 91 = .ok (.iload 6, 2) := by decide +kernel
theorem dX8_shares_93 : decode cX8_shares 93 = .ok (.aload_n 0, 1) := by decide +kernel
theorem dX8_shares_94 : decode cX8_shares 94 = .ok (.getfield 19, 3) := by decide +kernel
theorem dX8_shares_97 : decode cX8_shares 97 = .ok (.bipush 8, 2) := by decide +kernel
theorem dX8_shares_99 : decode cX8_shares 99 = .ok (.iaload, 1) := by decide +kernel
theorem dX8_shares_100 : decode cX8_shares 100 = .ok (.if_icmp .ge 24, 3) := by decide +kernel
theorem dX8_shares_103 : decode cX8_shares 103 = .ok (.lload 4, 2) := by decide +kernel
theorem dX8_shares_105 : decode cX8_shares 105 = .ok (.aload_n 0, 1) := by decide +kernel
theorem dX8_shares_106 : decode cX8_shares 106 = .ok (.getfield 16, 3) := by decide +kernel
theorem dX8_shares_109 : decode cX8_shares 109 = .ok (.iload_n 3, 1) := by decide +kernel
theorem dX8_shares_110 : decode cX8_shares 110 = .ok (.iload 6, 2) := by decide +kernel
theorem dX8_shares_112 : decode cX8_shares 112 = .ok (.iadd, 1) := by decide +kernel
theorem dX8_shares_113 : decode cX8_shares 113 = .ok (.iaload, 1) := by decide +kernel
theorem dX8_shares_114 : decode cX8_shares 114 = .ok (.i2l, 1) := by decide +kernel
theorem dX8_shares_115 : decode cX8_shares 115 = .ok (.ladd, 1) := by decide +kernel
theorem dX8_shares_116 : decode cX8_shares 116 = .ok (.lstore 4, 2) := by decide +kernel
theorem dX8_shares_118 : decode cX8_shares 118 = .ok (.iinc 6 1, 3) := by decide +kernel
theorem dX8_shares_121 : decode cX8_shares 121 = .ok (.goto (-30), 3) := by decide +kernel
theorem dX8_shares_124 : decode cX8_shares 124 = .ok (.lload 4, 2) := by decide +kernel
theorem dX8_shares_126 : decode cX8_shares 126 = .ok (.aload_n 0, 1) := by decide +kernel
theorem dX8_shares_127 : decode cX8_shares 127 = .ok (.invokevirtual 271, 3) := by decide +kernel
theorem dX8_shares_130 : decode cX8_shares 130 = .ok (.i2l, 1) := by decide +kernel
theorem dX8_shares_131 : decode cX8_shares 131 = .ok (.lcmp, 1) := by decide +kernel
theorem dX8_shares_132 : decode cX8_shares 132 = .ok (.ifCond .eq 6, 3) := by decide +kernel
theorem dX8_shares_135 : decode cX8_shares 135 = .ok (.ldc 61, 2) := by decide +kernel
theorem dX8_shares_137 : decode cX8_shares 137 = .ok (.ireturn, 1) := by decide +kernel
theorem dX8_shares_138 : decode cX8_shares 138 = .ok (.iconst 1, 1) := by decide +kernel
theorem dX8_shares_139 : decode cX8_shares 139 = .ok (.istore 6, 2) := by decide +kernel
theorem dX8_shares_141 : decode cX8_shares 141 = .ok (.iload 6, 2) := by decide +kernel
theorem dX8_shares_143 : decode cX8_shares 143 = .ok (.aload_n 0, 1) := by decide +kernel
theorem dX8_shares_144 : decode cX8_shares 144 = .ok (.invokevirtual 243, 3) := by decide +kernel
theorem dX8_shares_147 : decode cX8_shares 147 = .ok (.if_icmp .gt 83, 3) := by decide +kernel
theorem dX8_shares_150 : decode cX8_shares 150 = .ok (.lconst 0, 1) := by decide +kernel
theorem dX8_shares_151 : decode cX8_shares 151 = .ok (.lstore 7, 2) := by decide +kernel
theorem dX8_shares_153 : decode cX8_shares 153 = .ok (.iconst 0, 1) := by decide +kernel
theorem dX8_shares_154 : decode cX8_shares 154 = .ok (.istore 9, 2) := by decide +kernel
theorem dX8_shares_156 : decode cX8_shares 156 = .ok (.iload 9, 2) := by decide +kernel
theorem dX8_shares_158 : decode cX8_shares 158 = .ok (.aload_n 0, 1) := by decide +kernel
theorem dX8_shares_159 : decode cX8_shares 159 = .ok (.getfield 19, 3) := by decide +kernel
theorem dX8_shares_162 : decode cX8_shares 162 = .ok (.bipush 8, 2) := by decide +kernel
theorem dX8_shares_164 : decode cX8_shares 164 = .ok (.iaload, 1) := by decide +kernel
theorem dX8_shares_165 : decode cX8_shares 165 = .ok (.if_icmp .ge 39, 3) := by decide +kernel
theorem dX8_shares_168 : decode cX8_shares 168 = .ok (.lload 7, 2) := by decide +kernel
theorem dX8_shares_170 : decode cX8_shares 170 = .ok (.iload 6, 2) := by decide +kernel
theorem dX8_shares_172 : decode cX8_shares 172 = .ok (.iload 9, 2) := by decide +kernel
theorem dX8_shares_174 : decode cX8_shares 174 = .ok (.ishr, 1) := by decide +kernel
theorem dX8_shares_175 : decode cX8_shares 175 = .ok (.iconst 1, 1) := by decide +kernel
theorem dX8_shares_176 : decode cX8_shares 176 = .ok (.iand, 1) := by decide +kernel
theorem dX8_shares_177 : decode cX8_shares 177 = .ok (.iconst 1, 1) := by decide +kernel
theorem dX8_shares_178 : decode cX8_shares 178 = .ok (.if_icmp .ne 16, 3) := by decide +kernel
theorem dX8_shares_181 : decode cX8_shares 181 = .ok (.aload_n 0, 1) := by decide +kernel
theorem dX8_shares_182 : decode cX8_shares 182 = .ok (.getfield 16, 3) := by decide +kernel
theorem dX8_shares_185 : decode cX8_shares 185 = .ok (.iload_n 3, 1) := by decide +kernel
theorem dX8_shares_186 : decode cX8_shares 186 = .ok (.iload 9, 2) := by decide +kernel
theorem dX8_shares_188 : decode cX8_shares 188 = .ok (.iadd, 1) := by decide +kernel
theorem dX8_shares_189 : decode cX8_shares 189 = .ok (.iaload, 1) := by decide +kernel
theorem dX8_shares_190 : decode cX8_shares 190 = .ok (.i2l, 1) := by decide +kernel
theorem dX8_shares_191 : decode cX8_shares 191 = .ok (.goto 4, 3) := by decide +kernel
theorem dX8_shares_194 : decode cX8_shares 194 = .ok (.lconst 0, 1) := by decide +kernel
theorem dX8_shares_195 : decode cX8_shares 195 = .ok (.ladd, 1) := by decide +kernel
theorem dX8_shares_196 : decode cX8_shares 196 = .ok (.lstore 7, 2) := by decide +kernel
theorem dX8_shares_198 : decode cX8_shares 198 = .ok (.iinc 9 1, 3) := by decide +kernel
theorem dX8_shares_201 : decode cX8_shares 201 = .ok (.goto (-45), 3) := by decide +kernel
theorem dX8_shares_204 : decode cX8_shares 204 = .ok (.aload_n 0, 1) := by decide +kernel
theorem dX8_shares_205 : decode cX8_shares 205 = .ok (.invokevirtual 240, 3) := by decide +kernel
theorem dX8_shares_208 : decode cX8_shares 208 = .ok (.aload_n 0, 1) := by decide +kernel
theorem dX8_shares_209 : decode cX8_shares 209 = .ok (.iload 6, 2) := by decide +kernel
theorem dX8_shares_211 : decode cX8_shares 211 = .ok (.invokevirtual 247, 3) := by decide +kernel
theorem dX8_shares_214 : decode cX8_shares 214 = .ok (.i2l, 1) := by decide +kernel
theorem dX8_shares_215 : decode cX8_shares 215 = .ok (.lload 7, 2) := by decide +kernel
theorem dX8_shares_217 : decode cX8_shares 217 = .ok (.lcmp, 1) := by decide +kernel
theorem dX8_shares_218 : decode cX8_shares 218 = .ok (.ifCond .le 6, 3) := by decide +kernel
theorem dX8_shares_221 : decode cX8_shares 221 = .ok (.iload 6, 2) := by decide +kernel
theorem dX8_shares_223 : decode cX8_shares 223 = .ok (.ireturn, 1) := by decide +kernel
theorem dX8_shares_224 : decode cX8_shares 224 = .ok (.iinc 6 1, 3) := by decide +kernel
theorem dX8_shares_227 : decode cX8_shares 227 = .ok (.goto (-86), 3) := by decide +kernel
theorem dX8_shares_230 : decode cX8_shares 230 = .ok (.iconst 0, 1) := by decide +kernel
theorem dX8_shares_231 : decode cX8_shares 231 = .ok (.ireturn, 1) := by decide +kernel
