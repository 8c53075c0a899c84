theorem dX6_count_93 : decode cX6_count 93 = .ok (.getfield 12, 3) := by decide +kernel
theorem dX6_count_96 : decode cX6_count 96 = .ok (.getfield 90, 3) := by decide +kernel
theorem dX6_count_99 : decode cX6_count 99 = .ok (.ireturn, 1) := by decide +kernel
theorem dX6_count_100 : decode cX6_count 100 = .ok (.aload_n 0, 1) := by decide +kernel
theorem dX6_count_101 : decode cX6_count 101 = .ok (.getfield 12, 3) := by decide +kernel
theorem dX6_count_104 : decode cX6_count 104 = .ok (.getfield 71, 3) := by decide +kernel
theorem dX6_count_107 : decode cX6_count 107 = .ok (.invokevirtual 146, 3) := by decide +kernel
theorem dX6_count_110 : decode cX6_count 110 = .ok (.ireturn, 1) := by decide +kernel
theorem dX6_count_111 : decode cX6_count 111 = .ok (.aload_n 0, 1) := by decide +kernel
theorem dX6_count_112 : decode cX6_count 112 = .ok (.getfield 12, 3) := by decide +kernel
theorem dX6_count_115 : decode cX6_count 115 = .ok (.getfield 71, 3) := by decide +kernel
theorem dX6_count_118 : decode cX6_count 118 = .ok (.invokevirtual 203, 3) := by decide +kernel
theorem dX6_count_121 : decode cX6_count 121 = .ok (.ireturn, 1) := by decide +kernel
theorem dX6_count_122 : decode cX6_count 122 = .ok (.aload_n 0, 1) := by decide +kernel
theorem dX6_count_123 : decode cX6_count 123 = .ok (.getfield 12, 3) := by decide +kernel
theorem dX6_count_126 : decode cX6_count 126 = .ok (.iconst 0, 1) := by decide +kernel
theorem dX6_count_127 : decode cX6_count 127 = .ok (.invokevirtual 205, 3) := by decide +kernel
theorem dX6_count_130 : decode cX6_count 130 = .ok (.ireturn, 1) := by decide +kernel
theorem dX6_count_131 : decode cX6_count 131 = .ok (.aload_n 0, 1) := by decide +kernel
theorem dX6_count_132 : decode cX6_count 132 = .ok (.getfield 12, 3) := by decide +kernel
theorem dX6_count_135 : decode cX6_count 135 = .ok (.iconst 1, 1) := by decide +kernel
theorem dX6_count_136 : decode cX6_count 136 = .ok (.invokevirtual 205, 3) := by decide +kernel
theorem dX6_count_139 : decode cX6_count 139 = .ok (.ireturn, 1) := by decide +kernel
theorem dX6_count_140 : decode cX6_count 140 = .ok (.aload_n 0, 1) := by decide +kernel
theorem dX6_count_141 : decode cX6_count 141 = .ok (.getfield 12, 3) := by decide +kernel
theorem dX6_count_144 : decode cX6_count 144 = .ok (.getfield 208, 3) := by decide +kernel
theorem dX6_count_147 : decode cX6_count 147 = .ok (.ireturn, 1) := by decide +kernel
theorem dX6_count_148 : decode cX6_count 148 = .ok (.aload_n 0, 1) := by decide +kernel
theorem dX6_count_149 : decode cX6_count 149 = .ok (.getfield 12, 3) := by decide +kernel
theorem dX6_count_152 : decode cX6_count 152 = .ok (.getfield 211, 3) := by decide +kernel
theorem dX6_count_155 : decode cX6_count 155 = .ok (.ireturn, 1) := by decide +kernel
theorem dX6_count_156 : decode cX6_count 156 = .ok (.aload_n 0, 1) := by decide +kernel
theorem dX6_count_157 : decode cX6_count 157 = .ok (.getfield 12, 3) := by decide +kernel
theorem dX6_count_160 : decode cX6_count 160 = .ok (.getfield 214, 3) := by decide +kernel
theorem dX6_count_163 : decode cX6_count 163 = .ok (.ireturn, 1) := by decide +kernel
theorem dX6_count_164 : decode cX6_count 164 = .ok (.aload_n 0, 1) := by decide +kernel
theorem dX6_count_165 : decode cX6_count 165 = .ok (.getfield 12, 3) := by decide +kernel
theorem dX6_count_168 : decode cX6_count 168 = .ok (.getfield 217, 3) := by decide +kernel
theorem dX6_count_171 : decode cX6_count 171 = .ok (.ireturn, 1) := by decide +kernel
theorem dX6_count_172 : decode cX6_count 172 = .ok (.aload_n 0, 1) := by decide +kernel
theorem dX6_count_173 : decode cX6_count 173 = .ok (.getfield 12, 3) := by decide +kernel
theorem dX6_count_176 : decode cX6_count 176 = .ok (.getfield 220, 3) := by decide +kernel
theorem dX6_count_179 : decode cX6_count 179 = .ok (.ireturn, 1) := by decide +kernel
theorem dX6_count_180 : decode cX6_count 180 = .ok (.aload_n 0, 1) := by decide +kernel
theorem dX6_count_181 : decode cX6_count 181 = .ok (.getfield 12, 3) := by decide +kernel
theorem dX6_count_184 : decode cX6_count 184 = .ok (.getfield 221, 3) := by decide +kernel
theorem dX6_count_187 : decode cX6_count 187 = .ok (.ireturn, 1) := by decide +kernel
theorem dX6_count_188 : decode cX6_count 188 = .ok (.aload_n 0, 1) := by decide +kernel
theorem dX6_count_189 : decode cX6_count 189 = .ok (.getfield 23, 3) := by decide +kernel
theorem dX6_count_192 : decode cX6_count 192 = .ok (.getfield 164, 3) := by decide +kernel
theorem dX6_count_195 : decode cX6_count 195 = .ok (.ireturn, 1) := by decide +kernel
theorem dX6_setting_0 : decode cX6_setting 0 = .ok (.aload_n 0, 1) := by decide +kernel
theorem dX6_setting_1 : decode cX6_setting 1 = .ok (.getfield 12, 3) := by decide +kernel
theorem dX6_setting_4 : decode cX6_setting 4 = .ok (.getfield 78, 3) := by decide +kernel
theorem dX6_setting_7 : decode cX6_setting 7 = .ok (.ireturn, 1) := by decide +kernel
theorem dX6_ends_0 : decode cX6_ends 0 = .ok (.iload_n 1, 1) := by decide +kernel
theorem dX6_ends_1 : decode cX6_ends 1 = .ok (.invokestatic 52, 3) := by decide +kernel
theorem dX6_ends_4 : decode cX6_ends 4 = .ok (.iload_n 2, 1) := by decide +kernel
theorem dX6_ends_5 : decode cX6_ends 5 = .ok (.invokestatic 56, 3) := by decide +kernel
theorem dX6_ends_8 : decode cX6_ends 8 = .ok (.iload_n 3, 1) := by decide +kernel
theorem dX6_ends_9 : decode cX6_ends 9 = .ok (.ifCond .lt 8, 3) := by decide +kernel
theorem dX6_ends_12 : decode cX6_ends 12 = .ok (.iload_n 3, 1) := by decide +kernel
theorem dX6_ends_13 : decode cX6_ends 13 = .ok (.iconst 1, 1) := by decide +kernel
theorem dX6_ends_14 : decode cX6_ends 14 = .ok (.if_icmp .le 13, 3) := by decide +kernel
theorem dX6_ends_17 : decode cX6_ends 17 = .ok (.new 105, 3) := by decide +kernel
theorem dX6_ends_20 : decode cX6_ends 20 = .ok (.dup, 1) := by decide +kernel
theorem dX6_ends_21 : decode cX6_ends 21 = .ok (.ldc 224, 2) := by decide +kernel
theorem dX6_ends_23 : decode cX6_ends 23 = .ok (.invokespecial 109, 3) := by decide +kernel
theorem dX6_ends_26 : decode cX6_ends 26 = .ok (.athrow, 1) := by decide +kernel
theorem dX6_ends_27 : decode cX6_ends 27 = .ok (.iload_n 3, 1) := by decide +kernel
theorem dX6_ends_28 : decode cX6_ends 28 = .ok (.ifCond .ne 32, 3) := by decide +kernel
theorem dX6_ends_31 : decode cX6_ends 31 = .ok (.aload_n 0, 1) := by decide +kernel
theorem dX6_ends_32 : decode cX6_ends 32 = .ok (.getfield 37, 3) := by decide +kernel
theorem dX6_ends_35 : decode cX6_ends 35 = .ok (.aload_n 0, 1) := by decide +kernel
theorem dX6_ends_36 : decode cX6_ends 36 = .ok (.getfield 12, 3) := by decide +kernel
theorem dX6_ends_39 : decode cX6_ends 39 = .ok (.getfield 71, 3) := by decide +kernel
theorem dX6_ends_42 : decode cX6_ends 42 = .ok (.iload_n 1, 1) := by decide +kernel
theorem dX6_ends_43 : decode cX6_ends 43 = .ok (.invokevirtual 74, 3) := by decide +kernel
theorem dX6_ends_46 : decode cX6_ends 46 = .ok (.iload_n 2, 1) := by decide +kernel
theorem dX6_ends_47 : decode cX6_ends 47 = .ok (.aload_n 0, 1) := by decide +kernel
theorem dX6_ends_48 : decode cX6_ends 48 = .ok (.getfield 12, 3) := by decide +kernel
theorem dX6_ends_51 : decode cX6_ends 51 = .ok (.getfield 78, 3) := by decide +kernel
theorem dX6_ends_54 : decode cX6_ends 54 = .ok (.invokevirtual 82, 3) := by decide +kernel
theorem dX6_ends_57 : decode cX6_ends 57 = .ok (.goto 9, 3) := by decide +kernel
theorem dX6_ends_60 : decode cX6_ends 60 = .ok (.aload_n 0, 1) := by decide +kernel
theorem dX6_ends_61 : decode cX6_ends 61 = .ok (.iload_n 1, 1) := by decide +kernel
theorem dX6_ends_62 : decode cX6_ends 62 = .ok (.iload_n 2, 1) := by decide +kernel
theorem dX6_ends_63 : decode cX6_ends 63 = .ok (.invokevirtual 226, 3) := by decide +kernel
theorem dX6_ends_66 : decode cX6_ends 66 = .ok (.aload_n 0, 1) := by decide +kernel
theorem dX6_ends_67 : decode cX6_ends 67 = .ok (.getfield 37, 3) := by decide +kernel
theorem dX6_ends_70 : decode cX6_ends 70 = .ok (.getfield 230, 3) := by decide +kernel
theorem dX6_ends_73 : decode cX6_ends 73 = .ok (.ireturn, 1) := by decide +kernel
theorem dX6_ifPushed_0 : decode cX6_ifPushed 0 = .ok (.iload_n 1, 1) := by decide +kernel
theorem dX6_ifPushed_1 : decode cX6_ifPushed 1 = .ok (.invokestatic 52, 3) := by decide +kernel
theorem dX6_ifPushed_4 : decode cX6_ifPushed 4 = .ok (.iload_n 2, 1) := by decide +kernel
theorem dX6_ifPushed_5 : decode cX6_ifPushed 5 = .ok (.invokestatic 56, 3) := by decide +kernel
theorem dX6_ifPushed_8 : decode cX6_ifPushed 8 = .ok (.aload_n 0, 1) := by decide +kernel
theorem dX6_ifPushed_9 : decode cX6_ifPushed 9 = .ok (.iload_n 1, 1) := by decide +kernel
theorem dX6_ifPushed_10 : decode cX6_ifPushed 10 = .ok (.iload_n 2, 1) := by decide +kernel
theorem dX6_ifPushed_11 : decode cX6_ifPushed 11 = .ok (.invokevirtual 226, 3) := by decide +kernel
theorem dX6_ifPushed_14 : decode cX6_ifPushed 14 = .ok (.aload_n 0, 1) := by decide +kernel
theorem dX6_ifPushed_15 : decode cX6_ifPushed 15 = .ok (.getfield 12, 3) := by decide +kernel
theorem dX6_ifPushed_18 : decode cX6_ifPushed 18 = .ok (.getfield 71, 3) := by decide +kernel
theorem dX6_ifPushed_21 : decode cX6_ifPushed 21 = .ok (.invokevirtual 203, 3) := by decide +kernel
theorem dX6_ifPushed_24 : decode cX6_ifPushed 24 = .ok (.aload_n 0, 1) := by decide +kernel
theorem dX6_ifPushed_25 : decode cX6_ifPushed 25 = .ok (.getfield 12, 3) := by decide +kernel
theorem dX6_ifPushed_28 : decode cX6_ifPushed 28 = .ok (.getfield 71, 3) := by decide +kernel
theorem dX6_ifPushed_31 : decode cX6_ifPushed 31 = .ok (.iload_n 1, 1) := by decide +kernel
theorem dX6_ifPushed_32 : decode cX6_ifPushed 32 = .ok (.invokevirtual 74, 3) := by decide +kernel
theorem dX6_ifPushed_35 : decode cX6_ifPushed 35 = .ok (.invokevirtual 233, 3) := by decide +kernel
theorem dX6_ifPushed_38 : decode cX6_ifPushed 38 = .ok (.isub, 1) := by decide +kernel
theorem dX6_ifPushed_39 : decode cX6_ifPushed 39 = .ok (.istore_n 3, 1) := by decide +kernel
theorem dX6_ifPushed_40 : decode cX6_ifPushed 40 = .ok (.iload_n 3, 1) := by decide +kernel
theorem dX6_ifPushed_41 : decode cX6_ifPushed 41 = .ok (.aload_n 0, 1) := by decide +kernel
theorem dX6_ifPushed_42 : decode cX6_ifPushed 42 = .ok (.getfield 37, 3) := by decide +kernel
theorem dX6_ifPushed_45 : decode cX6_ifPushed 45 = .ok (.getfield 234, 3) := by decide +kernel
theorem dX6_ifPushed_48 : decode cX6_ifPushed 48 = .ok (.invokevirtual 233, 3) := by decide +kernel
theorem dX6_ifPushed_51 : decode cX6_ifPushed 51 = .ok (.iadd, 1) := by decide +kernel
theorem dX6_ifPushed_52 : decode cX6_ifPushed 52 = .ok (.ireturn, 1) := by decide +kernel
theorem dX6_strengthFor_0 : decode cX6_strengthFor 0 = .ok (.iload_n 1, 1) := by decide +kernel
theorem dX6_strengthFor_1 : decode cX6_strengthFor 1 = .ok (.invokestatic 52, 3) := by decide +kernel
theorem dX6_strengthFor_4 : decode cX6_strengthFor 4 = .ok (.iload_n 2, 1) := by decide +kernel
theorem dX6_strengthFor_5 : decode cX6_strengthFor 5 = .ok (.invokestatic 180, 3) := by decide +kernel
theorem dX6_strengthFor_8 : decode cX6_strengthFor 8 = .ok (.aload_n 0, 1) := by decide +kernel
theorem dX6_strengthFor_9 : decode cX6_strengthFor 9 = .ok (.getfield 12, 3) := by decide +kernel
theorem dX6_strengthFor_12 : decode cX6_strengthFor 12 = .ok (.getfield 71, 3) := by decide +kernel
theorem dX6_strengthFor_15 : decode cX6_strengthFor 15 = .ok (.iload_n 1, 1) := by decide +kernel
theorem dX6_strengthFor_16 : decode cX6_strengthFor 16 = .ok (.invokevirtual 74, 3) := by decide +kernel
theorem dX6_strengthFor_19 : decode cX6_strengthFor 19 = .ok (.iload_n 2, 1) := by decide +kernel
theorem dX6_strengthFor_20 : decode cX6_strengthFor 20 = .ok (.invokevirtual 237, 3) := by decide +kernel
theorem dX6_strengthFor_23 : decode cX6_strengthFor 23 = .ok (.istore_n 3, 1) := by decide +kernel
theorem dX6_strengthFor_24 : decode cX6_strengthFor 24 = .ok (.iconst 1, 1) := by decide +kernel
theorem dX6_strengthFor_25 : decode cX6_strengthFor 25 = .ok (.istore 4, 2) := by decide +kernel
theorem dX6_strengthFor_27 : decode cX6_strengthFor 27 = .ok (.iload 4, 2) := by decide +kernel
theorem dX6_strengthFor_29 : decode cX6_strengthFor 29 = .ok (.sipush 150, 3) := by decide +kernel
theorem dX6_strengthFor_32 : decode cX6_strengthFor 32 = .ok (.if_icmp .gt 34, 3) := by decide +kernel
theorem dX6_strengthFor_35 : decode cX6_strengthFor 35 = .ok (.aload_n 0, 1) := by decide +kernel
theorem dX6_strengthFor_36 : decode cX6_strengthFor 36 = .ok (.iload_n 1, 1) := by decide +kernel
theorem dX6_strengthFor_37 : decode cX6_strengthFor 37 = .ok (.iload 4, 2) := by decide +kernel
theorem dX6_strengthFor_39 : decode cX6_strengthFor 39 = .ok (.invokevirtual 226, 3) := by decide +kernel
theorem dX6_strengthFor_42 : decode cX6_strengthFor 42 = .ok (.aload_n 0, 1) := by decide +kernel
theorem dX6_strengthFor_43 : decode cX6_strengthFor 43 = .ok (.getfield 37, 3) := by decide +kernel
theorem dX6_strengthFor_46 : decode cX6_strengthFor 46 = .ok (.getfield 234, 3) := by decide +kernel
theorem dX6_strengthFor_49 : decode cX6_strengthFor 49 = .ok (.iload_n 2, 1) := by decide +kernel
theorem dX6_strengthFor_50 : decode cX6_strengthFor 50 = .ok (.invokevirtual 237, 3) := by decide +kernel
theorem dX6_strengthFor_53 : decode cX6_strengthFor 53 = .ok (.iload_n 3, 1) := by decide +kernel
theorem dX6_strengthFor_54 : decode cX6_strengthFor 54 = .ok (.if_icmp .le 6, 3) := by decide +kernel
theorem dX6_strengthFor_57 : decode cX6_strengthFor 57 = .ok (.iload 4, 2) := by decide +kernel
theorem dX6_strengthFor_59 : decode cX6_strengthFor 59 = .ok (.ireturn, 1) := by decide +kernel
theorem dX6_strengthFor_60 : decode cX6_strengthFor 60 = .ok (.iinc 4 1, 3) := by decide +kernel
theorem dX6_strengthFor_63 : decode cX6_strengthFor 63 = .ok (.goto (-36), 3) := by decide +kernel
theorem dX6_strengthFor_66 : decode cX6_strengthFor 66 = .ok (.iconst (-1), 1) := by decide +kernel
theorem dX6_strengthFor_67 : decode cX6_strengthFor 67 = .ok (.ireturn, 1) := by decide +kernel
theorem dX6_bestPush_0 : decode cX6_bestPush 0 = .ok (.iconst (-1), 1) := by decide +kernel
theorem dX6_bestPush_1 : decode cX6_bestPush 1 = .ok (.istore_n 1, 1) := by decide +kernel
theorem dX6_bestPush_2 : decode cX6_bestPush 2 = .ok (.iconst 0, 1) := by decide +kernel
theorem dX6_bestPush_3 : decode cX6_bestPush 3 = .ok (.istore_n 2, 1) := by decide +kernel
theorem dX6_bestPush_4 : decode cX6_bestPush 4 = .ok (.iconst 0, 1) := by decide +kernel
theorem dX6_bestPush_5 : decode cX6_bestPush 5 = .ok (.istore_n 3, 1) := by decide +kernel
theorem dX6_bestPush_6 : decode cX6_bestPush 6 = .ok (.iload_n 3, 1) := by decide +kernel
theorem dX6_bestPush_7 : decode cX6_bestPush 7 = .ok (.iconst 3, 1) := by decide +kernel
theorem dX6_bestPush_8 : decode cX6_bestPush 8 = .ok (.if_icmp .ge 58, 3) := by decide +kernel
theorem dX6_bestPush_11 : decode cX6_bestPush 11 = .ok (.iconst 1, 1) := by decide +kernel
theorem dX6_bestPush_12 : decode cX6_bestPush 12 = .ok (.istore 4, 2) := by decide +kernel
theorem dX6_bestPush_14 : decode cX6_bestPush 14 = .ok (.iload 4, 2) := by decide +kernel
theorem dX6_bestPush_16 : decode cX6_bestPush 16 = .ok (.sipush 150, 3) := by decide +kernel
theorem dX6_bestPush_19 : decode cX6_bestPush 19 = .ok (.if_icmp .gt 41, 3) := by decide +kernel
theorem dX6_bestPush_22 : decode cX6_bestPush 22 = .ok (.aload_n 0, 1) := by decide +kernel
theorem dX6_bestPush_23 : decode cX6_bestPush 23 = .ok (.iload_n 3, 1) := by decide +kernel
theorem dX6_bestPush_24 : decode cX6_bestPush 24 = .ok (.iload 4, 2) := by decide +kernel
theorem dX6_bestPush_26 : decode cX6_bestPush 26 = .ok (.invokevirtual 238, 3) := by decide +kernel
theorem dX6_bestPush_29 : decode cX6_bestPush 29 = .ok (.istore 5, 2) := by decide +kernel
theorem dX6_bestPush_31 : decode cX6_bestPush 31 = .ok (.iload_n 1, 1) := by decide +kernel
theorem dX6_bestPush_32 : decode cX6_bestPush 32 = .ok (.iconst (-1), 1) := by decide +kernel
theorem dX6_bestPush_33 : decode cX6_bestPush 33 = .ok (.if_icmp .eq 9, 3) := by decide +kernel
theorem dX6_bestPush_36 : decode cX6_bestPush 36 = .ok (.iload 5, 2) := by decide +kernel
theorem dX6_bestPush_38 : decode cX6_bestPush 38 = .ok (.iload_n 2, 1) := by decide +kernel
theorem dX6_bestPush_39 : decode cX6_bestPush 39 = .ok (.if_icmp .le 15, 3) := by decide +kernel
theorem dX6_bestPush_42 : decode cX6_bestPush 42 = .ok (.sipush 1000, 3) := by decide +kernel
theorem dX6_bestPush_45 : decode cX6_bestPush 45 = .ok (.iload_n 3, 1) := by decide +kernel
theorem dX6_bestPush_46 : decode cX6_bestPush 46 = .ok (.imul, 1) := by decide +kernel
theorem dX6_bestPush_47 : decode cX6_bestPush 47 = .ok (.iload 4, 2) := by decide +kernel
theorem dX6_bestPush_49 : decode cX6_bestPush 49 = .ok (.iadd, 1) := by decide +kernel
theorem dX6_bestPush_50 : decode cX6_bestPush 50 = .ok (.istore_n 1, 1) := by decide +kernel
theorem dX6_bestPush_51 : decode cX6_bestPush 51 = .ok (.iload 5, 2) := by decide +kernel
theorem dX6_bestPush_53 : decode cX6_bestPush 53 = .ok (.istore_n 2, 1) := by decide +kernel
theorem dX6_bestPush_54 : decode cX6_bestPush 54 = .ok (.iinc 4 1, 3) := by decide +kernel
theorem dX6_bestPush_57 : decode cX6_bestPush 57 = .ok (.goto (-43), 3) := by decide +kernel
theorem dX6_bestPush_60 : decode cX6_bestPush 60 = .ok (.iinc 3 1, 3) := by decide +kernel
theorem dX6_bestPush_63 : decode cX6_bestPush 63 = .ok (.goto (-57), 3) := by decide +kernel
theorem dX6_bestPush_66 : decode cX6_bestPush 66 = .ok (.iload_n 1, 1) := by decide +kernel
theorem dX6_bestPush_67 : decode cX6_bestPush 67 = .ok (.ireturn, 1) := by decide +kernel
theorem dX6_fullness_0 : decode cX6_fullness 0 = .ok (.aload_n 0, 1) := by decide +kernel
theorem dX6_fullness_1 : decode cX6_fullness 1 = .ok (.getfield 12, 3) := by decide +kernel
theorem dX6_fullness_4 : decode cX6_fullness 4 = .ok (.invokevirtual 99, 3) := by decide +kernel
theorem dX6_fullness_7 : decode cX6_fullness 7 = .ok (.i2d, 1) := by decide +kernel
theorem dX6_fullness_8 : decode cX6_fullness 8 = .ok (.ldc2_w 241, 3) := by decide +kernel
theorem dX6_fullness_11 : decode cX6_fullness 11 = .ok (.ddiv, 1) := by decide +kernel
theorem dX6_fullness_12 : decode cX6_fullness 12 = .ok (.dreturn, 1) := by decide +kernel
theorem dX6_digest_0 : decode cX6_digest 0 = .ok (.ldc2_w 243, 3) := by decide +kernel
theorem dX6_digest_3 : decode cX6_digest 3 = .ok (.lstore_n 1, 1) := by decide +kernel
theorem dX6_digest_4 : decode cX6_digest 4 = .ok (.iconst 0, 1) := by decide +kernel
theorem dX6_digest_5 : decode cX6_digest 5 = .ok (.istore_n 3, 1) := by decide +kernel
theorem dX6_digest_6 : decode cX6_digest 6 = .ok (.iload_n 3, 1) := by decide +kernel
theorem dX6_digest_7 : decode cX6_digest 7 = .ok (.bipush 13, 2) := by decide +kernel
theorem dX6_digest_9 : decode cX6_digest 9 = .ok (.if_icmp .ge 20, 3) := by decide +kernel
theorem dX6_digest_12 : decode cX6_digest 12 = .ok (.lload_n 1, 1) := by decide +kernel
theorem dX6_digest_13 : decode cX6_digest 13 = .ok (.aload_n 0, 1) := by decide +kernel
theorem dX6_digest_14 : decode cX6_digest 14 = .ok (.iload_n 3, 1) := by decide +kernel
theorem dX6_digest_15 : decode cX6_digest 15 = .ok (.invokevirtual 245, 3) := by decide +kernel
theorem dX6_digest_18 : decode cX6_digest 18 = .ok (.i2l, 1) := by decide +kernel
theorem dX6_digest_19 : decode cX6_digest 19 = .ok (.invokestatic 248, 3) := by decide +kernel
theorem dX6_digest_22 : decode cX6_digest 22 = .ok (.lstore_n 1, 1) := by decide +kernel
theorem dX6_digest_23 : decode cX6_digest 23 = .ok (.iinc 3 1, 3) := by decide +kernel
theorem dX6_digest_26 : decode cX6_digest 26 = .ok (.goto (-20), 3) := by decide +kernel
theorem dX6_digest_29 : decode cX6_digest 29 = .ok (.lload_n 1, 1) := by decide +kernel
theorem dX6_digest_30 : decode cX6_digest 30 = .ok (.aload_n 0, 1) := by decide +kernel
theorem dX6_digest_31 : decode cX6_digest 31 = .ok (.invokevirtual 252, 3) := by decide +kernel
theorem dX6_digest_34 : decode cX6_digest 34 = .ok (.i2l, 1) := by decide +kernel
theorem dX6_digest_35 : decode cX6_digest 35 = .ok (.invokestatic 248, 3) := by decide +kernel
theorem dX6_digest_38 : decode cX6_digest 38 = .ok (.lstore_n 1, 1) := by decide +kernel
theorem dX6_digest_39 : decode cX6_digest 39 = .ok (.iconst 0, 1) := by decide +kernel
theorem dX6_digest_40 : decode cX6_digest 40 = .ok (.istore_n 3, 1) := by decide +kernel
theorem dX6_digest_41 : decode cX6_digest 41 = .ok (.iload_n 3, 1) := by decide +kernel
theorem dX6_digest_42 : decode cX6_digest 42 = .ok (.iconst 3, 1) := by decide +kernel
theorem dX6_digest_43 : decode cX6_digest 43 = .ok (.if_icmp .ge 16, 3) := by decide +kernel
theorem dX6_digest_46 : decode cX6_digest 46 = .ok (.aload_n 0, 1) := by decide +kernel
theorem dX6_digest_47 : decode cX6_digest 47 = .ok (.lload_n 1, 1) := by decide +kernel
theorem dX6_digest_48 : decode cX6_digest 48 = .ok (.iload_n 3, 1) := by decide +kernel
theorem dX6_digest_49 : decode cX6_digest 49 = .ok (.invokevirtual 255, 3) := by decide +kernel
theorem dX6_digest_52 : decode cX6_digest 52 = .ok (.lstore_n 1, 1) := by decide +kernel
theorem dX6_digest_53 : decode cX6_digest 53 = .ok (.iinc 3 1, 3) := by decide +kernel
theorem dX6_digest_56 : decode cX6_digest 56 = .ok (.goto (-15), 3) := by decide +kernel
theorem dX6_digest_59 : decode cX6_digest 59 = .ok (.iconst 0, 1) := by decide +kernel
theorem dX6_digest_60 : decode cX6_digest 60 = .ok (.istore_n 3, 1) := by decide +kernel
theorem dX6_digest_61 : decode cX6_digest 61 = .ok (.iload_n 3, 1) := by decide +kernel
theorem dX6_digest_62 : decode cX6_digest 62 = .ok (.bipush 9, 2) := by decide +kernel
theorem dX6_digest_64 : decode cX6_digest 64 = .ok (.if_icmp .ge 16, 3) := by decide +kernel
theorem dX6_digest_67 : decode cX6_digest 67 = .ok (.aload_n 0, 1) := by decide +kernel
theorem dX6_digest_68 : decode cX6_digest 68 = .ok (.lload_n 1, 1) := by decide +kernel
theorem dX6_digest_69 : decode cX6_digest 69 = .ok (.iload_n 3, 1) := by decide +kernel
theorem dX6_digest_70 : decode cX6_digest 70 = .ok (.invokevirtual 259, 3) := by decide +kernel
theorem dX6_digest_73 : decode cX6_digest 73 = .ok (.lstore_n 1, 1) := by decide +kernel
theorem dX6_digest_74 : decode cX6_digest 74 = .ok (.iinc 3 1, 3) := by decide +kernel
theorem dX6_digest_77 : decode cX6_digest 77 = .ok (.goto (-16), 3) := by decide +kernel
theorem dX6_digest_80 : decode cX6_digest 80 = .ok (.lload_n 1, 1) := by decide +kernel
theorem dX6_digest_81 : decode cX6_digest 81 = .ok (.aload_n 0, 1) := by decide +kernel
theorem dX6_digest_82 : decode cX6_digest 82 = .ok (.invokevirtual 262, 3) := by decide +kernel
theorem dX6_digest_85 : decode cX6_digest 85 = .ok (.i2l, 1) := by decide +kernel
theorem dX6_digest_86 : decode cX6_digest 86 = .ok (.invokestatic 248, 3) := by decide +kernel
theorem dX6_digest_89 : decode cX6_digest 89 = .ok (.lstore_n 1, 1) := by decide +kernel
theorem dX6_digest_90 : decode cX6_digest 90 = .ok (.lload_n 1, 1) := by decide +kernel
theorem dX6_digest_91 : decode cX6_digest 91 = .ok (.aload_n 0, 1) := by decide +kernel
theorem dX6_digest_92 : decode cX6_digest 92 = .ok (.invokevirtual 265, 3) := by decide +kernel
theorem dX6_digest_95 : decode cX6_digest 95 = .ok (.invokestatic 269, 3) := by decide +kernel
theorem dX6_digest_98 : decode cX6_digest 98 = .ok (.invokestatic 248, 3) := by decide +kernel
theorem dX6_digest_101 : decode cX6_digest 101 = .ok (.lstore_n 1, 1) := by decide +kernel
theorem dX6_digest_102 : decode cX6_digest 102 = .ok (.iconst 0, 1) := by decide +kernel
theorem dX6_digest_103 : decode cX6_digest 103 = .ok (.istore_n 3, 1) := by decide +kernel
theorem dX6_digest_104 : decode cX6_digest 104 = .ok (.iload_n 3, 1) := by decide +kernel
theorem dX6_digest_105 : decode cX6_digest 105 = .ok (.iconst 2, 1) := by decide +kernel
theorem dX6_digest_106 : decode cX6_digest 106 = .ok (.if_icmp .ge 27, 3) := by decide +kernel
theorem dX6_digest_109 : decode cX6_digest 109 = .ok (.lload_n 1, 1) := by decide +kernel
theorem dX6_digest_110 : decode cX6_digest 110 = .ok (.aload_n 0, 1) := by decide +kernel
theorem dX6_digest_111 : decode cX6_digest 111 = .ok (.iload_n 3, 1) := by decide +kernel
theorem dX6_digest_112 : decode cX6_digest 112 = .ok (.invokevirtual 152, 3) := by decide +kernel
theorem dX6_digest_115 : decode cX6_digest 115 = .ok (.ifnonnull 7, 3) := by decide +kernel
theorem dX6_digest_118 : decode cX6_digest 118 = .ok (.lconst 0, 1) := by decide +kernel
theorem dX6_digest_119 : decode cX6_digest 119 = .ok (.goto 4, 3) := by decide +kernel
theorem dX6_digest_122 : decode cX6_digest 122 = .ok (.lconst 1, 1) := by decide +kernel
theorem dX6_digest_123 : decode cX6_digest 123 = .ok (.invokestatic 248, 3) := by decide +kernel
theorem dX6_digest_126 : decode cX6_digest 126 = .ok (.lstore_n 1, 1) := by decide +kernel
theorem dX6_digest_127 : decode cX6_digest 127 = .ok (.iinc 3 1, 3) := by decide +kernel
theorem dX6_digest_130 : decode cX6_digest 130 = .ok (.goto (-26), 3) := by decide +kernel
theorem dX6_digest_133 : decode cX6_digest 133 = .ok (.aload_n 0, 1) := by decide +kernel
theorem dX6_digest_134 : decode cX6_digest 134 = .ok (.lload_n 1, 1) := by decide +kernel
theorem dX6_digest_135 : decode cX6_digest 135 = .ok (.invokevirtual 273, 3) := by decide +kernel
theorem dX6_digest_138 : decode cX6_digest 138 = .ok (.lreturn, 1) := by decide +kernel
theorem dX6_mix_0 : decode cX6_mix 0 = .ok (.ldc2_w 277, 3) := by decide +kernel
theorem dX6_mix_3 : decode cX6_mix 3 = .ok (.lload_n 0, 1) := by decide +kernel
theorem dX6_mix_4 : decode cX6_mix 4 = .ok (.lmul, 1) := by decide +kernel
theorem dX6_mix_5 : decode cX6_mix 5 = .ok (.lload_n 2, 1) := by decide +kernel
theorem dX6_mix_6 : decode cX6_mix 6 = .ok (.ladd, 1) := by decide +kernel
theorem dX6_mix_7 : decode cX6_mix 7 = .ok (.lreturn, 1) := by decide +kernel
theorem dX6_mixLane_0 : decode cX6_mixLane 0 = .ok (.lload_n 1, 1) := by decide +kernel
theorem dX6_mixLane_1 : decode cX6_mixLane 1 = .ok (.lstore 4, 2) := by decide +kernel
theorem dX6_mixLane_3 : decode cX6_mixLane 3 = .ok (.aload_n 0, 1) := by decide +kernel
theorem dX6_mixLane_4 : decode cX6_mixLane 4 = .ok (.getfield 12, 3) := by decide +kernel
theorem dX6_mixLane_7 : decode cX6_mixLane 7 = .ok (.getfield 71, 3) := by decide +kernel
theorem dX6_mixLane_10 : decode cX6_mixLane 10 = .ok (.iload_n 3, 1) := by decide +kernel
theorem dX6_mixLane_11 : decode cX6_mixLane 11 = .ok (.invokevirtual 74, 3) := by decide +kernel
theorem dX6_mixLane_14 : decode cX6_mixLane 14 = .ok (.astore 6, 2) := by decide +kernel
theorem dX6_mixLane_16 : decode cX6_mixLane 16 = .ok (.iconst 0, 1) := by decide +kernel
theorem dX6_mixLane_17 : decode cX6_mixLane 17 = .ok (.istore 7, 2) := by decide +kernel
theorem dX6_mixLane_19 : decode cX6_mixLane 19 = .ok (.iload 7, 2) := by decide +kernel
theorem dX6_mixLane_21 : decode cX6_mixLane 21 = .ok (.aload 6, 2) := by decide +kernel
theorem dX6_mixLane_23 : decode cX6_mixLane 23 = .ok (.getfield 279, 3) := by decide +kernel
theorem dX6_mixLane_26 : decode cX6_mixLane 26 = .ok (.if_icmp .ge 24, 3) := by decide +kernel
theorem dX6_mixLane_29 : decode cX6_mixLane 29 = .ok (.lload 4, 2) := by decide +kernel
theorem dX6_mixLane_31 : decode cX6_mixLane 31 = .ok (.aload 6, 2) := by decide +kernel
theorem dX6_mixLane_33 : decode cX6_mixLane 33 = .ok (.iload 7, 2) := by decide +kernel
theorem dX6_mixLane_35 : decode cX6_mixLane 35 = .ok (.invokevirtual 174, 3) := by decide +kernel
theorem dX6_mixLane_38 : decode cX6_mixLane 38 = .ok (.i2l, 1) := by decide +kernel
theorem dX6_mixLane_39 : decode cX6_mixLane 39 = .ok (.invokestatic 248, 3) := by decide +kernel
theorem dX6_mixLane_42 : decode cX6_mixLane 42 = .ok (.lstore 4, 2) := by decide +kernel
theorem dX6_mixLane_44 : decode cX6_mixLane 44 = .ok (.iinc 7 1, 3) := by decide +kernel
theorem dX6_mixLane_47 : decode cX6_mixLane 47 = .ok (.goto (-28), 3) := by decide +kernel
theorem dX6_mixLane_50 : decode cX6_mixLane 50 = .ok (.bipush 30, 2) := by decide +kernel
theorem dX6_mixLane_52 : decode cX6_mixLane 52 = .ok (.istore 7, 2) := by decide +kernel
theorem dX6_mixLane_54 : decode cX6_mixLane 54 = .ok (.iload 7, 2) := by decide +kernel
theorem dX6_mixLane_56 : decode cX6_mixLane 56 = .ok (.bipush 120, 2) := by decide +kernel
theorem dX6_mixLane_58 : decode cX6_mixLane 58 = .ok (.if_icmp .gt 41, 3) := by decide +kernel
theorem dX6_mixLane_61 : decode cX6_mixLane 61 = .ok (.lload 4, 2) := by decide +kernel
theorem dX6_mixLane_63 : decode cX6_mixLane 63 = .ok (.aload_n 0, 1) := by decide +kernel
theorem dX6_mixLane_64 : decode cX6_mixLane 64 = .ok (.iload_n 3, 1) := by decide +kernel
theorem dX6_mixLane_65 : decode cX6_mixLane 65 = .ok (.iload 7, 2) := by decide +kernel
theorem dX6_mixLane_67 : decode cX6_mixLane 67 = .ok (.iconst 0, 1) := by decide +kernel
theorem dX6_mixLane_68 : decode cX6_mixLane 68 = .ok (.invokevirtual 280, 3) := by decide +kernel
theorem dX6_mixLane_71 : decode cX6_mixLane 71 = .ok (.i2l, 1) := by decide +kernel
theorem dX6_mixLane_72 : decode cX6_mixLane 72 = .ok (.invokestatic 248, 3) := by decide +kernel
theorem dX6_mixLane_75 : decode cX6_mixLane 75 = .ok (.lstore 4, 2) := by decide +kernel
theorem dX6_mixLane_77 : decode cX6_mixLane 77 = .ok (.lload 4, 2) := by decide +kernel
theorem dX6_mixLane_79 : decode cX6_mixLane 79 = .ok (.aload_n 0, 1) := by decide +kernel
theorem dX6_mixLane_80 : decode cX6_mixLane 80 = .ok (.iload_n 3, 1) := by decide +kernel
theorem dX6_mixLane_81 : decode cX6_mixLane 81 = .ok (.iload 7, 2) := by decide +kernel
theorem dX6_mixLane_83 : decode cX6_mixLane 83 = .ok (.iconst 1, 1) := by decide +kernel
theorem dX6_mixLane_84 : decode cX6_mixLane 84 = .ok (.invokevirtual 280, 3) := by decide +kernel
theorem dX6_mixLane_87 : decode cX6_mixLane 87 = .ok (.i2l, 1) := by decide +kernel
theorem dX6_mixLane_88 : decode cX6_mixLane 88 = .ok (.invokestatic 248, 3) := by decide +kernel
theorem dX6_mixLane_91 : decode cX6_mixLane 91 = .ok (.lstore 4, 2) := by decide +kernel
theorem dX6_mixLane_93 : decode cX6_mixLane 93 = .ok (.iinc 7 45, 3) := by decide +kernel
theorem dX6_mixLane_96 : decode cX6_mixLane 96 = .ok (.goto (-42), 3) := by decide +kernel
theorem dX6_mixLane_99 : decode cX6_mixLane 99 = .ok (.lload 4, 2) := by decide +kernel
theorem dX6_mixLane_101 : decode cX6_mixLane 101 = .ok (.aload_n 0, 1) := by decide +kernel
theorem dX6_mixLane_102 : decode cX6_mixLane 102 = .ok (.iload_n 3, 1) := by decide +kernel
theorem dX6_mixLane_103 : decode cX6_mixLane 103 = .ok (.bipush 50, 2) := by decide +kernel
theorem dX6_mixLane_105 : decode cX6_mixLane 105 = .ok (.invokevirtual 284, 3) := by decide +kernel
theorem dX6_mixLane_108 : decode cX6_mixLane 108 = .ok (.i2l, 1) := by decide +kernel
theorem dX6_mixLane_109 : decode cX6_mixLane 109 = .ok (.invokestatic 248, 3) := by decide +kernel
theorem dX6_mixLane_112 : decode cX6_mixLane 112 = .ok (.lstore 4, 2) := by decide +kernel
theorem dX6_mixLane_114 : decode cX6_mixLane 114 = .ok (.lload 4, 2) := by decide +kernel
theorem dX6_mixLane_116 : decode cX6_mixLane 116 = .ok (.aload_n 0, 1) := by decide +kernel
theorem dX6_mixLane_117 : decode cX6_mixLane 117 = .ok (.iload_n 3, 1) := by decide +kernel
theorem dX6_mixLane_118 : decode cX6_mixLane 118 = .ok (.bipush 100, 2) := by decide +kernel
theorem dX6_mixLane_120 : decode cX6_mixLane 120 = .ok (.invokevirtual 284, 3) := by decide +kernel
theorem dX6_mixLane_123 : decode cX6_mixLane 123 = .ok (.i2l, 1) := by decide +kernel
theorem dX6_mixLane_124 : decode cX6_mixLane 124 = .ok (.invokestatic 248, 3) := by decide +kernel
theorem dX6_mixLane_127 : decode cX6_mixLane 127 = .ok (.lreturn, 1) := by decide +kernel
theorem dX6_mixBed_0 : decode cX6_mixBed 0 = .ok (.lload_n 1, 1) := by decide +kernel
theorem dX6_mixBed_1 : decode cX6_mixBed 1 = .ok (.lstore 4, 2) := by decide +kernel
theorem dX6_mixBed_3 : decode cX6_mixBed 3 = .ok (.iconst 0, 1) := by decide +kernel
theorem dX6_mixBed_4 : decode cX6_mixBed 4 = .ok (.istore 6, 2) := by decide +kernel
theorem dX6_mixBed_6 : decode cX6_mixBed 6 = .ok (.iload 6, 2) := by decide +kernel
theorem dX6_mixBed_8 : decode cX6_mixBed 8 = .ok (.iconst 5, 1) := by decide +kernel
theorem dX6_mixBed_9 : decode cX6_mixBed 9 = .ok (.if_icmp .ge 24, 3) := by decide +kernel
theorem dX6_mixBed_12 : decode cX6_mixBed 12 = .ok (.lload 4, 2) := by decide +kernel
theorem dX6_mixBed_14 : decode cX6_mixBed 14 = .ok (.aload_n 0, 1) := by decide +kernel
theorem dX6_mixBed_15 : decode cX6_mixBed 15 = .ok (.iload_n 3, 1) := by decide +kernel
theorem dX6_mixBed_16 : decode cX6_mixBed 16 = .ok (.iload 6, 2) := by decide +kernel
theorem dX6_mixBed_18 : decode cX6_mixBed 18 = .ok (.invokevirtual 287, 3) := by decide +kernel
theorem dX6_mixBed_21 : decode cX6_mixBed 21 = .ok (.i2l, 1) := by decide +kernel
theorem dX6_mixBed_22 : decode cX6_mixBed 22 = .ok (.invokestatic 248, 3) := by decide +kernel
theorem dX6_mixBed_25 : decode cX6_mixBed 25 = .ok (.lstore 4, 2) := by decide +kernel
theorem dX6_mixBed_27 : decode cX6_mixBed 27 = .ok (.iinc 6 1, 3) := by decide +kernel
theorem dX6_mixBed_30 : decode cX6_mixBed 30 = .ok (.goto (-24), 3) := by decide +kernel
theorem dX6_mixBed_33 : decode cX6_mixBed 33 = .ok (.iconst 0, 1) := by decide +kernel
theorem dX6_mixBed_34 : decode cX6_mixBed 34 = .ok (.istore 6, 2) := by decide +kernel
theorem dX6_mixBed_36 : decode cX6_mixBed 36 = .ok (.iload 6, 2) := by decide +kernel
theorem dX6_mixBed_38 : decode cX6_mixBed 38 = .ok (.iconst 3, 1) := by decide +kernel
theorem dX6_mixBed_39 : decode cX6_mixBed 39 = .ok (.if_icmp .ge 24, 3) := by decide +kernel
theorem dX6_mixBed_42 : decode cX6_mixBed 42 = .ok (.lload 4, 2) := by decide +kernel
theorem dX6_mixBed_44 : decode cX6_mixBed 44 = .ok (.aload_n 0, 1) := by decide +kernel
theorem dX6_mixBed_45 : decode cX6_mixBed 45 = .ok (.iload 6, 2) := by decide +kernel
theorem dX6_mixBed_47 : decode cX6_mixBed 47 = .ok (.iload_n 3, 1) := by decide +kernel
theorem dX6_mixBed_48 : decode cX6_mixBed 48 = .ok (.invokevirtual 290, 3) := by decide +kernel
theorem dX6_mixBed_51 : decode cX6_mixBed 51 = .ok (.i2l, 1) := by decide +kernel
theorem dX6_mixBed_52 : decode cX6_mixBed 52 = .ok (.invokestatic 248, 3) := by decide +kernel
theorem dX6_mixBed_55 : decode cX6_mixBed 55 = .ok (.lstore 4, 2) := by decide +kernel
theorem dX6_mixBed_57 : decode cX6_mixBed 57 = .ok (.iinc 6 1, 3) := by decide +kernel
theorem dX6_mixBed_60 : decode cX6_mixBed 60 = .ok (.goto (-24), 3) := by decide +kernel
theorem dX6_mixBed_63 : decode cX6_mixBed 63 = .ok (.lload 4, 2) := by decide +kernel
theorem dX6_mixBed_65 : decode cX6_mixBed 65 = .ok (.lreturn, 1) := by decide +kernel
theorem dX6_mixText_0 : decode cX6_mixText 0 = .ok (.lload_n 1, 1) := by decide +kernel
theorem dX6_mixText_1 : decode cX6_mixText 1 = .ok (.aload_n 0, 1) := by decide +kernel
theorem dX6_mixText_2 : decode cX6_mixText 2 = .ok (.getfield 30, 3) := by decide +kernel
theorem dX6_mixText_5 : decode cX6_mixText 5 = .ok (.getfield 124, 3) := by decide +kernel
theorem dX6_mixText_8 : decode cX6_mixText 8 = .ok (.i2l, 1) := by decide +kernel
theorem dX6_mixText_9 : decode cX6_mixText 9 = .ok (.invokestatic 248, 3) := by decide +kernel
theorem dX6_mixText_12 : decode cX6_mixText 12 = .ok (.lstore_n 3, 1) := by decide +kernel
theorem dX6_mixText_13 : decode cX6_mixText 13 = .ok (.iconst 0, 1) := by decide +kernel
theorem dX6_mixText_14 : decode cX6_mixText 14 = .ok (.istore 5, 2) := by decide +kernel
theorem dX6_mixText_16 : decode cX6_mixText 16 = .ok (.iload 5, 2) := by decide +kernel
theorem dX6_mixText_18 : decode cX6_mixText 18 = .ok (.aload_n 0, 1) := by decide +kernel
theorem dX6_mixText_19 : decode cX6_mixText 19 = .ok (.getfield 30, 3) := by decide +kernel
theorem dX6_mixText_22 : decode cX6_mixText 22 = .ok (.getfield 124, 3) := by decide +kernel
theorem dX6_mixText_25 : decode cX6_mixText 25 = .ok (.if_icmp .ge 24, 3) := by decide +kernel
theorem dX6_mixText_28 : decode cX6_mixText 28 = .ok (.lload_n 3, 1) := by decide +kernel
theorem dX6_mixText_29 : decode cX6_mixText 29 = .ok (.aload_n 0, 1) := by decide +kernel
theorem dX6_mixText_30 : decode cX6_mixText 30 = .ok (.getfield 30, 3) := by decide +kernel
theorem dX6_mixText_33 : decode cX6_mixText 33 = .ok (.iload 5, 2) := by decide +kernel
theorem dX6_mixText_35 : decode cX6_mixText 35 = .ok (.invokevirtual 293, 3) := by decide +kernel
theorem dX6_mixText_38 : decode cX6_mixText 38 = .ok (.i2l, 1) := by decide +kernel
theorem dX6_mixText_39 : decode cX6_mixText 39 = .ok (.invokestatic 248, 3) := by decide +kernel
theorem dX6_mixText_42 : decode cX6_mixText 42 = .ok (.lstore_n 3, 1) := by decide +kernel
theorem dX6_mixText_43 : decode cX6_mixText 43 = .ok (.iinc 5 1, 3) := by decide +kernel
theorem dX6_mixText_46 : decode cX6_mixText 46 = .ok (.goto (-30), 3) := by decide +kernel
theorem dX6_mixText_49 : decode cX6_mixText 49 = .ok (.lload_n 3, 1) := by decide +kernel
theorem dX6_mixText_50 : decode cX6_mixText 50 = .ok (.lreturn, 1) := by decide +kernel
theorem dX6_bitsOfShare_0 : decode cX6_bitsOfShare 0 = .ok (.dload_n 0, 1) := by decide +kernel
theorem dX6_bitsOfShare_1 : decode cX6_bitsOfShare 1 = .ok (.dconst 0, 1) := by decide +kernel
theorem dX6_bitsOfShare_2 : decode cX6_bitsOfShare 2 = .ok (.dcmp .g, 1) := by decide +kernel
theorem dX6_bitsOfShare_3 : decode cX6_bitsOfShare 3 = .ok (.ifCond .gt 5, 3) := by decide +kernel
theorem dX6_bitsOfShare_6 : decode cX6_bitsOfShare 6 = .ok (.lconst 0, 1) := by decide +kernel
theorem dX6_bitsOfShare_7 : decode cX6_bitsOfShare 7 = .ok (.lreturn, 1) := by decide +kernel
theorem dX6_bitsOfShare_8 : decode cX6_bitsOfShare 8 = .ok (.dload_n 0, 1) := by decide +kernel
theorem dX6_bitsOfShare_9 : decode cX6_bitsOfShare 9 = .ok (.dstore_n 2, 1) := by decide +kernel
theorem dX6_bitsOfShare_10 : decode cX6_bitsOfShare 10 = .ok (.ldc2_w 296, 3) := by decide +kernel
theorem dX6_bitsOfShare_13 : decode cX6_bitsOfShare 13 = .ok (.lstore 4, 2) := by decide +kernel
theorem dX6_bitsOfShare_15 : decode cX6_bitsOfShare 15 = .ok (.iconst 0, 1) := by decide +kernel
theorem dX6_bitsOfShare_16 : decode cX6_bitsOfShare 16 = .ok (.istore 6, 2) := by decide +kernel
theorem dX6_bitsOfShare_18 : decode cX6_bitsOfShare 18 = .ok (.iload 6, 2) := by decide +kernel
theorem dX6_bitsOfShare_20 : decode cX6_bitsOfShare 20 = .ok (.i2l, 1) := by decide +kernel
theorem dX6_bitsOfShare_21 : decode cX6_bitsOfShare 21 = .ok (.ldc2_w 296, 3) := by decide +kernel
theorem dX6_bitsOfShare_24 : decode cX6_bitsOfShare 24 = .ok (.lcmp, 1) := by decide +kernel
theorem dX6_bitsOfShare_25 : decode cX6_bitsOfShare 25 = .ok (.ifCond .ge 27, 3) := by decide +kernel
theorem dX6_bitsOfShare_28 : decode cX6_bitsOfShare 28 = .ok (.dload_n 2, 1) := by decide +kernel
theorem dX6_bitsOfShare_29 : decode cX6_bitsOfShare 29 = .ok (.dconst 1, 1) := by decide +kernel
theorem dX6_bitsOfShare_30 : decode cX6_bitsOfShare 30 = .ok (.dcmp .g, 1) := by decide +kernel
theorem dX6_bitsOfShare_31 : decode cX6_bitsOfShare 31 = .ok (.ifCond .ge 21, 3) := by decide +kernel
theorem dX6_bitsOfShare_34 : decode cX6_bitsOfShare 34 = .ok (.dload_n 2, 1) := by decide +kernel
theorem dX6_bitsOfShare_35 : decode cX6_bitsOfShare 35 = .ok (.ldc2_w 298, 3) := by decide +kernel
theorem dX6_bitsOfShare_38 : decode cX6_bitsOfShare 38 = .ok (.dmul, 1) := by decide +kernel
theorem dX6_bitsOfShare_39 : decode cX6_bitsOfShare 39 = .ok (.dstore_n 2, 1) := by decide +kernel
theorem dX6_bitsOfShare_40 : decode cX6_bitsOfShare 40 = .ok (.lload 4, 2) := by decide +kernel
theorem dX6_bitsOfShare_42 : decode cX6_bitsOfShare 42 = .ok (.lconst 1, 1) := by decide +kernel
theorem dX6_bitsOfShare_43 : decode cX6_bitsOfShare 43 = .ok (.lsub, 1) := by decide +kernel
theorem dX6_bitsOfShare_44 : decode cX6_bitsOfShare 44 = .ok (.lstore 4, 2) := by decide +kernel
theorem dX6_bitsOfShare_46 : decode cX6_bitsOfShare 46 = .ok (.iinc 6 1, 3) := by decide +kernel
theorem dX6_bitsOfShare_49 : decode cX6_bitsOfShare 49 = .ok (.goto (-31), 3) := by decide +kernel
theorem dX6_bitsOfShare_52 : decode cX6_bitsOfShare 52 = .ok (.lload 4, 2) := by decide +kernel
theorem dX6_bitsOfShare_54 : decode cX6_bitsOfShare 54 = .ok (.bipush 52, 2) := by decide +kernel
theorem dX6_bitsOfShare_56 : decode cX6_bitsOfShare 56 = .ok (.lshl, 1) := by decide +kernel
theorem dX6_bitsOfShare_57 : decode cX6_bitsOfShare 57 = .ok (.dload_n 2, 1) := by decide +kernel
theorem dX6_bitsOfShare_58 : decode cX6_bitsOfShare 58 = .ok (.dconst 1, 1) := by decide +kernel
theorem dX6_bitsOfShare_59 : decode cX6_bitsOfShare 59 = .ok (.dsub, 1) := by decide +kernel
theorem dX6_bitsOfShare_60 : decode cX6_bitsOfShare 60 = .ok (.ldc2_w 300, 3) := by decide +kernel
theorem dX6_bitsOfShare_63 : decode cX6_bitsOfShare 63 = .ok (.dmul, 1) := by decide +kernel
theorem dX6_bitsOfShare_64 : decode cX6_bitsOfShare 64 = .ok (.d2l, 1) := by decide +kernel
theorem dX6_bitsOfShare_65 : decode cX6_bitsOfShare 65 = .ok (.ladd, 1) := by decide +kernel
theorem dX6_bitsOfShare_66 : decode cX6_bitsOfShare 66 = .ok (.lreturn, 1) := by decide +kernel
theorem dX6_tryPush_0 : decode cX6_tryPush 0 = .ok (.aload_n 0, 1) := by decide +kernel
theorem dX6_tryPush_1 : decode cX6_tryPush 1 = .ok (.getfield 37, 3) := by decide +kernel
theorem dX6_tryPush_4 : decode cX6_tryPush 4 = .ok (.aload_n 0, 1) := by decide +kernel
theorem dX6_tryPush_5 : decode cX6_tryPush 5 = .ok (.getfield 12, 3) := by decide +kernel
theorem dX6_tryPush_8 : decode cX6_tryPush 8 = .ok (.getfield 71, 3) := by decide +kernel
theorem dX6_tryPush_11 : decode cX6_tryPush 11 = .ok (.iload_n 1, 1) := by decide +kernel
theorem dX6_tryPush_12 : decode cX6_tryPush 12 = .ok (.invokevirtual 74, 3) := by decide +kernel
theorem dX6_tryPush_15 : decode cX6_tryPush 15 = .ok (.iload_n 2, 1) := by decide +kernel
theorem dX6_tryPush_16 : decode cX6_tryPush 16 = .ok (.aload_n 0, 1) := by decide +kernel
theorem dX6_tryPush_17 : decode cX6_tryPush 17 = .ok (.getfield 12, 3) := by decide +kernel
theorem dX6_tryPush_20 : decode cX6_tryPush 20 = .ok (.getfield 78, 3) := by decide +kernel
theorem dX6_tryPush_23 : decode cX6_tryPush 23 = .ok (.invokevirtual 302, 3) := by decide +kernel
theorem dX6_tryPush_26 : decode cX6_tryPush 26 = .ok (.return_, 1) := by decide +kernel
theorem dX6_leadBehind_0 : decode cX6_leadBehind 0 = .ok (.aload_n 0, 1) := by decide +kernel
theorem dX6_leadBehind_1 : decode cX6_leadBehind 1 = .ok (.iload_n 1, 1) := by decide +kernel
theorem dX6_leadBehind_2 : decode cX6_leadBehind 2 = .ok (.iload_n 2, 1) := by decide +kernel
theorem dX6_leadBehind_3 : decode cX6_leadBehind 3 = .ok (.invokevirtual 226, 3) := by decide +kernel
theorem dX6_leadBehind_6 : decode cX6_leadBehind 6 = .ok (.iconst 0, 1) := by decide +kernel
theorem dX6_leadBehind_7 : decode cX6_leadBehind 7 = .ok (.istore_n 3, 1) := by decide +kernel
theorem dX6_leadBehind_8 : decode cX6_leadBehind 8 = .ok (.iload_n 3, 1) := by decide +kernel
theorem dX6_leadBehind_9 : decode cX6_leadBehind 9 = .ok (.bipush 9, 2) := by decide +kernel
theorem dX6_leadBehind_11 : decode cX6_leadBehind 11 = .ok (.if_icmp .ge 25, 3) := by decide +kernel
theorem dX6_leadBehind_14 : decode cX6_leadBehind 14 = .ok (.iload_n 3, 1) := by decide +kernel
theorem dX6_leadBehind_15 : decode cX6_leadBehind 15 = .ok (.aload_n 0, 1) := by decide +kernel
theorem dX6_leadBehind_16 : decode cX6_leadBehind 16 = .ok (.getfield 48, 3) := by decide +kernel
theorem dX6_leadBehind_19 : decode cX6_leadBehind 19 = .ok (.arraylength, 1) := by decide +kernel
theorem dX6_leadBehind_20 : decode cX6_leadBehind 20 = .ok (.if_icmp .ge 16, 3) := by decide +kernel
theorem dX6_leadBehind_23 : decode cX6_leadBehind 23 = .ok (.aload_n 0, 1) := by decide +kernel
theorem dX6_leadBehind_24 : decode cX6_leadBehind 24 = .ok (.getfield 48, 3) := by decide +kernel
theorem dX6_leadBehind_27 : decode cX6_leadBehind 27 = .ok (.iload_n 3, 1) := by decide +kernel
theorem dX6_leadBehind_28 : decode cX6_leadBehind 28 = .ok (.iconst 0, 1) := by decide +kernel
theorem dX6_leadBehind_29 : decode cX6_leadBehind 29 = .ok (.iastore, 1) := by decide +kernel
theorem dX6_leadBehind_30 : decode cX6_leadBehind 30 = .ok (.iinc 3 1, 3) := by decide +kernel
theorem dX6_leadBehind_33 : decode cX6_leadBehind 33 = .ok (.goto (-25), 3) := by decide +kernel
theorem dX6_leadBehind_36 : decode cX6_leadBehind 36 = .ok (.iconst 0, 1) := by decide +kernel
theorem dX6_leadBehind_37 : decode cX6_leadBehind 37 = .ok (.istore_n 3, 1) := by decide +kernel
theorem dX6_leadBehind_38 : decode cX6_leadBehind 38 = .ok (.iload_n 3, 1) := by decide +kernel
theorem dX6_leadBehind_39 : decode cX6_leadBehind 39 = .ok (.iconst 3, 1) := by decide +kernel
theorem dX6_leadBehind_40 : decode cX6_leadBehind 40 = .ok (.if_icmp .ge 46, 3) := by decide +kernel
theorem dX6_leadBehind_43 : decode cX6_leadBehind 43 = .ok (.iload_n 3, 1) := by decide +kernel
theorem dX6_leadBehind_44 : decode cX6_leadBehind 44 = .ok (.iload_n 1, 1) := by decide +kernel
theorem dX6_leadBehind_45 : decode cX6_leadBehind 45 = .ok (.if_icmp .ne 13, 3) := by decide +kernel
theorem dX6_leadBehind_48 : decode cX6_leadBehind 48 = .ok (.aload_n 0, 1) := by decide +kernel
theorem dX6_leadBehind_49 : decode cX6_leadBehind 49 = .ok (.getfield 37, 3) := by decide +kernel
theorem dX6_leadBehind_52 : decode cX6_leadBehind 52 = .ok (.getfield 234, 3) := by decide +kernel
theorem dX6_leadBehind_55 : decode cX6_leadBehind 55 = .ok (.goto 14, 3) := by decide +kernel
theorem dX6_leadBehind_58 : decode cX6_leadBehind 58 = .ok (.aload_n 0, 1) := by decide +kernel
theorem dX6_leadBehind_59 : decode cX6_leadBehind 59 = .ok (.getfield 12, 3) := by decide +kernel
theorem dX6_leadBehind_62 : decode cX6_leadBehind 62 = .ok (.getfield 71, 3) := by decide +kernel
theorem dX6_leadBehind_65 : decode cX6_leadBehind 65 = .ok (.iload_n 3, 1) := by decide +kernel
theorem dX6_leadBehind_66 : decode cX6_leadBehind 66 = .ok (.invokevirtual 74, 3) := by decide +kernel
theorem dX6_leadBehind_69 : decode cX6_leadBehind 69 = .ok (.astore 4, 2) := by decide +kernel
theorem dX6_leadBehind_71 : decode cX6_leadBehind 71 = .ok (.aload 4, 2) := by decide +kernel
theorem dX6_leadBehind_73 : decode cX6_leadBehind 73 = .ok (.aload_n 0, 1) := by decide +kernel
theorem dX6_leadBehind_74 : decode cX6_leadBehind 74 = .ok (.getfield 48, 3) := by decide +kernel
theorem dX6_leadBehind_77 : decode cX6_leadBehind 77 = .ok (.invokevirtual 305, 3) := by decide +kernel
theorem dX6_leadBehind_80 : decode cX6_leadBehind 80 = .ok (.iinc 3 1, 3) := by decide +kernel
theorem dX6_leadBehind_83 : decode cX6_leadBehind 83 = .ok (.goto (-45), 3) := by decide +kernel
theorem dX6_leadBehind_86 : decode cX6_leadBehind 86 = .ok (.aload_n 0, 1) := by decide +kernel
theorem dX6_leadBehind_87 : decode cX6_leadBehind 87 = .ok (.getfield 12, 3) := by decide +kernel
theorem dX6_leadBehind_90 : decode cX6_leadBehind 90 = .ok (.aload_n 0, 1) := by decide +kernel
theorem dX6_leadBehind_91 : decode cX6_leadBehind 91 = .ok (.getfield 48, 3) := by decide +kernel
theorem dX6_leadBehind_94 : decode cX6_leadBehind 94 = .ok (.invokevirtual 309, 3) := by decide +kernel
theorem dX6_leadBehind_97 : decode cX6_leadBehind 97 = .ok (.ireturn, 1) := by decide +kernel
theorem dX6_snapshotIn_0 : decode cX6_snapshotIn 0 = .ok (.iload_n 1, 1) := by decide +kernel
theorem dX6_snapshotIn_1 : decode cX6_snapshotIn 1 = .ok (.ifCond .lt 21, 3) := by decide +kernel
theorem dX6_snapshotIn_4 : decode cX6_snapshotIn 4 = .ok (.iload_n 1, 1) := by decide +kernel
theorem dX6_snapshotIn_5 : decode cX6_snapshotIn 5 = .ok (.aload_n 0, 1) := by decide +kernel
theorem dX6_snapshotIn_6 : decode cX6_snapshotIn 6 = .ok (.getfield 16, 3) := by decide +kernel
theorem dX6_snapshotIn_9 : decode cX6_snapshotIn 9 = .ok (.arraylength, 1) := by decide +kernel
theorem dX6_snapshotIn_10 : decode cX6_snapshotIn 10 = .ok (.if_icmp .ge 12, 3) := by decide +kernel
theorem dX6_snapshotIn_13 : decode cX6_snapshotIn 13 = .ok (.aload_n 0, 1) := by decide +kernel
theorem dX6_snapshotIn_14 : decode cX6_snapshotIn 14 = .ok (.getfield 16, 3) := by decide +kernel
theorem dX6_snapshotIn_17 : decode cX6_snapshotIn 17 = .ok (.iload_n 1, 1) := by decide +kernel
theorem dX6_snapshotIn_18 : decode cX6_snapshotIn 18 = .ok (.aaload, 1) := by decide +kernel
theorem dX6_snapshotIn_19 : decode cX6_snapshotIn 19 = .ok (.goto 4, 3) := by decide +kernel
theorem dX6_snapshotIn_22 : decode cX6_snapshotIn 22 = .ok (.aconst_null, 1) := by decide +kernel
theorem dX6_snapshotIn_23 : decode cX6_snapshotIn 23 = .ok (.areturn, 1) := by decide +kernel
theorem dX6_putInSlot_0 : decode cX6_putInSlot 0 = .ok (.iload_n 1, 1) := by decide +kernel
theorem dX6_putInSlot_1 : decode cX6_putInSlot 1 = .ok (.ifCond .lt 19, 3) := by decide +kernel
theorem dX6_putInSlot_4 : decode cX6_putInSlot 4 = .ok (.iload_n 1, 1) := by decide +kernel
theorem dX6_putInSlot_5 : decode cX6_putInSlot 5 = .ok (.aload_n 0, 1) := by decide +kernel
theorem dX6_putInSlot_6 : decode cX6_putInSlot 6 = .ok (.getfield 16, 3) := by decide +kernel
theorem dX6_putInSlot_9 : decode cX6_putInSlot 9 = .ok (.arraylength, 1) := by decide +kernel
theorem dX6_putInSlot_10 : decode cX6_putInSlot 10 = .ok (.if_icmp .ge 10, 3) := by decide +kernel
theorem dX6_putInSlot_13 : decode cX6_putInSlot 13 = .ok (.aload_n 0, 1) := by decide +kernel
theorem dX6_putInSlot_14 : decode cX6_putInSlot 14 = .ok (.getfield 16, 3) := by decide +kernel
theorem dX6_putInSlot_17 : decode cX6_putInSlot 17 = .ok (.iload_n 1, 1) := by decide +kernel
theorem dX6_putInSlot_18 : decode cX6_putInSlot 18 = .ok (.aload_n 2, 1) := by decide +kernel
theorem dX6_putInSlot_19 : decode cX6_putInSlot 19 = .ok (.aastore, 1) := by decide +kernel
theorem dX6_putInSlot_20 : decode cX6_putInSlot 20 = .ok (.return_, 1) := by decide +kernel
theorem dX6_requireLane_0 : decode cX6_requireLane 0 = .ok (.iload_n 0, 1) := by decide +kernel
theorem dX6_requireLane_1 : decode cX6_requireLane 1 = .ok (.ifCond .lt 8, 3) := by decide +kernel
theorem dX6_requireLane_4 : decode cX6_requireLane 4 = .ok (.iload_n 0, 1) := by decide +kernel
theorem dX6_requireLane_5 : decode cX6_requireLane 5 = .ok (.iconst 3, 1) := by decide +kernel
theorem dX6_requireLane_6 : decode cX6_requireLane 6 = .ok (.if_icmp .lt 14, 3) := by decide +kernel
theorem dX6_requireLane_9 : decode cX6_requireLane 9 = .ok (.new 313, 3) := by decide +kernel
theorem dX6_requireLane_12 : decode cX6_requireLane 12 = .ok (.dup, 1) := by decide +kernel
theorem dX6_requireLane_13 : decode cX6_requireLane 13 = .ok (.ldc_w 315, 3) := by decide +kernel
theorem dX6_requireLane_16 : decode cX6_requireLane 16 = .ok (.invokespecial 317, 3) := by decide +kernel
theorem dX6_requireLane_19 : decode cX6_requireLane 19 = .ok (.athrow, 1) := by decide +kernel
theorem dX6_requireLane_20 : decode cX6_requireLane 20 = .ok (.return_, 1) := by decide +kernel
theorem dX6_requireBed_0 : decode cX6_requireBed 0 = .ok (.iload_n 0, 1) := by decide +kernel
theorem dX6_requireBed_1 : decode cX6_requireBed 1 = .ok (.ifCond .lt 9, 3) := by decide +kernel
theorem dX6_requireBed_4 : decode cX6_requireBed 4 = .ok (.iload_n 0, 1) := by decide +kernel
theorem dX6_requireBed_5 : decode cX6_requireBed 5 = .ok (.bipush 9, 2) := by decide +kernel
theorem dX6_requireBed_7 : decode cX6_requireBed 7 = .ok (.if_icmp .lt 14, 3) := by decide +kernel
theorem dX6_requireBed_10 : decode cX6_requireBed 10 = .ok (.new 313, 3) := by decide +kernel
theorem dX6_requireBed_13 : decode cX6_requireBed 13 = .ok (.dup, 1) := by decide +kernel
theorem dX6_requireBed_14 : decode cX6_requireBed 14 = .ok (.ldc_w 318, 3) := by decide +kernel
theorem dX6_requireBed_17 : decode cX6_requireBed 17 = .ok (.invokespecial 317, 3) := by decide +kernel
theorem dX6_requireBed_20 : decode cX6_requireBed 20 = .ok (.athrow, 1) := by decide +kernel
theorem dX6_requireBed_21 : decode cX6_requireBed 21 = .ok (.return_, 1) := by decide +kernel
theorem dX6_requireStrength_0 : decode cX6_requireStrength 0 = .ok (.iload_n 0, 1) := by decide +kernel
theorem dX6_requireStrength_1 : decode cX6_requireStrength 1 = .ok (.iconst 1, 1) := by decide +kernel
theorem dX6_requireStrength_2 : decode cX6_requireStrength 2 = .ok (.if_icmp .lt 10, 3) := by decide +kernel
theorem dX6_requireStrength_5 : decode cX6_requireStrength 5 = .ok (.iload_n 0, 1) := by decide +kernel
theorem dX6_requireStrength_6 : decode cX6_requireStrength 6 = .ok (.sipush 150, 3) := by decide +kernel
theorem dX6_requireStrength_9 : decode cX6_requireStrength 9 = .ok (.if_icmp .le 14, 3) := by decide +kernel
theorem dX6_requireStrength_12 : decode cX6_requireStrength 12 = .ok (.new 105, 3) := by decide +kernel
theorem dX6_requireStrength_15 : decode cX6_requireStrength 15 = .ok (.dup, 1) := by decide +kernel
theorem dX6_requireStrength_16 : decode cX6_requireStrength 16 = .ok (.ldc_w 320, 3) := by decide +kernel
theorem dX6_requireStrength_19 : decode cX6_requireStrength 19 = .ok (.invokespecial 109, 3) := by decide +kernel
theorem dX6_requireStrength_22 : decode cX6_requireStrength 22 = .ok (.athrow, 1) := by decide +kernel
theorem dX6_requireStrength_23 : decode cX6_requireStrength 23 = .ok (.return_, 1) := by decide +kernel
theorem dX6_requireSlot_0 : decode cX6_requireSlot 0 = .ok (.iload_n 0, 1) := by decide +kernel
theorem dX6_requireSlot_1 : decode cX6_requireSlot 1 = .ok (.ifCond .lt 8, 3) := by decide +kernel
theorem dX6_requireSlot_4 : decode cX6_requireSlot 4 = .ok (.iload_n 0, 1) := by decide +kernel
theorem dX6_requireSlot_5 : decode cX6_requireSlot 5 = .ok (.iconst 2, 1) := by decide +kernel
theorem dX6_requireSlot_6 : decode cX6_requireSlot 6 = .ok (.if_icmp .lt 14, 3) := by decide +kernel
theorem dX6_requireSlot_9 : decode cX6_requireSlot 9 = .ok (.new 105, 3) := by decide +kernel
theorem dX6_requireSlot_12 : decode cX6_requireSlot 12 = .ok (.dup, 1) := by decide +kernel
theorem dX6_requireSlot_13 : decode cX6_requireSlot 13 = .ok (.ldc_w 322, 3) := by decide +kernel
theorem dX6_requireSlot_16 : decode cX6_requireSlot 16 = .ok (.invokespecial 109, 3) := by decide +kernel
theorem dX6_requireSlot_19 : decode cX6_requireSlot 19 = .ok (.athrow, 1) := by decide +kernel
theorem dX6_requireSlot_20 : decode cX6_requireSlot 20 = .ok (.return_, 1) := by decide +kernel
theorem dX6_bedAt_0 : decode cX6_bedAt 0 = .ok (.iload_n 0, 1) := by decide +kernel
theorem dX6_bedAt_1 : decode cX6_bedAt 1 = .ok (.bipush 8, 2) := by decide +kernel
theorem dX6_bedAt_3 : decode cX6_bedAt 3 = .ok (.isub, 1) := by decide +kernel
theorem dX6_bedAt_4 : decode cX6_bedAt 4 = .ok (.istore_n 1, 1) := by decide +kernel
theorem dX6_bedAt_5 : decode cX6_bedAt 5 = .ok (.iload_n 1, 1) := by decide +kernel
theorem dX6_bedAt_6 : decode cX6_bedAt 6 = .ok (.ifCond .lt 11, 3) := by decide +kernel
theorem dX6_bedAt_9 : decode cX6_bedAt 9 = .ok (.iload_n 1, 1) := by decide +kernel
theorem dX6_bedAt_10 : decode cX6_bedAt 10 = .ok (.bipush 10, 2) := by decide +kernel
theorem dX6_bedAt_12 : decode cX6_bedAt 12 = .ok (.irem, 1) := by decide +kernel
theorem dX6_bedAt_13 : decode cX6_bedAt 13 = .ok (.iconst 4, 1) := by decide +kernel
theorem dX6_bedAt_14 : decode cX6_bedAt 14 = .ok (.if_icmp .le 5, 3) := by decide +kernel
theorem dX6_bedAt_17 : decode cX6_bedAt 17 = .ok (.iconst (-1), 1) := by decide +kernel
theorem dX6_bedAt_18 : decode cX6_bedAt 18 = .ok (.ireturn, 1) := by decide +kernel
theorem dX6_bedAt_19 : decode cX6_bedAt 19 = .ok (.iload_n 1, 1) := by decide +kernel
theorem dX6_bedAt_20 : decode cX6_bedAt 20 = .ok (.bipush 10, 2) := by decide +kernel
theorem dX6_bedAt_22 : decode cX6_bedAt 22 = .ok (.idiv, 1) := by decide +kernel
theorem dX6_bedAt_23 : decode cX6_bedAt 23 = .ok (.istore_n 2, 1) := by decide +kernel
theorem dX6_bedAt_24 : decode cX6_bedAt 24 = .ok (.iload_n 2, 1) := by decide +kernel
theorem dX6_bedAt_25 : decode cX6_bedAt 25 = .ok (.bipush 9, 2) := by decide +kernel
theorem dX6_bedAt_27 : decode cX6_bedAt 27 = .ok (.if_icmp .ge 7, 3) := by decide +kernel
theorem dX6_bedAt_30 : decode cX6_bedAt 30 = .ok (.iload_n 2, 1) := by decide +kernel
theorem dX6_bedAt_31 : decode cX6_bedAt 31 = .ok (.goto 4, 3) := by decide +kernel
theorem dX6_bedAt_34 : decode cX6_bedAt 34 = .ok (.iconst (-1), 1) := by decide +kernel
theorem dX6_bedAt_35 : decode cX6_bedAt 35 = .ok (.ireturn, 1) := by decide +kernel
theorem dX7_init_0 : decode cX7_init 0 = .ok (.aload_n 0, 1) := by decide +kernel
theorem dX7_init_1 : decode cX7_init 1 = .ok (.invokespecial 1, 3) := by decide +kernel
theorem dX7_init_4 : decode cX7_init 4 = .ok (.aload_n 0, 1) := by decide +kernel
theorem dX7_init_5 : decode cX7_init 5 = .ok (.sipush 900, 3) := by decide +kernel
theorem dX7_init_8 : decode cX7_init 8 = .ok (.newarray .int, 2) := by decide +kernel
theorem dX7_init_10 : decode cX7_init 10 = .ok (.putfield 7, 3) := by decide +kernel
theorem dX7_init_13 : decode cX7_init 13 = .ok (.aload_n 0, 1) := by decide +kernel
theorem dX7_init_14 : decode cX7_init 14 = .ok (.iconst 2, 1) := by decide +kernel
theorem dX7_init_15 : decode cX7_init 15 = .ok (.newarray .boolean, 2) := by decide +kernel
theorem dX7_init_17 : decode cX7_init 17 = .ok (.putfield 13, 3) := by decide +kernel
theorem dX7_init_20 : decode cX7_init 20 = .ok (.aload_n 0, 1) := by decide +kernel
theorem dX7_init_21 : decode cX7_init 21 = .ok (.bipush 60, 2) := by decide +kernel
theorem dX7_init_23 : decode cX7_init 23 = .ok (.newarray .char, 2) := by decide +kernel
theorem dX7_init_25 : decode cX7_init 25 = .ok (.putfield 17, 3) := by decide +kernel
theorem dX7_init_28 : decode cX7_init 28 = .ok (.aload_n 0, 1) := by decide +kernel
theorem dX7_init_29 : decode cX7_init 29 = .ok (.getfield 7, 3) := by decide +kernel
theorem dX7_init_32 : decode cX7_init 32 = .ok (.iconst 0, 1) := by decide +kernel
theorem dX7_init_33 : decode cX7_init 33 = .ok (.iconst 2, 1) := by decide +kernel
theorem dX7_init_34 : decode cX7_init 34 = .ok (.iastore, 1) := by decide +kernel
theorem dX7_init_35 : decode cX7_init 35 = .ok (.return_, 1) := by decide +kernel
theorem dX7_thrown_0 : decode cX7_thrown 0 = .ok (.aload_n 0, 1) := by decide +kernel
theorem dX7_thrown_1 : decode cX7_thrown 1 = .ok (.getfield 21, 3) := by decide +kernel
theorem dX7_thrown_4 : decode cX7_thrown 4 = .ok (.ireturn, 1) := by decide +kernel
theorem dX7_in_0 : decode cX7_in 0 = .ok (.iload_n 0, 1) := by decide +kernel
theorem dX7_in_1 : decode cX7_in 1 = .ok (.iload_n 1, 1) := by decide +kernel
theorem dX7_in_2 : decode cX7_in 2 = .ok (.if_icmp .lt 12, 3) := by decide +kernel
theorem dX7_in_5 : decode cX7_in 5 = .ok (.iload_n 0, 1) := by decide +kernel
theorem dX7_in_6 : decode cX7_in 6 = .ok (.iload_n 2, 1) := by decide +kernel
theorem dX7_in_7 : decode cX7_in 7 = .ok (.if_icmp .gt 7, 3) := by decide +kernel
theorem dX7_in_10 : decode cX7_in 10 = .ok (.iconst 1, 1) := by decide +kernel
theorem dX7_in_11 : decode cX7_in 11 = .ok (.goto 4, 3) := by decide +kernel
theorem dX7_in_14 : decode cX7_in 14 = .ok (.iconst 0, 1) := by decide +kernel
theorem dX7_in_15 : decode cX7_in 15 = .ok (.ireturn, 1) := by decide +kernel
theorem dX7_goes_0 : decode cX7_goes 0 = .ok (.aload_n 0, 1) := by decide +kernel
theorem dX7_goes_1 : decode cX7_goes 1 = .ok (.iload_n 1, 1) := by decide +kernel
theorem dX7_goes_2 : decode cX7_goes 2 = .ok (.ifCond .ne 7, 3) := by decide +kernel
theorem dX7_goes_5 : decode cX7_goes 5 = .ok (.iconst 1, 1) := by decide +kernel
theorem dX7_goes_6 : decode cX7_goes 6 = .ok (.goto 12, 3) := by decide +kernel
theorem dX7_goes_9 : decode cX7_goes 9 = .ok (.iload_n 2, 1) := by decide +kernel
theorem dX7_goes_10 : decode cX7_goes 10 = .ok (.ifCond .ne 7, 3) := by decide +kernel
theorem dX7_goes_13 : decode cX7_goes 13 = .ok (.iconst 2, 1) := by decide +kernel
theorem dX7_goes_14 : decode cX7_goes 14 = .ok (.goto 4, 3) := by decide +kernel
theorem dX7_goes_17 : decode cX7_goes 17 = .ok (.iconst 0, 1) := by decide +kernel
theorem dX7_goes_18 : decode cX7_goes 18 = .ok (.putfield 21, 3) := by decide +kernel
theorem dX7_goes_21 : decode cX7_goes 21 = .ok (.aload_n 0, 1) := by decide +kernel
theorem dX7_goes_22 : decode cX7_goes 22 = .ok (.getfield 21, 3) := by decide +kernel
theorem dX7_goes_25 : decode cX7_goes 25 = .ok (.ifCond .ne 7, 3) := by decide +kernel
theorem dX7_goes_28 : decode cX7_goes 28 = .ok (.iconst 1, 1) := by decide +kernel
theorem dX7_goes_29 : decode cX7_goes 29 = .ok (.goto 4, 3) := by decide +kernel
theorem dX7_goes_32 : decode cX7_goes 32 = .ok (.iconst 0, 1) := by decide +kernel
theorem dX7_goes_33 : decode cX7_goes 33 = .ok (.ireturn, 1) := by decide +kernel
theorem dX7_copies_0 : decode cX7_copies 0 = .ok (.iconst 0, 1) := by decide +kernel
theorem dX7_copies_1 : decode cX7_copies 1 = .ok (.istore_n 3, 1) := by decide +kernel
theorem dX7_copies_2 : decode cX7_copies 2 = .ok (.iload_n 3, 1) := by decide +kernel
theorem dX7_copies_3 : decode cX7_copies 3 = .ok (.bipush 90, 2) := by decide +kernel
theorem dX7_copies_5 : decode cX7_copies 5 = .ok (.if_icmp .ge 31, 3) := by decide +kernel
theorem dX7_copies_8 : decode cX7_copies 8 = .ok (.aload_n 0, 1) := by decide +kernel
theorem dX7_copies_9 : decode cX7_copies 9 = .ok (.getfield 7, 3) := by decide +kernel
theorem dX7_copies_12 : decode cX7_copies 12 = .ok (.bipush 90, 2) := by decide +kernel
theorem dX7_copies_14 : decode cX7_copies 14 = .ok (.iload_n 2, 1) := by decide +kernel
theorem dX7_copies_15 : decode cX7_copies 15 = .ok (.imul, 1) := by decide +kernel
theorem dX7_copies_16 : decode cX7_copies 16 = .ok (.iload_n 3, 1) := by decide +kernel
theorem dX7_copies_17 : decode cX7_copies 17 = .ok (.iadd, 1) := by decide +kernel
theorem dX7_copies_18 : decode cX7_copies 18 = .ok (.aload_n 0, 1) := by decide +kernel
theorem dX7_copies_19 : decode cX7_copies 19 = .ok (.getfield 7, 3) := by decide +kernel
theorem dX7_copies_22 : decode cX7_copies 22 = .ok (.bipush 90, 2) := by decide +kernel
theorem dX7_copies_24 : decode cX7_copies 24 = .ok (.iload_n 1, 1) := by decide +kernel
theorem dX7_copies_25 : decode cX7_copies 25 = .ok (.imul, 1) := by decide +kernel
theorem dX7_copies_26 : decode cX7_copies 26 = .ok (.iload_n 3, 1) := by decide +kernel
theorem dX7_copies_27 : decode cX7_copies 27 = .ok (.iadd, 1) := by decide +kernel
theorem dX7_copies_28 : decode cX7_copies 28 = .ok (.iaload, 1) := by decide +kernel
theorem dX7_copies_29 : decode cX7_copies 29 = .ok (.iastore, 1) := by decide +kernel
theorem dX7_copies_30 : decode cX7_copies 30 = .ok (.iinc 3 1, 3) := by decide +kernel
theorem dX7_copies_33 : decode cX7_copies 33 = .ok (.goto (-31), 3) := by decide +kernel
theorem dX7_copies_36 : decode cX7_copies 36 = .ok (.return_, 1) := by decide +kernel
theorem dX7_saves_0 : decode cX7_saves 0 = .ok (.aload_n 0, 1) := by decide +kernel
theorem dX7_saves_1 : decode cX7_saves 1 = .ok (.getfield 25, 3) := by decide +kernel
theorem dX7_saves_4 : decode cX7_saves 4 = .ok (.bipush 6, 2) := by decide +kernel
theorem dX7_saves_6 : decode cX7_saves 6 = .ok (.if_icmp .ne 35, 3) := by decide +kernel
theorem dX7_saves_9 : decode cX7_saves 9 = .ok (.iconst 1, 1) := by decide +kernel
theorem dX7_saves_10 : decode cX7_saves 10 = .ok (.istore_n 1, 1) := by decide +kernel
theorem dX7_saves_11 : decode cX7_saves 11 = .ok (.iload_n 1, 1) := by decide +kernel
theorem dX7_saves_12 : decode cX7_saves 12 = .ok (.bipush 6, 2) := by decide +kernel
theorem dX7_saves_14 : decode cX7_saves 14 = .ok (.if_icmp .ge 17, 3) := by decide +kernel
theorem dX7_saves_17 : decode cX7_saves 17 = .ok (.aload_n 0, 1) := by decide +kernel
theorem dX7_saves_18 : decode cX7_saves 18 = .ok (.iload_n 1, 1) := by decide +kernel
theorem dX7_saves_19 : decode cX7_saves 19 = .ok (.iconst 1, 1) := by decide +kernel
theorem dX7_saves_20 : decode cX7_saves 20 = .ok (.iadd, 1) := by decide +kernel
theorem dX7_saves_21 : decode cX7_saves 21 = .ok (.iload_n 1, 1) := by decide +kernel
theorem dX7_saves_22 : decode cX7_saves 22 = .ok (.invokevirtual 28, 3) := by decide +kernel
theorem dX7_saves_25 : decode cX7_saves 25 = .ok (.iinc 1 1, 3) := by decide +kernel
theorem dX7_saves_28 : decode cX7_saves 28 = .ok (.goto (-17), 3) := by decide +kernel
theorem dX7_saves_31 : decode cX7_saves 31 = .ok (.aload_n 0, 1) := by decide +kernel
theorem dX7_saves_32 : decode cX7_saves 32 = .ok (.dup, 1) := by decide +kernel
theorem dX7_saves_33 : decode cX7_saves 33 = .ok (.getfield 25, 3) := by decide +kernel
theorem dX7_saves_36 : decode cX7_saves 36 = .ok (.iconst 1, 1) := by decide +kernel
theorem dX7_saves_37 : decode cX7_saves 37 = .ok (.isub, 1) := by decide +kernel
theorem dX7_saves_38 : decode cX7_saves 38 = .ok (.putfield 25, 3) := by decide +kernel
theorem dX7_saves_41 : decode cX7_saves 41 = .ok (.aload_n 0, 1) := by decide +kernel
theorem dX7_saves_42 : decode cX7_saves 42 = .ok (.dup, 1) := by decide +kernel
theorem dX7_saves_43 : decode cX7_saves 43 = .ok (.getfield 25, 3) := by decide +kernel
theorem dX7_saves_46 : decode cX7_saves 46 = .ok (.iconst 1, 1) := by decide +kernel
theorem dX7_saves_47 : decode cX7_saves 47 = .ok (.iadd, 1) := by decide +kernel
theorem dX7_saves_48 : decode cX7_saves 48 = .ok (.putfield 25, 3) := by decide +kernel
theorem dX7_saves_51 : decode cX7_saves 51 = .ok (.aload_n 0, 1) := by decide +kernel
theorem dX7_saves_52 : decode cX7_saves 52 = .ok (.iconst 0, 1) := by decide +kernel
theorem dX7_saves_53 : decode cX7_saves 53 = .ok (.aload_n 0, 1) := by decide +kernel
theorem dX7_saves_54 : decode cX7_saves 54 = .ok (.getfield 25, 3) := by decide +kernel
theorem dX7_saves_57 : decode cX7_saves 57 = .ok (.invokevirtual 28, 3) := by decide +kernel
theorem dX7_saves_60 : decode cX7_saves 60 = .ok (.return_, 1) := by decide +kernel
theorem dX7_isLane_0 : decode cX7_isLane 0 = .ok (.iload_n 0, 1) := by decide +kernel
theorem dX7_isLane_1 : decode cX7_isLane 1 = .ok (.iconst 0, 1) := by decide +kernel
theorem dX7_isLane_2 : decode cX7_isLane 2 = .ok (.iconst 2, 1) := by decide +kernel
theorem dX7_isLane_3 : decode cX7_isLane 3 = .ok (.invokestatic 32, 3) := by decide +kernel
theorem dX7_isLane_6 : decode cX7_isLane 6 = .ok (.ireturn, 1) := by decide +kernel
theorem dX7_isStrength_0 : decode cX7_isStrength 0 = .ok (.iload_n 0, 1) := by decide +kernel
theorem dX7_isStrength_1 : decode cX7_isStrength 1 = .ok (.iconst 1, 1) := by decide +kernel
theorem dX7_isStrength_2 : decode cX7_isStrength 2 = .ok (.sipush 150, 3) := by decide +kernel
theorem dX7_isStrength_5 : decode cX7_isStrength 5 = .ok (.invokestatic 32, 3) := by decide +kernel
theorem dX7_isStrength_8 : decode cX7_isStrength 8 = .ok (.ireturn, 1) := by decide +kernel
theorem dX7_laneAt_0 : decode cX7_laneAt 0 = .ok (.iload_n 0, 1) := by decide +kernel
theorem dX7_laneAt_1 : decode cX7_laneAt 1 = .ok (.bipush 27, 2) := by decide +kernel
theorem dX7_laneAt_3 : decode cX7_laneAt 3 = .ok (.iadd, 1) := by decide +kernel
theorem dX7_laneAt_4 : decode cX7_laneAt 4 = .ok (.bipush 21, 2) := by decide +kernel
theorem dX7_laneAt_6 : decode cX7_laneAt 6 = .ok (.iload_n 1, 1) := by decide +kernel
theorem dX7_laneAt_7 : decode cX7_laneAt 7 = .ok (.imul, 1) := by decide +kernel
theorem dX7_laneAt_8 : decode cX7_laneAt 8 = .ok (.iadd, 1) := by decide +kernel
theorem dX7_laneAt_9 : decode cX7_laneAt 9 = .ok (.ireturn, 1) := by decide +kernel
theorem dX7_coinAt_0 : decode cX7_coinAt 0 = .ok (.iload_n 1, 1) := by decide +kernel
theorem dX7_coinAt_1 : decode cX7_coinAt 1 = .ok (.iload_n 2, 1) := by decide +kernel
theorem dX7_coinAt_2 : decode cX7_coinAt 2 = .ok (.invokestatic 36, 3) := by decide +kernel
theorem dX7_coinAt_5 : decode cX7_coinAt 5 = .ok (.istore 4, 2) := by decide +kernel
theorem dX7_coinAt_7 : decode cX7_coinAt 7 = .ok (.iload_n 3, 1) := by decide +kernel
theorem dX7_coinAt_8 : decode cX7_coinAt 8 = .ok (.aload_n 0, 1) := by decide +kernel
theorem dX7_coinAt_9 : decode cX7_coinAt 9 = .ok (.getfield 7, 3) := by decide +kernel
theorem dX7_coinAt_12 : decode cX7_coinAt 12 = .ok (.iload 4, 2) := by decide +kernel
theorem dX7_coinAt_14 : decode cX7_coinAt 14 = .ok (.iaload, 1) := by decide +kernel
theorem dX7_coinAt_15 : decode cX7_coinAt 15 = .ok (.if_icmp .ge 17, 3) := by decide +kernel
theorem dX7_coinAt_18 : decode cX7_coinAt 18 = .ok (.aload_n 0, 1) := by decide +kernel
theorem dX7_coinAt_19 : decode cX7_coinAt 19 = .ok (.getfield 7, 3) := by decide +kernel
theorem dX7_coinAt_22 : decode cX7_coinAt 22 = .ok (.iload 4, 2) := by decide +kernel
theorem dX7_coinAt_24 : decode cX7_coinAt 24 = .ok (.iconst 1, 1) := by decide +kernel
theorem dX7_coinAt_25 : decode cX7_coinAt 25 = .ok (.iadd, 1) := by decide +kernel
theorem dX7_coinAt_26 : decode cX7_coinAt 26 = .ok (.iload_n 3, 1) := by decide +kernel
theorem dX7_coinAt_27 : decode cX7_coinAt 27 = .ok (.iadd, 1) := by decide +kernel
theorem dX7_coinAt_28 : decode cX7_coinAt 28 = .ok (.iaload, 1) := by decide +kernel
theorem dX7_coinAt_29 : decode cX7_coinAt 29 = .ok (.goto 6, 3) := by decide +kernel
theorem dX7_coinAt_32 : decode cX7_coinAt 32 = .ok (.sipush 1000, 3) := by decide +kernel
theorem dX7_coinAt_35 : decode cX7_coinAt 35 = .ok (.ireturn, 1) := by decide +kernel
theorem dX7_inserts_0 : decode cX7_inserts 0 = .ok (.iload_n 1, 1) := by decide +kernel
theorem dX7_inserts_1 : decode cX7_inserts 1 = .ok (.iload_n 2, 1) := by decide +kernel
theorem dX7_inserts_2 : decode cX7_inserts 2 = .ok (.invokestatic 36, 3) := by decide +kernel
theorem dX7_inserts_5 : decode cX7_inserts 5 = .ok (.istore 4, 2) := by decide +kernel
theorem dX7_inserts_7 : decode cX7_inserts 7 = .ok (.aload_n 0, 1) := by decide +kernel
theorem dX7_inserts_8 : decode cX7_inserts 8 = .ok (.getfield 7, 3) := by decide +kernel
theorem dX7_inserts_11 : decode cX7_inserts 11 = .ok (.iload 4, 2) := by decide +kernel
theorem dX7_inserts_13 : decode cX7_inserts 13 = .ok (.iaload, 1) := by decide +kernel
theorem dX7_inserts_14 : decode cX7_inserts 14 = .ok (.istore 5, 2) := by decide +kernel
theorem dX7_inserts_16 : decode cX7_inserts 16 = .ok (.iload 5, 2) := by decide +kernel
theorem dX7_inserts_18 : decode cX7_inserts 18 = .ok (.ifCond .le 31, 3) := by decide +kernel
theorem dX7_inserts_21 : decode cX7_inserts 21 = .ok (.aload_n 0, 1) := by decide +kernel
theorem dX7_inserts_22 : decode cX7_inserts 22 = .ok (.getfield 7, 3) := by decide +kernel
theorem dX7_inserts_25 : decode cX7_inserts 25 = .ok (.iload 4, 2) := by decide +kernel
theorem dX7_inserts_27 : decode cX7_inserts 27 = .ok (.iconst 1, 1) := by decide +kernel
theorem dX7_inserts_28 : decode cX7_inserts 28 = .ok (.iadd, 1) := by decide +kernel
theorem dX7_inserts_29 : decode cX7_inserts 29 = .ok (.iload 5, 2) := by decide +kernel
theorem dX7_inserts_31 : decode cX7_inserts 31 = .ok (.iadd, 1) := by decide +kernel
theorem dX7_inserts_32 : decode cX7_inserts 32 = .ok (.aload_n 0, 1) := by decide +kernel
theorem dX7_inserts_33 : decode cX7_inserts 33 = .ok (.getfield 7, 3) := by decide +kernel
theorem dX7_inserts_36 : decode cX7_inserts 36 = .ok (.iload 4, 2) := by decide +kernel
theorem dX7_inserts_38 : decode cX7_inserts 38 = .ok (.iload 5, 2) := by decide +kernel
theorem dX7_inserts_40 : decode cX7_inserts 40 = .ok (.iadd, 1) := by decide +kernel
theorem dX7_inserts_41 : decode cX7_inserts 41 = .ok (.iaload, 1) := by decide +kernel
theorem dX7_inserts_42 : decode cX7_inserts 42 = .ok (.iastore, 1) := by decide +kernel
theorem dX7_inserts_43 : decode cX7_inserts 43 = .ok (.iinc 5 (-1), 3) := by decide +kernel
theorem dX7_inserts_46 : decode cX7_inserts 46 = .ok (.goto (-30), 3) := by decide +kernel
theorem dX7_inserts_49 : decode cX7_inserts 49 = .ok (.aload_n 0, 1) := by decide +kernel
theorem dX7_inserts_50 : decode cX7_inserts 50 = .ok (.getfield 7, 3) := by decide +kernel
theorem dX7_inserts_53 : decode cX7_inserts 53 = .ok (.iload 4, 2) := by decide +kernel
theorem dX7_inserts_55 : decode cX7_inserts 55 = .ok (.iconst 1, 1) := by decide +kernel
theorem dX7_inserts_56 : decode cX7_inserts 56 = .ok (.iadd, 1) := by decide +kernel
theorem dX7_inserts_57 : decode cX7_inserts 57 = .ok (.iload_n 3, 1) := by decide +kernel
theorem dX7_inserts_58 : decode cX7_inserts 58 = .ok (.iastore, 1) := by decide +kernel
theorem dX7_inserts_59 : decode cX7_inserts 59 = .ok (.aload_n 0, 1) := by decide +kernel
theorem dX7_inserts_60 : decode cX7_inserts 60 = .ok (.getfield 7, 3) := by decide +kernel
theorem dX7_inserts_63 : decode cX7_inserts 63 = .ok (.iload 4, 2) := by decide +kernel
theorem dX7_inserts_65 : decode cX7_inserts 65 = .ok (.dup2, 1) := by decide +kernel
theorem dX7_inserts_66 : decode cX7_inserts 66 = .ok (.iaload, 1) := by decide +kernel
theorem dX7_inserts_67 : decode cX7_inserts 67 = .ok (.iconst 1, 1) := by decide +kernel
theorem dX7_inserts_68 : decode cX7_inserts 68 = .ok (.iadd, 1) := by decide +kernel
theorem dX7_inserts_69 : decode cX7_inserts 69 = .ok (.iastore, 1) := by decide +kernel
theorem dX7_inserts_70 : decode cX7_inserts 70 = .ok (.return_, 1) := by decide +kernel
theorem dX7_rests_0 : decode cX7_rests 0 = .ok (.iload_n 1, 1) := by decide +kernel
theorem dX7_rests_1 : decode cX7_rests 1 = .ok (.iload_n 2, 1) := by decide +kernel
theorem dX7_rests_2 : decode cX7_rests 2 = .ok (.invokestatic 36, 3) := by decide +kernel
theorem dX7_rests_5 : decode cX7_rests 5 = .ok (.istore 5, 2) := by decide +kernel
theorem dX7_rests_7 : decode cX7_rests 7 = .ok (.iload_n 3, 1) := by decide +kernel
theorem dX7_rests_8 : decode cX7_rests 8 = .ok (.iconst (-1), 1) := by decide +kernel
theorem dX7_rests_9 : decode cX7_rests 9 = .ok (.if_icmp .eq 41, 3) := by decide +kernel
theorem dX7_rests_12 : decode cX7_rests 12 = .ok (.aload_n 0, 1) := by decide +kernel
theorem dX7_rests_13 : decode cX7_rests 13 = .ok (.getfield 7, 3) := by decide +kernel
theorem dX7_rests_16 : decode cX7_rests 16 = .ok (.iload 5, 2) := by decide +kernel
theorem dX7_rests_18 : decode cX7_rests 18 = .ok (.iconst 1, 1) := by decide +kernel
theorem dX7_rests_19 : decode cX7_rests 19 = .ok (.iadd, 1) := by decide +kernel
theorem dX7_rests_20 : decode cX7_rests 20 = .ok (.iload_n 3, 1) := by decide +kernel
theorem dX7_rests_21 : decode cX7_rests 21 = .ok (.iadd, 1) := by decide +kernel
theorem dX7_rests_22 : decode cX7_rests 22 = .ok (.iload 4, 2) := by decide +kernel
theorem dX7_rests_24 : decode cX7_rests 24 = .ok (.iastore, 1) := by decide +kernel
theorem dX7_rests_25 : decode cX7_rests 25 = .ok (.aload_n 0, 1) := by decide +kernel
theorem dX7_rests_26 : decode cX7_rests 26 = .ok (.getfield 7, 3) := by decide +kernel
theorem dX7_rests_29 : decode cX7_rests 29 = .ok (.iload 5, 2) := by decide +kernel
theorem dX7_rests_31 : decode cX7_rests 31 = .ok (.dup2, 1) := by decide +kernel
theorem dX7_rests_32 : decode cX7_rests 32 = .ok (.iaload, 1) := by decide +kernel
theorem dX7_rests_33 : decode cX7_rests 33 = .ok (.iload 4, 2) := by decide +kernel
theorem dX7_rests_35 : decode cX7_rests 35 = .ok (.bipush 100, 2) := by decide +kernel
theorem dX7_rests_37 : decode cX7_rests 37 = .ok (.if_icmp .ne 7, 3) := by decide +kernel
theorem dX7_rests_40 : decode cX7_rests 40 = .ok (.iconst 1, 1) := by decide +kernel
theorem dX7_rests_41 : decode cX7_rests 41 = .ok (.goto 4, 3) := by decide +kernel
theorem dX7_rests_44 : decode cX7_rests 44 = .ok (.iconst 0, 1) := by decide +kernel
theorem dX7_rests_45 : decode cX7_rests 45 = .ok (.isub, 1) := by decide +kernel
theorem dX7_rests_46 : decode cX7_rests 46 = .ok (.iastore, 1) := by decide +kernel
theorem dX7_rests_47 : decode cX7_rests 47 = .ok (.goto 22, 3) := by decide +kernel
theorem dX7_rests_50 : decode cX7_rests 50 = .ok (.iload 4, 2) := by decide +kernel
theorem dX7_rests_52 : decode cX7_rests 52 = .ok (.iconst 0, 1) := by decide +kernel
theorem dX7_rests_53 : decode cX7_rests 53 = .ok (.bipush 99, 2) := by decide +kernel
theorem dX7_rests_55 : decode cX7_rests 55 = .ok (.invokestatic 32, 3) := by decide +kernel
theorem dX7_rests_58 : decode cX7_rests 58 = .ok (.ifCond .eq 11, 3) := by decide +kernel
theorem dX7_rests_61 : decode cX7_rests 61 = .ok (.aload_n 0, 1) := by decide +kernel
theorem dX7_rests_62 : decode cX7_rests 62 = .ok (.iload_n 1, 1) := by decide +kernel
theorem dX7_rests_63 : decode cX7_rests 63 = .ok (.iload_n 2, 1) := by decide +kernel
theorem dX7_rests_64 : decode cX7_rests 64 = .ok (.iload 4, 2) := by decide +kernel
theorem dX7_rests_66 : decode cX7_rests 66 = .ok (.invokevirtual 40, 3) := by decide +kernel
theorem dX7_rests_69 : decode cX7_rests 69 = .ok (.aload_n 0, 1) := by decide +kernel
theorem dX7_rests_70 : decode cX7_rests 70 = .ok (.getfield 7, 3) := by decide +kernel
theorem dX7_rests_73 : decode cX7_rests 73 = .ok (.iload_n 1, 1) := by decide +kernel
theorem dX7_rests_74 : decode cX7_rests 74 = .ok (.iconst 5, 1) := by decide +kernel
theorem dX7_rests_75 : decode cX7_rests 75 = .ok (.iadd, 1) := by decide +kernel
theorem dX7_rests_76 : decode cX7_rests 76 = .ok (.dup2, 1) := by decide +kernel
theorem dX7_rests_77 : decode cX7_rests 77 = .ok (.iaload, 1) := by decide +kernel
theorem dX7_rests_78 : decode cX7_rests 78 = .ok (.iload 4, 2) := by decide +kernel
theorem dX7_rests_80 : decode cX7_rests 80 = .ok (.bipush 100, 2) := by decide +kernel
theorem dX7_rests_82 : decode cX7_rests 82 = .ok (.if_icmp .ne 7, 3) := by decide +kernel
theorem dX7_rests_85 : decode cX7_rests 85 = .ok (.iconst 1, 1) := by decide +kernel
theorem dX7_rests_86 : decode cX7_rests 86 = .ok (.goto 4, 3) := by decide +kernel
theorem dX7_rests_89 : decode cX7_rests 89 = .ok (.iconst 0, 1) := by decide +kernel
theorem dX7_rests_90 : decode cX7_rests 90 = .ok (.iadd, 1) := by decide +kernel
theorem dX7_rests_91 : decode cX7_rests 91 = .ok (.iastore, 1) := by decide +kernel
theorem dX7_rests_92 : decode cX7_rests 92 = .ok (.aload_n 0, 1) := by decide +kernel
theorem dX7_rests_93 : decode cX7_rests 93 = .ok (.getfield 7, 3) := by decide +kernel
theorem dX7_rests_96 : decode cX7_rests 96 = .ok (.iload_n 1, 1) := by decide +kernel
theorem dX7_rests_97 : decode cX7_rests 97 = .ok (.bipush 6, 2) := by decide +kernel
theorem dX7_rests_99 : decode cX7_rests 99 = .ok (.iadd, 1) := by decide +kernel
theorem dX7_rests_100 : decode cX7_rests 100 = .ok (.dup2, 1) := by decide +kernel
theorem dX7_rests_101 : decode cX7_rests 101 = .ok (.iaload, 1) := by decide +kernel
theorem dX7_rests_102 : decode cX7_rests 102 = .ok (.iload 4, 2) := by decide +kernel
theorem dX7_rests_104 : decode cX7_rests 104 = .ok (.ifCond .ge 7, 3) := by decide +kernel
theorem dX7_rests_107 : decode cX7_rests 107 = .ok (.iconst 1, 1) := by decide +kernel
theorem dX7_rests_108 : decode cX7_rests 108 = .ok (.goto 4, 3) := by decide +kernel
theorem dX7_rests_111 : decode cX7_rests 111 = .ok (.iconst 0, 1) := by decide +kernel
theorem dX7_rests_112 : decode cX7_rests 112 = .ok (.iadd, 1) := by decide +kernel
theorem dX7_rests_113 : decode cX7_rests 113 = .ok (.iastore, 1) := by decide +kernel
theorem dX7_rests_114 : decode cX7_rests 114 = .ok (.return_, 1) := by decide +kernel
theorem dX7_pushes_0 : decode cX7_pushes 0 = .ok (.iconst (-1), 1) := by decide +kernel
theorem dX7_pushes_1 : decode cX7_pushes 1 = .ok (.istore 4, 2) := by decide +kernel
theorem dX7_pushes_3 : decode cX7_pushes 3 = .ok (.iconst 0, 1) := by decide +kernel
theorem dX7_pushes_4 : decode cX7_pushes 4 = .ok (.istore 5, 2) := by decide +kernel
theorem dX7_pushes_6 : decode cX7_pushes 6 = .ok (.bipush (-5), 2) := by decide +kernel
theorem dX7_pushes_8 : decode cX7_pushes 8 = .ok (.istore 6, 2) := by decide +kernel
theorem dX7_pushes_10 : decode cX7_pushes 10 = .ok (.iload_n 3, 1) := by decide +kernel
theorem dX7_pushes_11 : decode cX7_pushes 11 = .ok (.istore 7, 2) := by decide +kernel
theorem dX7_pushes_13 : decode cX7_pushes 13 = .ok (.iconst 0, 1) := by decide +kernel
theorem dX7_pushes_14 : decode cX7_pushes 14 = .ok (.istore 8, 2) := by decide +kernel
theorem dX7_pushes_16 : decode cX7_pushes 16 = .ok (.iconst 1, 1) := by decide +kernel
theorem dX7_pushes_17 : decode cX7_pushes 17 = .ok (.istore 9, 2) := by decide +kernel
theorem dX7_pushes_19 : decode cX7_pushes 19 = .ok (.iload 9, 2) := by decide +kernel
theorem dX7_pushes_21 : decode cX7_pushes 21 = .ok (.ifCond .eq 184, 3) := by decide +kernel
theorem dX7_pushes_24 : decode cX7_pushes 24 = .ok (.aload_n 0, 1) := by decide +kernel
theorem dX7_pushes_25 : decode cX7_pushes 25 = .ok (.iload_n 1, 1) := by decide +kernel
theorem dX7_pushes_26 : decode cX7_pushes 26 = .ok (.iload_n 2, 1) := by decide +kernel
theorem dX7_pushes_27 : decode cX7_pushes 27 = .ok (.iload 4, 2) := by decide +kernel
theorem dX7_pushes_29 : decode cX7_pushes 29 = .ok (.iconst 1, 1) := by decide +kernel
theorem dX7_pushes_30 : decode cX7_pushes 30 = .ok (.iadd, 1) := by decide +kernel
theorem dX7_pushes_31 : decode cX7_pushes 31 = .ok (.invokevirtual 44, 3) := by decide +kernel
theorem dX7_pushes_34 : decode cX7_pushes 34 = .ok (.istore 10, 2) := by decide +kernel
theorem dX7_pushes_36 : decode cX7_pushes 36 = .ok (.iload 10, 2) := by decide +kernel
theorem dX7_pushes_38 : decode cX7_pushes 38 = .ok (.iconst 5, 1) := by decide +kernel
theorem dX7_pushes_39 : decode cX7_pushes 39 = .ok (.isub, 1) := by decide +kernel
theorem dX7_pushes_40 : decode cX7_pushes 40 = .ok (.iload 6, 2) := by decide +kernel
theorem dX7_pushes_42 : decode cX7_pushes 42 = .ok (.isub, 1) := by decide +kernel
theorem dX7_pushes_43 : decode cX7_pushes 43 = .ok (.istore 11, 2) := by decide +kernel
theorem dX7_pushes_45 : decode cX7_pushes 45 = .ok (.iload 7, 2) := by decide +kernel
theorem dX7_pushes_47 : decode cX7_pushes 47 = .ok (.iload 11, 2) := by decide +kernel
theorem dX7_pushes_49 : decode cX7_pushes 49 = .ok (.if_icmp .gt 7, 3) := by decide +kernel
theorem dX7_pushes_52 : decode cX7_pushes 52 = .ok (.iconst 1, 1) := by decide +kernel
theorem dX7_pushes_53 : decode cX7_pushes 53 = .ok (.goto 4, 3) := by decide +kernel
theorem dX7_pushes_56 : decode cX7_pushes 56 = .ok (.iconst 0, 1) := by decide +kernel
theorem dX7_pushes_57 : decode cX7_pushes 57 = .ok (.istore 12, 2) := by decide +kernel
theorem dX7_pushes_59 : decode cX7_pushes 59 = .ok (.iload 6, 2) := by decide +kernel
theorem dX7_pushes_61 : decode cX7_pushes 61 = .ok (.iload 12, 2) := by decide +kernel
theorem dX7_pushes_63 : decode cX7_pushes 63 = .ok (.ifCond .eq 8, 3) := by decide +kernel
theorem dX7_pushes_66 : decode cX7_pushes 66 = .ok (.iload 7, 2) := by decide +kernel
theorem dX7_pushes_68 : decode cX7_pushes 68 = .ok (.goto 5, 3) := by decide +kernel
theorem dX7_pushes_71 : decode cX7_pushes 71 = .ok (.iload 11, 2) := by decide +kernel
theorem dX7_pushes_73 : decode cX7_pushes 73 = .ok (.iadd, 1) := by decide +kernel
theorem dX7_pushes_74 : decode cX7_pushes 74 = .ok (.istore 13, 2) := by decide +kernel
theorem dX7_pushes_76 : decode cX7_pushes 76 = .ok (.iload 13, 2) := by decide +kernel
theorem dX7_pushes_78 : decode cX7_pushes 78 = .ok (.bipush 100, 2) := by decide +kernel
theorem dX7_pushes_80 : decode cX7_pushes 80 = .ok (.if_icmp .le 8, 3) := by decide +kernel
theorem dX7_pushes_83 : decode cX7_pushes 83 = .ok (.bipush 100, 2) := by decide +kernel
theorem dX7_pushes_85 : decode cX7_pushes 85 = .ok (.goto 5, 3) := by decide +kernel
theorem dX7_pushes_88 : decode cX7_pushes 88 = .ok (.iload 13, 2) := by decide +kernel
theorem dX7_pushes_90 : decode cX7_pushes 90 = .ok (.istore 6, 2) := by decide +kernel
theorem dX7_pushes_92 : decode cX7_pushes 92 = .ok (.aload_n 0, 1) := by decide +kernel
theorem dX7_pushes_93 : decode cX7_pushes 93 = .ok (.getfield 7, 3) := by decide +kernel
theorem dX7_pushes_96 : decode cX7_pushes 96 = .ok (.iload_n 1, 1) := by decide +kernel
theorem dX7_pushes_97 : decode cX7_pushes 97 = .ok (.iload_n 2, 1) := by decide +kernel
theorem dX7_pushes_98 : decode cX7_pushes 98 = .ok (.invokestatic 36, 3) := by decide +kernel
theorem dX7_pushes_101 : decode cX7_pushes 101 = .ok (.iaload, 1) := by decide +kernel
theorem dX7_pushes_102 : decode cX7_pushes 102 = .ok (.istore 14, 2) := by decide +kernel
theorem dX7_pushes_104 : decode cX7_pushes 104 = .ok (.aload_n 0, 1) := by decide +kernel
theorem dX7_pushes_105 : decode cX7_pushes 105 = .ok (.iload_n 1, 1) := by decide +kernel
theorem dX7_pushes_106 : decode cX7_pushes 106 = .ok (.iload_n 2, 1) := by decide +kernel
theorem dX7_pushes_107 : decode cX7_pushes 107 = .ok (.iload 4, 2) := by decide +kernel
theorem dX7_pushes_109 : decode cX7_pushes 109 = .ok (.iload 6, 2) := by decide +kernel
theorem dX7_pushes_111 : decode cX7_pushes 111 = .ok (.invokevirtual 48, 3) := by decide +kernel
theorem dX7_pushes_114 : decode cX7_pushes 114 = .ok (.iload 4, 2) := by decide +kernel
theorem dX7_pushes_116 : decode cX7_pushes 116 = .ok (.iconst (-1), 1) := by decide +kernel
theorem dX7_pushes_117 : decode cX7_pushes 117 = .ok (.if_icmp .ne 22, 3) := by decide +kernel
theorem dX7_pushes_120 : decode cX7_pushes 120 = .ok (.aload_n 0, 1) := by decide +kernel
theorem dX7_pushes_121 : decode cX7_pushes 121 = .ok (.getfield 7, 3) := by decide +kernel
theorem dX7_pushes_124 : decode cX7_pushes 124 = .ok (.iload_n 1, 1) := by decide +kernel
theorem dX7_pushes_125 : decode cX7_pushes 125 = .ok (.iload_n 2, 1) := by decide +kernel
theorem dX7_pushes_126 : decode cX7_pushes 126 = .ok (.invokestatic 36, 3) := by decide +kernel
theorem dX7_pushes_129 : decode cX7_pushes 129 = .ok (.iaload, 1) := by decide +kernel
theorem dX7_pushes_130 : decode cX7_pushes 130 = .ok (.iload 14, 2) := by decide +kernel
theorem dX7_pushes_132 : decode cX7_pushes 132 = .ok (.if_icmp .le 7, 3) := by decide +kernel
theorem dX7_pushes_135 : decode cX7_pushes 135 = .ok (.iconst 1, 1) := by decide +kernel
theorem dX7_pushes_136 : decode cX7_pushes 136 = .ok (.goto 4, 3) := by decide +kernel
theorem dX7_pushes_139 : decode cX7_pushes 139 = .ok (.iconst 0, 1) := by decide +kernel
theorem dX7_pushes_140 : decode cX7_pushes 140 = .ok (.istore 5, 2) := by decide +kernel
theorem dX7_pushes_142 : decode cX7_pushes 142 = .ok (.iload 12, 2) := by decide +kernel
theorem dX7_pushes_144 : decode cX7_pushes 144 = .ok (.ifCond .ne 41, 3) := by decide +kernel
theorem dX7_pushes_147 : decode cX7_pushes 147 = .ok (.iinc 8 1, 3) := by decide +kernel
theorem dX7_pushes_150 : decode cX7_pushes 150 = .ok (.iload 7, 2) := by decide +kernel
theorem dX7_pushes_152 : decode cX7_pushes 152 = .ok (.iload 11, 2) := by decide +kernel
theorem dX7_pushes_154 : decode cX7_pushes 154 = .ok (.aload_n 0, 1) := by decide +kernel
theorem dX7_pushes_155 : decode cX7_pushes 155 = .ok (.getfield 7, 3) := by decide +kernel
theorem dX7_pushes_158 : decode cX7_pushes 158 = .ok (.iload_n 1, 1) := by decide +kernel
theorem dX7_pushes_159 : decode cX7_pushes 159 = .ok (.iconst 0, 1) := by decide +kernel
theorem dX7_pushes_160 : decode cX7_pushes 160 = .ok (.iadd, 1) := by decide +kernel
theorem dX7_pushes_161 : decode cX7_pushes 161 = .ok (.iaload, 1) := by decide +kernel
theorem dX7_pushes_162 : decode cX7_pushes 162 = .ok (.iadd, 1) := by decide +kernel
theorem dX7_pushes_163 : decode cX7_pushes 163 = .ok (.isub, 1) := by decide +kernel
theorem dX7_pushes_164 : decode cX7_pushes 164 = .ok (.istore 7, 2) := by decide +kernel
theorem dX7_pushes_166 : decode cX7_pushes 166 = .ok (.iload 4, 2) := by decide +kernel
theorem dX7_pushes_168 : decode cX7_pushes 168 = .ok (.iconst 1, 1) := by decide +kernel
theorem dX7_pushes_169 : decode cX7_pushes 169 = .ok (.iload 5, 2) := by decide +kernel
theorem dX7_pushes_171 : decode cX7_pushes 171 = .ok (.iadd, 1) := by decide +kernel
theorem dX7_pushes_172 : decode cX7_pushes 172 = .ok (.iadd, 1) := by decide +kernel
theorem dX7_pushes_173 : decode cX7_pushes 173 = .ok (.istore 4, 2) := by decide +kernel
theorem dX7_pushes_175 : decode cX7_pushes 175 = .ok (.aload_n 0, 1) := by decide +kernel
theorem dX7_pushes_176 : decode cX7_pushes 176 = .ok (.iload_n 1, 1) := by decide +kernel
theorem dX7_pushes_177 : decode cX7_pushes 177 = .ok (.iload_n 2, 1) := by decide +kernel
theorem dX7_pushes_178 : decode cX7_pushes 178 = .ok (.iload 4, 2) := by decide +kernel
theorem dX7_pushes_180 : decode cX7_pushes 180 = .ok (.invokevirtual 44, 3) := by decide +kernel
theorem dX7_pushes_183 : decode cX7_pushes 183 = .ok (.istore 6, 2) := by decide +kernel
theorem dX7_pushes_185 : decode cX7_pushes 185 = .ok (.iload 12, 2) := by decide +kernel
theorem dX7_pushes_187 : decode cX7_pushes 187 = .ok (.ifCond .ne 12, 3) := by decide +kernel
theorem dX7_pushes_190 : decode cX7_pushes 190 = .ok (.iload 7, 2) := by decide +kernel
theorem dX7_pushes_192 : decode cX7_pushes 192 = .ok (.ifCond .le 7, 3) := by decide +kernel
theorem dX7_pushes_195 : decode cX7_pushes 195 = .ok (.iconst 1, 1) := by decide +kernel
theorem dX7_pushes_196 : decode cX7_pushes 196 = .ok (.goto 4, 3) := by decide +kernel
theorem dX7_pushes_199 : decode cX7_pushes 199 = .ok (.iconst 0, 1) := by decide +kernel
theorem dX7_pushes_200 : decode cX7_pushes 200 = .ok (.istore 9, 2) := by decide +kernel
theorem dX7_pushes_202 : decode cX7_pushes 202 = .ok (.goto (-183), 3) := by decide +kernel
theorem dX7_pushes_205 : decode cX7_pushes 205 = .ok (.aload_n 0, 1) := by decide +kernel
theorem dX7_pushes_206 : decode cX7_pushes 206 = .ok (.iload 6, 2) := by decide +kernel
theorem dX7_pushes_208 : decode cX7_pushes 208 = .ok (.putfield 52, 3) := by decide +kernel
theorem dX7_pushes_211 : decode cX7_pushes 211 = .ok (.aload_n 0, 1) := by decide +kernel
theorem dX7_pushes_212 : decode cX7_pushes 212 = .ok (.getfield 7, 3) := by decide +kernel
theorem dX7_pushes_215 : decode cX7_pushes 215 = .ok (.iload_n 1, 1) := by decide +kernel
theorem dX7_pushes_216 : decode cX7_pushes 216 = .ok (.bipush 7, 2) := by decide +kernel
theorem dX7_pushes_218 : decode cX7_pushes 218 = .ok (.iadd, 1) := by decide +kernel
theorem dX7_pushes_219 : decode cX7_pushes 219 = .ok (.dup2, 1) := by decide +kernel
theorem dX7_pushes_220 : decode cX7_pushes 220 = .ok (.iaload, 1) := by decide +kernel
theorem dX7_pushes_221 : decode cX7_pushes 221 = .ok (.iload 8, 2) := by decide +kernel
theorem dX7_pushes_223 : decode cX7_pushes 223 = .ok (.iadd, 1) := by decide +kernel
theorem dX7_pushes_224 : decode cX7_pushes 224 = .ok (.iastore, 1) := by decide +kernel
theorem dX7_pushes_225 : decode cX7_pushes 225 = .ok (.iload 8, 2) := by decide +kernel
theorem dX7_pushes_227 : decode cX7_pushes 227 = .ok (.ireturn, 1) := by decide +kernel
theorem dX7_clean_0 : decode cX7_clean 0 = .ok (.iconst 0, 1) := by decide +kernel
theorem dX7_clean_1 : decode cX7_clean 1 = .ok (.istore_n 3, 1) := by decide +kernel
theorem dX7_clean_2 : decode cX7_clean 2 = .ok (.iconst 0, 1) := by decide +kernel
theorem dX7_clean_3 : decode cX7_clean 3 = .ok (.istore 4, 2) := by decide +kernel
theorem dX7_clean_5 : decode cX7_clean 5 = .ok (.iload 4, 2) := by decide +kernel
theorem dX7_clean_7 : decode cX7_clean 7 = .ok (.bipush 60, 2) := by decide +kernel
theorem dX7_clean_9 : decode cX7_clean 9 = .ok (.if_icmp .ge 52, 3) := by decide +kernel
theorem dX7_clean_12 : decode cX7_clean 12 = .ok (.iload_n 3, 1) := by decide +kernel
theorem dX7_clean_13 : decode cX7_clean 13 = .ok (.aload_n 0, 1) := by decide +kernel
theorem dX7_clean_14 : decode cX7_clean 14 = .ok (.iload_n 1, 1) := by decide +kernel
theorem dX7_clean_15 : decode cX7_clean 15 = .ok (.iload 4, 2) := by decide +kernel
theorem dX7_clean_17 : decode cX7_clean 17 = .ok (.bipush 20, 2) := by decide +kernel
theorem dX7_clean_19 : decode cX7_clean 19 = .ok (.idiv, 1) := by decide +kernel
theorem dX7_clean_20 : decode cX7_clean 20 = .ok (.iload 4, 2) := by decide +kernel
theorem dX7_clean_22 : decode cX7_clean 22 = .ok (.bipush 20, 2) := by decide +kernel
theorem dX7_clean_24 : decode cX7_clean 24 = .ok (.irem, 1) := by decide +kernel
theorem dX7_clean_25 : decode cX7_clean 25 = .ok (.invokevirtual 44, 3) := by decide +kernel
theorem dX7_clean_28 : decode cX7_clean 28 = .ok (.bipush 10, 2) := by decide +kernel
theorem dX7_clean_30 : decode cX7_clean 30 = .ok (.iload_n 2, 1) := by decide +kernel
theorem dX7_clean_31 : decode cX7_clean 31 = .ok (.imul, 1) := by decide +kernel
theorem dX7_clean_32 : decode cX7_clean 32 = .ok (.bipush 8, 2) := by decide +kernel
theorem dX7_clean_34 : decode cX7_clean 34 = .ok (.iadd, 1) := by decide +kernel
theorem dX7_clean_35 : decode cX7_clean 35 = .ok (.bipush 10, 2) := by decide +kernel
theorem dX7_clean_37 : decode cX7_clean 37 = .ok (.iload_n 2, 1) := by decide +kernel
theorem dX7_clean_38 : decode cX7_clean 38 = .ok (.imul, 1) := by decide +kernel
theorem dX7_clean_39 : decode cX7_clean 39 = .ok (.bipush 12, 2) := by decide +kernel
theorem dX7_clean_41 : decode cX7_clean 41 = .ok (.iadd, 1) := by decide +kernel
theorem dX7_clean_42 : decode cX7_clean 42 = .ok (.invokestatic 32, 3) := by decide +kernel
theorem dX7_clean_45 : decode cX7_clean 45 = .ok (.ifCond .eq 7, 3) := by decide +kernel
theorem dX7_clean_48 : decode cX7_clean 48 = .ok (.iconst 1, 1) := by decide +kernel
theorem dX7_clean_49 : decode cX7_clean 49 = .ok (.goto 4, 3) := by decide +kernel
theorem dX7_clean_52 : decode cX7_clean 52 = .ok (.iconst 0, 1) := by decide +kernel
theorem dX7_clean_53 : decode cX7_clean 53 = .ok (.iadd, 1) := by decide +kernel
theorem dX7_clean_54 : decode cX7_clean 54 = .ok (.istore_n 3, 1) := by decide +kernel
theorem dX7_clean_55 : decode cX7_clean 55 = .ok (.iinc 4 1, 3) := by decide +kernel
theorem dX7_clean_58 : decode cX7_clean 58 = .ok (.goto (-53), 3) := by decide +kernel
theorem dX7_clean_61 : decode cX7_clean 61 = .ok (.iload_n 3, 1) := by decide +kernel
theorem dX7_clean_62 : decode cX7_clean 62 = .ok (.ireturn, 1) := by decide +kernel
theorem dX7_allClean_0 : decode cX7_allClean 0 = .ok (.iconst 0, 1) := by decide +kernel
theorem dX7_allClean_1 : decode cX7_allClean 1 = .ok (.istore_n 2, 1) := by decide +kernel
theorem dX7_allClean_2 : decode cX7_allClean 2 = .ok (.iconst 0, 1) := by decide +kernel
theorem dX7_allClean_3 : decode cX7_allClean 3 = .ok (.istore_n 3, 1) := by decide +kernel
theorem dX7_allClean_4 : decode cX7_allClean 4 = .ok (.iload_n 3, 1) := by decide +kernel
theorem dX7_allClean_5 : decode cX7_allClean 5 = .ok (.bipush 9, 2) := by decide +kernel
theorem dX7_allClean_7 : decode cX7_allClean 7 = .ok (.if_icmp .ge 18, 3) := by decide +kernel
theorem dX7_allClean_10 : decode cX7_allClean 10 = .ok (.iload_n 2, 1) := by decide +kernel
theorem dX7_allClean_11 : decode cX7_allClean 11 = .ok (.aload_n 0, 1) := by decide +kernel
theorem dX7_allClean_12 : decode cX7_allClean 12 = .ok (.iload_n 1, 1) := by decide +kernel
theorem dX7_allClean_13 : decode cX7_allClean 13 = .ok (.iload_n 3, 1) := by decide +kernel
theorem dX7_allClean_14 : decode cX7_allClean 14 = .ok (.invokevirtual 55, 3) := by decide +kernel
theorem dX7_allClean_17 : decode cX7_allClean 17 = .ok (.iadd, 1) := by decide +kernel
theorem dX7_allClean_18 : decode cX7_allClean 18 = .ok (.istore_n 2, 1) := by decide +kernel
theorem dX7_allClean_19 : decode cX7_allClean 19 = .ok (.iinc 3 1, 3) := by decide +kernel
theorem dX7_allClean_22 : decode cX7_allClean 22 = .ok (.goto (-18), 3) := by decide +kernel
theorem dX7_allClean_25 : decode cX7_allClean 25 = .ok (.iload_n 2, 1) := by decide +kernel
theorem dX7_allClean_26 : decode cX7_allClean 26 = .ok (.ireturn, 1) := by decide +kernel
theorem dX7_coins_0 : decode cX7_coins 0 = .ok (.aload_n 0, 1) := by decide +kernel
theorem dX7_coins_1 : decode cX7_coins 1 = .ok (.getfield 7, 3) := by decide +kernel
theorem dX7_coins_4 : decode cX7_coins 4 = .ok (.iload_n 1, 1) := by decide +kernel
theorem dX7_coins_5 : decode cX7_coins 5 = .ok (.iconst 0, 1) := by decide +kernel
theorem dX7_coins_6 : decode cX7_coins 6 = .ok (.invokestatic 36, 3) := by decide +kernel
theorem dX7_coins_9 : decode cX7_coins 9 = .ok (.iaload, 1) := by decide +kernel
theorem dX7_coins_10 : decode cX7_coins 10 = .ok (.aload_n 0, 1) := by decide +kernel
theorem dX7_coins_11 : decode cX7_coins 11 = .ok (.getfield 7, 3) := by decide +kernel
theorem dX7_coins_14 : decode cX7_coins 14 = .ok (.iload_n 1, 1) := by decide +kernel
theorem dX7_coins_15 : decode cX7_coins 15 = .ok (.iconst 1, 1) := by decide +kernel
theorem dX7_coins_16 : decode cX7_coins 16 = .ok (.invokestatic 36, 3) := by decide +kernel
theorem dX7_coins_19 : decode cX7_coins 19 = .ok (.iaload, 1) := by decide +kernel
theorem dX7_coins_20 : decode cX7_coins 20 = .ok (.iadd, 1) := by decide +kernel
theorem dX7_coins_21 : decode cX7_coins 21 = .ok (.aload_n 0, 1) := by decide +kernel
theorem dX7_coins_22 : decode cX7_coins 22 = .ok (.getfield 7, 3) := by decide +kernel
theorem dX7_coins_25 : decode cX7_coins 25 = .ok (.iload_n 1, 1) := by decide +kernel
theorem dX7_coins_26 : decode cX7_coins 26 = .ok (.iconst 2, 1) := by decide +kernel
theorem dX7_coins_27 : decode cX7_coins 27 = .ok (.invokestatic 36, 3) := by decide +kernel
theorem dX7_coins_30 : decode cX7_coins 30 = .ok (.iaload, 1) := by decide +kernel
theorem dX7_coins_31 : decode cX7_coins 31 = .ok (.iadd, 1) := by decide +kernel
theorem dX7_coins_32 : decode cX7_coins 32 = .ok (.ireturn, 1) := by decide +kernel
theorem dX7_chalks_0 : decode cX7_chalks 0 = .ok (.aload_n 0, 1) := by decide +kernel
theorem dX7_chalks_1 : decode cX7_chalks 1 = .ok (.getfield 7, 3) := by decide +kernel
theorem dX7_chalks_4 : decode cX7_chalks 4 = .ok (.iload_n 1, 1) := by decide +kernel
theorem dX7_chalks_5 : decode cX7_chalks 5 = .ok (.bipush 9, 2) := by decide +kernel
theorem dX7_chalks_7 : decode cX7_chalks 7 = .ok (.iadd, 1) := by decide +kernel
theorem dX7_chalks_8 : decode cX7_chalks 8 = .ok (.bipush 9, 2) := by decide +kernel
theorem dX7_chalks_10 : decode cX7_chalks 10 = .ok (.iload_n 2, 1) := by decide +kernel
theorem dX7_chalks_11 : decode cX7_chalks 11 = .ok (.imul, 1) := by decide +kernel
theorem dX7_chalks_12 : decode cX7_chalks 12 = .ok (.iadd, 1) := by decide +kernel
theorem dX7_chalks_13 : decode cX7_chalks 13 = .ok (.iload_n 3, 1) := by decide +kernel
theorem dX7_chalks_14 : decode cX7_chalks 14 = .ok (.iadd, 1) := by decide +kernel
theorem dX7_chalks_15 : decode cX7_chalks 15 = .ok (.iaload, 1) := by decide +kernel
theorem dX7_chalks_16 : decode cX7_chalks 16 = .ok (.ireturn, 1) := by decide +kernel
theorem dX7_least_0 : decode cX7_least 0 = .ok (.iload_n 0, 1) := by decide +kernel
theorem dX7_least_1 : decode cX7_least 1 = .ok (.iload_n 1, 1) := by decide +kernel
theorem dX7_least_2 : decode cX7_least 2 = .ok (.if_icmp .ge 7, 3) := by decide +kernel
theorem dX7_least_5 : decode cX7_least 5 = .ok (.iload_n 0, 1) := by decide +kernel
theorem dX7_least_6 : decode cX7_least 6 = .ok (.goto 4, 3) := by decide +kernel
theorem dX7_least_9 : decode cX7_least 9 = .ok (.iload_n 1, 1) := by decide +kernel
theorem dX7_least_10 : decode cX7_least 10 = .ok (.ireturn, 1) := by decide +kernel
theorem dX7_wouldGet_0 : decode cX7_wouldGet 0 = .ok (.aload_n 0, 1) := by decide +kernel
theorem dX7_wouldGet_1 : decode cX7_wouldGet 1 = .ok (.getfield 7, 3) := by decide +kernel
theorem dX7_wouldGet_4 : decode cX7_wouldGet 4 = .ok (.iload_n 1, 1) := by decide +kernel
theorem dX7_wouldGet_5 : decode cX7_wouldGet 5 = .ok (.iconst 1, 1) := by decide +kernel
theorem dX7_wouldGet_6 : decode cX7_wouldGet 6 = .ok (.iadd, 1) := by decide +kernel
theorem dX7_wouldGet_7 : decode cX7_wouldGet 7 = .ok (.iaload, 1) := by decide +kernel
theorem dX7_wouldGet_8 : decode cX7_wouldGet 8 = .ok (.istore 4, 2) := by decide +kernel
theorem dX7_wouldGet_10 : decode cX7_wouldGet 10 = .ok (.aload_n 0, 1) := by decide +kernel
theorem dX7_wouldGet_11 : decode cX7_wouldGet 11 = .ok (.iload_n 1, 1) := by decide +kernel
theorem dX7_wouldGet_12 : decode cX7_wouldGet 12 = .ok (.iload_n 2, 1) := by decide +kernel
theorem dX7_wouldGet_13 : decode cX7_wouldGet 13 = .ok (.invokevirtual 55, 3) := by decide +kernel
theorem dX7_wouldGet_16 : decode cX7_wouldGet 16 = .ok (.istore 5, 2) := by decide +kernel
theorem dX7_wouldGet_18 : decode cX7_wouldGet 18 = .ok (.iload 5, 2) := by decide +kernel
theorem dX7_wouldGet_20 : decode cX7_wouldGet 20 = .ok (.iconst 3, 1) := by decide +kernel
theorem dX7_wouldGet_21 : decode cX7_wouldGet 21 = .ok (.aload_n 0, 1) := by decide +kernel
theorem dX7_wouldGet_22 : decode cX7_wouldGet 22 = .ok (.iload_n 1, 1) := by decide +kernel
theorem dX7_wouldGet_23 : decode cX7_wouldGet 23 = .ok (.iload 4, 2) := by decide +kernel
theorem dX7_wouldGet_25 : decode cX7_wouldGet 25 = .ok (.iload_n 2, 1) := by decide +kernel
theorem dX7_wouldGet_26 : decode cX7_wouldGet 26 = .ok (.invokevirtual 58, 3) := by decide +kernel
theorem dX7_wouldGet_29 : decode cX7_wouldGet 29 = .ok (.isub, 1) := by decide +kernel
theorem dX7_wouldGet_30 : decode cX7_wouldGet 30 = .ok (.invokestatic 61, 3) := by decide +kernel
theorem dX7_wouldGet_33 : decode cX7_wouldGet 33 = .ok (.istore 6, 2) := by decide +kernel
theorem dX7_wouldGet_35 : decode cX7_wouldGet 35 = .ok (.iload_n 3, 1) := by decide +kernel
theorem dX7_wouldGet_36 : decode cX7_wouldGet 36 = .ok (.ifCond .eq 26, 3) := by decide +kernel
theorem dX7_wouldGet_39 : decode cX7_wouldGet 39 = .ok (.iload 5, 2) := by decide +kernel
theorem dX7_wouldGet_41 : decode cX7_wouldGet 41 = .ok (.iload 6, 2) := by decide +kernel
theorem dX7_wouldGet_43 : decode cX7_wouldGet 43 = .ok (.isub, 1) := by decide +kernel
theorem dX7_wouldGet_44 : decode cX7_wouldGet 44 = .ok (.iconst 3, 1) := by decide +kernel
theorem dX7_wouldGet_45 : decode cX7_wouldGet 45 = .ok (.aload_n 0, 1) := by decide +kernel
theorem dX7_wouldGet_46 : decode cX7_wouldGet 46 = .ok (.iload_n 1, 1) := by decide +kernel
theorem dX7_wouldGet_47 : decode cX7_wouldGet 47 = .ok (.iconst 1, 1) := by decide +kernel
theorem dX7_wouldGet_48 : decode cX7_wouldGet 48 = .ok (.iload 4, 2) := by decide +kernel
theorem dX7_wouldGet_50 : decode cX7_wouldGet 50 = .ok (.isub, 1) := by decide +kernel
theorem dX7_wouldGet_51 : decode cX7_wouldGet 51 = .ok (.iload_n 2, 1) := by decide +kernel
theorem dX7_wouldGet_52 : decode cX7_wouldGet 52 = .ok (.invokevirtual 58, 3) := by decide +kernel
theorem dX7_wouldGet_55 : decode cX7_wouldGet 55 = .ok (.isub, 1) := by decide +kernel
theorem dX7_wouldGet_56 : decode cX7_wouldGet 56 = .ok (.invokestatic 61, 3) := by decide +kernel
theorem dX7_wouldGet_59 : decode cX7_wouldGet 59 = .ok (.goto 5, 3) := by decide +kernel
theorem dX7_wouldGet_62 : decode cX7_wouldGet 62 = .ok (.iload 6, 2) := by decide +kernel
theorem dX7_wouldGet_64 : decode cX7_wouldGet 64 = .ok (.ireturn, 1) := by decide +kernel
theorem dX7_hasAll_0 : decode cX7_hasAll 0 = .ok (.iconst 1, 1) := by decide +kernel
theorem dX7_hasAll_1 : decode cX7_hasAll 1 = .ok (.istore_n 2, 1) := by decide +kernel
theorem dX7_hasAll_2 : decode cX7_hasAll 2 = .ok (.iconst 0, 1) := by decide +kernel
theorem dX7_hasAll_3 : decode cX7_hasAll 3 = .ok (.istore_n 3, 1) := by decide +kernel
theorem dX7_hasAll_4 : decode cX7_hasAll 4 = .ok (.iload_n 3, 1) := by decide +kernel
theorem dX7_hasAll_5 : decode cX7_hasAll 5 = .ok (.bipush 9, 2) := by decide +kernel
theorem dX7_hasAll_7 : decode cX7_hasAll 7 = .ok (.if_icmp .ge 30, 3) := by decide +kernel
theorem dX7_hasAll_10 : decode cX7_hasAll 10 = .ok (.iload_n 2, 1) := by decide +kernel
theorem dX7_hasAll_11 : decode cX7_hasAll 11 = .ok (.ifCond .eq 18, 3) := by decide +kernel
theorem dX7_hasAll_14 : decode cX7_hasAll 14 = .ok (.aload_n 0, 1) := by decide +kernel
theorem dX7_hasAll_15 : decode cX7_hasAll 15 = .ok (.iconst 0, 1) := by decide +kernel
theorem dX7_hasAll_16 : decode cX7_hasAll 16 = .ok (.iload_n 1, 1) := by decide +kernel
theorem dX7_hasAll_17 : decode cX7_hasAll 17 = .ok (.iload_n 3, 1) := by decide +kernel
theorem dX7_hasAll_18 : decode cX7_hasAll 18 = .ok (.invokevirtual 58, 3) := by decide +kernel
theorem dX7_hasAll_21 : decode cX7_hasAll 21 = .ok (.iconst 3, 1) := by decide +kernel
theorem dX7_hasAll_22 : decode cX7_hasAll 22 = .ok (.if_icmp .ne 7, 3) := by decide +kernel
theorem dX7_hasAll_25 : decode cX7_hasAll 25 = .ok (.iconst 1, 1) := by decide +kernel
theorem dX7_hasAll_26 : decode cX7_hasAll 26 = .ok (.goto 4, 3) := by decide +kernel
theorem dX7_hasAll_29 : decode cX7_hasAll 29 = .ok (.iconst 0, 1) := by decide +kernel
theorem dX7_hasAll_30 : decode cX7_hasAll 30 = .ok (.istore_n 2, 1) := by decide +kernel
theorem dX7_hasAll_31 : decode cX7_hasAll 31 = .ok (.iinc 3 1, 3) := by decide +kernel
theorem dX7_hasAll_34 : decode cX7_hasAll 34 = .ok (.goto (-30), 3) := by decide +kernel
theorem dX7_hasAll_37 : decode cX7_hasAll 37 = .ok (.iload_n 2, 1) := by decide +kernel
theorem dX7_hasAll_38 : decode cX7_hasAll 38 = .ok (.ireturn, 1) := by decide +kernel
theorem dX7_clears_0 : decode cX7_clears 0 = .ok (.iconst 0, 1) := by decide +kernel
theorem dX7_clears_1 : decode cX7_clears 1 = .ok (.istore_n 1, 1) := by decide +kernel
theorem dX7_clears_2 : decode cX7_clears 2 = .ok (.iload_n 1, 1) := by decide +kernel
theorem dX7_clears_3 : decode cX7_clears 3 = .ok (.iconst 3, 1) := by decide +kernel
theorem dX7_clears_4 : decode cX7_clears 4 = .ok (.if_icmp .ge 20, 3) := by decide +kernel
theorem dX7_clears_7 : decode cX7_clears 7 = .ok (.aload_n 0, 1) := by decide +kernel
theorem dX7_clears_8 : decode cX7_clears 8 = .ok (.getfield 7, 3) := by decide +kernel
theorem dX7_clears_11 : decode cX7_clears 11 = .ok (.iconst 0, 1) := by decide +kernel
theorem dX7_clears_12 : decode cX7_clears 12 = .ok (.iload_n 1, 1) := by decide +kernel
theorem dX7_clears_13 : decode cX7_clears 13 = .ok (.invokestatic 36, 3) := by decide +kernel
theorem dX7_clears_16 : decode cX7_clears 16 = .ok (.iconst 0, 1) := by decide +kernel
theorem dX7_clears_17 : decode cX7_clears 17 = .ok (.iastore, 1) := by decide +kernel
theorem dX7_clears_18 : decode cX7_clears 18 = .ok (.iinc 1 1, 3) := by decide +kernel
theorem dX7_clears_21 : decode cX7_clears 21 = .ok (.goto (-19), 3) := by decide +kernel
theorem dX7_clears_24 : decode cX7_clears 24 = .ok (.return_, 1) := by decide +kernel
theorem dX7_ends_0 : decode cX7_ends 0 = .ok (.aload_n 0, 1) := by decide +kernel
theorem dX7_ends_1 : decode cX7_ends 1 = .ok (.getfield 7, 3) := by decide +kernel
theorem dX7_ends_4 : decode cX7_ends 4 = .ok (.iconst 1, 1) := by decide +kernel
theorem dX7_ends_5 : decode cX7_ends 5 = .ok (.iaload, 1) := by decide +kernel
theorem dX7_ends_6 : decode cX7_ends 6 = .ok (.istore_n 1, 1) := by decide +kernel
theorem dX7_ends_7 : decode cX7_ends 7 = .ok (.iconst 0, 1) := by decide +kernel
theorem dX7_ends_8 : decode cX7_ends 8 = .ok (.istore_n 2, 1) := by decide +kernel
theorem dX7_ends_9 : decode cX7_ends 9 = .ok (.iconst 0, 1) := by decide +kernel
theorem dX7_ends_10 : decode cX7_ends 10 = .ok (.istore_n 3, 1) := by decide +kernel
theorem dX7_ends_11 : decode cX7_ends 11 = .ok (.iload_n 3, 1) := by decide +kernel
theorem dX7_ends_12 : decode cX7_ends 12 = .ok (.bipush 9, 2) := by decide +kernel
theorem dX7_ends_14 : decode cX7_ends 14 = .ok (.if_icmp .ge 75, 3) := by decide +kernel
theorem dX7_ends_17 : decode cX7_ends 17 = .ok (.aload_n 0, 1) := by decide +kernel
theorem dX7_ends_18 : decode cX7_ends 18 = .ok (.iconst 0, 1) := by decide +kernel
theorem dX7_ends_19 : decode cX7_ends 19 = .ok (.iload_n 3, 1) := by decide +kernel
theorem dX7_ends_20 : decode cX7_ends 20 = .ok (.iconst 0, 1) := by decide +kernel
theorem dX7_ends_21 : decode cX7_ends 21 = .ok (.invokevirtual 64, 3) := by decide +kernel
theorem dX7_ends_24 : decode cX7_ends 24 = .ok (.istore 4, 2) := by decide +kernel
theorem dX7_ends_26 : decode cX7_ends 26 = .ok (.aload_n 0, 1) := by decide +kernel
theorem dX7_ends_27 : decode cX7_ends 27 = .ok (.iconst 0, 1) := by decide +kernel
theorem dX7_ends_28 : decode cX7_ends 28 = .ok (.iload_n 3, 1) := by decide +kernel
theorem dX7_ends_29 : decode cX7_ends 29 = .ok (.iconst 1, 1) := by decide +kernel
theorem dX7_ends_30 : decode cX7_ends 30 = .ok (.invokevirtual 64, 3) := by decide +kernel
theorem dX7_ends_33 : decode cX7_ends 33 = .ok (.istore 5, 2) := by decide +kernel
theorem dX7_ends_35 : decode cX7_ends 35 = .ok (.aload_n 0, 1) := by decide +kernel
theorem dX7_ends_36 : decode cX7_ends 36 = .ok (.getfield 7, 3) := by decide +kernel
theorem dX7_ends_39 : decode cX7_ends 39 = .ok (.bipush 9, 2) := by decide +kernel
theorem dX7_ends_41 : decode cX7_ends 41 = .ok (.bipush 9, 2) := by decide +kernel
theorem dX7_ends_43 : decode cX7_ends 43 = .ok (.iload_n 1, 1) := by decide +kernel
theorem dX7_ends_44 : decode cX7_ends 44 = .ok (.imul, 1) := by decide +kernel
theorem dX7_ends_45 : decode cX7_ends 45 = .ok (.iadd, 1) := by decide +kernel
theorem dX7_ends_46 : decode cX7_ends 46 = .ok (.iload_n 3, 1) := by decide +kernel
theorem dX7_ends_47 : decode cX7_ends 47 = .ok (.iadd, 1) := by decide +kernel
theorem dX7_ends_48 : decode cX7_ends 48 = .ok (.dup2, 1) := by decide +kernel
theorem dX7_ends_49 : decode cX7_ends 49 = .ok (.iaload, 1) := by decide +kernel
theorem dX7_ends_50 : decode cX7_ends 50 = .ok (.iload 4, 2) := by decide +kernel
theorem dX7_ends_52 : decode cX7_ends 52 = .ok (.iadd, 1) := by decide +kernel
theorem dX7_ends_53 : decode cX7_ends 53 = .ok (.iastore, 1) := by decide +kernel
theorem dX7_ends_54 : decode cX7_ends 54 = .ok (.aload_n 0, 1) := by decide +kernel
theorem dX7_ends_55 : decode cX7_ends 55 = .ok (.getfield 7, 3) := by decide +kernel
theorem dX7_ends_58 : decode cX7_ends 58 = .ok (.bipush 9, 2) := by decide +kernel
theorem dX7_ends_60 : decode cX7_ends 60 = .ok (.bipush 9, 2) := by decide +kernel
theorem dX7_ends_62 : decode cX7_ends 62 = .ok (.iconst 1, 1) := by decide +kernel
theorem dX7_ends_63 : decode cX7_ends 63 = .ok (.iload_n 1, 1) := by decide +kernel
theorem dX7_ends_64 : decode cX7_ends 64 = .ok (.isub, 1) := by decide +kernel
theorem dX7_ends_65 : decode cX7_ends 65 = .ok (.imul, 1) := by decide +kernel
theorem dX7_ends_66 : decode cX7_ends 66 = .ok (.iadd, 1) := by decide +kernel
theorem dX7_ends_67 : decode cX7_ends 67 = .ok (.iload_n 3, 1) := by decide +kernel
theorem dX7_ends_68 : decode cX7_ends 68 = .ok (.iadd, 1) := by decide +kernel
theorem dX7_ends_69 : decode cX7_ends 69 = .ok (.dup2, 1) := by decide +kernel
theorem dX7_ends_70 : decode cX7_ends 70 = .ok (.iaload, 1) := by decide +kernel
theorem dX7_ends_71 : decode cX7_ends 71 = .ok (.iload 5, 2) := by decide +kernel
theorem dX7_ends_73 : decode cX7_ends 73 = .ok (.iadd, 1) := by decide +kernel
theorem dX7_ends_74 : decode cX7_ends 74 = .ok (.iastore, 1) := by decide +kernel
theorem dX7_ends_75 : decode cX7_ends 75 = .ok (.iload_n 2, 1) := by decide +kernel
theorem dX7_ends_76 : decode cX7_ends 76 = .ok (.iload 4, 2) := by decide +kernel
theorem dX7_ends_78 : decode cX7_ends 78 = .ok (.iload 5, 2) := by decide +kernel
theorem dX7_ends_80 : decode cX7_ends 80 = .ok (.iadd, 1) := by decide +kernel
theorem dX7_ends_81 : decode cX7_ends 81 = .ok (.iadd, 1) := by decide +kernel
theorem dX7_ends_82 : decode cX7_ends 82 = .ok (.istore_n 2, 1) := by decide +kernel
theorem dX7_ends_83 : decode cX7_ends 83 = .ok (.iinc 3 1, 3) := by decide +kernel
theorem dX7_ends_86 : decode cX7_ends 86 = .ok (.goto (-75), 3) := by decide +kernel
theorem dX7_ends_89 : decode cX7_ends 89 = .ok (.aload_n 0, 1) := by decide +kernel
theorem dX7_ends_90 : decode cX7_ends 90 = .ok (.invokevirtual 68, 3) := by decide +kernel
theorem dX7_ends_93 : decode cX7_ends 93 = .ok (.aload_n 0, 1) := by decide +kernel
theorem dX7_ends_94 : decode cX7_ends 94 = .ok (.getfield 7, 3) := by decide +kernel
theorem dX7_ends_97 : decode cX7_ends 97 = .ok (.iconst 2, 1) := by decide +kernel
theorem dX7_ends_98 : decode cX7_ends 98 = .ok (.iconst 0, 1) := by decide +kernel
theorem dX7_ends_99 : decode cX7_ends 99 = .ok (.iastore, 1) := by decide +kernel
theorem dX7_ends_100 : decode cX7_ends 100 = .ok (.aload_n 0, 1) := by decide +kernel
theorem dX7_ends_101 : decode cX7_ends 101 = .ok (.getfield 7, 3) := by decide +kernel
theorem dX7_ends_104 : decode cX7_ends 104 = .ok (.iconst 4, 1) := by decide +kernel
theorem dX7_ends_105 : decode cX7_ends 105 = .ok (.dup2, 1) := by decide +kernel
theorem dX7_ends_106 : decode cX7_ends 106 = .ok (.iaload, 1) := by decide +kernel
theorem dX7_ends_107 : decode cX7_ends 107 = .ok (.iconst 1, 1) := by decide +kernel
theorem dX7_ends_108 : decode cX7_ends 108 = .ok (.iadd, 1) := by decide +kernel
theorem dX7_ends_109 : decode cX7_ends 109 = .ok (.iastore, 1) := by decide +kernel
theorem dX7_ends_110 : decode cX7_ends 110 = .ok (.aload_n 0, 1) := by decide +kernel
theorem dX7_ends_111 : decode cX7_ends 111 = .ok (.getfield 7, 3) := by decide +kernel
theorem dX7_ends_114 : decode cX7_ends 114 = .ok (.iconst 3, 1) := by decide +kernel
theorem dX7_ends_115 : decode cX7_ends 115 = .ok (.aload_n 0, 1) := by decide +kernel
theorem dX7_ends_116 : decode cX7_ends 116 = .ok (.iload_n 1, 1) := by decide +kernel
theorem dX7_ends_117 : decode cX7_ends 117 = .ok (.invokevirtual 71, 3) := by decide +kernel
theorem dX7_ends_120 : decode cX7_ends 120 = .ok (.ifCond .eq 9, 3) := by decide +kernel
theorem dX7_ends_123 : decode cX7_ends 123 = .ok (.iconst 1, 1) := by decide +kernel
theorem dX7_ends_124 : decode cX7_ends 124 = .ok (.iload_n 1, 1) := by decide +kernel
theorem dX7_ends_125 : decode cX7_ends 125 = .ok (.iadd, 1) := by decide +kernel
theorem dX7_ends_126 : decode cX7_ends 126 = .ok (.goto 20, 3) := by decide +kernel
theorem dX7_ends_129 : decode cX7_ends 129 = .ok (.aload_n 0, 1) := by decide +kernel
theorem dX7_ends_130 : decode cX7_ends 130 = .ok (.iconst 1, 1) := by decide +kernel
theorem dX7_ends_131 : decode cX7_ends 131 = .ok (.iload_n 1, 1) := by decide +kernel
theorem dX7_ends_132 : decode cX7_ends 132 = .ok (.isub, 1) := by decide +kernel
theorem dX7_ends_133 : decode cX7_ends 133 = .ok (.invokevirtual 71, 3) := by decide +kernel
theorem dX7_ends_136 : decode cX7_ends 136 = .ok (.ifCond .eq 9, 3) := by decide +kernel
theorem dX7_ends_139 : decode cX7_ends 139 = .ok (.iconst 2, 1) := by decide +kernel
theorem dX7_ends_140 : decode cX7_ends 140 = .ok (.iload_n 1, 1) := by decide +kernel
theorem dX7_ends_141 : decode cX7_ends 141 = .ok (.isub, 1) := by decide +kernel
theorem dX7_ends_142 : decode cX7_ends 142 = .ok (.goto 4, 3) := by decide +kernel
theorem dX7_ends_145 : decode cX7_ends 145 = .ok (.iconst 0, 1) := by decide +kernel
theorem dX7_ends_146 : decode cX7_ends 146 = .ok (.iastore, 1) := by decide +kernel
theorem dX7_ends_147 : decode cX7_ends 147 = .ok (.aload_n 0, 1) := by decide +kernel
theorem dX7_ends_148 : decode cX7_ends 148 = .ok (.getfield 7, 3) := by decide +kernel
theorem dX7_ends_151 : decode cX7_ends 151 = .ok (.iconst 1, 1) := by decide +kernel
theorem dX7_ends_152 : decode cX7_ends 152 = .ok (.aload_n 0, 1) := by decide +kernel
theorem dX7_ends_153 : decode cX7_ends 153 = .ok (.getfield 7, 3) := by decide +kernel
theorem dX7_ends_156 : decode cX7_ends 156 = .ok (.iconst 3, 1) := by decide +kernel
theorem dX7_ends_157 : decode cX7_ends 157 = .ok (.iaload, 1) := by decide +kernel
theorem dX7_ends_158 : decode cX7_ends 158 = .ok (.ifCond .ne 9, 3) := by decide +kernel
theorem dX7_ends_161 : decode cX7_ends 161 = .ok (.iconst 1, 1) := by decide +kernel
theorem dX7_ends_162 : decode cX7_ends 162 = .ok (.iload_n 1, 1) := by decide +kernel
theorem dX7_ends_163 : decode cX7_ends 163 = .ok (.isub, 1) := by decide +kernel
theorem dX7_ends_164 : decode cX7_ends 164 = .ok (.goto 4, 3) := by decide +kernel
theorem dX7_ends_167 : decode cX7_ends 167 = .ok (.iload_n 1, 1) := by decide +kernel
theorem dX7_ends_168 : decode cX7_ends 168 = .ok (.iastore, 1) := by decide +kernel
theorem dX7_ends_169 : decode cX7_ends 169 = .ok (.iload_n 2, 1) := by decide +kernel
theorem dX7_ends_170 : decode cX7_ends 170 = .ok (.ireturn, 1) := by decide +kernel
theorem dX7_isRefused_0 : decode cX7_isRefused 0 = .ok (.aload_n 0, 1) := by decide +kernel
theorem dX7_isRefused_1 : decode cX7_isRefused 1 = .ok (.getfield 7, 3) := by decide +kernel
theorem dX7_isRefused_4 : decode cX7_isRefused 4 = .ok (.bipush 8, 2) := by decide +kernel
theorem dX7_isRefused_6 : decode cX7_isRefused 6 = .ok (.dup2, 1) := by decide +kernel
theorem dX7_isRefused_7 : decode cX7_isRefused 7 = .ok (.iaload, 1) := by decide +kernel
theorem dX7_isRefused_8 : decode cX7_isRefused 8 = .ok (.aload_n 0, 1) := by decide +kernel
theorem dX7_isRefused_9 : decode cX7_isRefused 9 = .ok (.getfield 7, 3) := by decide +kernel
theorem dX7_isRefused_12 : decode cX7_isRefused 12 = .ok (.iconst 3, 1) := by decide +kernel
theorem dX7_isRefused_13 : decode cX7_isRefused 13 = .ok (.iaload, 1) := by decide +kernel
theorem dX7_isRefused_14 : decode cX7_isRefused 14 = .ok (.ifCond .le 7, 3) := by decide +kernel
theorem dX7_isRefused_17 : decode cX7_isRefused 17 = .ok (.iconst 1, 1) := by decide +kernel
theorem dX7_isRefused_18 : decode cX7_isRefused 18 = .ok (.goto 4, 3) := by decide +kernel
theorem dX7_isRefused_21 : decode cX7_isRefused 21 = .ok (.iconst 0, 1) := by decide +kernel
theorem dX7_isRefused_22 : decode cX7_isRefused 22 = .ok (.iadd, 1) := by decide +kernel
theorem dX7_isRefused_23 : decode cX7_isRefused 23 = .ok (.iastore, 1) := by decide +kernel
theorem dX7_isRefused_24 : decode cX7_isRefused 24 = .ok (.aload_n 0, 1) := by decide +kernel
theorem dX7_isRefused_25 : decode cX7_isRefused 25 = .ok (.getfield 7, 3) := by decide +kernel
theorem dX7_isRefused_28 : decode cX7_isRefused 28 = .ok (.iconst 3, 1) := by decide +kernel
theorem dX7_isRefused_29 : decode cX7_isRefused 29 = .ok (.iaload, 1) := by decide +kernel
theorem dX7_isRefused_30 : decode cX7_isRefused 30 = .ok (.ifCond .le 7, 3) := by decide +kernel
theorem dX7_isRefused_33 : decode cX7_isRefused 33 = .ok (.iconst 1, 1) := by decide +kernel
theorem dX7_isRefused_34 : decode cX7_isRefused 34 = .ok (.goto 4, 3) := by decide +kernel
theorem dX7_isRefused_37 : decode cX7_isRefused 37 = .ok (.iconst 0, 1) := by decide +kernel
theorem dX7_isRefused_38 : decode cX7_isRefused 38 = .ok (.ireturn, 1) := by decide +kernel
theorem dX7_push_0 : decode cX7_push 0 = .ok (.aload_n 0, 1) := by decide +kernel
theorem dX7_push_1 : decode cX7_push 1 = .ok (.iload_n 1, 1) := by decide +kernel
theorem dX7_push_2 : decode cX7_push 2 = .ok (.invokestatic 75, 3) := by decide +kernel
theorem dX7_push_5 : decode cX7_push 5 = .ok (.iload_n 2, 1) := by decide +kernel
theorem dX7_push_6 : decode cX7_push 6 = .ok (.invokestatic 78, 3) := by decide +kernel
theorem dX7_push_9 : decode cX7_push 9 = .ok (.invokevirtual 81, 3) := by decide +kernel
theorem dX7_push_12 : decode cX7_push 12 = .ok (.ifCond .ne 5, 3) := by decide +kernel
theorem dX7_push_15 : decode cX7_push 15 = .ok (.iconst 0, 1) := by decide +kernel
theorem dX7_push_16 : decode cX7_push 16 = .ok (.ireturn, 1) := by decide +kernel
theorem dX7_push_17 : decode cX7_push 17 = .ok (.aload_n 0, 1) := by decide +kernel
theorem dX7_push_18 : decode cX7_push 18 = .ok (.invokevirtual 85, 3) := by decide +kernel
theorem dX7_push_21 : decode cX7_push 21 = .ok (.aload_n 0, 1) := by decide +kernel
theorem dX7_push_22 : decode cX7_push 22 = .ok (.invokevirtual 88, 3) := by decide +kernel
theorem dX7_push_25 : decode cX7_push 25 = .ok (.ifCond .eq 5, 3) := by decide +kernel
theorem dX7_push_28 : decode cX7_push 28 = .ok (.iconst (-1), 1) := by decide +kernel
theorem dX7_push_29 : decode cX7_push 29 = .ok (.ireturn, 1) := by decide +kernel
theorem dX7_push_30 : decode cX7_push 30 = .ok (.aload_n 0, 1) := by decide +kernel
theorem dX7_push_31 : decode cX7_push 31 = .ok (.iconst 0, 1) := by decide +kernel
theorem dX7_push_32 : decode cX7_push 32 = .ok (.iload_n 1, 1) := by decide +kernel
theorem dX7_push_33 : decode cX7_push 33 = .ok (.iload_n 2, 1) := by decide +kernel
theorem dX7_push_34 : decode cX7_push 34 = .ok (.invokevirtual 92, 3) := by decide +kernel
theorem dX7_push_37 : decode cX7_push 37 = .ok (.istore_n 3, 1) := by decide +kernel
theorem dX7_push_38 : decode cX7_push 38 = .ok (.aload_n 0, 1) := by decide +kernel
theorem dX7_push_39 : decode cX7_push 39 = .ok (.getfield 7, 3) := by decide +kernel
theorem dX7_push_42 : decode cX7_push 42 = .ok (.iconst 2, 1) := by decide +kernel
theorem dX7_push_43 : decode cX7_push 43 = .ok (.dup2, 1) := by decide +kernel
theorem dX7_push_44 : decode cX7_push 44 = .ok (.iaload, 1) := by decide +kernel
theorem dX7_push_45 : decode cX7_push 45 = .ok (.iconst 1, 1) := by decide +kernel
theorem dX7_push_46 : decode cX7_push 46 = .ok (.iadd, 1) := by decide +kernel
theorem dX7_push_47 : decode cX7_push 47 = .ok (.iastore, 1) := by decide +kernel
theorem dX7_push_48 : decode cX7_push 48 = .ok (.aload_n 0, 1) := by decide +kernel
theorem dX7_push_49 : decode cX7_push 49 = .ok (.getfield 7, 3) := by decide +kernel
theorem dX7_push_52 : decode cX7_push 52 = .ok (.iconst 2, 1) := by decide +kernel
theorem dX7_push_53 : decode cX7_push 53 = .ok (.iaload, 1) := by decide +kernel
theorem dX7_push_54 : decode cX7_push 54 = .ok (.iconst 5, 1) := by decide +kernel
theorem dX7_push_55 : decode cX7_push 55 = .ok (.if_icmp .ne 9, 3) := by decide +kernel
theorem dX7_push_58 : decode cX7_push 58 = .ok (.aload_n 0, 1) := by decide +kernel
theorem dX7_push_59 : decode cX7_push 59 = .ok (.invokevirtual 95, 3) := by decide +kernel
theorem dX7_push_62 : decode cX7_push 62 = .ok (.istore 4, 2) := by decide +kernel
theorem dX7_push_64 : decode cX7_push 64 = .ok (.iload_n 3, 1) := by decide +kernel
theorem dX7_push_65 : decode cX7_push 65 = .ok (.ireturn, 1) := by decide +kernel
theorem dX7_endTurn_0 : decode cX7_endTurn 0 = .ok (.aload_n 0, 1) := by decide +kernel
theorem dX7_endTurn_1 : decode cX7_endTurn 1 = .ok (.iconst 0, 1) := by decide +kernel
theorem dX7_endTurn_2 : decode cX7_endTurn 2 = .ok (.putfield 21, 3) := by decide +kernel
theorem dX7_endTurn_5 : decode cX7_endTurn 5 = .ok (.aload_n 0, 1) := by decide +kernel
theorem dX7_endTurn_6 : decode cX7_endTurn 6 = .ok (.invokevirtual 85, 3) := by decide +kernel
theorem dX7_endTurn_9 : decode cX7_endTurn 9 = .ok (.aload_n 0, 1) := by decide +kernel
theorem dX7_endTurn_10 : decode cX7_endTurn 10 = .ok (.invokevirtual 88, 3) := by decide +kernel
theorem dX7_endTurn_13 : decode cX7_endTurn 13 = .ok (.ifCond .eq 7, 3) := by decide +kernel
theorem dX7_endTurn_16 : decode cX7_endTurn 16 = .ok (.iconst (-1), 1) := by decide +kernel
theorem dX7_endTurn_17 : decode cX7_endTurn 17 = .ok (.goto 7, 3) := by decide +kernel
theorem dX7_endTurn_20 : decode cX7_endTurn 20 = .ok (.aload_n 0, 1) := by decide +kernel
theorem dX7_endTurn_21 : decode cX7_endTurn 21 = .ok (.invokevirtual 95, 3) := by decide +kernel
theorem dX7_endTurn_24 : decode cX7_endTurn 24 = .ok (.ireturn, 1) := by decide +kernel
theorem dX7_chalksOf_0 : decode cX7_chalksOf 0 = .ok (.iconst 0, 1) := by decide +kernel
theorem dX7_chalksOf_1 : decode cX7_chalksOf 1 = .ok (.istore_n 2, 1) := by decide +kernel
theorem dX7_chalksOf_2 : decode cX7_chalksOf 2 = .ok (.iconst 0, 1) := by decide +kernel
theorem dX7_chalksOf_3 : decode cX7_chalksOf 3 = .ok (.istore_n 3, 1) := by decide +kernel
theorem dX7_chalksOf_4 : decode cX7_chalksOf 4 = .ok (.iload_n 3, 1) := by decide +kernel
theorem dX7_chalksOf_5 : decode cX7_chalksOf 5 = .ok (.bipush 9, 2) := by decide +kernel
theorem dX7_chalksOf_7 : decode cX7_chalksOf 7 = .ok (.if_icmp .ge 19, 3) := by decide +kernel
theorem dX7_chalksOf_10 : decode cX7_chalksOf 10 = .ok (.iload_n 2, 1) := by decide +kernel
theorem dX7_chalksOf_11 : decode cX7_chalksOf 11 = .ok (.aload_n 0, 1) := by decide +kernel
theorem dX7_chalksOf_12 : decode cX7_chalksOf 12 = .ok (.iconst 0, 1) := by decide +kernel
theorem dX7_chalksOf_13 : decode cX7_chalksOf 13 = .ok (.iload_n 1, 1) := by decide +kernel
theorem dX7_chalksOf_14 : decode cX7_chalksOf 14 = .ok (.iload_n 3, 1) := by decide +kernel
theorem dX7_chalksOf_15 : decode cX7_chalksOf 15 = .ok (.invokevirtual 58, 3) := by decide +kernel
theorem dX7_chalksOf_18 : decode cX7_chalksOf 18 = .ok (.iadd, 1) := by decide +kernel
theorem dX7_chalksOf_19 : decode cX7_chalksOf 19 = .ok (.istore_n 2, 1) := by decide +kernel
theorem dX7_chalksOf_20 : decode cX7_chalksOf 20 = .ok (.iinc 3 1, 3) := by decide +kernel
theorem dX7_chalksOf_23 : decode cX7_chalksOf 23 = .ok (.goto (-19), 3) := by decide +kernel
theorem dX7_chalksOf_26 : decode cX7_chalksOf 26 = .ok (.iload_n 2, 1) := by decide +kernel
theorem dX7_chalksOf_27 : decode cX7_chalksOf 27 = .ok (.ireturn, 1) := by decide +kernel
theorem dX7_begin_0 : decode cX7_begin 0 = .ok (.aload_n 0, 1) := by decide +kernel
theorem dX7_begin_1 : decode cX7_begin 1 = .ok (.iconst 0, 1) := by decide +kernel
theorem dX7_begin_2 : decode cX7_begin 2 = .ok (.putfield 21, 3) := by decide +kernel
theorem dX7_begin_5 : decode cX7_begin 5 = .ok (.aload_n 0, 1) := by decide +kernel
theorem dX7_begin_6 : decode cX7_begin 6 = .ok (.invokevirtual 85, 3) := by decide +kernel
theorem dX7_begin_9 : decode cX7_begin 9 = .ok (.aload_n 0, 1) := by decide +kernel
theorem dX7_begin_10 : decode cX7_begin 10 = .ok (.iconst 0, 1) := by decide +kernel
theorem dX7_begin_11 : decode cX7_begin 11 = .ok (.invokevirtual 99, 3) := by decide +kernel
theorem dX7_begin_14 : decode cX7_begin 14 = .ok (.aload_n 0, 1) := by decide +kernel
theorem dX7_begin_15 : decode cX7_begin 15 = .ok (.iconst 1, 1) := by decide +kernel
theorem dX7_begin_16 : decode cX7_begin 16 = .ok (.invokevirtual 99, 3) := by decide +kernel
theorem dX7_begin_19 : decode cX7_begin 19 = .ok (.iadd, 1) := by decide +kernel
theorem dX7_begin_20 : decode cX7_begin 20 = .ok (.istore_n 1, 1) := by decide +kernel
theorem dX7_begin_21 : decode cX7_begin 21 = .ok (.aload_n 0, 1) := by decide +kernel
theorem dX7_begin_22 : decode cX7_begin 22 = .ok (.invokevirtual 68, 3) := by decide +kernel
theorem dX7_begin_25 : decode cX7_begin 25 = .ok (.iconst 0, 1) := by decide +kernel
theorem dX7_begin_26 : decode cX7_begin 26 = .ok (.istore_n 2, 1) := by decide +kernel
theorem dX7_begin_27 : decode cX7_begin 27 = .ok (.iload_n 2, 1) := by decide +kernel
theorem dX7_begin_28 : decode cX7_begin 28 = .ok (.bipush 18, 2) := by decide +kernel
theorem dX7_begin_30 : decode cX7_begin 30 = .ok (.if_icmp .ge 19, 3) := by decide +kernel
theorem dX7_begin_33 : decode cX7_begin 33 = .ok (.aload_n 0, 1) := by decide +kernel
theorem dX7_begin_34 : decode cX7_begin 34 = .ok (.getfield 7, 3) := by decide +kernel
theorem dX7_begin_37 : decode cX7_begin 37 = .ok (.bipush 9, 2) := by decide +kernel
theorem dX7_begin_39 : decode cX7_begin 39 = .ok (.iload_n 2, 1) := by decide +kernel
theorem dX7_begin_40 : decode cX7_begin 40 = .ok (.iadd, 1) := by decide +kernel
theorem dX7_begin_41 : decode cX7_begin 41 = .ok (.iconst 0, 1) := by decide +kernel
theorem dX7_begin_42 : decode cX7_begin 42 = .ok (.iastore, 1) := by decide +kernel
theorem dX7_begin_43 : decode cX7_begin 43 = .ok (.iinc 2 1, 3) := by decide +kernel
theorem dX7_begin_46 : decode cX7_begin 46 = .ok (.goto (-19), 3) := by decide +kernel
theorem dX7_begin_49 : decode cX7_begin 49 = .ok (.aload_n 0, 1) := by decide +kernel
theorem dX7_begin_50 : decode cX7_begin 50 = .ok (.getfield 7, 3) := by decide +kernel
theorem dX7_begin_53 : decode cX7_begin 53 = .ok (.iconst 1, 1) := by decide +kernel
theorem dX7_begin_54 : decode cX7_begin 54 = .ok (.iconst 0, 1) := by decide +kernel
theorem dX7_begin_55 : decode cX7_begin 55 = .ok (.iastore, 1) := by decide +kernel
theorem dX7_begin_56 : decode cX7_begin 56 = .ok (.aload_n 0, 1) := by decide +kernel
theorem dX7_begin_57 : decode cX7_begin 57 = .ok (.getfield 7, 3) := by decide +kernel
theorem dX7_begin_60 : decode cX7_begin 60 = .ok (.iconst 2, 1) := by decide +kernel
theorem dX7_begin_61 : decode cX7_begin 61 = .ok (.iconst 0, 1) := by decide +kernel
theorem dX7_begin_62 : decode cX7_begin 62 = .ok (.iastore, 1) := by decide +kernel
theorem dX7_begin_63 : decode cX7_begin 63 = .ok (.aload_n 0, 1) := by decide +kernel
theorem dX7_begin_64 : decode cX7_begin 64 = .ok (.getfield 7, 3) := by decide +kernel
theorem dX7_begin_67 : decode cX7_begin 67 = .ok (.iconst 3, 1) := by decide +kernel
theorem dX7_begin_68 : decode cX7_begin 68 = .ok (.iconst 0, 1) := by decide +kernel
theorem dX7_begin_69 : decode cX7_begin 69 = .ok (.iastore, 1) := by decide +kernel
theorem dX7_begin_70 : decode cX7_begin 70 = .ok (.aload_n 0, 1) := by decide +kernel
theorem dX7_begin_71 : decode cX7_begin 71 = .ok (.getfield 7, 3) := by decide +kernel
theorem dX7_begin_74 : decode cX7_begin 74 = .ok (.iconst 4, 1) := by decide +kernel
theorem dX7_begin_75 : decode cX7_begin 75 = .ok (.iconst 0, 1) := by decide +kernel
theorem dX7_begin_76 : decode cX7_begin 76 = .ok (.iastore, 1) := by decide +kernel
theorem dX7_begin_77 : decode cX7_begin 77 = .ok (.iload_n 1, 1) := by decide +kernel
theorem dX7_begin_78 : decode cX7_begin 78 = .ok (.ireturn, 1) := by decide +kernel
theorem dX7_set_0 : decode cX7_set 0 = .ok (.aload_n 0, 1) := by decide +kernel
theorem dX7_set_1 : decode cX7_set 1 = .ok (.iload_n 1, 1) := by decide +kernel
theorem dX7_set_2 : decode cX7_set 2 = .ok (.iconst 0, 1) := by decide +kernel
theorem dX7_set_3 : decode cX7_set 3 = .ok (.bipush 20, 2) := by decide +kernel
theorem dX7_set_5 : decode cX7_set 5 = .ok (.invokestatic 32, 3) := by decide +kernel
theorem dX7_set_8 : decode cX7_set 8 = .ok (.iconst 1, 1) := by decide +kernel
theorem dX7_set_9 : decode cX7_set 9 = .ok (.invokevirtual 81, 3) := by decide +kernel
theorem dX7_set_12 : decode cX7_set 12 = .ok (.ifCond .ne 5, 3) := by decide +kernel
theorem dX7_set_15 : decode cX7_set 15 = .ok (.iconst 0, 1) := by decide +kernel
theorem dX7_set_16 : decode cX7_set 16 = .ok (.ireturn, 1) := by decide +kernel
theorem dX7_set_17 : decode cX7_set 17 = .ok (.aload_n 0, 1) := by decide +kernel
theorem dX7_set_18 : decode cX7_set 18 = .ok (.invokevirtual 85, 3) := by decide +kernel
theorem dX7_set_21 : decode cX7_set 21 = .ok (.aload_n 0, 1) := by decide +kernel
theorem dX7_set_22 : decode cX7_set 22 = .ok (.getfield 7, 3) := by decide +kernel
theorem dX7_set_25 : decode cX7_set 25 = .ok (.iconst 0, 1) := by decide +kernel
theorem dX7_set_26 : decode cX7_set 26 = .ok (.iaload, 1) := by decide +kernel
theorem dX7_set_27 : decode cX7_set 27 = .ok (.istore_n 2, 1) := by decide +kernel
theorem dX7_set_28 : decode cX7_set 28 = .ok (.aload_n 0, 1) := by decide +kernel
theorem dX7_set_29 : decode cX7_set 29 = .ok (.getfield 7, 3) := by decide +kernel
theorem dX7_set_32 : decode cX7_set 32 = .ok (.iconst 0, 1) := by decide +kernel
theorem dX7_set_33 : decode cX7_set 33 = .ok (.iload_n 1, 1) := by decide +kernel
theorem dX7_set_34 : decode cX7_set 34 = .ok (.iastore, 1) := by decide +kernel
theorem dX7_set_35 : decode cX7_set 35 = .ok (.iload_n 2, 1) := by decide +kernel
theorem dX7_set_36 : decode cX7_set 36 = .ok (.ireturn, 1) := by decide +kernel
theorem dX7_append_0 : decode cX7_append 0 = .ok (.aload_n 0, 1) := by decide +kernel
theorem dX7_append_1 : decode cX7_append 1 = .ok (.iload_n 1, 1) := by decide +kernel
theorem dX7_append_2 : decode cX7_append 2 = .ok (.bipush 33, 2) := by decide +kernel
theorem dX7_append_4 : decode cX7_append 4 = .ok (.bipush 126, 2) := by decide +kernel
theorem dX7_append_6 : decode cX7_append 6 = .ok (.invokestatic 32, 3) := by decide +kernel
theorem dX7_append_9 : decode cX7_append 9 = .ok (.aload_n 0, 1) := by decide +kernel
theorem dX7_append_10 : decode cX7_append 10 = .ok (.getfield 103, 3) := by decide +kernel
theorem dX7_append_13 : decode cX7_append 13 = .ok (.bipush 60, 2) := by decide +kernel
theorem dX7_append_15 : decode cX7_append 15 = .ok (.if_icmp .ge 7, 3) := by decide +kernel
theorem dX7_append_18 : decode cX7_append 18 = .ok (.iconst 1, 1) := by decide +kernel
theorem dX7_append_19 : decode cX7_append 19 = .ok (.goto 4, 3) := by decide +kernel
theorem dX7_append_22 : decode cX7_append 22 = .ok (.iconst 0, 1) := by decide +kernel
theorem dX7_append_23 : decode cX7_append 23 = .ok (.invokevirtual 81, 3) := by decide +kernel
theorem dX7_append_26 : decode cX7_append 26 = .ok (.ifCond .ne 5, 3) := by decide +kernel
theorem dX7_append_29 : decode cX7_append 29 = .ok (.iconst 0, 1) := by decide +kernel
theorem dX7_append_30 : decode cX7_append 30 = .ok (.ireturn, 1) := by decide +kernel
theorem dX7_append_31 : decode cX7_append 31 = .ok (.aload_n 0, 1) := by decide +kernel
theorem dX7_append_32 : decode cX7_append 32 = .ok (.getfield 17, 3) := by decide +kernel
theorem dX7_append_35 : decode cX7_append 35 = .ok (.aload_n 0, 1) := by decide +kernel
theorem dX7_append_36 : decode cX7_append 36 = .ok (.getfield 103, 3) := by decide +kernel
theorem dX7_append_39 : decode cX7_append 39 = .ok (.iload_n 1, 1) := by decide +kernel
theorem dX7_append_40 : decode cX7_append 40 = .ok (.i2c, 1) := by decide +kernel
theorem dX7_append_41 : decode cX7_append 41 = .ok (.castore, 1) := by decide +kernel
theorem dX7_append_42 : decode cX7_append 42 = .ok (.aload_n 0, 1) := by decide +kernel
theorem dX7_append_43 : decode cX7_append 43 = .ok (.dup, 1) := by decide +kernel
theorem dX7_append_44 : decode cX7_append 44 = .ok (.getfield 103, 3) := by decide +kernel
theorem dX7_append_47 : decode cX7_append 47 = .ok (.iconst 1, 1) := by decide +kernel
theorem dX7_append_48 : decode cX7_append 48 = .ok (.iadd, 1) := by decide +kernel
theorem dX7_append_49 : decode cX7_append 49 = .ok (.putfield 103, 3) := by decide +kernel
theorem dX7_append_52 : decode cX7_append 52 = .ok (.aload_n 0, 1) := by decide +kernel
theorem dX7_append_53 : decode cX7_append 53 = .ok (.getfield 103, 3) := by decide +kernel
theorem dX7_append_56 : decode cX7_append 56 = .ok (.ireturn, 1) := by decide +kernel
theorem dX7_clearBuffer_0 : decode cX7_clearBuffer 0 = .ok (.aload_n 0, 1) := by decide +kernel
theorem dX7_clearBuffer_1 : decode cX7_clearBuffer 1 = .ok (.iconst 0, 1) := by decide +kernel
theorem dX7_clearBuffer_2 : decode cX7_clearBuffer 2 = .ok (.putfield 21, 3) := by decide +kernel
theorem dX7_clearBuffer_5 : decode cX7_clearBuffer 5 = .ok (.aload_n 0, 1) := by decide +kernel
theorem dX7_clearBuffer_6 : decode cX7_clearBuffer 6 = .ok (.getfield 103, 3) := by decide +kernel
theorem dX7_clearBuffer_9 : decode cX7_clearBuffer 9 = .ok (.istore_n 1, 1) := by decide +kernel
theorem dX7_clearBuffer_10 : decode cX7_clearBuffer 10 = .ok (.aload_n 0, 1) := by decide +kernel
theorem dX7_clearBuffer_11 : decode cX7_clearBuffer 11 = .ok (.iconst 0, 1) := by decide +kernel
theorem dX7_clearBuffer_12 : decode cX7_clearBuffer 12 = .ok (.putfield 103, 3) := by decide +kernel
theorem dX7_clearBuffer_15 : decode cX7_clearBuffer 15 = .ok (.iload_n 1, 1) := by decide +kernel
theorem dX7_clearBuffer_16 : decode cX7_clearBuffer 16 = .ok (.ireturn, 1) := by decide +kernel
theorem dX7_isHere_0 : decode cX7_isHere 0 = .ok (.aload_n 0, 1) := by decide +kernel
theorem dX7_isHere_1 : decode cX7_isHere 1 = .ok (.getfield 106, 3) := by decide +kernel
theorem dX7_isHere_4 : decode cX7_isHere 4 = .ok (.aload_n 0, 1) := by decide +kernel
theorem dX7_isHere_5 : decode cX7_isHere 5 = .ok (.getfield 103, 3) := by decide +kernel
theorem dX7_isHere_8 : decode cX7_isHere 8 = .ok (.if_icmp .ge 24, 3) := by decide +kernel
theorem dX7_isHere_11 : decode cX7_isHere 11 = .ok (.aload_n 0, 1) := by decide +kernel
theorem dX7_isHere_12 : decode cX7_isHere 12 = .ok (.getfield 17, 3) := by decide +kernel
theorem dX7_isHere_15 : decode cX7_isHere 15 = .ok (.aload_n 0, 1) := by decide +kernel
theorem dX7_isHere_16 : decode cX7_isHere 16 = .ok (.getfield 106, 3) := by decide +kernel
theorem dX7_isHere_19 : decode cX7_isHere 19 = .ok (.caload, 1) := by decide +kernel
theorem dX7_isHere_20 : decode cX7_isHere 20 = .ok (.iload_n 1, 1) := by decide +kernel
theorem dX7_isHere_21 : decode cX7_isHere 21 = .ok (.iload_n 2, 1) := by decide +kernel
theorem dX7_isHere_22 : decode cX7_isHere 22 = .ok (.invokestatic 32, 3) := by decide +kernel
theorem dX7_isHere_25 : decode cX7_isHere 25 = .ok (.ifCond .eq 7, 3) := by decide +kernel
theorem dX7_isHere_28 : decode cX7_isHere 28 = .ok (.iconst 1, 1) := by decide +kernel
theorem dX7_isHere_29 : decode cX7_isHere 29 = .ok (.goto 4, 3) := by decide +kernel
theorem dX7_isHere_32 : decode cX7_isHere 32 = .ok (.iconst 0, 1) := by decide +kernel
theorem dX7_isHere_33 : decode cX7_isHere 33 = .ok (.ireturn, 1) := by decide +kernel
theorem dX7_takes_0 : decode cX7_takes 0 = .ok (.aload_n 0, 1) := by decide +kernel
theorem dX7_takes_1 : decode cX7_takes 1 = .ok (.iload_n 1, 1) := by decide +kernel
theorem dX7_takes_2 : decode cX7_takes 2 = .ok (.iload_n 1, 1) := by decide +kernel
theorem dX7_takes_3 : decode cX7_takes 3 = .ok (.invokevirtual 109, 3) := by decide +kernel
theorem dX7_takes_6 : decode cX7_takes 6 = .ok (.istore_n 2, 1) := by decide +kernel
theorem dX7_takes_7 : decode cX7_takes 7 = .ok (.aload_n 0, 1) := by decide +kernel
theorem dX7_takes_8 : decode cX7_takes 8 = .ok (.dup, 1) := by decide +kernel
theorem dX7_takes_9 : decode cX7_takes 9 = .ok (.getfield 106, 3) := by decide +kernel
theorem dX7_takes_12 : decode cX7_takes 12 = .ok (.iload_n 2, 1) := by decide +kernel
theorem dX7_takes_13 : decode cX7_takes 13 = .ok (.ifCond .eq 7, 3) := by decide +kernel
theorem dX7_takes_16 : decode cX7_takes 16 = .ok (.iconst 1, 1) := by decide +kernel
theorem dX7_takes_17 : decode cX7_takes 17 = .ok (.goto 4, 3) := by decide +kernel
theorem dX7_takes_20 : decode cX7_takes 20 = .ok (.iconst 0, 1) := by decide +kernel
theorem dX7_takes_21 : decode cX7_takes 21 = .ok (.iadd, 1) := by decide +kernel
theorem dX7_takes_22 : decode cX7_takes 22 = .ok (.putfield 106, 3) := by decide +kernel
theorem dX7_takes_25 : decode cX7_takes 25 = .ok (.iload_n 2, 1) := by decide +kernel
theorem dX7_takes_26 : decode cX7_takes 26 = .ok (.ireturn, 1) := by decide +kernel
theorem dX7_readsCoin_0 : decode cX7_readsCoin 0 = .ok (.aload_n 0, 1) := by decide +kernel
theorem dX7_readsCoin_1 : decode cX7_readsCoin 1 = .ok (.bipush 48, 2) := by decide +kernel
theorem dX7_readsCoin_3 : decode cX7_readsCoin 3 = .ok (.bipush 50, 2) := by decide +kernel
theorem dX7_readsCoin_5 : decode cX7_readsCoin 5 = .ok (.invokevirtual 109, 3) := by decide +kernel
theorem dX7_readsCoin_8 : decode cX7_readsCoin 8 = .ok (.ifCond .ne 5, 3) := by decide +kernel
theorem dX7_readsCoin_11 : decode cX7_readsCoin 11 = .ok (.iconst 0, 1) := by decide +kernel
theorem dX7_readsCoin_12 : decode cX7_readsCoin 12 = .ok (.ireturn, 1) := by decide +kernel
theorem dX7_readsCoin_13 : decode cX7_readsCoin 13 = .ok (.aload_n 0, 1) := by decide +kernel
theorem dX7_readsCoin_14 : decode cX7_readsCoin 14 = .ok (.aload_n 0, 1) := by decide +kernel
theorem dX7_readsCoin_15 : decode cX7_readsCoin 15 = .ok (.getfield 17, 3) := by decide +kernel
theorem dX7_readsCoin_18 : decode cX7_readsCoin 18 = .ok (.aload_n 0, 1) := by decide +kernel
theorem dX7_readsCoin_19 : decode cX7_readsCoin 19 = .ok (.getfield 106, 3) := by decide +kernel
theorem dX7_readsCoin_22 : decode cX7_readsCoin 22 = .ok (.caload, 1) := by decide +kernel
theorem dX7_readsCoin_23 : decode cX7_readsCoin 23 = .ok (.bipush 48, 2) := by decide +kernel
theorem dX7_readsCoin_25 : decode cX7_readsCoin 25 = .ok (.isub, 1) := by decide +kernel
theorem dX7_readsCoin_26 : decode cX7_readsCoin 26 = .ok (.putfield 113, 3) := by decide +kernel
theorem dX7_readsCoin_29 : decode cX7_readsCoin 29 = .ok (.aload_n 0, 1) := by decide +kernel
theorem dX7_readsCoin_30 : decode cX7_readsCoin 30 = .ok (.dup, 1) := by decide +kernel
theorem dX7_readsCoin_31 : decode cX7_readsCoin 31 = .ok (.getfield 106, 3) := by decide +kernel
theorem dX7_readsCoin_34 : decode cX7_readsCoin 34 = .ok (.iconst 1, 1) := by decide +kernel
theorem dX7_readsCoin_35 : decode cX7_readsCoin 35 = .ok (.iadd, 1) := by decide +kernel
theorem dX7_readsCoin_36 : decode cX7_readsCoin 36 = .ok (.putfield 106, 3) := by decide +kernel
theorem dX7_readsCoin_39 : decode cX7_readsCoin 39 = .ok (.aload_n 0, 1) := by decide +kernel
theorem dX7_readsCoin_40 : decode cX7_readsCoin 40 = .ok (.bipush 58, 2) := by decide +kernel
theorem dX7_readsCoin_42 : decode cX7_readsCoin 42 = .ok (.invokevirtual 116, 3) := by decide +kernel
theorem dX7_readsCoin_45 : decode cX7_readsCoin 45 = .ok (.ifCond .eq 14, 3) := by decide +kernel
theorem dX7_readsCoin_48 : decode cX7_readsCoin 48 = .ok (.aload_n 0, 1) := by decide +kernel
theorem dX7_readsCoin_49 : decode cX7_readsCoin 49 = .ok (.bipush 48, 2) := by decide +kernel
theorem dX7_readsCoin_51 : decode cX7_readsCoin 51 = .ok (.bipush 57, 2) := by decide +kernel
theorem dX7_readsCoin_53 : decode cX7_readsCoin 53 = .ok (.invokevirtual 109, 3) := by decide +kernel
theorem dX7_readsCoin_56 : decode cX7_readsCoin 56 = .ok (.ifCond .ne 5, 3) := by decide +kernel
theorem dX7_readsCoin_59 : decode cX7_readsCoin 59 = .ok (.iconst 0, 1) := by decide +kernel
theorem dX7_readsCoin_60 : decode cX7_readsCoin 60 = .ok (.ireturn, 1) := by decide +kernel
theorem dX7_readsCoin_61 : decode cX7_readsCoin 61 = .ok (.aload_n 0, 1) := by decide +kernel
theorem dX7_readsCoin_62 : decode cX7_readsCoin 62 = .ok (.aload_n 0, 1) := by decide +kernel
theorem dX7_readsCoin_63 : decode cX7_readsCoin 63 = .ok (.getfield 17, 3) := by decide +kernel
theorem dX7_readsCoin_66 : decode cX7_readsCoin 66 = .ok (.aload_n 0, 1) := by decide +kernel
theorem dX7_readsCoin_67 : decode cX7_readsCoin 67 = .ok (.getfield 106, 3) := by decide +kernel
theorem dX7_readsCoin_70 : decode cX7_readsCoin 70 = .ok (.caload, 1) := by decide +kernel
theorem dX7_readsCoin_71 : decode cX7_readsCoin 71 = .ok (.bipush 48, 2) := by decide +kernel
theorem dX7_readsCoin_73 : decode cX7_readsCoin 73 = .ok (.isub, 1) := by decide +kernel
theorem dX7_readsCoin_74 : decode cX7_readsCoin 74 = .ok (.putfield 120, 3) := by decide +kernel
theorem dX7_readsCoin_77 : decode cX7_readsCoin 77 = .ok (.aload_n 0, 1) := by decide +kernel
theorem dX7_readsCoin_78 : decode cX7_readsCoin 78 = .ok (.dup, 1) := by decide +kernel
theorem dX7_readsCoin_79 : decode cX7_readsCoin 79 = .ok (.getfield 106, 3) := by decide +kernel
theorem dX7_readsCoin_82 : decode cX7_readsCoin 82 = .ok (.iconst 1, 1) := by decide +kernel
theorem dX7_readsCoin_83 : decode cX7_readsCoin 83 = .ok (.iadd, 1) := by decide +kernel
theorem dX7_readsCoin_84 : decode cX7_readsCoin 84 = .ok (.putfield 106, 3) := by decide +kernel
theorem dX7_readsCoin_87 : decode cX7_readsCoin 87 = .ok (.aload_n 0, 1) := by decide +kernel
theorem dX7_readsCoin_88 : decode cX7_readsCoin 88 = .ok (.getfield 120, 3) := by decide +kernel
theorem dX7_readsCoin_91 : decode cX7_readsCoin 91 = .ok (.ifCond .le 48, 3) := by decide +kernel
theorem dX7_readsCoin_94 : decode cX7_readsCoin 94 = .ok (.aload_n 0, 1) := by decide +kernel
theorem dX7_readsCoin_95 : decode cX7_readsCoin 95 = .ok (.bipush 48, 2) := by decide +kernel
theorem dX7_readsCoin_97 : decode cX7_readsCoin 97 = .ok (.bipush 57, 2) := by decide +kernel
theorem dX7_readsCoin_99 : decode cX7_readsCoin 99 = .ok (.invokevirtual 109, 3) := by decide +kernel
theorem dX7_readsCoin_102 : decode cX7_readsCoin 102 = .ok (.ifCond .eq 37, 3) := by decide +kernel
theorem dX7_readsCoin_105 : decode cX7_readsCoin 105 = .ok (.aload_n 0, 1) := by decide +kernel
theorem dX7_readsCoin_106 : decode cX7_readsCoin 106 = .ok (.bipush 10, 2) := by decide +kernel
theorem dX7_readsCoin_108 : decode cX7_readsCoin 108 = .ok (.aload_n 0, 1) := by decide +kernel
theorem dX7_readsCoin_109 : decode cX7_readsCoin 109 = .ok (.getfield 120, 3) := by decide +kernel
theorem dX7_readsCoin_112 : decode cX7_readsCoin 112 = .ok (.imul, 1) := by decide +kernel
theorem dX7_readsCoin_113 : decode cX7_readsCoin 113 = .ok (.aload_n 0, 1) := by decide +kernel
theorem dX7_readsCoin_114 : decode cX7_readsCoin 114 = .ok (.getfield 17, 3) := by decide +kernel
theorem dX7_readsCoin_117 : decode cX7_readsCoin 117 = .ok (.aload_n 0, 1) := by decide +kernel
theorem dX7_readsCoin_118 : decode cX7_readsCoin 118 = .ok (.getfield 106, 3) := by decide +kernel
theorem dX7_readsCoin_121 : decode cX7_readsCoin 121 = .ok (.caload, 1) := by decide +kernel
theorem dX7_readsCoin_122 : decode cX7_readsCoin 122 = .ok (.iadd, 1) := by decide +kernel
theorem dX7_readsCoin_123 : decode cX7_readsCoin 123 = .ok (.bipush 48, 2) := by decide +kernel
theorem dX7_readsCoin_125 : decode cX7_readsCoin 125 = .ok (.isub, 1) := by decide +kernel
theorem dX7_readsCoin_126 : decode cX7_readsCoin 126 = .ok (.putfield 120, 3) := by decide +kernel
theorem dX7_readsCoin_129 : decode cX7_readsCoin 129 = .ok (.aload_n 0, 1) := by decide +kernel
theorem dX7_readsCoin_130 : decode cX7_readsCoin 130 = .ok (.dup, 1) := by decide +kernel
theorem dX7_readsCoin_131 : decode cX7_readsCoin 131 = .ok (.getfield 106, 3) := by decide +kernel
theorem dX7_readsCoin_134 : decode cX7_readsCoin 134 = .ok (.iconst 1, 1) := by decide +kernel
theorem dX7_readsCoin_135 : decode cX7_readsCoin 135 = .ok (.iadd, 1) := by decide +kernel
theorem dX7_readsCoin_136 : decode cX7_readsCoin 136 = .ok (.putfield 106, 3) := by decide +kernel
theorem dX7_readsCoin_139 : decode cX7_readsCoin 139 = .ok (.iconst 1, 1) := by decide +kernel
theorem dX7_readsCoin_140 : decode cX7_readsCoin 140 = .ok (.ireturn, 1) := by decide +kernel
theorem dX7_error_0 : decode cX7_error 0 = .ok (.aload_n 0, 1) := by decide +kernel
theorem dX7_error_1 : decode cX7_error 1 = .ok (.iconst 0, 1) := by decide +kernel
theorem dX7_error_2 : decode cX7_error 2 = .ok (.putfield 106, 3) := by decide +kernel
theorem dX7_error_5 : decode cX7_error 5 = .ok (.aload_n 0, 1) := by decide +kernel
theorem dX7_error_6 : decode cX7_error 6 = .ok (.invokevirtual 123, 3) := by decide +kernel
theorem dX7_error_9 : decode cX7_error 9 = .ok (.ifCond .eq 30, 3) := by decide +kernel
theorem dX7_error_12 : decode cX7_error 12 = .ok (.aload_n 0, 1) := by decide +kernel
theorem dX7_error_13 : decode cX7_error 13 = .ok (.getfield 106, 3) := by decide +kernel
theorem dX7_error_16 : decode cX7_error 16 = .ok (.aload_n 0, 1) := by decide +kernel
theorem dX7_error_17 : decode cX7_error 17 = .ok (.getfield 103, 3) := by decide +kernel
theorem dX7_error_20 : decode cX7_error 20 = .ok (.if_icmp .ne 5, 3) := by decide +kernel
theorem dX7_error_23 : decode cX7_error 23 = .ok (.iconst (-1), 1) := by decide +kernel
theorem dX7_error_24 : decode cX7_error 24 = .ok (.ireturn, 1) := by decide +kernel
theorem dX7_error_25 : decode cX7_error 25 = .ok (.aload_n 0, 1) := by decide +kernel
theorem dX7_error_26 : decode cX7_error 26 = .ok (.bipush 59, 2) := by decide +kernel
theorem dX7_error_28 : decode cX7_error 28 = .ok (.invokevirtual 116, 3) := by decide +kernel
theorem dX7_error_31 : decode cX7_error 31 = .ok (.ifCond .ne (-26), 3) := by decide +kernel
theorem dX7_error_34 : decode cX7_error 34 = .ok (.aload_n 0, 1) := by decide +kernel
theorem dX7_error_35 : decode cX7_error 35 = .ok (.getfield 106, 3) := by decide +kernel
theorem dX7_error_38 : decode cX7_error 38 = .ok (.ireturn, 1) := by decide +kernel
theorem dX7_error_39 : decode cX7_error 39 = .ok (.aload_n 0, 1) := by decide +kernel
theorem dX7_error_40 : decode cX7_error 40 = .ok (.getfield 106, 3) := by decide +kernel
theorem dX7_error_43 : decode cX7_error 43 = .ok (.ireturn, 1) := by decide +kernel
theorem dX7_firstError_0 : decode cX7_firstError 0 = .ok (.aload_n 0, 1) := by decide +kernel
theorem dX7_firstError_1 : decode cX7_firstError 1 = .ok (.iconst 0, 1) := by decide +kernel
theorem dX7_firstError_2 : decode cX7_firstError 2 = .ok (.putfield 21, 3) := by decide +kernel
theorem dX7_firstError_5 : decode cX7_firstError 5 = .ok (.aload_n 0, 1) := by decide +kernel
theorem dX7_firstError_6 : decode cX7_firstError 6 = .ok (.invokevirtual 126, 3) := by decide +kernel
theorem dX7_firstError_9 : decode cX7_firstError 9 = .ok (.istore_n 1, 1) := by decide +kernel
theorem dX7_firstError_10 : decode cX7_firstError 10 = .ok (.iload_n 1, 1) := by decide +kernel
theorem dX7_firstError_11 : decode cX7_firstError 11 = .ok (.iconst (-1), 1) := by decide +kernel
theorem dX7_firstError_12 : decode cX7_firstError 12 = .ok (.if_icmp .ne 10, 3) := by decide +kernel
theorem dX7_firstError_15 : decode cX7_firstError 15 = .ok (.aload_n 0, 1) := by decide +kernel
theorem dX7_firstError_16 : decode cX7_firstError 16 = .ok (.getfield 103, 3) := by decide +kernel
theorem dX7_firstError_19 : decode cX7_firstError 19 = .ok (.goto 4, 3) := by decide +kernel
theorem dX7_firstError_22 : decode cX7_firstError 22 = .ok (.iload_n 1, 1) := by decide +kernel
theorem dX7_firstError_23 : decode cX7_firstError 23 = .ok (.ireturn, 1) := by decide +kernel
theorem dX7_puts_0 : decode cX7_puts 0 = .ok (.iload_n 1, 1) := by decide +kernel
theorem dX7_puts_1 : decode cX7_puts 1 = .ok (.aload_n 0, 1) := by decide +kernel
theorem dX7_puts_2 : decode cX7_puts 2 = .ok (.getfield 113, 3) := by decide +kernel
theorem dX7_puts_5 : decode cX7_puts 5 = .ok (.invokestatic 36, 3) := by decide +kernel
theorem dX7_puts_8 : decode cX7_puts 8 = .ok (.istore_n 2, 1) := by decide +kernel
theorem dX7_puts_9 : decode cX7_puts 9 = .ok (.iconst 1, 1) := by decide +kernel
theorem dX7_puts_10 : decode cX7_puts 10 = .ok (.istore_n 3, 1) := by decide +kernel
theorem dX7_puts_11 : decode cX7_puts 11 = .ok (.iconst 0, 1) := by decide +kernel
theorem dX7_puts_12 : decode cX7_puts 12 = .ok (.istore 4, 2) := by decide +kernel
theorem dX7_puts_14 : decode cX7_puts 14 = .ok (.iload 4, 2) := by decide +kernel
theorem dX7_puts_16 : decode cX7_puts 16 = .ok (.aload_n 0, 1) := by decide +kernel
theorem dX7_puts_17 : decode cX7_puts 17 = .ok (.getfield 7, 3) := by decide +kernel
theorem dX7_puts_20 : decode cX7_puts 20 = .ok (.iload_n 2, 1) := by decide +kernel
theorem dX7_puts_21 : decode cX7_puts 21 = .ok (.iaload, 1) := by decide +kernel
theorem dX7_puts_22 : decode cX7_puts 22 = .ok (.if_icmp .ge 50, 3) := by decide +kernel
theorem dX7_puts_25 : decode cX7_puts 25 = .ok (.aload_n 0, 1) := by decide +kernel
theorem dX7_puts_26 : decode cX7_puts 26 = .ok (.getfield 7, 3) := by decide +kernel
theorem dX7_puts_29 : decode cX7_puts 29 = .ok (.iload_n 2, 1) := by decide +kernel
theorem dX7_puts_30 : decode cX7_puts 30 = .ok (.iconst 1, 1) := by decide +kernel
theorem dX7_puts_31 : decode cX7_puts 31 = .ok (.iadd, 1) := by decide +kernel
theorem dX7_puts_32 : decode cX7_puts 32 = .ok (.iload 4, 2) := by decide +kernel
theorem dX7_puts_34 : decode cX7_puts 34 = .ok (.iadd, 1) := by decide +kernel
theorem dX7_puts_35 : decode cX7_puts 35 = .ok (.iaload, 1) := by decide +kernel
theorem dX7_puts_36 : decode cX7_puts 36 = .ok (.aload_n 0, 1) := by decide +kernel
theorem dX7_puts_37 : decode cX7_puts 37 = .ok (.getfield 120, 3) := by decide +kernel
theorem dX7_puts_40 : decode cX7_puts 40 = .ok (.isub, 1) := by decide +kernel
theorem dX7_puts_41 : decode cX7_puts 41 = .ok (.istore 5, 2) := by decide +kernel
theorem dX7_puts_43 : decode cX7_puts 43 = .ok (.iload_n 3, 1) := by decide +kernel
