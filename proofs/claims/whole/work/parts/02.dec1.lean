theorem dX10_becomeLike_128 : decode cX10_becomeLike 128 = .ok (.aload_n 0, 1) := by decide +kernel
theorem dX10_becomeLike_129 : decode cX10_becomeLike 129 = .ok (.getfield 51, 3) := by decide +kernel
theorem dX10_becomeLike_132 : decode cX10_becomeLike 132 = .ok (.aload_n 1, 1) := by decide +kernel
theorem dX10_becomeLike_133 : decode cX10_becomeLike 133 = .ok (.getfield 51, 3) := by decide +kernel
theorem dX10_becomeLike_136 : decode cX10_becomeLike 136 = .ok (.invokevirtual 216, 3) := by decide +kernel
theorem dX10_becomeLike_139 : decode cX10_becomeLike 139 = .ok (.aload_n 1, 1) := by decide +kernel
theorem dX10_becomeLike_140 : decode cX10_becomeLike 140 = .ok (.getfield 54, 3) := by decide +kernel
theorem dX10_becomeLike_143 : decode cX10_becomeLike 143 = .ok (.iconst 0, 1) := by decide +kernel
theorem dX10_becomeLike_144 : decode cX10_becomeLike 144 = .ok (.aload_n 0, 1) := by decide +kernel
theorem dX10_becomeLike_145 : decode cX10_becomeLike 145 = .ok (.getfield 54, 3) := by decide +kernel
theorem dX10_becomeLike_148 : decode cX10_becomeLike 148 = .ok (.iconst 0, 1) := by decide +kernel
theorem dX10_becomeLike_149 : decode cX10_becomeLike 149 = .ok (.bipush 10, 2) := by decide +kernel
theorem dX10_becomeLike_151 : decode cX10_becomeLike 151 = .ok (.invokestatic 225, 3) := by decide +kernel
theorem dX10_becomeLike_154 : decode cX10_becomeLike 154 = .ok (.aload_n 0, 1) := by decide +kernel
theorem dX10_becomeLike_155 : decode cX10_becomeLike 155 = .ok (.aload_n 1, 1) := by decide +kernel
theorem dX10_becomeLike_156 : decode cX10_becomeLike 156 = .ok (.getfield 73, 3) := by decide +kernel
theorem dX10_becomeLike_159 : decode cX10_becomeLike 159 = .ok (.putfield 73, 3) := by decide +kernel
theorem dX10_becomeLike_162 : decode cX10_becomeLike 162 = .ok (.aload_n 0, 1) := by decide +kernel
theorem dX10_becomeLike_163 : decode cX10_becomeLike 163 = .ok (.aload_n 1, 1) := by decide +kernel
theorem dX10_becomeLike_164 : decode cX10_becomeLike 164 = .ok (.getfield 80, 3) := by decide +kernel
theorem dX10_becomeLike_167 : decode cX10_becomeLike 167 = .ok (.putfield 80, 3) := by decide +kernel
theorem dX10_becomeLike_170 : decode cX10_becomeLike 170 = .ok (.aload_n 0, 1) := by decide +kernel
theorem dX10_becomeLike_171 : decode cX10_becomeLike 171 = .ok (.aload_n 1, 1) := by decide +kernel
theorem dX10_becomeLike_172 : decode cX10_becomeLike 172 = .ok (.getfield 83, 3) := by decide +kernel
theorem dX10_becomeLike_175 : decode cX10_becomeLike 175 = .ok (.putfield 83, 3) := by decide +kernel
theorem dX10_becomeLike_178 : decode cX10_becomeLike 178 = .ok (.aload_n 0, 1) := by decide +kernel
theorem dX10_becomeLike_179 : decode cX10_becomeLike 179 = .ok (.aload_n 1, 1) := by decide +kernel
theorem dX10_becomeLike_180 : decode cX10_becomeLike 180 = .ok (.getfield 99, 3) := by decide +kernel
theorem dX10_becomeLike_183 : decode cX10_becomeLike 183 = .ok (.putfield 99, 3) := by decide +kernel
theorem dX10_becomeLike_186 : decode cX10_becomeLike 186 = .ok (.aload_n 0, 1) := by decide +kernel
theorem dX10_becomeLike_187 : decode cX10_becomeLike 187 = .ok (.aload_n 1, 1) := by decide +kernel
theorem dX10_becomeLike_188 : decode cX10_becomeLike 188 = .ok (.getfield 58, 3) := by decide +kernel
theorem dX10_becomeLike_191 : decode cX10_becomeLike 191 = .ok (.putfield 58, 3) := by decide +kernel
theorem dX10_becomeLike_194 : decode cX10_becomeLike 194 = .ok (.aload_n 0, 1) := by decide +kernel
theorem dX10_becomeLike_195 : decode cX10_becomeLike 195 = .ok (.aload_n 1, 1) := by decide +kernel
theorem dX10_becomeLike_196 : decode cX10_becomeLike 196 = .ok (.getfield 62, 3) := by decide +kernel
theorem dX10_becomeLike_199 : decode cX10_becomeLike 199 = .ok (.putfield 62, 3) := by decide +kernel
theorem dX10_becomeLike_202 : decode cX10_becomeLike 202 = .ok (.aload_n 0, 1) := by decide +kernel
theorem dX10_becomeLike_203 : decode cX10_becomeLike 203 = .ok (.aload_n 1, 1) := by decide +kernel
theorem dX10_becomeLike_204 : decode cX10_becomeLike 204 = .ok (.getfield 231, 3) := by decide +kernel
theorem dX10_becomeLike_207 : decode cX10_becomeLike 207 = .ok (.putfield 231, 3) := by decide +kernel
theorem dX10_becomeLike_210 : decode cX10_becomeLike 210 = .ok (.return_, 1) := by decide +kernel
theorem dX11_init_0 : decode cX11_init 0 = .ok (.aload_n 0, 1) := by decide +kernel
theorem dX11_init_1 : decode cX11_init 1 = .ok (.invokespecial 3, 3) := by decide +kernel
theorem dX11_init_4 : decode cX11_init 4 = .ok (.aload_n 0, 1) := by decide +kernel
theorem dX11_init_5 : decode cX11_init 5 = .ok (.new 9, 3) := by decide +kernel
theorem dX11_init_8 : decode cX11_init 8 = .ok (.dup, 1) := by decide +kernel
theorem dX11_init_9 : decode cX11_init 9 = .ok (.invokespecial 11, 3) := by decide +kernel
theorem dX11_init_12 : decode cX11_init 12 = .ok (.putfield 12, 3) := by decide +kernel
theorem dX11_init_15 : decode cX11_init 15 = .ok (.aload_n 0, 1) := by decide +kernel
theorem dX11_init_16 : decode cX11_init 16 = .ok (.new 9, 3) := by decide +kernel
theorem dX11_init_19 : decode cX11_init 19 = .ok (.dup, 1) := by decide +kernel
theorem dX11_init_20 : decode cX11_init 20 = .ok (.invokespecial 11, 3) := by decide +kernel
theorem dX11_init_23 : decode cX11_init 23 = .ok (.putfield 16, 3) := by decide +kernel
theorem dX11_init_26 : decode cX11_init 26 = .ok (.aload_n 0, 1) := by decide +kernel
theorem dX11_init_27 : decode cX11_init 27 = .ok (.iconst 0, 1) := by decide +kernel
theorem dX11_init_28 : decode cX11_init 28 = .ok (.putfield 19, 3) := by decide +kernel
theorem dX11_init_31 : decode cX11_init 31 = .ok (.aload_n 0, 1) := by decide +kernel
theorem dX11_init_32 : decode cX11_init 32 = .ok (.new 23, 3) := by decide +kernel
theorem dX11_init_35 : decode cX11_init 35 = .ok (.dup, 1) := by decide +kernel
theorem dX11_init_36 : decode cX11_init 36 = .ok (.invokespecial 25, 3) := by decide +kernel
theorem dX11_init_39 : decode cX11_init 39 = .ok (.putfield 26, 3) := by decide +kernel
theorem dX11_init_42 : decode cX11_init 42 = .ok (.aload_n 0, 1) := by decide +kernel
theorem dX11_init_43 : decode cX11_init 43 = .ok (.iconst 4, 1) := by decide +kernel
theorem dX11_init_44 : decode cX11_init 44 = .ok (.anewarray 30, 3) := by decide +kernel
theorem dX11_init_47 : decode cX11_init 47 = .ok (.putfield 32, 3) := by decide +kernel
theorem dX11_init_50 : decode cX11_init 50 = .ok (.iconst 0, 1) := by decide +kernel
theorem dX11_init_51 : decode cX11_init 51 = .ok (.istore_n 1, 1) := by decide +kernel
theorem dX11_init_52 : decode cX11_init 52 = .ok (.iload_n 1, 1) := by decide +kernel
theorem dX11_init_53 : decode cX11_init 53 = .ok (.iconst 4, 1) := by decide +kernel
theorem dX11_init_54 : decode cX11_init 54 = .ok (.if_icmp .ge 22, 3) := by decide +kernel
theorem dX11_init_57 : decode cX11_init 57 = .ok (.aload_n 0, 1) := by decide +kernel
theorem dX11_init_58 : decode cX11_init 58 = .ok (.getfield 32, 3) := by decide +kernel
theorem dX11_init_61 : decode cX11_init 61 = .ok (.iload_n 1, 1) := by decide +kernel
theorem dX11_init_62 : decode cX11_init 62 = .ok (.new 30, 3) := by decide +kernel
theorem dX11_init_65 : decode cX11_init 65 = .ok (.dup, 1) := by decide +kernel
theorem dX11_init_66 : decode cX11_init 66 = .ok (.invokespecial 36, 3) := by decide +kernel
theorem dX11_init_69 : decode cX11_init 69 = .ok (.aastore, 1) := by decide +kernel
theorem dX11_init_70 : decode cX11_init 70 = .ok (.iinc 1 1, 3) := by decide +kernel
theorem dX11_init_73 : decode cX11_init 73 = .ok (.goto (-21), 3) := by decide +kernel
theorem dX11_init_76 : decode cX11_init 76 = .ok (.aload_n 0, 1) := by decide +kernel
theorem dX11_init_77 : decode cX11_init 77 = .ok (.bipush 7, 2) := by decide +kernel
theorem dX11_init_79 : decode cX11_init 79 = .ok (.newarray .int, 2) := by decide +kernel
theorem dX11_init_81 : decode cX11_init 81 = .ok (.putfield 37, 3) := by decide +kernel
theorem dX11_init_84 : decode cX11_init 84 = .ok (.aload_n 0, 1) := by decide +kernel
theorem dX11_init_85 : decode cX11_init 85 = .ok (.new 41, 3) := by decide +kernel
theorem dX11_init_88 : decode cX11_init 88 = .ok (.dup, 1) := by decide +kernel
theorem dX11_init_89 : decode cX11_init 89 = .ok (.aload_n 0, 1) := by decide +kernel
theorem dX11_init_90 : decode cX11_init 90 = .ok (.getfield 12, 3) := by decide +kernel
theorem dX11_init_93 : decode cX11_init 93 = .ok (.getfield 43, 3) := by decide +kernel
theorem dX11_init_96 : decode cX11_init 96 = .ok (.invokespecial 47, 3) := by decide +kernel
theorem dX11_init_99 : decode cX11_init 99 = .ok (.putfield 50, 3) := by decide +kernel
theorem dX11_init_102 : decode cX11_init 102 = .ok (.aload_n 0, 1) := by decide +kernel
theorem dX11_init_103 : decode cX11_init 103 = .ok (.new 54, 3) := by decide +kernel
theorem dX11_init_106 : decode cX11_init 106 = .ok (.dup, 1) := by decide +kernel
theorem dX11_init_107 : decode cX11_init 107 = .ok (.invokespecial 56, 3) := by decide +kernel
theorem dX11_init_110 : decode cX11_init 110 = .ok (.putfield 57, 3) := by decide +kernel
theorem dX11_init_113 : decode cX11_init 113 = .ok (.aload_n 0, 1) := by decide +kernel
theorem dX11_init_114 : decode cX11_init 114 = .ok (.new 61, 3) := by decide +kernel
theorem dX11_init_117 : decode cX11_init 117 = .ok (.dup, 1) := by decide +kernel
theorem dX11_init_118 : decode cX11_init 118 = .ok (.aload_n 0, 1) := by decide +kernel
theorem dX11_init_119 : decode cX11_init 119 = .ok (.getfield 12, 3) := by decide +kernel
theorem dX11_init_122 : decode cX11_init 122 = .ok (.aload_n 0, 1) := by decide +kernel
theorem dX11_init_123 : decode cX11_init 123 = .ok (.getfield 50, 3) := by decide +kernel
theorem dX11_init_126 : decode cX11_init 126 = .ok (.aload_n 0, 1) := by decide +kernel
theorem dX11_init_127 : decode cX11_init 127 = .ok (.getfield 57, 3) := by decide +kernel
theorem dX11_init_130 : decode cX11_init 130 = .ok (.invokespecial 63, 3) := by decide +kernel
theorem dX11_init_133 : decode cX11_init 133 = .ok (.putfield 66, 3) := by decide +kernel
theorem dX11_init_136 : decode cX11_init 136 = .ok (.return_, 1) := by decide +kernel
theorem dX11_crossing_0 : decode cX11_crossing 0 = .ok (.iload_n 2, 1) := by decide +kernel
theorem dX11_crossing_1 : decode cX11_crossing 1 = .ok (.ifCond .ne 8, 3) := by decide +kernel
theorem dX11_crossing_4 : decode cX11_crossing 4 = .ok (.bipush 9, 2) := by decide +kernel
theorem dX11_crossing_6 : decode cX11_crossing 6 = .ok (.goto 4, 3) := by decide +kernel
theorem dX11_crossing_9 : decode cX11_crossing 9 = .ok (.iconst 3, 1) := by decide +kernel
theorem dX11_crossing_10 : decode cX11_crossing 10 = .ok (.istore 4, 2) := by decide +kernel
theorem dX11_crossing_12 : decode cX11_crossing 12 = .ok (.iload_n 1, 1) := by decide +kernel
theorem dX11_crossing_13 : decode cX11_crossing 13 = .ok (.invokestatic 70, 3) := by decide +kernel
theorem dX11_crossing_16 : decode cX11_crossing 16 = .ok (.ifCond .eq 22, 3) := by decide +kernel
theorem dX11_crossing_19 : decode cX11_crossing 19 = .ok (.iload_n 2, 1) := by decide +kernel
theorem dX11_crossing_20 : decode cX11_crossing 20 = .ok (.iconst 0, 1) := by decide +kernel
theorem dX11_crossing_21 : decode cX11_crossing 21 = .ok (.iconst 1, 1) := by decide +kernel
theorem dX11_crossing_22 : decode cX11_crossing 22 = .ok (.invokestatic 74, 3) := by decide +kernel
theorem dX11_crossing_25 : decode cX11_crossing 25 = .ok (.ifCond .eq 13, 3) := by decide +kernel
theorem dX11_crossing_28 : decode cX11_crossing 28 = .ok (.iload_n 3, 1) := by decide +kernel
theorem dX11_crossing_29 : decode cX11_crossing 29 = .ok (.iconst 0, 1) := by decide +kernel
theorem dX11_crossing_30 : decode cX11_crossing 30 = .ok (.iload 4, 2) := by decide +kernel
theorem dX11_crossing_32 : decode cX11_crossing 32 = .ok (.invokestatic 74, 3) := by decide +kernel
theorem dX11_crossing_35 : decode cX11_crossing 35 = .ok (.ifCond .ne 10, 3) := by decide +kernel
theorem dX11_crossing_38 : decode cX11_crossing 38 = .ok (.aload_n 0, 1) := by decide +kernel
theorem dX11_crossing_39 : decode cX11_crossing 39 = .ok (.ldc 78, 2) := by decide +kernel
theorem dX11_crossing_41 : decode cX11_crossing 41 = .ok (.invokevirtual 79, 3) := by decide +kernel
theorem dX11_crossing_44 : decode cX11_crossing 44 = .ok (.ireturn, 1) := by decide +kernel
theorem dX11_crossing_45 : decode cX11_crossing 45 = .ok (.iload_n 2, 1) := by decide +kernel
theorem dX11_crossing_46 : decode cX11_crossing 46 = .ok (.ifCond .ne 18, 3) := by decide +kernel
theorem dX11_crossing_49 : decode cX11_crossing 49 = .ok (.aload_n 0, 1) := by decide +kernel
theorem dX11_crossing_50 : decode cX11_crossing 50 = .ok (.getfield 12, 3) := by decide +kernel
theorem dX11_crossing_53 : decode cX11_crossing 53 = .ok (.getfield 43, 3) := by decide +kernel
theorem dX11_crossing_56 : decode cX11_crossing 56 = .ok (.iload_n 1, 1) := by decide +kernel
theorem dX11_crossing_57 : decode cX11_crossing 57 = .ok (.iload_n 3, 1) := by decide +kernel
theorem dX11_crossing_58 : decode cX11_crossing 58 = .ok (.invokevirtual 83, 3) := by decide +kernel
theorem dX11_crossing_61 : decode cX11_crossing 61 = .ok (.goto 15, 3) := by decide +kernel
theorem dX11_crossing_64 : decode cX11_crossing 64 = .ok (.aload_n 0, 1) := by decide +kernel
theorem dX11_crossing_65 : decode cX11_crossing 65 = .ok (.getfield 12, 3) := by decide +kernel
theorem dX11_crossing_68 : decode cX11_crossing 68 = .ok (.getfield 43, 3) := by decide +kernel
theorem dX11_crossing_71 : decode cX11_crossing 71 = .ok (.iload_n 1, 1) := by decide +kernel
theorem dX11_crossing_72 : decode cX11_crossing 72 = .ok (.iload_n 3, 1) := by decide +kernel
theorem dX11_crossing_73 : decode cX11_crossing 73 = .ok (.invokevirtual 89, 3) := by decide +kernel
theorem dX11_crossing_76 : decode cX11_crossing 76 = .ok (.ireturn, 1) := by decide +kernel
theorem dX11_road_0 : decode cX11_road 0 = .ok (.iload_n 1, 1) := by decide +kernel
theorem dX11_road_1 : decode cX11_road 1 = .ok (.iload_n 2, 1) := by decide +kernel
theorem dX11_road_2 : decode cX11_road 2 = .ok (.iload_n 3, 1) := by decide +kernel
theorem dX11_road_3 : decode cX11_road 3 = .ok (.invokestatic 92, 3) := by decide +kernel
theorem dX11_road_6 : decode cX11_road 6 = .ok (.ifCond .ne 10, 3) := by decide +kernel
theorem dX11_road_9 : decode cX11_road 9 = .ok (.aload_n 0, 1) := by decide +kernel
theorem dX11_road_10 : decode cX11_road 10 = .ok (.ldc 78, 2) := by decide +kernel
theorem dX11_road_12 : decode cX11_road 12 = .ok (.invokevirtual 79, 3) := by decide +kernel
theorem dX11_road_15 : decode cX11_road 15 = .ok (.ireturn, 1) := by decide +kernel
theorem dX11_road_16 : decode cX11_road 16 = .ok (.aload_n 0, 1) := by decide +kernel
theorem dX11_road_17 : decode cX11_road 17 = .ok (.getfield 12, 3) := by decide +kernel
theorem dX11_road_20 : decode cX11_road 20 = .ok (.getfield 43, 3) := by decide +kernel
theorem dX11_road_23 : decode cX11_road 23 = .ok (.iload_n 1, 1) := by decide +kernel
theorem dX11_road_24 : decode cX11_road 24 = .ok (.iload_n 2, 1) := by decide +kernel
theorem dX11_road_25 : decode cX11_road 25 = .ok (.iload_n 3, 1) := by decide +kernel
theorem dX11_road_26 : decode cX11_road 26 = .ok (.invokevirtual 95, 3) := by decide +kernel
theorem dX11_road_29 : decode cX11_road 29 = .ok (.ireturn, 1) := by decide +kernel
theorem dX11_way_0 : decode cX11_way 0 = .ok (.iload_n 1, 1) := by decide +kernel
theorem dX11_way_1 : decode cX11_way 1 = .ok (.invokestatic 70, 3) := by decide +kernel
theorem dX11_way_4 : decode cX11_way 4 = .ok (.ifCond .eq 10, 3) := by decide +kernel
theorem dX11_way_7 : decode cX11_way 7 = .ok (.iload_n 2, 1) := by decide +kernel
theorem dX11_way_8 : decode cX11_way 8 = .ok (.invokestatic 70, 3) := by decide +kernel
theorem dX11_way_11 : decode cX11_way 11 = .ok (.ifCond .ne 10, 3) := by decide +kernel
theorem dX11_way_14 : decode cX11_way 14 = .ok (.aload_n 0, 1) := by decide +kernel
theorem dX11_way_15 : decode cX11_way 15 = .ok (.ldc 78, 2) := by decide +kernel
theorem dX11_way_17 : decode cX11_way 17 = .ok (.invokevirtual 79, 3) := by decide +kernel
theorem dX11_way_20 : decode cX11_way 20 = .ok (.ireturn, 1) := by decide +kernel
theorem dX11_way_21 : decode cX11_way 21 = .ok (.aload_n 0, 1) := by decide +kernel
theorem dX11_way_22 : decode cX11_way 22 = .ok (.getfield 12, 3) := by decide +kernel
theorem dX11_way_25 : decode cX11_way 25 = .ok (.getfield 43, 3) := by decide +kernel
theorem dX11_way_28 : decode cX11_way 28 = .ok (.iload_n 1, 1) := by decide +kernel
theorem dX11_way_29 : decode cX11_way 29 = .ok (.iload_n 2, 1) := by decide +kernel
theorem dX11_way_30 : decode cX11_way 30 = .ok (.invokevirtual 99, 3) := by decide +kernel
theorem dX11_way_33 : decode cX11_way 33 = .ok (.istore_n 3, 1) := by decide +kernel
theorem dX11_way_34 : decode cX11_way 34 = .ok (.iload_n 3, 1) := by decide +kernel
theorem dX11_way_35 : decode cX11_way 35 = .ok (.iconst (-1), 1) := by decide +kernel
theorem dX11_way_36 : decode cX11_way 36 = .ok (.if_icmp .ne 12, 3) := by decide +kernel
theorem dX11_way_39 : decode cX11_way 39 = .ok (.aload_n 0, 1) := by decide +kernel
theorem dX11_way_40 : decode cX11_way 40 = .ok (.ldc 102, 2) := by decide +kernel
theorem dX11_way_42 : decode cX11_way 42 = .ok (.invokevirtual 79, 3) := by decide +kernel
theorem dX11_way_45 : decode cX11_way 45 = .ok (.goto 4, 3) := by decide +kernel
theorem dX11_way_48 : decode cX11_way 48 = .ok (.iload_n 3, 1) := by decide +kernel
theorem dX11_way_49 : decode cX11_way 49 = .ok (.ireturn, 1) := by decide +kernel
theorem dX11_minutes_0 : decode cX11_minutes 0 = .ok (.iload_n 1, 1) := by decide +kernel
theorem dX11_minutes_1 : decode cX11_minutes 1 = .ok (.iconst 1, 1) := by decide +kernel
theorem dX11_minutes_2 : decode cX11_minutes 2 = .ok (.sipush 600, 3) := by decide +kernel
theorem dX11_minutes_5 : decode cX11_minutes 5 = .ok (.invokestatic 74, 3) := by decide +kernel
theorem dX11_minutes_8 : decode cX11_minutes 8 = .ok (.ifCond .ne 10, 3) := by decide +kernel
theorem dX11_minutes_11 : decode cX11_minutes 11 = .ok (.aload_n 0, 1) := by decide +kernel
theorem dX11_minutes_12 : decode cX11_minutes 12 = .ok (.ldc 78, 2) := by decide +kernel
theorem dX11_minutes_14 : decode cX11_minutes 14 = .ok (.invokevirtual 79, 3) := by decide +kernel
theorem dX11_minutes_17 : decode cX11_minutes 17 = .ok (.ireturn, 1) := by decide +kernel
theorem dX11_minutes_18 : decode cX11_minutes 18 = .ok (.aload_n 0, 1) := by decide +kernel
theorem dX11_minutes_19 : decode cX11_minutes 19 = .ok (.getfield 12, 3) := by decide +kernel
theorem dX11_minutes_22 : decode cX11_minutes 22 = .ok (.getfield 103, 3) := by decide +kernel
theorem dX11_minutes_25 : decode cX11_minutes 25 = .ok (.iload_n 1, 1) := by decide +kernel
theorem dX11_minutes_26 : decode cX11_minutes 26 = .ok (.iadd, 1) := by decide +kernel
theorem dX11_minutes_27 : decode cX11_minutes 27 = .ok (.sipush 1439, 3) := by decide +kernel
theorem dX11_minutes_30 : decode cX11_minutes 30 = .ok (.if_icmp .le 10, 3) := by decide +kernel
theorem dX11_minutes_33 : decode cX11_minutes 33 = .ok (.aload_n 0, 1) := by decide +kernel
theorem dX11_minutes_34 : decode cX11_minutes 34 = .ok (.ldc 107, 2) := by decide +kernel
theorem dX11_minutes_36 : decode cX11_minutes 36 = .ok (.invokevirtual 79, 3) := by decide +kernel
theorem dX11_minutes_39 : decode cX11_minutes 39 = .ok (.ireturn, 1) := by decide +kernel
theorem dX11_minutes_40 : decode cX11_minutes 40 = .ok (.aload_n 0, 1) := by decide +kernel
theorem dX11_minutes_41 : decode cX11_minutes 41 = .ok (.getfield 12, 3) := by decide +kernel
theorem dX11_minutes_44 : decode cX11_minutes 44 = .ok (.dup, 1) := by decide +kernel
theorem dX11_minutes_45 : decode cX11_minutes 45 = .ok (.getfield 103, 3) := by decide +kernel
theorem dX11_minutes_48 : decode cX11_minutes 48 = .ok (.iload_n 1, 1) := by decide +kernel
theorem dX11_minutes_49 : decode cX11_minutes 49 = .ok (.iadd, 1) := by decide +kernel
theorem dX11_minutes_50 : decode cX11_minutes 50 = .ok (.putfield 103, 3) := by decide +kernel
theorem dX11_minutes_53 : decode cX11_minutes 53 = .ok (.aload_n 0, 1) := by decide +kernel
theorem dX11_minutes_54 : decode cX11_minutes 54 = .ok (.getfield 12, 3) := by decide +kernel
theorem dX11_minutes_57 : decode cX11_minutes 57 = .ok (.getfield 103, 3) := by decide +kernel
theorem dX11_minutes_60 : decode cX11_minutes 60 = .ok (.ireturn, 1) := by decide +kernel
theorem dX11_kitchen_0 : decode cX11_kitchen 0 = .ok (.iload_n 1, 1) := by decide +kernel
theorem dX11_kitchen_1 : decode cX11_kitchen 1 = .ok (.invokestatic 70, 3) := by decide +kernel
theorem dX11_kitchen_4 : decode cX11_kitchen 4 = .ok (.ifCond .eq 13, 3) := by decide +kernel
theorem dX11_kitchen_7 : decode cX11_kitchen 7 = .ok (.iload_n 2, 1) := by decide +kernel
theorem dX11_kitchen_8 : decode cX11_kitchen 8 = .ok (.iconst 1, 1) := by decide +kernel
theorem dX11_kitchen_9 : decode cX11_kitchen 9 = .ok (.bipush 60, 2) := by decide +kernel
theorem dX11_kitchen_11 : decode cX11_kitchen 11 = .ok (.invokestatic 74, 3) := by decide +kernel
theorem dX11_kitchen_14 : decode cX11_kitchen 14 = .ok (.ifCond .ne 10, 3) := by decide +kernel
theorem dX11_kitchen_17 : decode cX11_kitchen 17 = .ok (.aload_n 0, 1) := by decide +kernel
theorem dX11_kitchen_18 : decode cX11_kitchen 18 = .ok (.ldc 78, 2) := by decide +kernel
theorem dX11_kitchen_20 : decode cX11_kitchen 20 = .ok (.invokevirtual 79, 3) := by decide +kernel
theorem dX11_kitchen_23 : decode cX11_kitchen 23 = .ok (.ireturn, 1) := by decide +kernel
theorem dX11_kitchen_24 : decode cX11_kitchen 24 = .ok (.aload_n 0, 1) := by decide +kernel
theorem dX11_kitchen_25 : decode cX11_kitchen 25 = .ok (.getfield 12, 3) := by decide +kernel
theorem dX11_kitchen_28 : decode cX11_kitchen 28 = .ok (.getfield 108, 3) := by decide +kernel
theorem dX11_kitchen_31 : decode cX11_kitchen 31 = .ok (.invokevirtual 112, 3) := by decide +kernel
theorem dX11_kitchen_34 : decode cX11_kitchen 34 = .ok (.ifCond .eq 10, 3) := by decide +kernel
theorem dX11_kitchen_37 : decode cX11_kitchen 37 = .ok (.aload_n 0, 1) := by decide +kernel
theorem dX11_kitchen_38 : decode cX11_kitchen 38 = .ok (.ldc 118, 2) := by decide +kernel
theorem dX11_kitchen_40 : decode cX11_kitchen 40 = .ok (.invokevirtual 79, 3) := by decide +kernel
theorem dX11_kitchen_43 : decode cX11_kitchen 43 = .ok (.ireturn, 1) := by decide +kernel
theorem dX11_kitchen_44 : decode cX11_kitchen 44 = .ok (.aload_n 0, 1) := by decide +kernel
theorem dX11_kitchen_45 : decode cX11_kitchen 45 = .ok (.getfield 12, 3) := by decide +kernel
theorem dX11_kitchen_48 : decode cX11_kitchen 48 = .ok (.getfield 108, 3) := by decide +kernel
theorem dX11_kitchen_51 : decode cX11_kitchen 51 = .ok (.iload_n 1, 1) := by decide +kernel
theorem dX11_kitchen_52 : decode cX11_kitchen 52 = .ok (.iload_n 2, 1) := by decide +kernel
theorem dX11_kitchen_53 : decode cX11_kitchen 53 = .ok (.iconst 0, 1) := by decide +kernel
theorem dX11_kitchen_54 : decode cX11_kitchen 54 = .ok (.invokevirtual 119, 3) := by decide +kernel
theorem dX11_kitchen_57 : decode cX11_kitchen 57 = .ok (.iconst 1, 1) := by decide +kernel
theorem dX11_kitchen_58 : decode cX11_kitchen 58 = .ok (.isub, 1) := by decide +kernel
theorem dX11_kitchen_59 : decode cX11_kitchen 59 = .ok (.ireturn, 1) := by decide +kernel
theorem dX11_order_0 : decode cX11_order 0 = .ok (.iload_n 1, 1) := by decide +kernel
theorem dX11_order_1 : decode cX11_order 1 = .ok (.iconst 0, 1) := by decide +kernel
theorem dX11_order_2 : decode cX11_order 2 = .ok (.aload_n 0, 1) := by decide +kernel
theorem dX11_order_3 : decode cX11_order 3 = .ok (.getfield 12, 3) := by decide +kernel
theorem dX11_order_6 : decode cX11_order 6 = .ok (.getfield 108, 3) := by decide +kernel
theorem dX11_order_9 : decode cX11_order 9 = .ok (.getfield 122, 3) := by decide +kernel
theorem dX11_order_12 : decode cX11_order 12 = .ok (.iconst 1, 1) := by decide +kernel
theorem dX11_order_13 : decode cX11_order 13 = .ok (.isub, 1) := by decide +kernel
theorem dX11_order_14 : decode cX11_order 14 = .ok (.invokestatic 74, 3) := by decide +kernel
theorem dX11_order_17 : decode cX11_order 17 = .ok (.ifCond .eq 32, 3) := by decide +kernel
theorem dX11_order_20 : decode cX11_order 20 = .ok (.iload_n 2, 1) := by decide +kernel
theorem dX11_order_21 : decode cX11_order 21 = .ok (.invokestatic 70, 3) := by decide +kernel
theorem dX11_order_24 : decode cX11_order 24 = .ok (.ifCond .eq 25, 3) := by decide +kernel
theorem dX11_order_27 : decode cX11_order 27 = .ok (.iload_n 3, 1) := by decide +kernel
theorem dX11_order_28 : decode cX11_order 28 = .ok (.bipush 10, 2) := by decide +kernel
theorem dX11_order_30 : decode cX11_order 30 = .ok (.bipush 120, 2) := by decide +kernel
theorem dX11_order_32 : decode cX11_order 32 = .ok (.invokestatic 74, 3) := by decide +kernel
theorem dX11_order_35 : decode cX11_order 35 = .ok (.ifCond .eq 14, 3) := by decide +kernel
theorem dX11_order_38 : decode cX11_order 38 = .ok (.iload 4, 2) := by decide +kernel
theorem dX11_order_40 : decode cX11_order 40 = .ok (.iconst 0, 1) := by decide +kernel
theorem dX11_order_41 : decode cX11_order 41 = .ok (.bipush 60, 2) := by decide +kernel
theorem dX11_order_43 : decode cX11_order 43 = .ok (.invokestatic 74, 3) := by decide +kernel
theorem dX11_order_46 : decode cX11_order 46 = .ok (.ifCond .ne 10, 3) := by decide +kernel
theorem dX11_order_49 : decode cX11_order 49 = .ok (.aload_n 0, 1) := by decide +kernel
theorem dX11_order_50 : decode cX11_order 50 = .ok (.ldc 78, 2) := by decide +kernel
theorem dX11_order_52 : decode cX11_order 52 = .ok (.invokevirtual 79, 3) := by decide +kernel
theorem dX11_order_55 : decode cX11_order 55 = .ok (.ireturn, 1) := by decide +kernel
theorem dX11_order_56 : decode cX11_order 56 = .ok (.aload_n 0, 1) := by decide +kernel
theorem dX11_order_57 : decode cX11_order 57 = .ok (.getfield 12, 3) := by decide +kernel
theorem dX11_order_60 : decode cX11_order 60 = .ok (.getfield 125, 3) := by decide +kernel
theorem dX11_order_63 : decode cX11_order 63 = .ok (.bipush 24, 2) := by decide +kernel
theorem dX11_order_65 : decode cX11_order 65 = .ok (.if_icmp .lt 10, 3) := by decide +kernel
theorem dX11_order_68 : decode cX11_order 68 = .ok (.aload_n 0, 1) := by decide +kernel
theorem dX11_order_69 : decode cX11_order 69 = .ok (.ldc 118, 2) := by decide +kernel
theorem dX11_order_71 : decode cX11_order 71 = .ok (.invokevirtual 79, 3) := by decide +kernel
theorem dX11_order_74 : decode cX11_order 74 = .ok (.ireturn, 1) := by decide +kernel
theorem dX11_order_75 : decode cX11_order 75 = .ok (.aload_n 0, 1) := by decide +kernel
theorem dX11_order_76 : decode cX11_order 76 = .ok (.getfield 12, 3) := by decide +kernel
theorem dX11_order_79 : decode cX11_order 79 = .ok (.iload_n 1, 1) := by decide +kernel
theorem dX11_order_80 : decode cX11_order 80 = .ok (.iload_n 2, 1) := by decide +kernel
theorem dX11_order_81 : decode cX11_order 81 = .ok (.iload_n 3, 1) := by decide +kernel
theorem dX11_order_82 : decode cX11_order 82 = .ok (.iload 4, 2) := by decide +kernel
theorem dX11_order_84 : decode cX11_order 84 = .ok (.invokevirtual 128, 3) := by decide +kernel
theorem dX11_order_87 : decode cX11_order 87 = .ok (.aload_n 0, 1) := by decide +kernel
theorem dX11_order_88 : decode cX11_order 88 = .ok (.getfield 12, 3) := by decide +kernel
theorem dX11_order_91 : decode cX11_order 91 = .ok (.getfield 125, 3) := by decide +kernel
theorem dX11_order_94 : decode cX11_order 94 = .ok (.iconst 1, 1) := by decide +kernel
theorem dX11_order_95 : decode cX11_order 95 = .ok (.isub, 1) := by decide +kernel
theorem dX11_order_96 : decode cX11_order 96 = .ok (.ireturn, 1) := by decide +kernel
theorem dX11_orderOf_0 : decode cX11_orderOf 0 = .ok (.aload_n 0, 1) := by decide +kernel
theorem dX11_orderOf_1 : decode cX11_orderOf 1 = .ok (.getfield 12, 3) := by decide +kernel
theorem dX11_orderOf_4 : decode cX11_orderOf 4 = .ok (.iload_n 1, 1) := by decide +kernel
theorem dX11_orderOf_5 : decode cX11_orderOf 5 = .ok (.invokevirtual 132, 3) := by decide +kernel
theorem dX11_orderOf_8 : decode cX11_orderOf 8 = .ok (.astore_n 3, 1) := by decide +kernel
theorem dX11_orderOf_9 : decode cX11_orderOf 9 = .ok (.aload_n 3, 1) := by decide +kernel
theorem dX11_orderOf_10 : decode cX11_orderOf 10 = .ok (.ifnull 13, 3) := by decide +kernel
theorem dX11_orderOf_13 : decode cX11_orderOf 13 = .ok (.iload_n 2, 1) := by decide +kernel
theorem dX11_orderOf_14 : decode cX11_orderOf 14 = .ok (.iconst 0, 1) := by decide +kernel
theorem dX11_orderOf_15 : decode cX11_orderOf 15 = .ok (.bipush 10, 2) := by decide +kernel
theorem dX11_orderOf_17 : decode cX11_orderOf 17 = .ok (.invokestatic 74, 3) := by decide +kernel
theorem dX11_orderOf_20 : decode cX11_orderOf 20 = .ok (.ifCond .ne 10, 3) := by decide +kernel
theorem dX11_orderOf_23 : decode cX11_orderOf 23 = .ok (.aload_n 0, 1) := by decide +kernel
theorem dX11_orderOf_24 : decode cX11_orderOf 24 = .ok (.ldc 78, 2) := by decide +kernel
theorem dX11_orderOf_26 : decode cX11_orderOf 26 = .ok (.invokevirtual 79, 3) := by decide +kernel
theorem dX11_orderOf_29 : decode cX11_orderOf 29 = .ok (.ireturn, 1) := by decide +kernel
theorem dX11_orderOf_30 : decode cX11_orderOf 30 = .ok (.iload_n 2, 1) := by decide +kernel
theorem dX11_orderOf_31 : decode cX11_orderOf 31 = .ok (.iconst 5, 1) := by decide +kernel
theorem dX11_orderOf_32 : decode cX11_orderOf 32 = .ok (.if_icmp .lt 18, 3) := by decide +kernel
theorem dX11_orderOf_35 : decode cX11_orderOf 35 = .ok (.aload_n 3, 1) := by decide +kernel
theorem dX11_orderOf_36 : decode cX11_orderOf 36 = .ok (.getfield 136, 3) := by decide +kernel
theorem dX11_orderOf_39 : decode cX11_orderOf 39 = .ok (.iconst 1, 1) := by decide +kernel
theorem dX11_orderOf_40 : decode cX11_orderOf 40 = .ok (.if_icmp .eq 10, 3) := by decide +kernel
theorem dX11_orderOf_43 : decode cX11_orderOf 43 = .ok (.aload_n 0, 1) := by decide +kernel
theorem dX11_orderOf_44 : decode cX11_orderOf 44 = .ok (.ldc 102, 2) := by decide +kernel
theorem dX11_orderOf_46 : decode cX11_orderOf 46 = .ok (.invokevirtual 79, 3) := by decide +kernel
theorem dX11_orderOf_49 : decode cX11_orderOf 49 = .ok (.ireturn, 1) := by decide +kernel
theorem dX11_orderOf_50 : decode cX11_orderOf 50 = .ok (.iload_n 2, 1) := by decide +kernel
theorem dX11_orderOf_51 : decode cX11_orderOf 51 = .ok (.tableswitch 107 0 9 #[53, 58, 63, 68, 73, 78, 83, 88, 93, 98], 53) := by decide +kernel
theorem dX11_orderOf_104 : decode cX11_orderOf 104 = .ok (.aload_n 3, 1) := by decide +kernel
theorem dX11_orderOf_105 : decode cX11_orderOf 105 = .ok (.getfield 141, 3) := by decide +kernel
theorem dX11_orderOf_108 : decode cX11_orderOf 108 = .ok (.ireturn, 1) := by decide +kernel
theorem dX11_orderOf_109 : decode cX11_orderOf 109 = .ok (.aload_n 3, 1) := by decide +kernel
theorem dX11_orderOf_110 : decode cX11_orderOf 110 = .ok (.getfield 144, 3) := by decide +kernel
theorem dX11_orderOf_113 : decode cX11_orderOf 113 = .ok (.ireturn, 1) := by decide +kernel
theorem dX11_orderOf_114 : decode cX11_orderOf 114 = .ok (.aload_n 3, 1) := by decide +kernel
theorem dX11_orderOf_115 : decode cX11_orderOf 115 = .ok (.getfield 147, 3) := by decide +kernel
theorem dX11_orderOf_118 : decode cX11_orderOf 118 = .ok (.ireturn, 1) := by decide +kernel
theorem dX11_orderOf_119 : decode cX11_orderOf 119 = .ok (.aload_n 3, 1) := by decide +kernel
theorem dX11_orderOf_120 : decode cX11_orderOf 120 = .ok (.getfield 150, 3) := by decide +kernel
theorem dX11_orderOf_123 : decode cX11_orderOf 123 = .ok (.ireturn, 1) := by decide +kernel
theorem dX11_orderOf_124 : decode cX11_orderOf 124 = .ok (.aload_n 3, 1) := by decide +kernel
theorem dX11_orderOf_125 : decode cX11_orderOf 125 = .ok (.getfield 136, 3) := by decide +kernel
theorem dX11_orderOf_128 : decode cX11_orderOf 128 = .ok (.ireturn, 1) := by decide +kernel
theorem dX11_orderOf_129 : decode cX11_orderOf 129 = .ok (.aload_n 3, 1) := by decide +kernel
theorem dX11_orderOf_130 : decode cX11_orderOf 130 = .ok (.getfield 153, 3) := by decide +kernel
theorem dX11_orderOf_133 : decode cX11_orderOf 133 = .ok (.ireturn, 1) := by decide +kernel
theorem dX11_orderOf_134 : decode cX11_orderOf 134 = .ok (.aload_n 3, 1) := by decide +kernel
theorem dX11_orderOf_135 : decode cX11_orderOf 135 = .ok (.getfield 156, 3) := by decide +kernel
theorem dX11_orderOf_138 : decode cX11_orderOf 138 = .ok (.ireturn, 1) := by decide +kernel
theorem dX11_orderOf_139 : decode cX11_orderOf 139 = .ok (.aload_n 3, 1) := by decide +kernel
theorem dX11_orderOf_140 : decode cX11_orderOf 140 = .ok (.getfield 159, 3) := by decide +kernel
theorem dX11_orderOf_143 : decode cX11_orderOf 143 = .ok (.ireturn, 1) := by decide +kernel
theorem dX11_orderOf_144 : decode cX11_orderOf 144 = .ok (.aload_n 3, 1) := by decide +kernel
theorem dX11_orderOf_145 : decode cX11_orderOf 145 = .ok (.getfield 162, 3) := by decide +kernel
theorem dX11_orderOf_148 : decode cX11_orderOf 148 = .ok (.ireturn, 1) := by decide +kernel
theorem dX11_orderOf_149 : decode cX11_orderOf 149 = .ok (.aload_n 0, 1) := by decide +kernel
theorem dX11_orderOf_150 : decode cX11_orderOf 150 = .ok (.getfield 12, 3) := by decide +kernel
theorem dX11_orderOf_153 : decode cX11_orderOf 153 = .ok (.aload_n 3, 1) := by decide +kernel
theorem dX11_orderOf_154 : decode cX11_orderOf 154 = .ok (.invokevirtual 165, 3) := by decide +kernel
theorem dX11_orderOf_157 : decode cX11_orderOf 157 = .ok (.ireturn, 1) := by decide +kernel
theorem dX11_orderOf_158 : decode cX11_orderOf 158 = .ok (.aload_n 3, 1) := by decide +kernel
theorem dX11_orderOf_159 : decode cX11_orderOf 159 = .ok (.getfield 169, 3) := by decide +kernel
theorem dX11_orderOf_162 : decode cX11_orderOf 162 = .ok (.ireturn, 1) := by decide +kernel
theorem dX11_callOff_0 : decode cX11_callOff 0 = .ok (.aload_n 0, 1) := by decide +kernel
theorem dX11_callOff_1 : decode cX11_callOff 1 = .ok (.getfield 12, 3) := by decide +kernel
theorem dX11_callOff_4 : decode cX11_callOff 4 = .ok (.iload_n 1, 1) := by decide +kernel
theorem dX11_callOff_5 : decode cX11_callOff 5 = .ok (.invokevirtual 132, 3) := by decide +kernel
theorem dX11_callOff_8 : decode cX11_callOff 8 = .ok (.astore_n 2, 1) := by decide +kernel
theorem dX11_callOff_9 : decode cX11_callOff 9 = .ok (.aload_n 2, 1) := by decide +kernel
theorem dX11_callOff_10 : decode cX11_callOff 10 = .ok (.ifnonnull 10, 3) := by decide +kernel
theorem dX11_callOff_13 : decode cX11_callOff 13 = .ok (.aload_n 0, 1) := by decide +kernel
theorem dX11_callOff_14 : decode cX11_callOff 14 = .ok (.ldc 78, 2) := by decide +kernel
theorem dX11_callOff_16 : decode cX11_callOff 16 = .ok (.invokevirtual 79, 3) := by decide +kernel
theorem dX11_callOff_19 : decode cX11_callOff 19 = .ok (.ireturn, 1) := by decide +kernel
theorem dX11_callOff_20 : decode cX11_callOff 20 = .ok (.aload_n 2, 1) := by decide +kernel
theorem dX11_callOff_21 : decode cX11_callOff 21 = .ok (.getfield 136, 3) := by decide +kernel
theorem dX11_callOff_24 : decode cX11_callOff 24 = .ok (.ifCond .eq 10, 3) := by decide +kernel
theorem dX11_callOff_27 : decode cX11_callOff 27 = .ok (.aload_n 0, 1) := by decide +kernel
theorem dX11_callOff_28 : decode cX11_callOff 28 = .ok (.ldc 107, 2) := by decide +kernel
theorem dX11_callOff_30 : decode cX11_callOff 30 = .ok (.invokevirtual 79, 3) := by decide +kernel
theorem dX11_callOff_33 : decode cX11_callOff 33 = .ok (.ireturn, 1) := by decide +kernel
theorem dX11_callOff_34 : decode cX11_callOff 34 = .ok (.aload_n 2, 1) := by decide +kernel
theorem dX11_callOff_35 : decode cX11_callOff 35 = .ok (.iconst 2, 1) := by decide +kernel
theorem dX11_callOff_36 : decode cX11_callOff 36 = .ok (.putfield 136, 3) := by decide +kernel
theorem dX11_callOff_39 : decode cX11_callOff 39 = .ok (.iconst 1, 1) := by decide +kernel
theorem dX11_callOff_40 : decode cX11_callOff 40 = .ok (.ireturn, 1) := by decide +kernel
theorem dX11_rider_0 : decode cX11_rider 0 = .ok (.iload_n 1, 1) := by decide +kernel
theorem dX11_rider_1 : decode cX11_rider 1 = .ok (.iconst 0, 1) := by decide +kernel
theorem dX11_rider_2 : decode cX11_rider 2 = .ok (.bipush 6, 2) := by decide +kernel
theorem dX11_rider_4 : decode cX11_rider 4 = .ok (.invokestatic 74, 3) := by decide +kernel
theorem dX11_rider_7 : decode cX11_rider 7 = .ok (.ifCond .eq 10, 3) := by decide +kernel
theorem dX11_rider_10 : decode cX11_rider 10 = .ok (.iload_n 2, 1) := by decide +kernel
theorem dX11_rider_11 : decode cX11_rider 11 = .ok (.invokestatic 70, 3) := by decide +kernel
theorem dX11_rider_14 : decode cX11_rider 14 = .ok (.ifCond .ne 10, 3) := by decide +kernel
theorem dX11_rider_17 : decode cX11_rider 17 = .ok (.aload_n 0, 1) := by decide +kernel
theorem dX11_rider_18 : decode cX11_rider 18 = .ok (.ldc 78, 2) := by decide +kernel
theorem dX11_rider_20 : decode cX11_rider 20 = .ok (.invokevirtual 79, 3) := by decide +kernel
theorem dX11_rider_23 : decode cX11_rider 23 = .ok (.ireturn, 1) := by decide +kernel
theorem dX11_rider_24 : decode cX11_rider 24 = .ok (.aload_n 0, 1) := by decide +kernel
theorem dX11_rider_25 : decode cX11_rider 25 = .ok (.getfield 12, 3) := by decide +kernel
theorem dX11_rider_28 : decode cX11_rider 28 = .ok (.getfield 172, 3) := by decide +kernel
theorem dX11_rider_31 : decode cX11_rider 31 = .ok (.bipush 12, 2) := by decide +kernel
theorem dX11_rider_33 : decode cX11_rider 33 = .ok (.if_icmp .lt 10, 3) := by decide +kernel
theorem dX11_rider_36 : decode cX11_rider 36 = .ok (.aload_n 0, 1) := by decide +kernel
theorem dX11_rider_37 : decode cX11_rider 37 = .ok (.ldc 118, 2) := by decide +kernel
theorem dX11_rider_39 : decode cX11_rider 39 = .ok (.invokevirtual 79, 3) := by decide +kernel
theorem dX11_rider_42 : decode cX11_rider 42 = .ok (.ireturn, 1) := by decide +kernel
theorem dX11_rider_43 : decode cX11_rider 43 = .ok (.aload_n 0, 1) := by decide +kernel
theorem dX11_rider_44 : decode cX11_rider 44 = .ok (.getfield 12, 3) := by decide +kernel
theorem dX11_rider_47 : decode cX11_rider 47 = .ok (.iload_n 1, 1) := by decide +kernel
theorem dX11_rider_48 : decode cX11_rider 48 = .ok (.iload_n 2, 1) := by decide +kernel
theorem dX11_rider_49 : decode cX11_rider 49 = .ok (.invokevirtual 175, 3) := by decide +kernel
theorem dX11_rider_52 : decode cX11_rider 52 = .ok (.aload_n 0, 1) := by decide +kernel
theorem dX11_rider_53 : decode cX11_rider 53 = .ok (.getfield 12, 3) := by decide +kernel
theorem dX11_rider_56 : decode cX11_rider 56 = .ok (.getfield 172, 3) := by decide +kernel
theorem dX11_rider_59 : decode cX11_rider 59 = .ok (.iconst 1, 1) := by decide +kernel
theorem dX11_rider_60 : decode cX11_rider 60 = .ok (.isub, 1) := by decide +kernel
theorem dX11_rider_61 : decode cX11_rider 61 = .ok (.ireturn, 1) := by decide +kernel
theorem dX11_riderOf_0 : decode cX11_riderOf 0 = .ok (.aload_n 0, 1) := by decide +kernel
theorem dX11_riderOf_1 : decode cX11_riderOf 1 = .ok (.getfield 12, 3) := by decide +kernel
theorem dX11_riderOf_4 : decode cX11_riderOf 4 = .ok (.iload_n 1, 1) := by decide +kernel
theorem dX11_riderOf_5 : decode cX11_riderOf 5 = .ok (.invokevirtual 179, 3) := by decide +kernel
theorem dX11_riderOf_8 : decode cX11_riderOf 8 = .ok (.astore_n 3, 1) := by decide +kernel
theorem dX11_riderOf_9 : decode cX11_riderOf 9 = .ok (.aload_n 3, 1) := by decide +kernel
theorem dX11_riderOf_10 : decode cX11_riderOf 10 = .ok (.ifnull 13, 3) := by decide +kernel
theorem dX11_riderOf_13 : decode cX11_riderOf 13 = .ok (.iload_n 2, 1) := by decide +kernel
theorem dX11_riderOf_14 : decode cX11_riderOf 14 = .ok (.iconst 0, 1) := by decide +kernel
theorem dX11_riderOf_15 : decode cX11_riderOf 15 = .ok (.bipush 7, 2) := by decide +kernel
theorem dX11_riderOf_17 : decode cX11_riderOf 17 = .ok (.invokestatic 74, 3) := by decide +kernel
theorem dX11_riderOf_20 : decode cX11_riderOf 20 = .ok (.ifCond .ne 10, 3) := by decide +kernel
theorem dX11_riderOf_23 : decode cX11_riderOf 23 = .ok (.aload_n 0, 1) := by decide +kernel
theorem dX11_riderOf_24 : decode cX11_riderOf 24 = .ok (.ldc 78, 2) := by decide +kernel
theorem dX11_riderOf_26 : decode cX11_riderOf 26 = .ok (.invokevirtual 79, 3) := by decide +kernel
theorem dX11_riderOf_29 : decode cX11_riderOf 29 = .ok (.ireturn, 1) := by decide +kernel
theorem dX11_riderOf_30 : decode cX11_riderOf 30 = .ok (.iload_n 2, 1) := by decide +kernel
theorem dX11_riderOf_31 : decode cX11_riderOf 31 = .ok (.tableswitch 88 0 6 #[41, 46, 51, 56, 61, 70, 79], 41) := by decide +kernel
theorem dX11_riderOf_72 : decode cX11_riderOf 72 = .ok (.aload_n 3, 1) := by decide +kernel
theorem dX11_riderOf_73 : decode cX11_riderOf 73 = .ok (.getfield 183, 3) := by decide +kernel
theorem dX11_riderOf_76 : decode cX11_riderOf 76 = .ok (.ireturn, 1) := by decide +kernel
theorem dX11_riderOf_77 : decode cX11_riderOf 77 = .ok (.aload_n 3, 1) := by decide +kernel
theorem dX11_riderOf_78 : decode cX11_riderOf 78 = .ok (.getfield 188, 3) := by decide +kernel
theorem dX11_riderOf_81 : decode cX11_riderOf 81 = .ok (.ireturn, 1) := by decide +kernel
theorem dX11_riderOf_82 : decode cX11_riderOf 82 = .ok (.aload_n 3, 1) := by decide +kernel
theorem dX11_riderOf_83 : decode cX11_riderOf 83 = .ok (.getfield 191, 3) := by decide +kernel
theorem dX11_riderOf_86 : decode cX11_riderOf 86 = .ok (.ireturn, 1) := by decide +kernel
theorem dX11_riderOf_87 : decode cX11_riderOf 87 = .ok (.aload_n 3, 1) := by decide +kernel
theorem dX11_riderOf_88 : decode cX11_riderOf 88 = .ok (.getfield 194, 3) := by decide +kernel
theorem dX11_riderOf_91 : decode cX11_riderOf 91 = .ok (.ireturn, 1) := by decide +kernel
theorem dX11_riderOf_92 : decode cX11_riderOf 92 = .ok (.aload_n 0, 1) := by decide +kernel
theorem dX11_riderOf_93 : decode cX11_riderOf 93 = .ok (.getfield 12, 3) := by decide +kernel
theorem dX11_riderOf_96 : decode cX11_riderOf 96 = .ok (.iload_n 1, 1) := by decide +kernel
theorem dX11_riderOf_97 : decode cX11_riderOf 97 = .ok (.invokevirtual 197, 3) := by decide +kernel
theorem dX11_riderOf_100 : decode cX11_riderOf 100 = .ok (.ireturn, 1) := by decide +kernel
theorem dX11_riderOf_101 : decode cX11_riderOf 101 = .ok (.aload_n 0, 1) := by decide +kernel
theorem dX11_riderOf_102 : decode cX11_riderOf 102 = .ok (.getfield 12, 3) := by decide +kernel
theorem dX11_riderOf_105 : decode cX11_riderOf 105 = .ok (.iload_n 1, 1) := by decide +kernel
theorem dX11_riderOf_106 : decode cX11_riderOf 106 = .ok (.invokevirtual 200, 3) := by decide +kernel
theorem dX11_riderOf_109 : decode cX11_riderOf 109 = .ok (.ireturn, 1) := by decide +kernel
theorem dX11_riderOf_110 : decode cX11_riderOf 110 = .ok (.aload_n 0, 1) := by decide +kernel
theorem dX11_riderOf_111 : decode cX11_riderOf 111 = .ok (.getfield 12, 3) := by decide +kernel
theorem dX11_riderOf_114 : decode cX11_riderOf 114 = .ok (.iload_n 1, 1) := by decide +kernel
theorem dX11_riderOf_115 : decode cX11_riderOf 115 = .ok (.invokevirtual 203, 3) := by decide +kernel
theorem dX11_riderOf_118 : decode cX11_riderOf 118 = .ok (.ireturn, 1) := by decide +kernel
theorem dX11_riderOf_119 : decode cX11_riderOf 119 = .ok (.aload_n 3, 1) := by decide +kernel
theorem dX11_riderOf_120 : decode cX11_riderOf 120 = .ok (.getfield 206, 3) := by decide +kernel
theorem dX11_riderOf_123 : decode cX11_riderOf 123 = .ok (.ireturn, 1) := by decide +kernel
theorem dX11_goes_0 : decode cX11_goes 0 = .ok (.aload_n 0, 1) := by decide +kernel
theorem dX11_goes_1 : decode cX11_goes 1 = .ok (.getfield 12, 3) := by decide +kernel
theorem dX11_goes_4 : decode cX11_goes 4 = .ok (.iload_n 1, 1) := by decide +kernel
theorem dX11_goes_5 : decode cX11_goes 5 = .ok (.invokevirtual 179, 3) := by decide +kernel
theorem dX11_goes_8 : decode cX11_goes 8 = .ok (.astore 4, 2) := by decide +kernel
theorem dX11_goes_10 : decode cX11_goes 10 = .ok (.aload 4, 2) := by decide +kernel
theorem dX11_goes_12 : decode cX11_goes 12 = .ok (.ifnull 17, 3) := by decide +kernel
theorem dX11_goes_15 : decode cX11_goes 15 = .ok (.iload_n 2, 1) := by decide +kernel
theorem dX11_goes_16 : decode cX11_goes 16 = .ok (.invokestatic 70, 3) := by decide +kernel
theorem dX11_goes_19 : decode cX11_goes 19 = .ok (.ifCond .eq 10, 3) := by decide +kernel
theorem dX11_goes_22 : decode cX11_goes 22 = .ok (.iload_n 3, 1) := by decide +kernel
theorem dX11_goes_23 : decode cX11_goes 23 = .ok (.invokestatic 70, 3) := by decide +kernel
theorem dX11_goes_26 : decode cX11_goes 26 = .ok (.ifCond .ne 10, 3) := by decide +kernel
theorem dX11_goes_29 : decode cX11_goes 29 = .ok (.aload_n 0, 1) := by decide +kernel
theorem dX11_goes_30 : decode cX11_goes 30 = .ok (.ldc 78, 2) := by decide +kernel
theorem dX11_goes_32 : decode cX11_goes 32 = .ok (.invokevirtual 79, 3) := by decide +kernel
theorem dX11_goes_35 : decode cX11_goes 35 = .ok (.ireturn, 1) := by decide +kernel
theorem dX11_goes_36 : decode cX11_goes 36 = .ok (.aload 4, 2) := by decide +kernel
theorem dX11_goes_38 : decode cX11_goes 38 = .ok (.getfield 183, 3) := by decide +kernel
theorem dX11_goes_41 : decode cX11_goes 41 = .ok (.aload_n 0, 1) := by decide +kernel
theorem dX11_goes_42 : decode cX11_goes 42 = .ok (.getfield 12, 3) := by decide +kernel
theorem dX11_goes_45 : decode cX11_goes 45 = .ok (.getfield 43, 3) := by decide +kernel
theorem dX11_goes_48 : decode cX11_goes 48 = .ok (.iload_n 2, 1) := by decide +kernel
theorem dX11_goes_49 : decode cX11_goes 49 = .ok (.iload_n 3, 1) := by decide +kernel
theorem dX11_goes_50 : decode cX11_goes 50 = .ok (.invokevirtual 99, 3) := by decide +kernel
theorem dX11_goes_53 : decode cX11_goes 53 = .ok (.invokestatic 209, 3) := by decide +kernel
theorem dX11_goes_56 : decode cX11_goes 56 = .ok (.istore 5, 2) := by decide +kernel
theorem dX11_goes_58 : decode cX11_goes 58 = .ok (.iload 5, 2) := by decide +kernel
theorem dX11_goes_60 : decode cX11_goes 60 = .ok (.iconst (-1), 1) := by decide +kernel
theorem dX11_goes_61 : decode cX11_goes 61 = .ok (.if_icmp .ne 12, 3) := by decide +kernel
theorem dX11_goes_64 : decode cX11_goes 64 = .ok (.aload_n 0, 1) := by decide +kernel
theorem dX11_goes_65 : decode cX11_goes 65 = .ok (.ldc 102, 2) := by decide +kernel
theorem dX11_goes_67 : decode cX11_goes 67 = .ok (.invokevirtual 79, 3) := by decide +kernel
theorem dX11_goes_70 : decode cX11_goes 70 = .ok (.goto 5, 3) := by decide +kernel
theorem dX11_goes_73 : decode cX11_goes 73 = .ok (.iload 5, 2) := by decide +kernel
theorem dX11_goes_75 : decode cX11_goes 75 = .ok (.ireturn, 1) := by decide +kernel
theorem dX11_trip_0 : decode cX11_trip 0 = .ok (.aload_n 0, 1) := by decide +kernel
theorem dX11_trip_1 : decode cX11_trip 1 = .ok (.getfield 12, 3) := by decide +kernel
theorem dX11_trip_4 : decode cX11_trip 4 = .ok (.iload_n 1, 1) := by decide +kernel
theorem dX11_trip_5 : decode cX11_trip 5 = .ok (.invokevirtual 179, 3) := by decide +kernel
theorem dX11_trip_8 : decode cX11_trip 8 = .ok (.astore 4, 2) := by decide +kernel
theorem dX11_trip_10 : decode cX11_trip 10 = .ok (.aload_n 0, 1) := by decide +kernel
theorem dX11_trip_11 : decode cX11_trip 11 = .ok (.getfield 12, 3) := by decide +kernel
theorem dX11_trip_14 : decode cX11_trip 14 = .ok (.iload_n 2, 1) := by decide +kernel
theorem dX11_trip_15 : decode cX11_trip 15 = .ok (.invokevirtual 132, 3) := by decide +kernel
theorem dX11_trip_18 : decode cX11_trip 18 = .ok (.astore 5, 2) := by decide +kernel
theorem dX11_trip_20 : decode cX11_trip 20 = .ok (.aload 4, 2) := by decide +kernel
theorem dX11_trip_22 : decode cX11_trip 22 = .ok (.ifnull 17, 3) := by decide +kernel
theorem dX11_trip_25 : decode cX11_trip 25 = .ok (.aload 5, 2) := by decide +kernel
theorem dX11_trip_27 : decode cX11_trip 27 = .ok (.ifnull 12, 3) := by decide +kernel
theorem dX11_trip_30 : decode cX11_trip 30 = .ok (.iload_n 3, 1) := by decide +kernel
theorem dX11_trip_31 : decode cX11_trip 31 = .ok (.iconst 0, 1) := by decide +kernel
theorem dX11_trip_32 : decode cX11_trip 32 = .ok (.iconst 2, 1) := by decide +kernel
theorem dX11_trip_33 : decode cX11_trip 33 = .ok (.invokestatic 74, 3) := by decide +kernel
theorem dX11_trip_36 : decode cX11_trip 36 = .ok (.ifCond .ne 10, 3) := by decide +kernel
theorem dX11_trip_39 : decode cX11_trip 39 = .ok (.aload_n 0, 1) := by decide +kernel
theorem dX11_trip_40 : decode cX11_trip 40 = .ok (.ldc 78, 2) := by decide +kernel
theorem dX11_trip_42 : decode cX11_trip 42 = .ok (.invokevirtual 79, 3) := by decide +kernel
theorem dX11_trip_45 : decode cX11_trip 45 = .ok (.ireturn, 1) := by decide +kernel
theorem dX11_trip_46 : decode cX11_trip 46 = .ok (.aload 5, 2) := by decide +kernel
theorem dX11_trip_48 : decode cX11_trip 48 = .ok (.getfield 136, 3) := by decide +kernel
theorem dX11_trip_51 : decode cX11_trip 51 = .ok (.ifCond .eq 10, 3) := by decide +kernel
theorem dX11_trip_54 : decode cX11_trip 54 = .ok (.aload_n 0, 1) := by decide +kernel
theorem dX11_trip_55 : decode cX11_trip 55 = .ok (.ldc 107, 2) := by decide +kernel
theorem dX11_trip_57 : decode cX11_trip 57 = .ok (.invokevirtual 79, 3) := by decide +kernel
theorem dX11_trip_60 : decode cX11_trip 60 = .ok (.ireturn, 1) := by decide +kernel
theorem dX11_trip_61 : decode cX11_trip 61 = .ok (.aload_n 0, 1) := by decide +kernel
theorem dX11_trip_62 : decode cX11_trip 62 = .ok (.getfield 50, 3) := by decide +kernel
theorem dX11_trip_65 : decode cX11_trip 65 = .ok (.aload 4, 2) := by decide +kernel
theorem dX11_trip_67 : decode cX11_trip 67 = .ok (.getfield 183, 3) := by decide +kernel
theorem dX11_trip_70 : decode cX11_trip 70 = .ok (.aload 4, 2) := by decide +kernel
theorem dX11_trip_72 : decode cX11_trip 72 = .ok (.getfield 188, 3) := by decide +kernel
theorem dX11_trip_75 : decode cX11_trip 75 = .ok (.aload 4, 2) := by decide +kernel
theorem dX11_trip_77 : decode cX11_trip 77 = .ok (.aload_n 0, 1) := by decide +kernel
theorem dX11_trip_78 : decode cX11_trip 78 = .ok (.getfield 12, 3) := by decide +kernel
theorem dX11_trip_81 : decode cX11_trip 81 = .ok (.getfield 103, 3) := by decide +kernel
theorem dX11_trip_84 : decode cX11_trip 84 = .ok (.invokevirtual 212, 3) := by decide +kernel
theorem dX11_trip_87 : decode cX11_trip 87 = .ok (.aload 5, 2) := by decide +kernel
theorem dX11_trip_89 : decode cX11_trip 89 = .ok (.invokevirtual 215, 3) := by decide +kernel
theorem dX11_trip_92 : decode cX11_trip 92 = .ok (.ifCond .ne 10, 3) := by decide +kernel
theorem dX11_trip_95 : decode cX11_trip 95 = .ok (.aload_n 0, 1) := by decide +kernel
theorem dX11_trip_96 : decode cX11_trip 96 = .ok (.ldc 102, 2) := by decide +kernel
theorem dX11_trip_98 : decode cX11_trip 98 = .ok (.invokevirtual 79, 3) := by decide +kernel
theorem dX11_trip_101 : decode cX11_trip 101 = .ok (.ireturn, 1) := by decide +kernel
theorem dX11_trip_102 : decode cX11_trip 102 = .ok (.iload_n 3, 1) := by decide +kernel
theorem dX11_trip_103 : decode cX11_trip 103 = .ok (.lookupswitch 45 #[(0, 25), (1, 35)], 25) := by decide +kernel
theorem dX11_trip_128 : decode cX11_trip 128 = .ok (.aload_n 0, 1) := by decide +kernel
theorem dX11_trip_129 : decode cX11_trip 129 = .ok (.getfield 50, 3) := by decide +kernel
theorem dX11_trip_132 : decode cX11_trip 132 = .ok (.getfield 219, 3) := by decide +kernel
theorem dX11_trip_135 : decode cX11_trip 135 = .ok (.iconst 0, 1) := by decide +kernel
theorem dX11_trip_136 : decode cX11_trip 136 = .ok (.iaload, 1) := by decide +kernel
theorem dX11_trip_137 : decode cX11_trip 137 = .ok (.ireturn, 1) := by decide +kernel
theorem dX11_trip_138 : decode cX11_trip 138 = .ok (.aload_n 0, 1) := by decide +kernel
theorem dX11_trip_139 : decode cX11_trip 139 = .ok (.getfield 50, 3) := by decide +kernel
theorem dX11_trip_142 : decode cX11_trip 142 = .ok (.getfield 219, 3) := by decide +kernel
theorem dX11_trip_145 : decode cX11_trip 145 = .ok (.iconst 1, 1) := by decide +kernel
theorem dX11_trip_146 : decode cX11_trip 146 = .ok (.iaload, 1) := by decide +kernel
theorem dX11_trip_147 : decode cX11_trip 147 = .ok (.ireturn, 1) := by decide +kernel
theorem dX11_trip_148 : decode cX11_trip 148 = .ok (.aload_n 0, 1) := by decide +kernel
theorem dX11_trip_149 : decode cX11_trip 149 = .ok (.getfield 50, 3) := by decide +kernel
theorem dX11_trip_152 : decode cX11_trip 152 = .ok (.getfield 222, 3) := by decide +kernel
theorem dX11_trip_155 : decode cX11_trip 155 = .ok (.ireturn, 1) := by decide +kernel
theorem dX11_join_0 : decode cX11_join 0 = .ok (.iload 4, 2) := by decide +kernel
theorem dX11_join_2 : decode cX11_join 2 = .ok (.iconst 0, 1) := by decide +kernel
theorem dX11_join_3 : decode cX11_join 3 = .ok (.iconst 4, 1) := by decide +kernel
theorem dX11_join_4 : decode cX11_join 4 = .ok (.invokestatic 74, 3) := by decide +kernel
theorem dX11_join_7 : decode cX11_join 7 = .ok (.ifCond .eq 13, 3) := by decide +kernel
theorem dX11_join_10 : decode cX11_join 10 = .ok (.aload_n 0, 1) := by decide +kernel
theorem dX11_join_11 : decode cX11_join 11 = .ok (.iload_n 1, 1) := by decide +kernel
theorem dX11_join_12 : decode cX11_join 12 = .ok (.iload_n 2, 1) := by decide +kernel
theorem dX11_join_13 : decode cX11_join 13 = .ok (.iload_n 3, 1) := by decide +kernel
theorem dX11_join_14 : decode cX11_join 14 = .ok (.invokevirtual 223, 3) := by decide +kernel
theorem dX11_join_17 : decode cX11_join 17 = .ok (.goto 5, 3) := by decide +kernel
theorem dX11_join_20 : decode cX11_join 20 = .ok (.ldc 78, 2) := by decide +kernel
theorem dX11_join_22 : decode cX11_join 22 = .ok (.istore 5, 2) := by decide +kernel
theorem dX11_join_24 : decode cX11_join 24 = .ok (.iload 5, 2) := by decide +kernel
theorem dX11_join_26 : decode cX11_join 26 = .ok (.ifCond .eq 10, 3) := by decide +kernel
theorem dX11_join_29 : decode cX11_join 29 = .ok (.aload_n 0, 1) := by decide +kernel
theorem dX11_join_30 : decode cX11_join 30 = .ok (.iload 5, 2) := by decide +kernel
theorem dX11_join_32 : decode cX11_join 32 = .ok (.invokevirtual 79, 3) := by decide +kernel
theorem dX11_join_35 : decode cX11_join 35 = .ok (.ireturn, 1) := by decide +kernel
theorem dX11_join_36 : decode cX11_join 36 = .ok (.iload 4, 2) := by decide +kernel
theorem dX11_join_38 : decode cX11_join 38 = .ok (.tableswitch 64 0 3 #[30, 38, 46, 54], 30) := by decide +kernel
theorem dX11_join_68 : decode cX11_join 68 = .ok (.aload_n 0, 1) := by decide +kernel
theorem dX11_join_69 : decode cX11_join 69 = .ok (.getfield 50, 3) := by decide +kernel
theorem dX11_join_72 : decode cX11_join 72 = .ok (.getfield 226, 3) := by decide +kernel
theorem dX11_join_75 : decode cX11_join 75 = .ok (.ireturn, 1) := by decide +kernel
theorem dX11_join_76 : decode cX11_join 76 = .ok (.aload_n 0, 1) := by decide +kernel
theorem dX11_join_77 : decode cX11_join 77 = .ok (.getfield 50, 3) := by decide +kernel
theorem dX11_join_80 : decode cX11_join 80 = .ok (.getfield 222, 3) := by decide +kernel
theorem dX11_join_83 : decode cX11_join 83 = .ok (.ireturn, 1) := by decide +kernel
theorem dX11_join_84 : decode cX11_join 84 = .ok (.aload_n 0, 1) := by decide +kernel
theorem dX11_join_85 : decode cX11_join 85 = .ok (.getfield 50, 3) := by decide +kernel
theorem dX11_join_88 : decode cX11_join 88 = .ok (.getfield 229, 3) := by decide +kernel
theorem dX11_join_91 : decode cX11_join 91 = .ok (.ireturn, 1) := by decide +kernel
theorem dX11_join_92 : decode cX11_join 92 = .ok (.aload_n 0, 1) := by decide +kernel
theorem dX11_join_93 : decode cX11_join 93 = .ok (.getfield 50, 3) := by decide +kernel
theorem dX11_join_96 : decode cX11_join 96 = .ok (.getfield 219, 3) := by decide +kernel
theorem dX11_join_99 : decode cX11_join 99 = .ok (.iconst 1, 1) := by decide +kernel
theorem dX11_join_100 : decode cX11_join 100 = .ok (.iaload, 1) := by decide +kernel
theorem dX11_join_101 : decode cX11_join 101 = .ok (.ireturn, 1) := by decide +kernel
theorem dX11_join_102 : decode cX11_join 102 = .ok (.aload_n 0, 1) := by decide +kernel
theorem dX11_join_103 : decode cX11_join 103 = .ok (.getfield 50, 3) := by decide +kernel
theorem dX11_join_106 : decode cX11_join 106 = .ok (.getfield 219, 3) := by decide +kernel
theorem dX11_join_109 : decode cX11_join 109 = .ok (.iconst 3, 1) := by decide +kernel
theorem dX11_join_110 : decode cX11_join 110 = .ok (.iaload, 1) := by decide +kernel
theorem dX11_join_111 : decode cX11_join 111 = .ok (.ireturn, 1) := by decide +kernel
theorem dX11_give_0 : decode cX11_give 0 = .ok (.aload_n 0, 1) := by decide +kernel
theorem dX11_give_1 : decode cX11_give 1 = .ok (.getfield 12, 3) := by decide +kernel
theorem dX11_give_4 : decode cX11_give 4 = .ok (.iload_n 1, 1) := by decide +kernel
theorem dX11_give_5 : decode cX11_give 5 = .ok (.invokevirtual 179, 3) := by decide +kernel
theorem dX11_give_8 : decode cX11_give 8 = .ok (.astore_n 3, 1) := by decide +kernel
theorem dX11_give_9 : decode cX11_give 9 = .ok (.aload_n 0, 1) := by decide +kernel
theorem dX11_give_10 : decode cX11_give 10 = .ok (.getfield 12, 3) := by decide +kernel
theorem dX11_give_13 : decode cX11_give 13 = .ok (.iload_n 2, 1) := by decide +kernel
theorem dX11_give_14 : decode cX11_give 14 = .ok (.invokevirtual 132, 3) := by decide +kernel
theorem dX11_give_17 : decode cX11_give 17 = .ok (.astore 4, 2) := by decide +kernel
theorem dX11_give_19 : decode cX11_give 19 = .ok (.aload_n 3, 1) := by decide +kernel
theorem dX11_give_20 : decode cX11_give 20 = .ok (.ifnull 8, 3) := by decide +kernel
theorem dX11_give_23 : decode cX11_give 23 = .ok (.aload 4, 2) := by decide +kernel
theorem dX11_give_25 : decode cX11_give 25 = .ok (.ifnonnull 10, 3) := by decide +kernel
theorem dX11_give_28 : decode cX11_give 28 = .ok (.aload_n 0, 1) := by decide +kernel
theorem dX11_give_29 : decode cX11_give 29 = .ok (.ldc 78, 2) := by decide +kernel
theorem dX11_give_31 : decode cX11_give 31 = .ok (.invokevirtual 79, 3) := by decide +kernel
theorem dX11_give_34 : decode cX11_give 34 = .ok (.ireturn, 1) := by decide +kernel
theorem dX11_give_35 : decode cX11_give 35 = .ok (.aload 4, 2) := by decide +kernel
theorem dX11_give_37 : decode cX11_give 37 = .ok (.getfield 136, 3) := by decide +kernel
theorem dX11_give_40 : decode cX11_give 40 = .ok (.ifCond .eq 10, 3) := by decide +kernel
theorem dX11_give_43 : decode cX11_give 43 = .ok (.aload_n 0, 1) := by decide +kernel
theorem dX11_give_44 : decode cX11_give 44 = .ok (.ldc 107, 2) := by decide +kernel
theorem dX11_give_46 : decode cX11_give 46 = .ok (.invokevirtual 79, 3) := by decide +kernel
theorem dX11_give_49 : decode cX11_give 49 = .ok (.ireturn, 1) := by decide +kernel
theorem dX11_give_50 : decode cX11_give 50 = .ok (.aload_n 0, 1) := by decide +kernel
theorem dX11_give_51 : decode cX11_give 51 = .ok (.getfield 50, 3) := by decide +kernel
theorem dX11_give_54 : decode cX11_give 54 = .ok (.aload_n 3, 1) := by decide +kernel
theorem dX11_give_55 : decode cX11_give 55 = .ok (.getfield 183, 3) := by decide +kernel
theorem dX11_give_58 : decode cX11_give 58 = .ok (.aload_n 3, 1) := by decide +kernel
theorem dX11_give_59 : decode cX11_give 59 = .ok (.getfield 188, 3) := by decide +kernel
theorem dX11_give_62 : decode cX11_give 62 = .ok (.aload_n 3, 1) := by decide +kernel
theorem dX11_give_63 : decode cX11_give 63 = .ok (.aload_n 0, 1) := by decide +kernel
theorem dX11_give_64 : decode cX11_give 64 = .ok (.getfield 12, 3) := by decide +kernel
theorem dX11_give_67 : decode cX11_give 67 = .ok (.getfield 103, 3) := by decide +kernel
theorem dX11_give_70 : decode cX11_give 70 = .ok (.invokevirtual 212, 3) := by decide +kernel
theorem dX11_give_73 : decode cX11_give 73 = .ok (.aload 4, 2) := by decide +kernel
theorem dX11_give_75 : decode cX11_give 75 = .ok (.invokevirtual 215, 3) := by decide +kernel
theorem dX11_give_78 : decode cX11_give 78 = .ok (.ifCond .ne 10, 3) := by decide +kernel
theorem dX11_give_81 : decode cX11_give 81 = .ok (.aload_n 0, 1) := by decide +kernel
theorem dX11_give_82 : decode cX11_give 82 = .ok (.ldc 102, 2) := by decide +kernel
theorem dX11_give_84 : decode cX11_give 84 = .ok (.invokevirtual 79, 3) := by decide +kernel
theorem dX11_give_87 : decode cX11_give 87 = .ok (.ireturn, 1) := by decide +kernel
theorem dX11_give_88 : decode cX11_give 88 = .ok (.aload_n 0, 1) := by decide +kernel
theorem dX11_give_89 : decode cX11_give 89 = .ok (.iload_n 1, 1) := by decide +kernel
theorem dX11_give_90 : decode cX11_give 90 = .ok (.aload 4, 2) := by decide +kernel
theorem dX11_give_92 : decode cX11_give 92 = .ok (.invokevirtual 232, 3) := by decide +kernel
theorem dX11_give_95 : decode cX11_give 95 = .ok (.aload 4, 2) := by decide +kernel
theorem dX11_give_97 : decode cX11_give 97 = .ok (.getfield 159, 3) := by decide +kernel
theorem dX11_give_100 : decode cX11_give 100 = .ok (.ireturn, 1) := by decide +kernel
theorem dX11_giveTwo_0 : decode cX11_giveTwo 0 = .ok (.aload_n 0, 1) := by decide +kernel
theorem dX11_giveTwo_1 : decode cX11_giveTwo 1 = .ok (.iload_n 1, 1) := by decide +kernel
theorem dX11_giveTwo_2 : decode cX11_giveTwo 2 = .ok (.iload_n 2, 1) := by decide +kernel
theorem dX11_giveTwo_3 : decode cX11_giveTwo 3 = .ok (.iload_n 3, 1) := by decide +kernel
theorem dX11_giveTwo_4 : decode cX11_giveTwo 4 = .ok (.invokevirtual 223, 3) := by decide +kernel
theorem dX11_giveTwo_7 : decode cX11_giveTwo 7 = .ok (.istore 4, 2) := by decide +kernel
theorem dX11_giveTwo_9 : decode cX11_giveTwo 9 = .ok (.iload 4, 2) := by decide +kernel
theorem dX11_giveTwo_11 : decode cX11_giveTwo 11 = .ok (.ifCond .eq 10, 3) := by decide +kernel
theorem dX11_giveTwo_14 : decode cX11_giveTwo 14 = .ok (.aload_n 0, 1) := by decide +kernel
theorem dX11_giveTwo_15 : decode cX11_giveTwo 15 = .ok (.iload 4, 2) := by decide +kernel
theorem dX11_giveTwo_17 : decode cX11_giveTwo 17 = .ok (.invokevirtual 79, 3) := by decide +kernel
theorem dX11_giveTwo_20 : decode cX11_giveTwo 20 = .ok (.ireturn, 1) := by decide +kernel
theorem dX11_giveTwo_21 : decode cX11_giveTwo 21 = .ok (.aload_n 0, 1) := by decide +kernel
theorem dX11_giveTwo_22 : decode cX11_giveTwo 22 = .ok (.iload_n 1, 1) := by decide +kernel
theorem dX11_giveTwo_23 : decode cX11_giveTwo 23 = .ok (.iload_n 2, 1) := by decide +kernel
theorem dX11_giveTwo_24 : decode cX11_giveTwo 24 = .ok (.iload_n 3, 1) := by decide +kernel
theorem dX11_giveTwo_25 : decode cX11_giveTwo 25 = .ok (.invokevirtual 236, 3) := by decide +kernel
theorem dX11_giveTwo_28 : decode cX11_giveTwo 28 = .ok (.aload_n 0, 1) := by decide +kernel
theorem dX11_giveTwo_29 : decode cX11_giveTwo 29 = .ok (.getfield 50, 3) := by decide +kernel
theorem dX11_giveTwo_32 : decode cX11_giveTwo 32 = .ok (.getfield 229, 3) := by decide +kernel
theorem dX11_giveTwo_35 : decode cX11_giveTwo 35 = .ok (.ireturn, 1) := by decide +kernel
theorem dX11_feed_0 : decode cX11_feed 0 = .ok (.iload_n 2, 1) := by decide +kernel
theorem dX11_feed_1 : decode cX11_feed 1 = .ok (.iconst 1, 1) := by decide +kernel
theorem dX11_feed_2 : decode cX11_feed 2 = .ok (.iconst 4, 1) := by decide +kernel
theorem dX11_feed_3 : decode cX11_feed 3 = .ok (.invokestatic 74, 3) := by decide +kernel
theorem dX11_feed_6 : decode cX11_feed 6 = .ok (.ifCond .ne 10, 3) := by decide +kernel
theorem dX11_feed_9 : decode cX11_feed 9 = .ok (.aload_n 0, 1) := by decide +kernel
theorem dX11_feed_10 : decode cX11_feed 10 = .ok (.ldc 78, 2) := by decide +kernel
theorem dX11_feed_12 : decode cX11_feed 12 = .ok (.invokevirtual 79, 3) := by decide +kernel
theorem dX11_feed_15 : decode cX11_feed 15 = .ok (.ireturn, 1) := by decide +kernel
theorem dX11_feed_16 : decode cX11_feed 16 = .ok (.aload_n 0, 1) := by decide +kernel
theorem dX11_feed_17 : decode cX11_feed 17 = .ok (.getfield 26, 3) := by decide +kernel
theorem dX11_feed_20 : decode cX11_feed 20 = .ok (.getfield 240, 3) := by decide +kernel
theorem dX11_feed_23 : decode cX11_feed 23 = .ok (.iload_n 2, 1) := by decide +kernel
theorem dX11_feed_24 : decode cX11_feed 24 = .ok (.iadd, 1) := by decide +kernel
theorem dX11_feed_25 : decode cX11_feed 25 = .ok (.bipush 80, 2) := by decide +kernel
theorem dX11_feed_27 : decode cX11_feed 27 = .ok (.if_icmp .le 10, 3) := by decide +kernel
theorem dX11_feed_30 : decode cX11_feed 30 = .ok (.aload_n 0, 1) := by decide +kernel
theorem dX11_feed_31 : decode cX11_feed 31 = .ok (.ldc 118, 2) := by decide +kernel
theorem dX11_feed_33 : decode cX11_feed 33 = .ok (.invokevirtual 79, 3) := by decide +kernel
theorem dX11_feed_36 : decode cX11_feed 36 = .ok (.ireturn, 1) := by decide +kernel
theorem dX11_feed_37 : decode cX11_feed 37 = .ok (.iload_n 2, 1) := by decide +kernel
theorem dX11_feed_38 : decode cX11_feed 38 = .ok (.iconst 1, 1) := by decide +kernel
theorem dX11_feed_39 : decode cX11_feed 39 = .ok (.isub, 1) := by decide +kernel
theorem dX11_feed_40 : decode cX11_feed 40 = .ok (.istore_n 3, 1) := by decide +kernel
theorem dX11_feed_41 : decode cX11_feed 41 = .ok (.iload_n 3, 1) := by decide +kernel
theorem dX11_feed_42 : decode cX11_feed 42 = .ok (.ifCond .lt 26, 3) := by decide +kernel
theorem dX11_feed_45 : decode cX11_feed 45 = .ok (.aload_n 0, 1) := by decide +kernel
theorem dX11_feed_46 : decode cX11_feed 46 = .ok (.getfield 26, 3) := by decide +kernel
theorem dX11_feed_49 : decode cX11_feed 49 = .ok (.iload_n 1, 1) := by decide +kernel
theorem dX11_feed_50 : decode cX11_feed 50 = .ok (.bipush 8, 2) := by decide +kernel
theorem dX11_feed_52 : decode cX11_feed 52 = .ok (.iload_n 3, 1) := by decide +kernel
theorem dX11_feed_53 : decode cX11_feed 53 = .ok (.imul, 1) := by decide +kernel
theorem dX11_feed_54 : decode cX11_feed 54 = .ok (.iushr, 1) := by decide +kernel
theorem dX11_feed_55 : decode cX11_feed 55 = .ok (.sipush 255, 3) := by decide +kernel
theorem dX11_feed_58 : decode cX11_feed 58 = .ok (.iand, 1) := by decide +kernel
theorem dX11_feed_59 : decode cX11_feed 59 = .ok (.invokevirtual 243, 3) := by decide +kernel
theorem dX11_feed_62 : decode cX11_feed 62 = .ok (.iinc 3 (-1), 3) := by decide +kernel
theorem dX11_feed_65 : decode cX11_feed 65 = .ok (.goto (-24), 3) := by decide +kernel
theorem dX11_feed_68 : decode cX11_feed 68 = .ok (.aload_n 0, 1) := by decide +kernel
theorem dX11_feed_69 : decode cX11_feed 69 = .ok (.getfield 26, 3) := by decide +kernel
theorem dX11_feed_72 : decode cX11_feed 72 = .ok (.getfield 240, 3) := by decide +kernel
theorem dX11_feed_75 : decode cX11_feed 75 = .ok (.ireturn, 1) := by decide +kernel
theorem dX11_wipe_0 : decode cX11_wipe 0 = .ok (.aload_n 0, 1) := by decide +kernel
theorem dX11_wipe_1 : decode cX11_wipe 1 = .ok (.getfield 26, 3) := by decide +kernel
theorem dX11_wipe_4 : decode cX11_wipe 4 = .ok (.getfield 240, 3) := by decide +kernel
theorem dX11_wipe_7 : decode cX11_wipe 7 = .ok (.istore_n 1, 1) := by decide +kernel
theorem dX11_wipe_8 : decode cX11_wipe 8 = .ok (.aload_n 0, 1) := by decide +kernel
theorem dX11_wipe_9 : decode cX11_wipe 9 = .ok (.getfield 26, 3) := by decide +kernel
theorem dX11_wipe_12 : decode cX11_wipe 12 = .ok (.iconst 0, 1) := by decide +kernel
theorem dX11_wipe_13 : decode cX11_wipe 13 = .ok (.putfield 240, 3) := by decide +kernel
theorem dX11_wipe_16 : decode cX11_wipe 16 = .ok (.iload_n 1, 1) := by decide +kernel
theorem dX11_wipe_17 : decode cX11_wipe 17 = .ok (.ireturn, 1) := by decide +kernel
theorem dX11_text_0 : decode cX11_text 0 = .ok (.aload_n 0, 1) := by decide +kernel
theorem dX11_text_1 : decode cX11_text 1 = .ok (.getfield 12, 3) := by decide +kernel
theorem dX11_text_4 : decode cX11_text 4 = .ok (.getfield 247, 3) := by decide +kernel
theorem dX11_text_7 : decode cX11_text 7 = .ok (.bipush 8, 2) := by decide +kernel
theorem dX11_text_9 : decode cX11_text 9 = .ok (.if_icmp .lt 10, 3) := by decide +kernel
theorem dX11_text_12 : decode cX11_text 12 = .ok (.aload_n 0, 1) := by decide +kernel
theorem dX11_text_13 : decode cX11_text 13 = .ok (.ldc 118, 2) := by decide +kernel
theorem dX11_text_15 : decode cX11_text 15 = .ok (.invokevirtual 79, 3) := by decide +kernel
theorem dX11_text_18 : decode cX11_text 18 = .ok (.ireturn, 1) := by decide +kernel
theorem dX11_text_19 : decode cX11_text 19 = .ok (.aload_n 0, 1) := by decide +kernel
theorem dX11_text_20 : decode cX11_text 20 = .ok (.getfield 26, 3) := by decide +kernel
theorem dX11_text_23 : decode cX11_text 23 = .ok (.invokevirtual 250, 3) := by decide +kernel
theorem dX11_text_26 : decode cX11_text 26 = .ok (.istore_n 1, 1) := by decide +kernel
theorem dX11_text_27 : decode cX11_text 27 = .ok (.aload_n 0, 1) := by decide +kernel
theorem dX11_text_28 : decode cX11_text 28 = .ok (.getfield 26, 3) := by decide +kernel
theorem dX11_text_31 : decode cX11_text 31 = .ok (.iconst 0, 1) := by decide +kernel
theorem dX11_text_32 : decode cX11_text 32 = .ok (.putfield 240, 3) := by decide +kernel
theorem dX11_text_35 : decode cX11_text 35 = .ok (.iload_n 1, 1) := by decide +kernel
theorem dX11_text_36 : decode cX11_text 36 = .ok (.iconst (-1), 1) := by decide +kernel
theorem dX11_text_37 : decode cX11_text 37 = .ok (.if_icmp .eq 7, 3) := by decide +kernel
theorem dX11_text_40 : decode cX11_text 40 = .ok (.iconst (-1), 1) := by decide +kernel
theorem dX11_text_41 : decode cX11_text 41 = .ok (.iload_n 1, 1) := by decide +kernel
theorem dX11_text_42 : decode cX11_text 42 = .ok (.isub, 1) := by decide +kernel
theorem dX11_text_43 : decode cX11_text 43 = .ok (.ireturn, 1) := by decide +kernel
theorem dX11_text_44 : decode cX11_text 44 = .ok (.aload_n 0, 1) := by decide +kernel
theorem dX11_text_45 : decode cX11_text 45 = .ok (.getfield 12, 3) := by decide +kernel
theorem dX11_text_48 : decode cX11_text 48 = .ok (.new 254, 3) := by decide +kernel
theorem dX11_text_51 : decode cX11_text 51 = .ok (.dup, 1) := by decide +kernel
theorem dX11_text_52 : decode cX11_text 52 = .ok (.aload_n 0, 1) := by decide +kernel
theorem dX11_text_53 : decode cX11_text 53 = .ok (.getfield 26, 3) := by decide +kernel
theorem dX11_text_56 : decode cX11_text 56 = .ok (.getfield 256, 3) := by decide +kernel
theorem dX11_text_59 : decode cX11_text 59 = .ok (.aload_n 0, 1) := by decide +kernel
theorem dX11_text_60 : decode cX11_text 60 = .ok (.getfield 26, 3) := by decide +kernel
theorem dX11_text_63 : decode cX11_text 63 = .ok (.getfield 259, 3) := by decide +kernel
theorem dX11_text_66 : decode cX11_text 66 = .ok (.invokestatic 262, 3) := by decide +kernel
theorem dX11_text_69 : decode cX11_text 69 = .ok (.invokespecial 268, 3) := by decide +kernel
theorem dX11_text_72 : decode cX11_text 72 = .ok (.invokevirtual 271, 3) := by decide +kernel
theorem dX11_text_75 : decode cX11_text 75 = .ok (.aload_n 0, 1) := by decide +kernel
theorem dX11_text_76 : decode cX11_text 76 = .ok (.getfield 12, 3) := by decide +kernel
theorem dX11_text_79 : decode cX11_text 79 = .ok (.getfield 247, 3) := by decide +kernel
theorem dX11_text_82 : decode cX11_text 82 = .ok (.iconst 1, 1) := by decide +kernel
theorem dX11_text_83 : decode cX11_text 83 = .ok (.isub, 1) := by decide +kernel
theorem dX11_text_84 : decode cX11_text 84 = .ok (.ireturn, 1) := by decide +kernel
theorem dX11_force_0 : decode cX11_force 0 = .ok (.iload_n 1, 1) := by decide +kernel
theorem dX11_force_1 : decode cX11_force 1 = .ok (.iconst 0, 1) := by decide +kernel
theorem dX11_force_2 : decode cX11_force 2 = .ok (.iconst 1, 1) := by decide +kernel
theorem dX11_force_3 : decode cX11_force 3 = .ok (.invokestatic 74, 3) := by decide +kernel
theorem dX11_force_6 : decode cX11_force 6 = .ok (.ifCond .eq 20, 3) := by decide +kernel
theorem dX11_force_9 : decode cX11_force 9 = .ok (.iload_n 2, 1) := by decide +kernel
theorem dX11_force_10 : decode cX11_force 10 = .ok (.iconst (-1), 1) := by decide +kernel
theorem dX11_force_11 : decode cX11_force 11 = .ok (.aload_n 0, 1) := by decide +kernel
theorem dX11_force_12 : decode cX11_force 12 = .ok (.getfield 12, 3) := by decide +kernel
theorem dX11_force_15 : decode cX11_force 15 = .ok (.getfield 247, 3) := by decide +kernel
theorem dX11_force_18 : decode cX11_force 18 = .ok (.iconst 1, 1) := by decide +kernel
theorem dX11_force_19 : decode cX11_force 19 = .ok (.isub, 1) := by decide +kernel
theorem dX11_force_20 : decode cX11_force 20 = .ok (.invokestatic 74, 3) := by decide +kernel
theorem dX11_force_23 : decode cX11_force 23 = .ok (.ifCond .ne 10, 3) := by decide +kernel
theorem dX11_force_26 : decode cX11_force 26 = .ok (.aload_n 0, 1) := by decide +kernel
theorem dX11_force_27 : decode cX11_force 27 = .ok (.ldc 78, 2) := by decide +kernel
theorem dX11_force_29 : decode cX11_force 29 = .ok (.invokevirtual 79, 3) := by decide +kernel
theorem dX11_force_32 : decode cX11_force 32 = .ok (.ireturn, 1) := by decide +kernel
theorem dX11_force_33 : decode cX11_force 33 = .ok (.iload_n 1, 1) := by decide +kernel
theorem dX11_force_34 : decode cX11_force 34 = .ok (.ifCond .ne 13, 3) := by decide +kernel
theorem dX11_force_37 : decode cX11_force 37 = .ok (.aload_n 0, 1) := by decide +kernel
theorem dX11_force_38 : decode cX11_force 38 = .ok (.getfield 12, 3) := by decide +kernel
theorem dX11_force_41 : decode cX11_force 41 = .ok (.getfield 275, 3) := by decide +kernel
theorem dX11_force_44 : decode cX11_force 44 = .ok (.goto 10, 3) := by decide +kernel
theorem dX11_force_47 : decode cX11_force 47 = .ok (.aload_n 0, 1) := by decide +kernel
theorem dX11_force_48 : decode cX11_force 48 = .ok (.getfield 12, 3) := by decide +kernel
theorem dX11_force_51 : decode cX11_force 51 = .ok (.getfield 278, 3) := by decide +kernel
theorem dX11_force_54 : decode cX11_force 54 = .ok (.istore_n 3, 1) := by decide +kernel
theorem dX11_force_55 : decode cX11_force 55 = .ok (.iload_n 1, 1) := by decide +kernel
theorem dX11_force_56 : decode cX11_force 56 = .ok (.ifCond .ne 14, 3) := by decide +kernel
theorem dX11_force_59 : decode cX11_force 59 = .ok (.aload_n 0, 1) := by decide +kernel
theorem dX11_force_60 : decode cX11_force 60 = .ok (.getfield 12, 3) := by decide +kernel
theorem dX11_force_63 : decode cX11_force 63 = .ok (.iload_n 2, 1) := by decide +kernel
theorem dX11_force_64 : decode cX11_force 64 = .ok (.putfield 275, 3) := by decide +kernel
theorem dX11_force_67 : decode cX11_force 67 = .ok (.goto 11, 3) := by decide +kernel
theorem dX11_force_70 : decode cX11_force 70 = .ok (.aload_n 0, 1) := by decide +kernel
theorem dX11_force_71 : decode cX11_force 71 = .ok (.getfield 12, 3) := by decide +kernel
theorem dX11_force_74 : decode cX11_force 74 = .ok (.iload_n 2, 1) := by decide +kernel
theorem dX11_force_75 : decode cX11_force 75 = .ok (.putfield 278, 3) := by decide +kernel
theorem dX11_force_78 : decode cX11_force 78 = .ok (.iload_n 3, 1) := by decide +kernel
theorem dX11_force_79 : decode cX11_force 79 = .ok (.ireturn, 1) := by decide +kernel
theorem dX11_says_0 : decode cX11_says 0 = .ok (.aload_n 0, 1) := by decide +kernel
theorem dX11_says_1 : decode cX11_says 1 = .ok (.getfield 12, 3) := by decide +kernel
theorem dX11_says_4 : decode cX11_says 4 = .ok (.iload_n 1, 1) := by decide +kernel
theorem dX11_says_5 : decode cX11_says 5 = .ok (.invokevirtual 281, 3) := by decide +kernel
theorem dX11_says_8 : decode cX11_says 8 = .ok (.astore 4, 2) := by decide +kernel
theorem dX11_says_10 : decode cX11_says 10 = .ok (.aload_n 0, 1) := by decide +kernel
theorem dX11_says_11 : decode cX11_says 11 = .ok (.getfield 12, 3) := by decide +kernel
theorem dX11_says_14 : decode cX11_says 14 = .ok (.iload_n 2, 1) := by decide +kernel
theorem dX11_says_15 : decode cX11_says 15 = .ok (.invokevirtual 179, 3) := by decide +kernel
theorem dX11_says_18 : decode cX11_says 18 = .ok (.astore 5, 2) := by decide +kernel
theorem dX11_says_20 : decode cX11_says 20 = .ok (.aload_n 0, 1) := by decide +kernel
theorem dX11_says_21 : decode cX11_says 21 = .ok (.getfield 12, 3) := by decide +kernel
theorem dX11_says_24 : decode cX11_says 24 = .ok (.iload_n 3, 1) := by decide +kernel
theorem dX11_says_25 : decode cX11_says 25 = .ok (.invokevirtual 132, 3) := by decide +kernel
theorem dX11_says_28 : decode cX11_says 28 = .ok (.astore 6, 2) := by decide +kernel
theorem dX11_says_30 : decode cX11_says 30 = .ok (.aload 4, 2) := by decide +kernel
theorem dX11_says_32 : decode cX11_says 32 = .ok (.ifnull 13, 3) := by decide +kernel
theorem dX11_says_35 : decode cX11_says 35 = .ok (.aload 5, 2) := by decide +kernel
theorem dX11_says_37 : decode cX11_says 37 = .ok (.ifnull 8, 3) := by decide +kernel
theorem dX11_says_40 : decode cX11_says 40 = .ok (.aload 6, 2) := by decide +kernel
theorem dX11_says_42 : decode cX11_says 42 = .ok (.ifnonnull 10, 3) := by decide +kernel
theorem dX11_says_45 : decode cX11_says 45 = .ok (.aload_n 0, 1) := by decide +kernel
theorem dX11_says_46 : decode cX11_says 46 = .ok (.ldc 78, 2) := by decide +kernel
theorem dX11_says_48 : decode cX11_says 48 = .ok (.invokevirtual 79, 3) := by decide +kernel
theorem dX11_says_51 : decode cX11_says 51 = .ok (.ireturn, 1) := by decide +kernel
theorem dX11_says_52 : decode cX11_says 52 = .ok (.aload_n 0, 1) := by decide +kernel
theorem dX11_says_53 : decode cX11_says 53 = .ok (.getfield 12, 3) := by decide +kernel
theorem dX11_says_56 : decode cX11_says 56 = .ok (.aload_n 0, 1) := by decide +kernel
theorem dX11_says_57 : decode cX11_says 57 = .ok (.getfield 57, 3) := by decide +kernel
theorem dX11_says_60 : decode cX11_says 60 = .ok (.iload_n 2, 1) := by decide +kernel
theorem dX11_says_61 : decode cX11_says 61 = .ok (.aload 6, 2) := by decide +kernel
theorem dX11_says_63 : decode cX11_says 63 = .ok (.invokevirtual 285, 3) := by decide +kernel
theorem dX11_says_66 : decode cX11_says 66 = .ok (.aload 6, 2) := by decide +kernel
theorem dX11_says_68 : decode cX11_says 68 = .ok (.getfield 136, 3) := by decide +kernel
theorem dX11_says_71 : decode cX11_says 71 = .ok (.iconst 1, 1) := by decide +kernel
theorem dX11_says_72 : decode cX11_says 72 = .ok (.if_icmp .ne 29, 3) := by decide +kernel
theorem dX11_says_75 : decode cX11_says 75 = .ok (.aload_n 0, 1) := by decide +kernel
theorem dX11_says_76 : decode cX11_says 76 = .ok (.getfield 57, 3) := by decide +kernel
theorem dX11_says_79 : decode cX11_says 79 = .ok (.aload 6, 2) := by decide +kernel
theorem dX11_says_81 : decode cX11_says 81 = .ok (.getfield 156, 3) := by decide +kernel
theorem dX11_says_84 : decode cX11_says 84 = .ok (.aload 6, 2) := by decide +kernel
theorem dX11_says_86 : decode cX11_says 86 = .ok (.getfield 147, 3) := by decide +kernel
theorem dX11_says_89 : decode cX11_says 89 = .ok (.isub, 1) := by decide +kernel
theorem dX11_says_90 : decode cX11_says 90 = .ok (.aload 6, 2) := by decide +kernel
theorem dX11_says_92 : decode cX11_says 92 = .ok (.getfield 162, 3) := by decide +kernel
theorem dX11_says_95 : decode cX11_says 95 = .ok (.invokevirtual 289, 3) := by decide +kernel
theorem dX11_says_98 : decode cX11_says 98 = .ok (.goto 72, 3) := by decide +kernel
theorem dX11_says_101 : decode cX11_says 101 = .ok (.aload_n 0, 1) := by decide +kernel
theorem dX11_says_102 : decode cX11_says 102 = .ok (.getfield 50, 3) := by decide +kernel
theorem dX11_says_105 : decode cX11_says 105 = .ok (.aload 5, 2) := by decide +kernel
theorem dX11_says_107 : decode cX11_says 107 = .ok (.getfield 183, 3) := by decide +kernel
theorem dX11_says_110 : decode cX11_says 110 = .ok (.aload 5, 2) := by decide +kernel
theorem dX11_says_112 : decode cX11_says 112 = .ok (.getfield 188, 3) := by decide +kernel
theorem dX11_says_115 : decode cX11_says 115 = .ok (.aload 5, 2) := by decide +kernel
theorem dX11_says_117 : decode cX11_says 117 = .ok (.aload_n 0, 1) := by decide +kernel
theorem dX11_says_118 : decode cX11_says 118 = .ok (.getfield 12, 3) := by decide +kernel
theorem dX11_says_121 : decode cX11_says 121 = .ok (.getfield 103, 3) := by decide +kernel
theorem dX11_says_124 : decode cX11_says 124 = .ok (.invokevirtual 212, 3) := by decide +kernel
theorem dX11_says_127 : decode cX11_says 127 = .ok (.aload 6, 2) := by decide +kernel
theorem dX11_says_129 : decode cX11_says 129 = .ok (.invokevirtual 215, 3) := by decide +kernel
theorem dX11_says_132 : decode cX11_says 132 = .ok (.istore 7, 2) := by decide +kernel
theorem dX11_says_134 : decode cX11_says 134 = .ok (.aload_n 0, 1) := by decide +kernel
theorem dX11_says_135 : decode cX11_says 135 = .ok (.getfield 57, 3) := by decide +kernel
theorem dX11_says_138 : decode cX11_says 138 = .ok (.aload_n 0, 1) := by decide +kernel
theorem dX11_says_139 : decode cX11_says 139 = .ok (.getfield 12, 3) := by decide +kernel
theorem dX11_says_142 : decode cX11_says 142 = .ok (.getfield 103, 3) := by decide +kernel
theorem dX11_says_145 : decode cX11_says 145 = .ok (.aload 6, 2) := by decide +kernel
theorem dX11_says_147 : decode cX11_says 147 = .ok (.getfield 147, 3) := by decide +kernel
theorem dX11_says_150 : decode cX11_says 150 = .ok (.isub, 1) := by decide +kernel
theorem dX11_says_151 : decode cX11_says 151 = .ok (.iload 7, 2) := by decide +kernel
theorem dX11_says_153 : decode cX11_says 153 = .ok (.ifCond .eq 13, 3) := by decide +kernel
theorem dX11_says_156 : decode cX11_says 156 = .ok (.aload_n 0, 1) := by decide +kernel
theorem dX11_says_157 : decode cX11_says 157 = .ok (.getfield 50, 3) := by decide +kernel
theorem dX11_says_160 : decode cX11_says 160 = .ok (.getfield 222, 3) := by decide +kernel
theorem dX11_says_163 : decode cX11_says 163 = .ok (.goto 4, 3) := by decide +kernel
theorem dX11_says_166 : decode cX11_says 166 = .ok (.iconst 0, 1) := by decide +kernel
theorem dX11_says_167 : decode cX11_says 167 = .ok (.invokevirtual 289, 3) := by decide +kernel
theorem dX11_says_170 : decode cX11_says 170 = .ok (.aload_n 0, 1) := by decide +kernel
theorem dX11_says_171 : decode cX11_says 171 = .ok (.getfield 57, 3) := by decide +kernel
theorem dX11_says_174 : decode cX11_says 174 = .ok (.aload 4, 2) := by decide +kernel
theorem dX11_says_176 : decode cX11_says 176 = .ok (.invokevirtual 292, 3) := by decide +kernel
theorem dX11_says_179 : decode cX11_says 179 = .ok (.ireturn, 1) := by decide +kernel
theorem dX11_offered_0 : decode cX11_offered 0 = .ok (.aload_n 0, 1) := by decide +kernel
theorem dX11_offered_1 : decode cX11_offered 1 = .ok (.getfield 12, 3) := by decide +kernel
theorem dX11_offered_4 : decode cX11_offered 4 = .ok (.iload_n 1, 1) := by decide +kernel
theorem dX11_offered_5 : decode cX11_offered 5 = .ok (.invokevirtual 132, 3) := by decide +kernel
theorem dX11_offered_8 : decode cX11_offered 8 = .ok (.astore_n 2, 1) := by decide +kernel
theorem dX11_offered_9 : decode cX11_offered 9 = .ok (.aload_n 2, 1) := by decide +kernel
theorem dX11_offered_10 : decode cX11_offered 10 = .ok (.ifnonnull 10, 3) := by decide +kernel
theorem dX11_offered_13 : decode cX11_offered 13 = .ok (.aload_n 0, 1) := by decide +kernel
theorem dX11_offered_14 : decode cX11_offered 14 = .ok (.ldc 78, 2) := by decide +kernel
theorem dX11_offered_16 : decode cX11_offered 16 = .ok (.invokevirtual 79, 3) := by decide +kernel
theorem dX11_offered_19 : decode cX11_offered 19 = .ok (.ireturn, 1) := by decide +kernel
theorem dX11_offered_20 : decode cX11_offered 20 = .ok (.aload_n 0, 1) := by decide +kernel
theorem dX11_offered_21 : decode cX11_offered 21 = .ok (.getfield 12, 3) := by decide +kernel
theorem dX11_offered_24 : decode cX11_offered 24 = .ok (.aload_n 0, 1) := by decide +kernel
theorem dX11_offered_25 : decode cX11_offered 25 = .ok (.getfield 12, 3) := by decide +kernel
theorem dX11_offered_28 : decode cX11_offered 28 = .ok (.getfield 275, 3) := by decide +kernel
theorem dX11_offered_31 : decode cX11_offered 31 = .ok (.invokevirtual 281, 3) := by decide +kernel
theorem dX11_offered_34 : decode cX11_offered 34 = .ok (.astore_n 3, 1) := by decide +kernel
theorem dX11_offered_35 : decode cX11_offered 35 = .ok (.aload_n 2, 1) := by decide +kernel
theorem dX11_offered_36 : decode cX11_offered 36 = .ok (.getfield 136, 3) := by decide +kernel
theorem dX11_offered_39 : decode cX11_offered 39 = .ok (.ifCond .ne 7, 3) := by decide +kernel
theorem dX11_offered_42 : decode cX11_offered 42 = .ok (.aload_n 3, 1) := by decide +kernel
theorem dX11_offered_43 : decode cX11_offered 43 = .ok (.ifnonnull 10, 3) := by decide +kernel
theorem dX11_offered_46 : decode cX11_offered 46 = .ok (.aload_n 0, 1) := by decide +kernel
theorem dX11_offered_47 : decode cX11_offered 47 = .ok (.ldc 107, 2) := by decide +kernel
theorem dX11_offered_49 : decode cX11_offered 49 = .ok (.invokevirtual 79, 3) := by decide +kernel
theorem dX11_offered_52 : decode cX11_offered 52 = .ok (.ireturn, 1) := by decide +kernel
theorem dX11_offered_53 : decode cX11_offered 53 = .ok (.aload_n 0, 1) := by decide +kernel
theorem dX11_offered_54 : decode cX11_offered 54 = .ok (.iload_n 1, 1) := by decide +kernel
theorem dX11_offered_55 : decode cX11_offered 55 = .ok (.aload_n 3, 1) := by decide +kernel
theorem dX11_offered_56 : decode cX11_offered 56 = .ok (.invokevirtual 296, 3) := by decide +kernel
theorem dX11_offered_59 : decode cX11_offered 59 = .ok (.istore 4, 2) := by decide +kernel
theorem dX11_offered_61 : decode cX11_offered 61 = .ok (.iload 4, 2) := by decide +kernel
theorem dX11_offered_63 : decode cX11_offered 63 = .ok (.iconst (-1), 1) := by decide +kernel
theorem dX11_offered_64 : decode cX11_offered 64 = .ok (.if_icmp .ne 12, 3) := by decide +kernel
theorem dX11_offered_67 : decode cX11_offered 67 = .ok (.aload_n 0, 1) := by decide +kernel
theorem dX11_offered_68 : decode cX11_offered 68 = .ok (.ldc 102, 2) := by decide +kernel
theorem dX11_offered_70 : decode cX11_offered 70 = .ok (.invokevirtual 79, 3) := by decide +kernel
theorem dX11_offered_73 : decode cX11_offered 73 = .ok (.goto 5, 3) := by decide +kernel
theorem dX11_offered_76 : decode cX11_offered 76 = .ok (.iload 4, 2) := by decide +kernel
theorem dX11_offered_78 : decode cX11_offered 78 = .ok (.ireturn, 1) := by decide +kernel
theorem dX11_refuse_0 : decode cX11_refuse 0 = .ok (.aload_n 0, 1) := by decide +kernel
theorem dX11_refuse_1 : decode cX11_refuse 1 = .ok (.getfield 12, 3) := by decide +kernel
theorem dX11_refuse_4 : decode cX11_refuse 4 = .ok (.iload_n 1, 1) := by decide +kernel
theorem dX11_refuse_5 : decode cX11_refuse 5 = .ok (.invokevirtual 179, 3) := by decide +kernel
theorem dX11_refuse_8 : decode cX11_refuse 8 = .ok (.astore_n 3, 1) := by decide +kernel
theorem dX11_refuse_9 : decode cX11_refuse 9 = .ok (.aload_n 0, 1) := by decide +kernel
theorem dX11_refuse_10 : decode cX11_refuse 10 = .ok (.getfield 12, 3) := by decide +kernel
theorem dX11_refuse_13 : decode cX11_refuse 13 = .ok (.iload_n 2, 1) := by decide +kernel
theorem dX11_refuse_14 : decode cX11_refuse 14 = .ok (.invokevirtual 132, 3) := by decide +kernel
theorem dX11_refuse_17 : decode cX11_refuse 17 = .ok (.astore 4, 2) := by decide +kernel
theorem dX11_refuse_19 : decode cX11_refuse 19 = .ok (.aload_n 3, 1) := by decide +kernel
theorem dX11_refuse_20 : decode cX11_refuse 20 = .ok (.ifnull 8, 3) := by decide +kernel
theorem dX11_refuse_23 : decode cX11_refuse 23 = .ok (.aload 4, 2) := by decide +kernel
theorem dX11_refuse_25 : decode cX11_refuse 25 = .ok (.ifnonnull 10, 3) := by decide +kernel
theorem dX11_refuse_28 : decode cX11_refuse 28 = .ok (.aload_n 0, 1) := by decide +kernel
theorem dX11_refuse_29 : decode cX11_refuse 29 = .ok (.ldc 78, 2) := by decide +kernel
theorem dX11_refuse_31 : decode cX11_refuse 31 = .ok (.invokevirtual 79, 3) := by decide +kernel
theorem dX11_refuse_34 : decode cX11_refuse 34 = .ok (.ireturn, 1) := by decide +kernel
theorem dX11_refuse_35 : decode cX11_refuse 35 = .ok (.aload 4, 2) := by decide +kernel
theorem dX11_refuse_37 : decode cX11_refuse 37 = .ok (.getfield 136, 3) := by decide +kernel
theorem dX11_refuse_40 : decode cX11_refuse 40 = .ok (.ifCond .ne 12, 3) := by decide +kernel
theorem dX11_refuse_43 : decode cX11_refuse 43 = .ok (.aload 4, 2) := by decide +kernel
theorem dX11_refuse_45 : decode cX11_refuse 45 = .ok (.iload_n 1, 1) := by decide +kernel
theorem dX11_refuse_46 : decode cX11_refuse 46 = .ok (.invokevirtual 300, 3) := by decide +kernel
theorem dX11_refuse_49 : decode cX11_refuse 49 = .ok (.ifCond .eq 10, 3) := by decide +kernel
theorem dX11_refuse_52 : decode cX11_refuse 52 = .ok (.aload_n 0, 1) := by decide +kernel
theorem dX11_refuse_53 : decode cX11_refuse 53 = .ok (.ldc 107, 2) := by decide +kernel
theorem dX11_refuse_55 : decode cX11_refuse 55 = .ok (.invokevirtual 79, 3) := by decide +kernel
theorem dX11_refuse_58 : decode cX11_refuse 58 = .ok (.ireturn, 1) := by decide +kernel
theorem dX11_refuse_59 : decode cX11_refuse 59 = .ok (.aload 4, 2) := by decide +kernel
theorem dX11_refuse_61 : decode cX11_refuse 61 = .ok (.dup, 1) := by decide +kernel
theorem dX11_refuse_62 : decode cX11_refuse 62 = .ok (.getfield 303, 3) := by decide +kernel
theorem dX11_refuse_65 : decode cX11_refuse 65 = .ok (.iconst 1, 1) := by decide +kernel
theorem dX11_refuse_66 : decode cX11_refuse 66 = .ok (.iload_n 1, 1) := by decide +kernel
theorem dX11_refuse_67 : decode cX11_refuse 67 = .ok (.ishl, 1) := by decide +kernel
theorem dX11_refuse_68 : decode cX11_refuse 68 = .ok (.ior, 1) := by decide +kernel
theorem dX11_refuse_69 : decode cX11_refuse 69 = .ok (.putfield 303, 3) := by decide +kernel
theorem dX11_refuse_72 : decode cX11_refuse 72 = .ok (.aload_n 3, 1) := by decide +kernel
theorem dX11_refuse_73 : decode cX11_refuse 73 = .ok (.dup, 1) := by decide +kernel
theorem dX11_refuse_74 : decode cX11_refuse 74 = .ok (.getfield 206, 3) := by decide +kernel
theorem dX11_refuse_77 : decode cX11_refuse 77 = .ok (.iconst 1, 1) := by decide +kernel
theorem dX11_refuse_78 : decode cX11_refuse 78 = .ok (.iadd, 1) := by decide +kernel
theorem dX11_refuse_79 : decode cX11_refuse 79 = .ok (.putfield 206, 3) := by decide +kernel
theorem dX11_refuse_82 : decode cX11_refuse 82 = .ok (.aload_n 3, 1) := by decide +kernel
theorem dX11_refuse_83 : decode cX11_refuse 83 = .ok (.getfield 206, 3) := by decide +kernel
theorem dX11_refuse_86 : decode cX11_refuse 86 = .ok (.ireturn, 1) := by decide +kernel
theorem dX11_offerAll_0 : decode cX11_offerAll 0 = .ok (.aload_n 0, 1) := by decide +kernel
theorem dX11_offerAll_1 : decode cX11_offerAll 1 = .ok (.getfield 12, 3) := by decide +kernel
theorem dX11_offerAll_4 : decode cX11_offerAll 4 = .ok (.aload_n 0, 1) := by decide +kernel
theorem dX11_offerAll_5 : decode cX11_offerAll 5 = .ok (.getfield 12, 3) := by decide +kernel
theorem dX11_offerAll_8 : decode cX11_offerAll 8 = .ok (.getfield 275, 3) := by decide +kernel
theorem dX11_offerAll_11 : decode cX11_offerAll 11 = .ok (.invokevirtual 281, 3) := by decide +kernel
theorem dX11_offerAll_14 : decode cX11_offerAll 14 = .ok (.astore_n 1, 1) := by decide +kernel
theorem dX11_offerAll_15 : decode cX11_offerAll 15 = .ok (.aload_n 1, 1) := by decide +kernel
theorem dX11_offerAll_16 : decode cX11_offerAll 16 = .ok (.ifnonnull 10, 3) := by decide +kernel
theorem dX11_offerAll_19 : decode cX11_offerAll 19 = .ok (.aload_n 0, 1) := by decide +kernel
theorem dX11_offerAll_20 : decode cX11_offerAll 20 = .ok (.ldc 107, 2) := by decide +kernel
theorem dX11_offerAll_22 : decode cX11_offerAll 22 = .ok (.invokevirtual 79, 3) := by decide +kernel
theorem dX11_offerAll_25 : decode cX11_offerAll 25 = .ok (.ireturn, 1) := by decide +kernel
theorem dX11_offerAll_26 : decode cX11_offerAll 26 = .ok (.iconst 0, 1) := by decide +kernel
theorem dX11_offerAll_27 : decode cX11_offerAll 27 = .ok (.istore_n 2, 1) := by decide +kernel
theorem dX11_offerAll_28 : decode cX11_offerAll 28 = .ok (.iconst 0, 1) := by decide +kernel
theorem dX11_offerAll_29 : decode cX11_offerAll 29 = .ok (.istore_n 3, 1) := by decide +kernel
theorem dX11_offerAll_30 : decode cX11_offerAll 30 = .ok (.iload_n 3, 1) := by decide +kernel
theorem dX11_offerAll_31 : decode cX11_offerAll 31 = .ok (.aload_n 0, 1) := by decide +kernel
theorem dX11_offerAll_32 : decode cX11_offerAll 32 = .ok (.getfield 12, 3) := by decide +kernel
theorem dX11_offerAll_35 : decode cX11_offerAll 35 = .ok (.getfield 125, 3) := by decide +kernel
theorem dX11_offerAll_38 : decode cX11_offerAll 38 = .ok (.if_icmp .ge 100, 3) := by decide +kernel
theorem dX11_offerAll_41 : decode cX11_offerAll 41 = .ok (.aload_n 0, 1) := by decide +kernel
theorem dX11_offerAll_42 : decode cX11_offerAll 42 = .ok (.getfield 12, 3) := by decide +kernel
theorem dX11_offerAll_45 : decode cX11_offerAll 45 = .ok (.getfield 306, 3) := by decide +kernel
theorem dX11_offerAll_48 : decode cX11_offerAll 48 = .ok (.iload_n 3, 1) := by decide +kernel
theorem dX11_offerAll_49 : decode cX11_offerAll 49 = .ok (.aaload, 1) := by decide +kernel
theorem dX11_offerAll_50 : decode cX11_offerAll 50 = .ok (.astore 4, 2) := by decide +kernel
theorem dX11_offerAll_52 : decode cX11_offerAll 52 = .ok (.aload 4, 2) := by decide +kernel
theorem dX11_offerAll_54 : decode cX11_offerAll 54 = .ok (.getfield 136, 3) := by decide +kernel
theorem dX11_offerAll_57 : decode cX11_offerAll 57 = .ok (.ifCond .ne 19, 3) := by decide +kernel
theorem dX11_offerAll_60 : decode cX11_offerAll 60 = .ok (.aload_n 0, 1) := by decide +kernel
theorem dX11_offerAll_61 : decode cX11_offerAll 61 = .ok (.getfield 12, 3) := by decide +kernel
theorem dX11_offerAll_64 : decode cX11_offerAll 64 = .ok (.aload_n 0, 1) := by decide +kernel
theorem dX11_offerAll_65 : decode cX11_offerAll 65 = .ok (.iload_n 3, 1) := by decide +kernel
theorem dX11_offerAll_66 : decode cX11_offerAll 66 = .ok (.aload_n 1, 1) := by decide +kernel
theorem dX11_offerAll_67 : decode cX11_offerAll 67 = .ok (.invokevirtual 296, 3) := by decide +kernel
theorem dX11_offerAll_70 : decode cX11_offerAll 70 = .ok (.invokevirtual 179, 3) := by decide +kernel
theorem dX11_offerAll_73 : decode cX11_offerAll 73 = .ok (.goto 4, 3) := by decide +kernel
theorem dX11_offerAll_76 : decode cX11_offerAll 76 = .ok (.aconst_null, 1) := by decide +kernel
theorem dX11_offerAll_77 : decode cX11_offerAll 77 = .ok (.astore 5, 2) := by decide +kernel
theorem dX11_offerAll_79 : decode cX11_offerAll 79 = .ok (.aload 5, 2) := by decide +kernel
theorem dX11_offerAll_81 : decode cX11_offerAll 81 = .ok (.ifnull 51, 3) := by decide +kernel
theorem dX11_offerAll_84 : decode cX11_offerAll 84 = .ok (.aload_n 0, 1) := by decide +kernel
theorem dX11_offerAll_85 : decode cX11_offerAll 85 = .ok (.getfield 50, 3) := by decide +kernel
theorem dX11_offerAll_88 : decode cX11_offerAll 88 = .ok (.aload 5, 2) := by decide +kernel
theorem dX11_offerAll_90 : decode cX11_offerAll 90 = .ok (.getfield 183, 3) := by decide +kernel
theorem dX11_offerAll_93 : decode cX11_offerAll 93 = .ok (.aload 5, 2) := by decide +kernel
theorem dX11_offerAll_95 : decode cX11_offerAll 95 = .ok (.getfield 188, 3) := by decide +kernel
theorem dX11_offerAll_98 : decode cX11_offerAll 98 = .ok (.aload 5, 2) := by decide +kernel
theorem dX11_offerAll_100 : decode cX11_offerAll 100 = .ok (.aload_n 0, 1) := by decide +kernel
theorem dX11_offerAll_101 : decode cX11_offerAll 101 = .ok (.getfield 12, 3) := by decide +kernel
theorem dX11_offerAll_104 : decode cX11_offerAll 104 = .ok (.getfield 103, 3) := by decide +kernel
theorem dX11_offerAll_107 : decode cX11_offerAll 107 = .ok (.invokevirtual 212, 3) := by decide +kernel
theorem dX11_offerAll_110 : decode cX11_offerAll 110 = .ok (.aload 4, 2) := by decide +kernel
theorem dX11_offerAll_112 : decode cX11_offerAll 112 = .ok (.invokevirtual 215, 3) := by decide +kernel
theorem dX11_offerAll_115 : decode cX11_offerAll 115 = .ok (.ifCond .eq 17, 3) := by decide +kernel
theorem dX11_offerAll_118 : decode cX11_offerAll 118 = .ok (.aload_n 0, 1) := by decide +kernel
theorem dX11_offerAll_119 : decode cX11_offerAll 119 = .ok (.aload 5, 2) := by decide +kernel
theorem dX11_offerAll_121 : decode cX11_offerAll 121 = .ok (.getfield 310, 3) := by decide +kernel
theorem dX11_offerAll_124 : decode cX11_offerAll 124 = .ok (.aload 4, 2) := by decide +kernel
theorem dX11_offerAll_126 : decode cX11_offerAll 126 = .ok (.invokevirtual 232, 3) := by decide +kernel
theorem dX11_offerAll_129 : decode cX11_offerAll 129 = .ok (.iinc 2 1, 3) := by decide +kernel
theorem dX11_offerAll_132 : decode cX11_offerAll 132 = .ok (.iinc 3 1, 3) := by decide +kernel
theorem dX11_offerAll_135 : decode cX11_offerAll 135 = .ok (.goto (-105), 3) := by decide +kernel
theorem dX11_offerAll_138 : decode cX11_offerAll 138 = .ok (.iload_n 2, 1) := by decide +kernel
theorem dX11_offerAll_139 : decode cX11_offerAll 139 = .ok (.ireturn, 1) := by decide +kernel
theorem dX11_rain_0 : decode cX11_rain 0 = .ok (.iload_n 1, 1) := by decide +kernel
theorem dX11_rain_1 : decode cX11_rain 1 = .ok (.invokestatic 313, 3) := by decide +kernel
theorem dX11_rain_4 : decode cX11_rain 4 = .ok (.ifCond .eq 25, 3) := by decide +kernel
theorem dX11_rain_7 : decode cX11_rain 7 = .ok (.iload_n 2, 1) := by decide +kernel
theorem dX11_rain_8 : decode cX11_rain 8 = .ok (.invokestatic 313, 3) := by decide +kernel
theorem dX11_rain_11 : decode cX11_rain 11 = .ok (.ifCond .eq 18, 3) := by decide +kernel
theorem dX11_rain_14 : decode cX11_rain 14 = .ok (.iload_n 2, 1) := by decide +kernel
theorem dX11_rain_15 : decode cX11_rain 15 = .ok (.iload_n 1, 1) := by decide +kernel
theorem dX11_rain_16 : decode cX11_rain 16 = .ok (.if_icmp .lt 13, 3) := by decide +kernel
theorem dX11_rain_19 : decode cX11_rain 19 = .ok (.iload_n 3, 1) := by decide +kernel
theorem dX11_rain_20 : decode cX11_rain 20 = .ok (.iconst 1, 1) := by decide +kernel
theorem dX11_rain_21 : decode cX11_rain 21 = .ok (.bipush 99, 2) := by decide +kernel
theorem dX11_rain_23 : decode cX11_rain 23 = .ok (.invokestatic 74, 3) := by decide +kernel
theorem dX11_rain_26 : decode cX11_rain 26 = .ok (.ifCond .ne 10, 3) := by decide +kernel
theorem dX11_rain_29 : decode cX11_rain 29 = .ok (.aload_n 0, 1) := by decide +kernel
theorem dX11_rain_30 : decode cX11_rain 30 = .ok (.ldc 78, 2) := by decide +kernel
theorem dX11_rain_32 : decode cX11_rain 32 = .ok (.invokevirtual 79, 3) := by decide +kernel
theorem dX11_rain_35 : decode cX11_rain 35 = .ok (.ireturn, 1) := by decide +kernel
theorem dX11_rain_36 : decode cX11_rain 36 = .ok (.aload_n 0, 1) := by decide +kernel
theorem dX11_rain_37 : decode cX11_rain 37 = .ok (.getfield 12, 3) := by decide +kernel
theorem dX11_rain_40 : decode cX11_rain 40 = .ok (.getfield 316, 3) := by decide +kernel
theorem dX11_rain_43 : decode cX11_rain 43 = .ok (.invokevirtual 112, 3) := by decide +kernel
theorem dX11_rain_46 : decode cX11_rain 46 = .ok (.ifCond .eq 10, 3) := by decide +kernel
theorem dX11_rain_49 : decode cX11_rain 49 = .ok (.aload_n 0, 1) := by decide +kernel
theorem dX11_rain_50 : decode cX11_rain 50 = .ok (.ldc 118, 2) := by decide +kernel
theorem dX11_rain_52 : decode cX11_rain 52 = .ok (.invokevirtual 79, 3) := by decide +kernel
theorem dX11_rain_55 : decode cX11_rain 55 = .ok (.ireturn, 1) := by decide +kernel
theorem dX11_rain_56 : decode cX11_rain 56 = .ok (.aload_n 0, 1) := by decide +kernel
theorem dX11_rain_57 : decode cX11_rain 57 = .ok (.getfield 12, 3) := by decide +kernel
theorem dX11_rain_60 : decode cX11_rain 60 = .ok (.getfield 316, 3) := by decide +kernel
theorem dX11_rain_63 : decode cX11_rain 63 = .ok (.iload_n 1, 1) := by decide +kernel
theorem dX11_rain_64 : decode cX11_rain 64 = .ok (.iload_n 2, 1) := by decide +kernel
theorem dX11_rain_65 : decode cX11_rain 65 = .ok (.iload_n 3, 1) := by decide +kernel
theorem dX11_rain_66 : decode cX11_rain 66 = .ok (.invokevirtual 119, 3) := by decide +kernel
theorem dX11_rain_69 : decode cX11_rain 69 = .ok (.ireturn, 1) := by decide +kernel
theorem dX11_law_0 : decode cX11_law 0 = .ok (.iload_n 1, 1) := by decide +kernel
theorem dX11_law_1 : decode cX11_law 1 = .ok (.iconst 0, 1) := by decide +kernel
theorem dX11_law_2 : decode cX11_law 2 = .ok (.sipush 999, 3) := by decide +kernel
theorem dX11_law_5 : decode cX11_law 5 = .ok (.invokestatic 74, 3) := by decide +kernel
theorem dX11_law_8 : decode cX11_law 8 = .ok (.ifCond .ne 10, 3) := by decide +kernel
theorem dX11_law_11 : decode cX11_law 11 = .ok (.aload_n 0, 1) := by decide +kernel
theorem dX11_law_12 : decode cX11_law 12 = .ok (.ldc 78, 2) := by decide +kernel
theorem dX11_law_14 : decode cX11_law 14 = .ok (.invokevirtual 79, 3) := by decide +kernel
theorem dX11_law_17 : decode cX11_law 17 = .ok (.ireturn, 1) := by decide +kernel
theorem dX11_law_18 : decode cX11_law 18 = .ok (.aload_n 0, 1) := by decide +kernel
theorem dX11_law_19 : decode cX11_law 19 = .ok (.getfield 12, 3) := by decide +kernel
theorem dX11_law_22 : decode cX11_law 22 = .ok (.getfield 319, 3) := by decide +kernel
theorem dX11_law_25 : decode cX11_law 25 = .ok (.istore_n 2, 1) := by decide +kernel
theorem dX11_law_26 : decode cX11_law 26 = .ok (.aload_n 0, 1) := by decide +kernel
theorem dX11_law_27 : decode cX11_law 27 = .ok (.getfield 12, 3) := by decide +kernel
theorem dX11_law_30 : decode cX11_law 30 = .ok (.iload_n 1, 1) := by decide +kernel
theorem dX11_law_31 : decode cX11_law 31 = .ok (.putfield 319, 3) := by decide +kernel
theorem dX11_law_34 : decode cX11_law 34 = .ok (.iload_n 2, 1) := by decide +kernel
theorem dX11_law_35 : decode cX11_law 35 = .ok (.ireturn, 1) := by decide +kernel
theorem dX11_app_0 : decode cX11_app 0 = .ok (.aload_n 0, 1) := by decide +kernel
theorem dX11_app_1 : decode cX11_app 1 = .ok (.getfield 12, 3) := by decide +kernel
theorem dX11_app_4 : decode cX11_app 4 = .ok (.iload_n 1, 1) := by decide +kernel
theorem dX11_app_5 : decode cX11_app 5 = .ok (.invokevirtual 179, 3) := by decide +kernel
theorem dX11_app_8 : decode cX11_app 8 = .ok (.astore 4, 2) := by decide +kernel
theorem dX11_app_10 : decode cX11_app 10 = .ok (.aload 4, 2) := by decide +kernel
theorem dX11_app_12 : decode cX11_app 12 = .ok (.ifnull 22, 3) := by decide +kernel
theorem dX11_app_15 : decode cX11_app 15 = .ok (.iload_n 2, 1) := by decide +kernel
theorem dX11_app_16 : decode cX11_app 16 = .ok (.invokestatic 313, 3) := by decide +kernel
theorem dX11_app_19 : decode cX11_app 19 = .ok (.ifCond .eq 15, 3) := by decide +kernel
theorem dX11_app_22 : decode cX11_app 22 = .ok (.iload_n 3, 1) := by decide +kernel
theorem dX11_app_23 : decode cX11_app 23 = .ok (.invokestatic 313, 3) := by decide +kernel
theorem dX11_app_26 : decode cX11_app 26 = .ok (.ifCond .eq 8, 3) := by decide +kernel
theorem dX11_app_29 : decode cX11_app 29 = .ok (.iload_n 3, 1) := by decide +kernel
theorem dX11_app_30 : decode cX11_app 30 = .ok (.iload_n 2, 1) := by decide +kernel
theorem dX11_app_31 : decode cX11_app 31 = .ok (.if_icmp .gt 10, 3) := by decide +kernel
theorem dX11_app_34 : decode cX11_app 34 = .ok (.aload_n 0, 1) := by decide +kernel
theorem dX11_app_35 : decode cX11_app 35 = .ok (.ldc 78, 2) := by decide +kernel
theorem dX11_app_37 : decode cX11_app 37 = .ok (.invokevirtual 79, 3) := by decide +kernel
theorem dX11_app_40 : decode cX11_app 40 = .ok (.ireturn, 1) := by decide +kernel
theorem dX11_app_41 : decode cX11_app 41 = .ok (.aload 4, 2) := by decide +kernel
theorem dX11_app_43 : decode cX11_app 43 = .ok (.getfield 322, 3) := by decide +kernel
theorem dX11_app_46 : decode cX11_app 46 = .ok (.invokevirtual 112, 3) := by decide +kernel
theorem dX11_app_49 : decode cX11_app 49 = .ok (.ifCond .eq 10, 3) := by decide +kernel
theorem dX11_app_52 : decode cX11_app 52 = .ok (.aload_n 0, 1) := by decide +kernel
theorem dX11_app_53 : decode cX11_app 53 = .ok (.ldc 118, 2) := by decide +kernel
theorem dX11_app_55 : decode cX11_app 55 = .ok (.invokevirtual 79, 3) := by decide +kernel
theorem dX11_app_58 : decode cX11_app 58 = .ok (.ireturn, 1) := by decide +kernel
theorem dX11_app_59 : decode cX11_app 59 = .ok (.aload 4, 2) := by decide +kernel
theorem dX11_app_61 : decode cX11_app 61 = .ok (.getfield 322, 3) := by decide +kernel
theorem dX11_app_64 : decode cX11_app 64 = .ok (.iload_n 2, 1) := by decide +kernel
theorem dX11_app_65 : decode cX11_app 65 = .ok (.iload_n 3, 1) := by decide +kernel
theorem dX11_app_66 : decode cX11_app 66 = .ok (.iconst 0, 1) := by decide +kernel
theorem dX11_app_67 : decode cX11_app 67 = .ok (.invokevirtual 119, 3) := by decide +kernel
theorem dX11_app_70 : decode cX11_app 70 = .ok (.ireturn, 1) := by decide +kernel
theorem dX11_least_0 : decode cX11_least 0 = .ok (.aload_n 0, 1) := by decide +kernel
theorem dX11_least_1 : decode cX11_least 1 = .ok (.getfield 12, 3) := by decide +kernel
theorem dX11_least_4 : decode cX11_least 4 = .ok (.iload_n 1, 1) := by decide +kernel
theorem dX11_least_5 : decode cX11_least 5 = .ok (.invokevirtual 179, 3) := by decide +kernel
theorem dX11_least_8 : decode cX11_least 8 = .ok (.astore_n 3, 1) := by decide +kernel
theorem dX11_least_9 : decode cX11_least 9 = .ok (.aload_n 3, 1) := by decide +kernel
theorem dX11_least_10 : decode cX11_least 10 = .ok (.ifnull 12, 3) := by decide +kernel
theorem dX11_least_13 : decode cX11_least 13 = .ok (.iload_n 2, 1) := by decide +kernel
theorem dX11_least_14 : decode cX11_least 14 = .ok (.iconst 0, 1) := by decide +kernel
theorem dX11_least_15 : decode cX11_least 15 = .ok (.iconst 1, 1) := by decide +kernel
theorem dX11_least_16 : decode cX11_least 16 = .ok (.invokestatic 74, 3) := by decide +kernel
theorem dX11_least_19 : decode cX11_least 19 = .ok (.ifCond .ne 10, 3) := by decide +kernel
theorem dX11_least_22 : decode cX11_least 22 = .ok (.aload_n 0, 1) := by decide +kernel
theorem dX11_least_23 : decode cX11_least 23 = .ok (.ldc 78, 2) := by decide +kernel
theorem dX11_least_25 : decode cX11_least 25 = .ok (.invokevirtual 79, 3) := by decide +kernel
theorem dX11_least_28 : decode cX11_least 28 = .ok (.ireturn, 1) := by decide +kernel
theorem dX11_least_29 : decode cX11_least 29 = .ok (.aload_n 0, 1) := by decide +kernel
theorem dX11_least_30 : decode cX11_least 30 = .ok (.getfield 12, 3) := by decide +kernel
theorem dX11_least_33 : decode cX11_least 33 = .ok (.aload_n 3, 1) := by decide +kernel
theorem dX11_least_34 : decode cX11_least 34 = .ok (.invokevirtual 325, 3) := by decide +kernel
theorem dX11_least_37 : decode cX11_least 37 = .ok (.istore 4, 2) := by decide +kernel
theorem dX11_least_39 : decode cX11_least 39 = .ok (.iload_n 2, 1) := by decide +kernel
theorem dX11_least_40 : decode cX11_least 40 = .ok (.ifCond .ne 6, 3) := by decide +kernel
theorem dX11_least_43 : decode cX11_least 43 = .ok (.iload 4, 2) := by decide +kernel
theorem dX11_least_45 : decode cX11_least 45 = .ok (.ireturn, 1) := by decide +kernel
theorem dX11_least_46 : decode cX11_least 46 = .ok (.aload_n 0, 1) := by decide +kernel
theorem dX11_least_47 : decode cX11_least 47 = .ok (.getfield 12, 3) := by decide +kernel
theorem dX11_least_50 : decode cX11_least 50 = .ok (.getfield 319, 3) := by decide +kernel
theorem dX11_least_53 : decode cX11_least 53 = .ok (.iload 4, 2) := by decide +kernel
theorem dX11_least_55 : decode cX11_least 55 = .ok (.imul, 1) := by decide +kernel
theorem dX11_least_56 : decode cX11_least 56 = .ok (.bipush 59, 2) := by decide +kernel
theorem dX11_least_58 : decode cX11_least 58 = .ok (.iadd, 1) := by decide +kernel
theorem dX11_least_59 : decode cX11_least 59 = .ok (.bipush 60, 2) := by decide +kernel
theorem dX11_least_61 : decode cX11_least 61 = .ok (.idiv, 1) := by decide +kernel
theorem dX11_least_62 : decode cX11_least 62 = .ok (.istore 5, 2) := by decide +kernel
theorem dX11_least_64 : decode cX11_least 64 = .ok (.iconst 0, 1) := by decide +kernel
theorem dX11_least_65 : decode cX11_least 65 = .ok (.iload 5, 2) := by decide +kernel
theorem dX11_least_67 : decode cX11_least 67 = .ok (.aload_n 0, 1) := by decide +kernel
theorem dX11_least_68 : decode cX11_least 68 = .ok (.getfield 12, 3) := by decide +kernel
theorem dX11_least_71 : decode cX11_least 71 = .ok (.iload_n 1, 1) := by decide +kernel
theorem dX11_least_72 : decode cX11_least 72 = .ok (.invokevirtual 200, 3) := by decide +kernel
theorem dX11_least_75 : decode cX11_least 75 = .ok (.isub, 1) := by decide +kernel
theorem dX11_least_76 : decode cX11_least 76 = .ok (.invokestatic 329, 3) := by decide +kernel
theorem dX11_least_79 : decode cX11_least 79 = .ok (.ireturn, 1) := by decide +kernel
theorem dX11_lacks_0 : decode cX11_lacks 0 = .ok (.aload_n 0, 1) := by decide +kernel
theorem dX11_lacks_1 : decode cX11_lacks 1 = .ok (.getfield 12, 3) := by decide +kernel
theorem dX11_lacks_4 : decode cX11_lacks 4 = .ok (.iload_n 1, 1) := by decide +kernel
theorem dX11_lacks_5 : decode cX11_lacks 5 = .ok (.invokevirtual 132, 3) := by decide +kernel
theorem dX11_lacks_8 : decode cX11_lacks 8 = .ok (.astore_n 3, 1) := by decide +kernel
theorem dX11_lacks_9 : decode cX11_lacks 9 = .ok (.aload_n 3, 1) := by decide +kernel
theorem dX11_lacks_10 : decode cX11_lacks 10 = .ok (.ifnull 12, 3) := by decide +kernel
theorem dX11_lacks_13 : decode cX11_lacks 13 = .ok (.iload_n 2, 1) := by decide +kernel
theorem dX11_lacks_14 : decode cX11_lacks 14 = .ok (.iconst 0, 1) := by decide +kernel
theorem dX11_lacks_15 : decode cX11_lacks 15 = .ok (.iconst 2, 1) := by decide +kernel
theorem dX11_lacks_16 : decode cX11_lacks 16 = .ok (.invokestatic 74, 3) := by decide +kernel
theorem dX11_lacks_19 : decode cX11_lacks 19 = .ok (.ifCond .ne 10, 3) := by decide +kernel
theorem dX11_lacks_22 : decode cX11_lacks 22 = .ok (.aload_n 0, 1) := by decide +kernel
theorem dX11_lacks_23 : decode cX11_lacks 23 = .ok (.ldc 78, 2) := by decide +kernel
theorem dX11_lacks_25 : decode cX11_lacks 25 = .ok (.invokevirtual 79, 3) := by decide +kernel
theorem dX11_lacks_28 : decode cX11_lacks 28 = .ok (.ireturn, 1) := by decide +kernel
theorem dX11_lacks_29 : decode cX11_lacks 29 = .ok (.aload_n 3, 1) := by decide +kernel
theorem dX11_lacks_30 : decode cX11_lacks 30 = .ok (.getfield 136, 3) := by decide +kernel
theorem dX11_lacks_33 : decode cX11_lacks 33 = .ok (.iconst 1, 1) := by decide +kernel
theorem dX11_lacks_34 : decode cX11_lacks 34 = .ok (.if_icmp .ne 11, 3) := by decide +kernel
theorem dX11_lacks_37 : decode cX11_lacks 37 = .ok (.aload_n 3, 1) := by decide +kernel
theorem dX11_lacks_38 : decode cX11_lacks 38 = .ok (.iload_n 2, 1) := by decide +kernel
theorem dX11_lacks_39 : decode cX11_lacks 39 = .ok (.invokevirtual 334, 3) := by decide +kernel
theorem dX11_lacks_42 : decode cX11_lacks 42 = .ok (.goto 9, 3) := by decide +kernel
theorem dX11_lacks_45 : decode cX11_lacks 45 = .ok (.aload_n 0, 1) := by decide +kernel
theorem dX11_lacks_46 : decode cX11_lacks 46 = .ok (.ldc 102, 2) := by decide +kernel
theorem dX11_lacks_48 : decode cX11_lacks 48 = .ok (.invokevirtual 79, 3) := by decide +kernel
theorem dX11_lacks_51 : decode cX11_lacks 51 = .ok (.ireturn, 1) := by decide +kernel
theorem dX11_ban_0 : decode cX11_ban 0 = .ok (.aload_n 0, 1) := by decide +kernel
theorem dX11_ban_1 : decode cX11_ban 1 = .ok (.getfield 12, 3) := by decide +kernel
theorem dX11_ban_4 : decode cX11_ban 4 = .ok (.iload_n 1, 1) := by decide +kernel
theorem dX11_ban_5 : decode cX11_ban 5 = .ok (.invokevirtual 179, 3) := by decide +kernel
theorem dX11_ban_8 : decode cX11_ban 8 = .ok (.astore 4, 2) := by decide +kernel
theorem dX11_ban_10 : decode cX11_ban 10 = .ok (.aload 4, 2) := by decide +kernel
theorem dX11_ban_12 : decode cX11_ban 12 = .ok (.ifnull 23, 3) := by decide +kernel
theorem dX11_ban_15 : decode cX11_ban 15 = .ok (.iload_n 2, 1) := by decide +kernel
theorem dX11_ban_16 : decode cX11_ban 16 = .ok (.iconst 0, 1) := by decide +kernel
theorem dX11_ban_17 : decode cX11_ban 17 = .ok (.bipush 50, 2) := by decide +kernel
theorem dX11_ban_19 : decode cX11_ban 19 = .ok (.invokestatic 74, 3) := by decide +kernel
theorem dX11_ban_22 : decode cX11_ban 22 = .ok (.ifCond .eq 13, 3) := by decide +kernel
theorem dX11_ban_25 : decode cX11_ban 25 = .ok (.iload_n 3, 1) := by decide +kernel
theorem dX11_ban_26 : decode cX11_ban 26 = .ok (.iconst 1, 1) := by decide +kernel
theorem dX11_ban_27 : decode cX11_ban 27 = .ok (.bipush 9, 2) := by decide +kernel
theorem dX11_ban_29 : decode cX11_ban 29 = .ok (.invokestatic 74, 3) := by decide +kernel
theorem dX11_ban_32 : decode cX11_ban 32 = .ok (.ifCond .ne 10, 3) := by decide +kernel
theorem dX11_ban_35 : decode cX11_ban 35 = .ok (.aload_n 0, 1) := by decide +kernel
theorem dX11_ban_36 : decode cX11_ban 36 = .ok (.ldc 78, 2) := by decide +kernel
theorem dX11_ban_38 : decode cX11_ban 38 = .ok (.invokevirtual 79, 3) := by decide +kernel
theorem dX11_ban_41 : decode cX11_ban 41 = .ok (.ireturn, 1) := by decide +kernel
theorem dX11_ban_42 : decode cX11_ban 42 = .ok (.aload 4, 2) := by decide +kernel
theorem dX11_ban_44 : decode cX11_ban 44 = .ok (.getfield 194, 3) := by decide +kernel
theorem dX11_ban_47 : decode cX11_ban 47 = .ok (.iload_n 3, 1) := by decide +kernel
theorem dX11_ban_48 : decode cX11_ban 48 = .ok (.if_icmp .lt 19, 3) := by decide +kernel
theorem dX11_ban_51 : decode cX11_ban 51 = .ok (.aload_n 0, 1) := by decide +kernel
theorem dX11_ban_52 : decode cX11_ban 52 = .ok (.getfield 12, 3) := by decide +kernel
theorem dX11_ban_55 : decode cX11_ban 55 = .ok (.iload_n 1, 1) := by decide +kernel
theorem dX11_ban_56 : decode cX11_ban 56 = .ok (.invokevirtual 337, 3) := by decide +kernel
theorem dX11_ban_59 : decode cX11_ban 59 = .ok (.iload_n 2, 1) := by decide +kernel
theorem dX11_ban_60 : decode cX11_ban 60 = .ok (.if_icmp .ge 7, 3) := by decide +kernel
theorem dX11_ban_63 : decode cX11_ban 63 = .ok (.iconst 1, 1) := by decide +kernel
theorem dX11_ban_64 : decode cX11_ban 64 = .ok (.goto 4, 3) := by decide +kernel
theorem dX11_ban_67 : decode cX11_ban 67 = .ok (.iconst 0, 1) := by decide +kernel
theorem dX11_ban_68 : decode cX11_ban 68 = .ok (.ireturn, 1) := by decide +kernel
theorem dX11_seen_0 : decode cX11_seen 0 = .ok (.aload_n 0, 1) := by decide +kernel
theorem dX11_seen_1 : decode cX11_seen 1 = .ok (.getfield 12, 3) := by decide +kernel
theorem dX11_seen_4 : decode cX11_seen 4 = .ok (.iload_n 1, 1) := by decide +kernel
theorem dX11_seen_5 : decode cX11_seen 5 = .ok (.invokevirtual 179, 3) := by decide +kernel
theorem dX11_seen_8 : decode cX11_seen 8 = .ok (.ifnull 17, 3) := by decide +kernel
theorem dX11_seen_11 : decode cX11_seen 11 = .ok (.iload_n 2, 1) := by decide +kernel
theorem dX11_seen_12 : decode cX11_seen 12 = .ok (.invokestatic 70, 3) := by decide +kernel
theorem dX11_seen_15 : decode cX11_seen 15 = .ok (.ifCond .eq 10, 3) := by decide +kernel
theorem dX11_seen_18 : decode cX11_seen 18 = .ok (.iload_n 3, 1) := by decide +kernel
theorem dX11_seen_19 : decode cX11_seen 19 = .ok (.invokestatic 313, 3) := by decide +kernel
theorem dX11_seen_22 : decode cX11_seen 22 = .ok (.ifCond .ne 10, 3) := by decide +kernel
theorem dX11_seen_25 : decode cX11_seen 25 = .ok (.aload_n 0, 1) := by decide +kernel
theorem dX11_seen_26 : decode cX11_seen 26 = .ok (.ldc 78, 2) := by decide +kernel
theorem dX11_seen_28 : decode cX11_seen 28 = .ok (.invokevirtual 79, 3) := by decide +kernel
theorem dX11_seen_31 : decode cX11_seen 31 = .ok (.ireturn, 1) := by decide +kernel
theorem dX11_seen_32 : decode cX11_seen 32 = .ok (.aload_n 0, 1) := by decide +kernel
theorem dX11_seen_33 : decode cX11_seen 33 = .ok (.getfield 12, 3) := by decide +kernel
theorem dX11_seen_36 : decode cX11_seen 36 = .ok (.getfield 340, 3) := by decide +kernel
theorem dX11_seen_39 : decode cX11_seen 39 = .ok (.invokevirtual 112, 3) := by decide +kernel
theorem dX11_seen_42 : decode cX11_seen 42 = .ok (.ifCond .eq 10, 3) := by decide +kernel
theorem dX11_seen_45 : decode cX11_seen 45 = .ok (.aload_n 0, 1) := by decide +kernel
theorem dX11_seen_46 : decode cX11_seen 46 = .ok (.ldc 118, 2) := by decide +kernel
theorem dX11_seen_48 : decode cX11_seen 48 = .ok (.invokevirtual 79, 3) := by decide +kernel
theorem dX11_seen_51 : decode cX11_seen 51 = .ok (.ireturn, 1) := by decide +kernel
theorem dX11_seen_52 : decode cX11_seen 52 = .ok (.aload_n 0, 1) := by decide +kernel
theorem dX11_seen_53 : decode cX11_seen 53 = .ok (.getfield 12, 3) := by decide +kernel
theorem dX11_seen_56 : decode cX11_seen 56 = .ok (.getfield 340, 3) := by decide +kernel
theorem dX11_seen_59 : decode cX11_seen 59 = .ok (.iload_n 1, 1) := by decide +kernel
theorem dX11_seen_60 : decode cX11_seen 60 = .ok (.iload_n 2, 1) := by decide +kernel
theorem dX11_seen_61 : decode cX11_seen 61 = .ok (.iload_n 3, 1) := by decide +kernel
theorem dX11_seen_62 : decode cX11_seen 62 = .ok (.invokevirtual 119, 3) := by decide +kernel
theorem dX11_seen_65 : decode cX11_seen 65 = .ok (.ireturn, 1) := by decide +kernel
theorem dX11_doubles_0 : decode cX11_doubles 0 = .ok (.aload_n 0, 1) := by decide +kernel
theorem dX11_doubles_1 : decode cX11_doubles 1 = .ok (.getfield 12, 3) := by decide +kernel
theorem dX11_doubles_4 : decode cX11_doubles 4 = .ok (.iload_n 1, 1) := by decide +kernel
theorem dX11_doubles_5 : decode cX11_doubles 5 = .ok (.invokevirtual 179, 3) := by decide +kernel
theorem dX11_doubles_8 : decode cX11_doubles 8 = .ok (.ifnull 12, 3) := by decide +kernel
theorem dX11_doubles_11 : decode cX11_doubles 11 = .ok (.iload_n 2, 1) := by decide +kernel
theorem dX11_doubles_12 : decode cX11_doubles 12 = .ok (.iconst 0, 1) := by decide +kernel
theorem dX11_doubles_13 : decode cX11_doubles 13 = .ok (.iconst 2, 1) := by decide +kernel
theorem dX11_doubles_14 : decode cX11_doubles 14 = .ok (.invokestatic 74, 3) := by decide +kernel
theorem dX11_doubles_17 : decode cX11_doubles 17 = .ok (.ifCond .ne 10, 3) := by decide +kernel
theorem dX11_doubles_20 : decode cX11_doubles 20 = .ok (.aload_n 0, 1) := by decide +kernel
theorem dX11_doubles_21 : decode cX11_doubles 21 = .ok (.ldc 78, 2) := by decide +kernel
theorem dX11_doubles_23 : decode cX11_doubles 23 = .ok (.invokevirtual 79, 3) := by decide +kernel
theorem dX11_doubles_26 : decode cX11_doubles 26 = .ok (.ireturn, 1) := by decide +kernel
theorem dX11_doubles_27 : decode cX11_doubles 27 = .ok (.iconst 0, 1) := by decide +kernel
theorem dX11_doubles_28 : decode cX11_doubles 28 = .ok (.istore_n 3, 1) := by decide +kernel
theorem dX11_doubles_29 : decode cX11_doubles 29 = .ok (.iconst 0, 1) := by decide +kernel
theorem dX11_doubles_30 : decode cX11_doubles 30 = .ok (.istore 4, 2) := by decide +kernel
theorem dX11_doubles_32 : decode cX11_doubles 32 = .ok (.iload 4, 2) := by decide +kernel
theorem dX11_doubles_34 : decode cX11_doubles 34 = .ok (.aload_n 0, 1) := by decide +kernel
theorem dX11_doubles_35 : decode cX11_doubles 35 = .ok (.getfield 12, 3) := by decide +kernel
theorem dX11_doubles_38 : decode cX11_doubles 38 = .ok (.getfield 340, 3) := by decide +kernel
theorem dX11_doubles_41 : decode cX11_doubles 41 = .ok (.getfield 122, 3) := by decide +kernel
theorem dX11_doubles_44 : decode cX11_doubles 44 = .ok (.if_icmp .ge 74, 3) := by decide +kernel
theorem dX11_doubles_47 : decode cX11_doubles 47 = .ok (.iload 4, 2) := by decide +kernel
theorem dX11_doubles_49 : decode cX11_doubles 49 = .ok (.iconst 1, 1) := by decide +kernel
theorem dX11_doubles_50 : decode cX11_doubles 50 = .ok (.iadd, 1) := by decide +kernel
theorem dX11_doubles_51 : decode cX11_doubles 51 = .ok (.istore 5, 2) := by decide +kernel
theorem dX11_doubles_53 : decode cX11_doubles 53 = .ok (.iload 5, 2) := by decide +kernel
theorem dX11_doubles_55 : decode cX11_doubles 55 = .ok (.aload_n 0, 1) := by decide +kernel
theorem dX11_doubles_56 : decode cX11_doubles 56 = .ok (.getfield 12, 3) := by decide +kernel
theorem dX11_doubles_59 : decode cX11_doubles 59 = .ok (.getfield 340, 3) := by decide +kernel
theorem dX11_doubles_62 : decode cX11_doubles 62 = .ok (.getfield 122, 3) := by decide +kernel
theorem dX11_doubles_65 : decode cX11_doubles 65 = .ok (.if_icmp .ge 47, 3) := by decide +kernel
theorem dX11_doubles_68 : decode cX11_doubles 68 = .ok (.aload_n 0, 1) := by decide +kernel
theorem dX11_doubles_69 : decode cX11_doubles 69 = .ok (.getfield 12, 3) := by decide +kernel
theorem dX11_doubles_72 : decode cX11_doubles 72 = .ok (.iload_n 1, 1) := by decide +kernel
theorem dX11_doubles_73 : decode cX11_doubles 73 = .ok (.iload 4, 2) := by decide +kernel
theorem dX11_doubles_75 : decode cX11_doubles 75 = .ok (.iload 5, 2) := by decide +kernel
theorem dX11_doubles_77 : decode cX11_doubles 77 = .ok (.invokevirtual 343, 3) := by decide +kernel
theorem dX11_doubles_80 : decode cX11_doubles 80 = .ok (.ifCond .ne 6, 3) := by decide +kernel
theorem dX11_doubles_83 : decode cX11_doubles 83 = .ok (.goto 23, 3) := by decide +kernel
theorem dX11_doubles_86 : decode cX11_doubles 86 = .ok (.iload_n 2, 1) := by decide +kernel
theorem dX11_doubles_87 : decode cX11_doubles 87 = .ok (.ifCond .le 16, 3) := by decide +kernel
theorem dX11_doubles_90 : decode cX11_doubles 90 = .ok (.iload_n 2, 1) := by decide +kernel
theorem dX11_doubles_91 : decode cX11_doubles 91 = .ok (.iconst 1, 1) := by decide +kernel
theorem dX11_doubles_92 : decode cX11_doubles 92 = .ok (.if_icmp .ne 8, 3) := by decide +kernel
theorem dX11_doubles_95 : decode cX11_doubles 95 = .ok (.iload 4, 2) := by decide +kernel
theorem dX11_doubles_97 : decode cX11_doubles 97 = .ok (.goto 5, 3) := by decide +kernel
theorem dX11_doubles_100 : decode cX11_doubles 100 = .ok (.iload 5, 2) := by decide +kernel
theorem dX11_doubles_102 : decode cX11_doubles 102 = .ok (.ireturn, 1) := by decide +kernel
theorem dX11_doubles_103 : decode cX11_doubles 103 = .ok (.iinc 3 1, 3) := by decide +kernel
theorem dX11_doubles_106 : decode cX11_doubles 106 = .ok (.iinc 5 1, 3) := by decide +kernel
theorem dX11_doubles_109 : decode cX11_doubles 109 = .ok (.goto (-56), 3) := by decide +kernel
theorem dX11_doubles_112 : decode cX11_doubles 112 = .ok (.iinc 4 1, 3) := by decide +kernel
theorem dX11_doubles_115 : decode cX11_doubles 115 = .ok (.goto (-83), 3) := by decide +kernel
theorem dX11_doubles_118 : decode cX11_doubles 118 = .ok (.iload_n 2, 1) := by decide +kernel
theorem dX11_doubles_119 : decode cX11_doubles 119 = .ok (.ifCond .le 12, 3) := by decide +kernel
theorem dX11_doubles_122 : decode cX11_doubles 122 = .ok (.aload_n 0, 1) := by decide +kernel
theorem dX11_doubles_123 : decode cX11_doubles 123 = .ok (.ldc 102, 2) := by decide +kernel
theorem dX11_doubles_125 : decode cX11_doubles 125 = .ok (.invokevirtual 79, 3) := by decide +kernel
theorem dX11_doubles_128 : decode cX11_doubles 128 = .ok (.goto 4, 3) := by decide +kernel
theorem dX11_doubles_131 : decode cX11_doubles 131 = .ok (.iload_n 3, 1) := by decide +kernel
theorem dX11_doubles_132 : decode cX11_doubles 132 = .ok (.ireturn, 1) := by decide +kernel
theorem dX11_zone_0 : decode cX11_zone 0 = .ok (.iload_n 1, 1) := by decide +kernel
theorem dX11_zone_1 : decode cX11_zone 1 = .ok (.iconst 0, 1) := by decide +kernel
theorem dX11_zone_2 : decode cX11_zone 2 = .ok (.iconst 3, 1) := by decide +kernel
theorem dX11_zone_3 : decode cX11_zone 3 = .ok (.invokestatic 74, 3) := by decide +kernel
theorem dX11_zone_6 : decode cX11_zone 6 = .ok (.ifCond .eq 12, 3) := by decide +kernel
theorem dX11_zone_9 : decode cX11_zone 9 = .ok (.iload_n 2, 1) := by decide +kernel
theorem dX11_zone_10 : decode cX11_zone 10 = .ok (.iconst 0, 1) := by decide +kernel
theorem dX11_zone_11 : decode cX11_zone 11 = .ok (.iconst 3, 1) := by decide +kernel
theorem dX11_zone_12 : decode cX11_zone 12 = .ok (.invokestatic 74, 3) := by decide +kernel
theorem dX11_zone_15 : decode cX11_zone 15 = .ok (.ifCond .ne 10, 3) := by decide +kernel
theorem dX11_zone_18 : decode cX11_zone 18 = .ok (.aload_n 0, 1) := by decide +kernel
theorem dX11_zone_19 : decode cX11_zone 19 = .ok (.ldc 78, 2) := by decide +kernel
theorem dX11_zone_21 : decode cX11_zone 21 = .ok (.invokevirtual 79, 3) := by decide +kernel
theorem dX11_zone_24 : decode cX11_zone 24 = .ok (.ireturn, 1) := by decide +kernel
theorem dX11_zone_25 : decode cX11_zone 25 = .ok (.iload_n 2, 1) := by decide +kernel
theorem dX11_zone_26 : decode cX11_zone 26 = .ok (.ifCond .ne 7, 3) := by decide +kernel
theorem dX11_zone_29 : decode cX11_zone 29 = .ok (.iconst 0, 1) := by decide +kernel
theorem dX11_zone_30 : decode cX11_zone 30 = .ok (.goto 4, 3) := by decide +kernel
theorem dX11_zone_33 : decode cX11_zone 33 = .ok (.iconst 1, 1) := by decide +kernel
theorem dX11_zone_34 : decode cX11_zone 34 = .ok (.istore_n 3, 1) := by decide +kernel
theorem dX11_zone_35 : decode cX11_zone 35 = .ok (.iconst 0, 1) := by decide +kernel
theorem dX11_zone_36 : decode cX11_zone 36 = .ok (.istore 4, 2) := by decide +kernel
theorem dX11_zone_38 : decode cX11_zone 38 = .ok (.iconst 0, 1) := by decide +kernel
theorem dX11_zone_39 : decode cX11_zone 39 = .ok (.istore 5, 2) := by decide +kernel
theorem dX11_zone_41 : decode cX11_zone 41 = .ok (.iload 5, 2) := by decide +kernel
theorem dX11_zone_43 : decode cX11_zone 43 = .ok (.aload_n 0, 1) := by decide +kernel
theorem dX11_zone_44 : decode cX11_zone 44 = .ok (.getfield 12, 3) := by decide +kernel
theorem dX11_zone_47 : decode cX11_zone 47 = .ok (.getfield 125, 3) := by decide +kernel
theorem dX11_zone_50 : decode cX11_zone 50 = .ok (.if_icmp .ge 113, 3) := by decide +kernel
theorem dX11_zone_53 : decode cX11_zone 53 = .ok (.aload_n 0, 1) := by decide +kernel
theorem dX11_zone_54 : decode cX11_zone 54 = .ok (.getfield 12, 3) := by decide +kernel
theorem dX11_zone_57 : decode cX11_zone 57 = .ok (.getfield 306, 3) := by decide +kernel
theorem dX11_zone_60 : decode cX11_zone 60 = .ok (.iload 5, 2) := by decide +kernel
theorem dX11_zone_62 : decode cX11_zone 62 = .ok (.aaload, 1) := by decide +kernel
theorem dX11_zone_63 : decode cX11_zone 63 = .ok (.astore 6, 2) := by decide +kernel
theorem dX11_zone_65 : decode cX11_zone 65 = .ok (.aload 6, 2) := by decide +kernel
theorem dX11_zone_67 : decode cX11_zone 67 = .ok (.getfield 136, 3) := by decide +kernel
theorem dX11_zone_70 : decode cX11_zone 70 = .ok (.iload_n 3, 1) := by decide +kernel
theorem dX11_zone_71 : decode cX11_zone 71 = .ok (.if_icmp .ne 86, 3) := by decide +kernel
theorem dX11_zone_74 : decode cX11_zone 74 = .ok (.aload_n 0, 1) := by decide +kernel
theorem dX11_zone_75 : decode cX11_zone 75 = .ok (.getfield 12, 3) := by decide +kernel
theorem dX11_zone_78 : decode cX11_zone 78 = .ok (.getfield 43, 3) := by decide +kernel
theorem dX11_zone_81 : decode cX11_zone 81 = .ok (.getfield 346, 3) := by decide +kernel
theorem dX11_zone_84 : decode cX11_zone 84 = .ok (.aload 6, 2) := by decide +kernel
theorem dX11_zone_86 : decode cX11_zone 86 = .ok (.getfield 144, 3) := by decide +kernel
theorem dX11_zone_89 : decode cX11_zone 89 = .ok (.iaload, 1) := by decide +kernel
theorem dX11_zone_90 : decode cX11_zone 90 = .ok (.iload_n 1, 1) := by decide +kernel
theorem dX11_zone_91 : decode cX11_zone 91 = .ok (.if_icmp .eq 6, 3) := by decide +kernel
theorem dX11_zone_94 : decode cX11_zone 94 = .ok (.goto 63, 3) := by decide +kernel
theorem dX11_zone_97 : decode cX11_zone 97 = .ok (.iload_n 2, 1) := by decide +kernel
theorem dX11_zone_98 : decode cX11_zone 98 = .ok (.lookupswitch 56 #[(2, 26), (3, 39)], 26) := by decide +kernel
theorem dX11_zone_124 : decode cX11_zone 124 = .ok (.iload 4, 2) := by decide +kernel
theorem dX11_zone_126 : decode cX11_zone 126 = .ok (.aload 6, 2) := by decide +kernel
theorem dX11_zone_128 : decode cX11_zone 128 = .ok (.getfield 162, 3) := by decide +kernel
theorem dX11_zone_131 : decode cX11_zone 131 = .ok (.iadd, 1) := by decide +kernel
theorem dX11_zone_132 : decode cX11_zone 132 = .ok (.istore 4, 2) := by decide +kernel
theorem dX11_zone_134 : decode cX11_zone 134 = .ok (.goto 23, 3) := by decide +kernel
theorem dX11_zone_137 : decode cX11_zone 137 = .ok (.iload 4, 2) := by decide +kernel
theorem dX11_zone_139 : decode cX11_zone 139 = .ok (.aload_n 0, 1) := by decide +kernel
theorem dX11_zone_140 : decode cX11_zone 140 = .ok (.getfield 12, 3) := by decide +kernel
theorem dX11_zone_143 : decode cX11_zone 143 = .ok (.aload 6, 2) := by decide +kernel
theorem dX11_zone_145 : decode cX11_zone 145 = .ok (.invokevirtual 165, 3) := by decide +kernel
theorem dX11_zone_148 : decode cX11_zone 148 = .ok (.iadd, 1) := by decide +kernel
theorem dX11_zone_149 : decode cX11_zone 149 = .ok (.istore 4, 2) := by decide +kernel
theorem dX11_zone_151 : decode cX11_zone 151 = .ok (.goto 6, 3) := by decide +kernel
theorem dX11_zone_154 : decode cX11_zone 154 = .ok (.iinc 4 1, 3) := by decide +kernel
theorem dX11_zone_157 : decode cX11_zone 157 = .ok (.iinc 5 1, 3) := by decide +kernel
theorem dX11_zone_160 : decode cX11_zone 160 = .ok (.goto (-119), 3) := by decide +kernel
theorem dX11_zone_163 : decode cX11_zone 163 = .ok (.iload 4, 2) := by decide +kernel
theorem dX11_zone_165 : decode cX11_zone 165 = .ok (.ireturn, 1) := by decide +kernel
theorem dX11_starves_0 : decode cX11_starves 0 = .ok (.iload_n 1, 1) := by decide +kernel
theorem dX11_starves_1 : decode cX11_starves 1 = .ok (.invokestatic 313, 3) := by decide +kernel
theorem dX11_starves_4 : decode cX11_starves 4 = .ok (.ifCond .ne 10, 3) := by decide +kernel
theorem dX11_starves_7 : decode cX11_starves 7 = .ok (.aload_n 0, 1) := by decide +kernel
theorem dX11_starves_8 : decode cX11_starves 8 = .ok (.ldc 78, 2) := by decide +kernel
theorem dX11_starves_10 : decode cX11_starves 10 = .ok (.invokevirtual 79, 3) := by decide +kernel
theorem dX11_starves_13 : decode cX11_starves 13 = .ok (.ireturn, 1) := by decide +kernel
theorem dX11_starves_14 : decode cX11_starves 14 = .ok (.iconst (-1), 1) := by decide +kernel
theorem dX11_starves_15 : decode cX11_starves 15 = .ok (.istore_n 2, 1) := by decide +kernel
theorem dX11_starves_16 : decode cX11_starves 16 = .ok (.iconst 0, 1) := by decide +kernel
theorem dX11_starves_17 : decode cX11_starves 17 = .ok (.istore_n 3, 1) := by decide +kernel
theorem dX11_starves_18 : decode cX11_starves 18 = .ok (.iconst 0, 1) := by decide +kernel
theorem dX11_starves_19 : decode cX11_starves 19 = .ok (.istore 4, 2) := by decide +kernel
theorem dX11_starves_21 : decode cX11_starves 21 = .ok (.iload 4, 2) := by decide +kernel
theorem dX11_starves_23 : decode cX11_starves 23 = .ok (.iconst 4, 1) := by decide +kernel
theorem dX11_starves_24 : decode cX11_starves 24 = .ok (.if_icmp .ge 33, 3) := by decide +kernel
theorem dX11_starves_27 : decode cX11_starves 27 = .ok (.aload_n 0, 1) := by decide +kernel
theorem dX11_starves_28 : decode cX11_starves 28 = .ok (.getfield 12, 3) := by decide +kernel
theorem dX11_starves_31 : decode cX11_starves 31 = .ok (.iload 4, 2) := by decide +kernel
theorem dX11_starves_33 : decode cX11_starves 33 = .ok (.iload_n 1, 1) := by decide +kernel
theorem dX11_starves_34 : decode cX11_starves 34 = .ok (.invokevirtual 349, 3) := by decide +kernel
theorem dX11_starves_37 : decode cX11_starves 37 = .ok (.istore 5, 2) := by decide +kernel
theorem dX11_starves_39 : decode cX11_starves 39 = .ok (.iload 5, 2) := by decide +kernel
theorem dX11_starves_41 : decode cX11_starves 41 = .ok (.iload_n 3, 1) := by decide +kernel
theorem dX11_starves_42 : decode cX11_starves 42 = .ok (.if_icmp .le 9, 3) := by decide +kernel
theorem dX11_starves_45 : decode cX11_starves 45 = .ok (.iload 5, 2) := by decide +kernel
theorem dX11_starves_47 : decode cX11_starves 47 = .ok (.istore_n 3, 1) := by decide +kernel
theorem dX11_starves_48 : decode cX11_starves 48 = .ok (.iload 4, 2) := by decide +kernel
theorem dX11_starves_50 : decode cX11_starves 50 = .ok (.istore_n 2, 1) := by decide +kernel
theorem dX11_starves_51 : decode cX11_starves 51 = .ok (.iinc 4 1, 3) := by decide +kernel
theorem dX11_starves_54 : decode cX11_starves 54 = .ok (.goto (-33), 3) := by decide +kernel
theorem dX11_starves_57 : decode cX11_starves 57 = .ok (.iload_n 2, 1) := by decide +kernel
theorem dX11_starves_58 : decode cX11_starves 58 = .ok (.ifCond .ge 12, 3) := by decide +kernel
theorem dX11_starves_61 : decode cX11_starves 61 = .ok (.aload_n 0, 1) := by decide +kernel
theorem dX11_starves_62 : decode cX11_starves 62 = .ok (.ldc 102, 2) := by decide +kernel
theorem dX11_starves_64 : decode cX11_starves 64 = .ok (.invokevirtual 79, 3) := by decide +kernel
theorem dX11_starves_67 : decode cX11_starves 67 = .ok (.goto 4, 3) := by decide +kernel
theorem dX11_starves_70 : decode cX11_starves 70 = .ok (.iload_n 2, 1) := by decide +kernel
theorem dX11_starves_71 : decode cX11_starves 71 = .ok (.ireturn, 1) := by decide +kernel
theorem dX11_night_0 : decode cX11_night 0 = .ok (.aload_n 0, 1) := by decide +kernel
theorem dX11_night_1 : decode cX11_night 1 = .ok (.getfield 12, 3) := by decide +kernel
theorem dX11_night_4 : decode cX11_night 4 = .ok (.iload_n 1, 1) := by decide +kernel
theorem dX11_night_5 : decode cX11_night 5 = .ok (.invokevirtual 281, 3) := by decide +kernel
theorem dX11_night_8 : decode cX11_night 8 = .ok (.astore_n 3, 1) := by decide +kernel
theorem dX11_night_9 : decode cX11_night 9 = .ok (.aload_n 3, 1) := by decide +kernel
theorem dX11_night_10 : decode cX11_night 10 = .ok (.ifnull 12, 3) := by decide +kernel
theorem dX11_night_13 : decode cX11_night 13 = .ok (.iload_n 2, 1) := by decide +kernel
theorem dX11_night_14 : decode cX11_night 14 = .ok (.iconst 0, 1) := by decide +kernel
theorem dX11_night_15 : decode cX11_night 15 = .ok (.iconst 4, 1) := by decide +kernel
theorem dX11_night_16 : decode cX11_night 16 = .ok (.invokestatic 74, 3) := by decide +kernel
theorem dX11_night_19 : decode cX11_night 19 = .ok (.ifCond .ne 10, 3) := by decide +kernel
theorem dX11_night_22 : decode cX11_night 22 = .ok (.aload_n 0, 1) := by decide +kernel
theorem dX11_night_23 : decode cX11_night 23 = .ok (.ldc 78, 2) := by decide +kernel
theorem dX11_night_25 : decode cX11_night 25 = .ok (.invokevirtual 79, 3) := by decide +kernel
theorem dX11_night_28 : decode cX11_night 28 = .ok (.ireturn, 1) := by decide +kernel
theorem dX11_night_29 : decode cX11_night 29 = .ok (.aload_n 0, 1) := by decide +kernel
theorem dX11_night_30 : decode cX11_night 30 = .ok (.getfield 66, 3) := by decide +kernel
theorem dX11_night_33 : decode cX11_night 33 = .ok (.aload_n 3, 1) := by decide +kernel
theorem dX11_night_34 : decode cX11_night 34 = .ok (.invokevirtual 352, 3) := by decide +kernel
theorem dX11_night_37 : decode cX11_night 37 = .ok (.iload_n 2, 1) := by decide +kernel
theorem dX11_night_38 : decode cX11_night 38 = .ok (.tableswitch 62 0 3 #[30, 38, 46, 54], 30) := by decide +kernel
theorem dX11_night_68 : decode cX11_night 68 = .ok (.aload_n 0, 1) := by decide +kernel
theorem dX11_night_69 : decode cX11_night 69 = .ok (.getfield 66, 3) := by decide +kernel
theorem dX11_night_72 : decode cX11_night 72 = .ok (.getfield 355, 3) := by decide +kernel
theorem dX11_night_75 : decode cX11_night 75 = .ok (.ireturn, 1) := by decide +kernel
theorem dX11_night_76 : decode cX11_night 76 = .ok (.aload_n 0, 1) := by decide +kernel
theorem dX11_night_77 : decode cX11_night 77 = .ok (.getfield 66, 3) := by decide +kernel
theorem dX11_night_80 : decode cX11_night 80 = .ok (.getfield 358, 3) := by decide +kernel
theorem dX11_night_83 : decode cX11_night 83 = .ok (.ireturn, 1) := by decide +kernel
theorem dX11_night_84 : decode cX11_night 84 = .ok (.aload_n 0, 1) := by decide +kernel
theorem dX11_night_85 : decode cX11_night 85 = .ok (.getfield 66, 3) := by decide +kernel
theorem dX11_night_88 : decode cX11_night 88 = .ok (.invokevirtual 359, 3) := by decide +kernel
theorem dX11_night_91 : decode cX11_night 91 = .ok (.ireturn, 1) := by decide +kernel
theorem dX11_night_92 : decode cX11_night 92 = .ok (.aload_n 0, 1) := by decide +kernel
theorem dX11_night_93 : decode cX11_night 93 = .ok (.getfield 66, 3) := by decide +kernel
theorem dX11_night_96 : decode cX11_night 96 = .ok (.invokevirtual 362, 3) := by decide +kernel
theorem dX11_night_99 : decode cX11_night 99 = .ok (.ireturn, 1) := by decide +kernel
theorem dX11_night_100 : decode cX11_night 100 = .ok (.aload_n 0, 1) := by decide +kernel
theorem dX11_night_101 : decode cX11_night 101 = .ok (.getfield 66, 3) := by decide +kernel
theorem dX11_night_104 : decode cX11_night 104 = .ok (.getfield 365, 3) := by decide +kernel
theorem dX11_night_107 : decode cX11_night 107 = .ok (.ireturn, 1) := by decide +kernel
theorem dX11_whom_0 : decode cX11_whom 0 = .ok (.aload_n 0, 1) := by decide +kernel
theorem dX11_whom_1 : decode cX11_whom 1 = .ok (.getfield 12, 3) := by decide +kernel
theorem dX11_whom_4 : decode cX11_whom 4 = .ok (.iload_n 1, 1) := by decide +kernel
theorem dX11_whom_5 : decode cX11_whom 5 = .ok (.invokevirtual 281, 3) := by decide +kernel
theorem dX11_whom_8 : decode cX11_whom 8 = .ok (.astore_n 3, 1) := by decide +kernel
theorem dX11_whom_9 : decode cX11_whom 9 = .ok (.aload_n 3, 1) := by decide +kernel
theorem dX11_whom_10 : decode cX11_whom 10 = .ok (.ifnull 14, 3) := by decide +kernel
theorem dX11_whom_13 : decode cX11_whom 13 = .ok (.aload_n 0, 1) := by decide +kernel
theorem dX11_whom_14 : decode cX11_whom 14 = .ok (.getfield 12, 3) := by decide +kernel
theorem dX11_whom_17 : decode cX11_whom 17 = .ok (.iload_n 2, 1) := by decide +kernel
theorem dX11_whom_18 : decode cX11_whom 18 = .ok (.invokevirtual 132, 3) := by decide +kernel
theorem dX11_whom_21 : decode cX11_whom 21 = .ok (.ifnonnull 10, 3) := by decide +kernel
theorem dX11_whom_24 : decode cX11_whom 24 = .ok (.aload_n 0, 1) := by decide +kernel
theorem dX11_whom_25 : decode cX11_whom 25 = .ok (.ldc 78, 2) := by decide +kernel
theorem dX11_whom_27 : decode cX11_whom 27 = .ok (.invokevirtual 79, 3) := by decide +kernel
theorem dX11_whom_30 : decode cX11_whom 30 = .ok (.ireturn, 1) := by decide +kernel
theorem dX11_whom_31 : decode cX11_whom 31 = .ok (.aload_n 0, 1) := by decide +kernel
theorem dX11_whom_32 : decode cX11_whom 32 = .ok (.getfield 66, 3) := by decide +kernel
theorem dX11_whom_35 : decode cX11_whom 35 = .ok (.aload_n 3, 1) := by decide +kernel
theorem dX11_whom_36 : decode cX11_whom 36 = .ok (.invokevirtual 352, 3) := by decide +kernel
theorem dX11_whom_39 : decode cX11_whom 39 = .ok (.aload_n 0, 1) := by decide +kernel
theorem dX11_whom_40 : decode cX11_whom 40 = .ok (.getfield 66, 3) := by decide +kernel
theorem dX11_whom_43 : decode cX11_whom 43 = .ok (.getfield 368, 3) := by decide +kernel
theorem dX11_whom_46 : decode cX11_whom 46 = .ok (.iload_n 2, 1) := by decide +kernel
theorem dX11_whom_47 : decode cX11_whom 47 = .ok (.iaload, 1) := by decide +kernel
theorem dX11_whom_48 : decode cX11_whom 48 = .ok (.istore 4, 2) := by decide +kernel
theorem dX11_whom_50 : decode cX11_whom 50 = .ok (.iload 4, 2) := by decide +kernel
theorem dX11_whom_52 : decode cX11_whom 52 = .ok (.iconst (-1), 1) := by decide +kernel
theorem dX11_whom_53 : decode cX11_whom 53 = .ok (.if_icmp .ne 12, 3) := by decide +kernel
theorem dX11_whom_56 : decode cX11_whom 56 = .ok (.aload_n 0, 1) := by decide +kernel
theorem dX11_whom_57 : decode cX11_whom 57 = .ok (.ldc 102, 2) := by decide +kernel
theorem dX11_whom_59 : decode cX11_whom 59 = .ok (.invokevirtual 79, 3) := by decide +kernel
theorem dX11_whom_62 : decode cX11_whom 62 = .ok (.goto 5, 3) := by decide +kernel
theorem dX11_whom_65 : decode cX11_whom 65 = .ok (.iload 4, 2) := by decide +kernel
theorem dX11_whom_67 : decode cX11_whom 67 = .ok (.ireturn, 1) := by decide +kernel
theorem dX11_hold_0 : decode cX11_hold 0 = .ok (.iload_n 1, 1) := by decide +kernel
theorem dX11_hold_1 : decode cX11_hold 1 = .ok (.iconst 0, 1) := by decide +kernel
theorem dX11_hold_2 : decode cX11_hold 2 = .ok (.bipush 9, 2) := by decide +kernel
theorem dX11_hold_4 : decode cX11_hold 4 = .ok (.invokestatic 74, 3) := by decide +kernel
theorem dX11_hold_7 : decode cX11_hold 7 = .ok (.ifCond .eq 20, 3) := by decide +kernel
theorem dX11_hold_10 : decode cX11_hold 10 = .ok (.iload_n 2, 1) := by decide +kernel
theorem dX11_hold_11 : decode cX11_hold 11 = .ok (.iconst (-1), 1) := by decide +kernel
theorem dX11_hold_12 : decode cX11_hold 12 = .ok (.aload_n 0, 1) := by decide +kernel
theorem dX11_hold_13 : decode cX11_hold 13 = .ok (.getfield 12, 3) := by decide +kernel
theorem dX11_hold_16 : decode cX11_hold 16 = .ok (.getfield 172, 3) := by decide +kernel
theorem dX11_hold_19 : decode cX11_hold 19 = .ok (.iconst 1, 1) := by decide +kernel
theorem dX11_hold_20 : decode cX11_hold 20 = .ok (.isub, 1) := by decide +kernel
theorem dX11_hold_21 : decode cX11_hold 21 = .ok (.invokestatic 74, 3) := by decide +kernel
theorem dX11_hold_24 : decode cX11_hold 24 = .ok (.ifCond .ne 10, 3) := by decide +kernel
theorem dX11_hold_27 : decode cX11_hold 27 = .ok (.aload_n 0, 1) := by decide +kernel
theorem dX11_hold_28 : decode cX11_hold 28 = .ok (.ldc 78, 2) := by decide +kernel
theorem dX11_hold_30 : decode cX11_hold 30 = .ok (.invokevirtual 79, 3) := by decide +kernel
theorem dX11_hold_33 : decode cX11_hold 33 = .ok (.ireturn, 1) := by decide +kernel
theorem dX11_hold_34 : decode cX11_hold 34 = .ok (.aload_n 0, 1) := by decide +kernel
theorem dX11_hold_35 : decode cX11_hold 35 = .ok (.getfield 12, 3) := by decide +kernel
theorem dX11_hold_38 : decode cX11_hold 38 = .ok (.getfield 371, 3) := by decide +kernel
theorem dX11_hold_41 : decode cX11_hold 41 = .ok (.iload_n 1, 1) := by decide +kernel
theorem dX11_hold_42 : decode cX11_hold 42 = .ok (.iload_n 2, 1) := by decide +kernel
theorem dX11_hold_43 : decode cX11_hold 43 = .ok (.iastore, 1) := by decide +kernel
theorem dX11_hold_44 : decode cX11_hold 44 = .ok (.iconst 1, 1) := by decide +kernel
theorem dX11_hold_45 : decode cX11_hold 45 = .ok (.ireturn, 1) := by decide +kernel
theorem dX11_as_0 : decode cX11_as 0 = .ok (.iload_n 1, 1) := by decide +kernel
theorem dX11_as_1 : decode cX11_as 1 = .ok (.iconst 0, 1) := by decide +kernel
theorem dX11_as_2 : decode cX11_as 2 = .ok (.bipush 9, 2) := by decide +kernel
theorem dX11_as_4 : decode cX11_as 4 = .ok (.invokestatic 74, 3) := by decide +kernel
theorem dX11_as_7 : decode cX11_as 7 = .ok (.ifCond .eq 13, 3) := by decide +kernel
theorem dX11_as_10 : decode cX11_as 10 = .ok (.iload_n 2, 1) := by decide +kernel
theorem dX11_as_11 : decode cX11_as 11 = .ok (.iconst 0, 1) := by decide +kernel
theorem dX11_as_12 : decode cX11_as 12 = .ok (.bipush 6, 2) := by decide +kernel
theorem dX11_as_14 : decode cX11_as 14 = .ok (.invokestatic 74, 3) := by decide +kernel
theorem dX11_as_17 : decode cX11_as 17 = .ok (.ifCond .ne 10, 3) := by decide +kernel
theorem dX11_as_20 : decode cX11_as 20 = .ok (.aload_n 0, 1) := by decide +kernel
theorem dX11_as_21 : decode cX11_as 21 = .ok (.ldc 78, 2) := by decide +kernel
theorem dX11_as_23 : decode cX11_as 23 = .ok (.invokevirtual 79, 3) := by decide +kernel
theorem dX11_as_26 : decode cX11_as 26 = .ok (.ireturn, 1) := by decide +kernel
theorem dX11_as_27 : decode cX11_as 27 = .ok (.aload_n 0, 1) := by decide +kernel
theorem dX11_as_28 : decode cX11_as 28 = .ok (.getfield 12, 3) := by decide +kernel
theorem dX11_as_31 : decode cX11_as 31 = .ok (.aload_n 0, 1) := by decide +kernel
theorem dX11_as_32 : decode cX11_as 32 = .ok (.getfield 12, 3) := by decide +kernel
theorem dX11_as_35 : decode cX11_as 35 = .ok (.getfield 371, 3) := by decide +kernel
theorem dX11_as_38 : decode cX11_as 38 = .ok (.iload_n 1, 1) := by decide +kernel
theorem dX11_as_39 : decode cX11_as 39 = .ok (.iaload, 1) := by decide +kernel
theorem dX11_as_40 : decode cX11_as 40 = .ok (.invokevirtual 179, 3) := by decide +kernel
theorem dX11_as_43 : decode cX11_as 43 = .ok (.astore_n 3, 1) := by decide +kernel
theorem dX11_as_44 : decode cX11_as 44 = .ok (.aload_n 3, 1) := by decide +kernel
theorem dX11_as_45 : decode cX11_as 45 = .ok (.ifnonnull 11, 3) := by decide +kernel
theorem dX11_as_48 : decode cX11_as 48 = .ok (.aload_n 0, 1) := by decide +kernel
theorem dX11_as_49 : decode cX11_as 49 = .ok (.ldc_w 374, 3) := by decide +kernel
theorem dX11_as_52 : decode cX11_as 52 = .ok (.invokevirtual 79, 3) := by decide +kernel
theorem dX11_as_55 : decode cX11_as 55 = .ok (.ireturn, 1) := by decide +kernel
theorem dX11_as_56 : decode cX11_as 56 = .ok (.aload_n 3, 1) := by decide +kernel
theorem dX11_as_57 : decode cX11_as 57 = .ok (.getfield 183, 3) := by decide +kernel
theorem dX11_as_60 : decode cX11_as 60 = .ok (.iload_n 2, 1) := by decide +kernel
theorem dX11_as_61 : decode cX11_as 61 = .ok (.invokestatic 375, 3) := by decide +kernel
theorem dX11_as_64 : decode cX11_as 64 = .ok (.ifCond .eq 10, 3) := by decide +kernel
theorem dX11_as_67 : decode cX11_as 67 = .ok (.aload_n 3, 1) := by decide +kernel
theorem dX11_as_68 : decode cX11_as 68 = .ok (.getfield 310, 3) := by decide +kernel
theorem dX11_as_71 : decode cX11_as 71 = .ok (.goto 10, 3) := by decide +kernel
theorem dX11_as_74 : decode cX11_as 74 = .ok (.aload_n 0, 1) := by decide +kernel
theorem dX11_as_75 : decode cX11_as 75 = .ok (.ldc_w 379, 3) := by decide +kernel
theorem dX11_as_78 : decode cX11_as 78 = .ok (.invokevirtual 79, 3) := by decide +kernel
theorem dX11_as_81 : decode cX11_as 81 = .ok (.ireturn, 1) := by decide +kernel
theorem dX11_sheet_0 : decode cX11_sheet 0 = .ok (.aload_n 0, 1) := by decide +kernel
theorem dX11_sheet_1 : decode cX11_sheet 1 = .ok (.iload_n 1, 1) := by decide +kernel
theorem dX11_sheet_2 : decode cX11_sheet 2 = .ok (.invokevirtual 380, 3) := by decide +kernel
theorem dX11_sheet_5 : decode cX11_sheet 5 = .ok (.astore 4, 2) := by decide +kernel
theorem dX11_sheet_7 : decode cX11_sheet 7 = .ok (.aload 4, 2) := by decide +kernel
theorem dX11_sheet_9 : decode cX11_sheet 9 = .ok (.ifnull 25, 3) := by decide +kernel
theorem dX11_sheet_12 : decode cX11_sheet 12 = .ok (.iload_n 2, 1) := by decide +kernel
theorem dX11_sheet_13 : decode cX11_sheet 13 = .ok (.ifCond .eq 28, 3) := by decide +kernel
theorem dX11_sheet_16 : decode cX11_sheet 16 = .ok (.iload_n 2, 1) := by decide +kernel
theorem dX11_sheet_17 : decode cX11_sheet 17 = .ok (.bipush 8, 2) := by decide +kernel
theorem dX11_sheet_19 : decode cX11_sheet 19 = .ok (.if_icmp .eq 22, 3) := by decide +kernel
theorem dX11_sheet_22 : decode cX11_sheet 22 = .ok (.iload_n 2, 1) := by decide +kernel
theorem dX11_sheet_23 : decode cX11_sheet 23 = .ok (.bipush 16, 2) := by decide +kernel
theorem dX11_sheet_25 : decode cX11_sheet 25 = .ok (.if_icmp .eq 16, 3) := by decide +kernel
theorem dX11_sheet_28 : decode cX11_sheet 28 = .ok (.iload_n 2, 1) := by decide +kernel
theorem dX11_sheet_29 : decode cX11_sheet 29 = .ok (.bipush 32, 2) := by decide +kernel
theorem dX11_sheet_31 : decode cX11_sheet 31 = .ok (.if_icmp .eq 10, 3) := by decide +kernel
theorem dX11_sheet_34 : decode cX11_sheet 34 = .ok (.aload_n 0, 1) := by decide +kernel
theorem dX11_sheet_35 : decode cX11_sheet 35 = .ok (.ldc 78, 2) := by decide +kernel
theorem dX11_sheet_37 : decode cX11_sheet 37 = .ok (.invokevirtual 79, 3) := by decide +kernel
theorem dX11_sheet_40 : decode cX11_sheet 40 = .ok (.ireturn, 1) := by decide +kernel
theorem dX11_sheet_41 : decode cX11_sheet 41 = .ok (.iload_n 3, 1) := by decide +kernel
theorem dX11_sheet_42 : decode cX11_sheet 42 = .ok (.ifCond .ge 11, 3) := by decide +kernel
theorem dX11_sheet_45 : decode cX11_sheet 45 = .ok (.aload_n 0, 1) := by decide +kernel
theorem dX11_sheet_46 : decode cX11_sheet 46 = .ok (.ldc_w 384, 3) := by decide +kernel
theorem dX11_sheet_49 : decode cX11_sheet 49 = .ok (.invokevirtual 79, 3) := by decide +kernel
theorem dX11_sheet_52 : decode cX11_sheet 52 = .ok (.ireturn, 1) := by decide +kernel
theorem dX11_sheet_53 : decode cX11_sheet 53 = .ok (.iload_n 3, 1) := by decide +kernel
theorem dX11_sheet_54 : decode cX11_sheet 54 = .ok (.bipush 60, 2) := by decide +kernel
theorem dX11_sheet_56 : decode cX11_sheet 56 = .ok (.if_icmp .le 10, 3) := by decide +kernel
theorem dX11_sheet_59 : decode cX11_sheet 59 = .ok (.aload_n 0, 1) := by decide +kernel
theorem dX11_sheet_60 : decode cX11_sheet 60 = .ok (.ldc 78, 2) := by decide +kernel
theorem dX11_sheet_62 : decode cX11_sheet 62 = .ok (.invokevirtual 79, 3) := by decide +kernel
theorem dX11_sheet_65 : decode cX11_sheet 65 = .ok (.ireturn, 1) := by decide +kernel
theorem dX11_sheet_66 : decode cX11_sheet 66 = .ok (.aload 4, 2) := by decide +kernel
theorem dX11_sheet_68 : decode cX11_sheet 68 = .ok (.iload_n 2, 1) := by decide +kernel
theorem dX11_sheet_69 : decode cX11_sheet 69 = .ok (.iload_n 3, 1) := by decide +kernel
theorem dX11_sheet_70 : decode cX11_sheet 70 = .ok (.invokevirtual 385, 3) := by decide +kernel
theorem dX11_sheet_73 : decode cX11_sheet 73 = .ok (.aload 4, 2) := by decide +kernel
theorem dX11_sheet_75 : decode cX11_sheet 75 = .ok (.getfield 388, 3) := by decide +kernel
theorem dX11_sheet_78 : decode cX11_sheet 78 = .ok (.ireturn, 1) := by decide +kernel
theorem dX11_write_0 : decode cX11_write 0 = .ok (.aload_n 0, 1) := by decide +kernel
theorem dX11_write_1 : decode cX11_write 1 = .ok (.iload_n 1, 1) := by decide +kernel
theorem dX11_write_2 : decode cX11_write 2 = .ok (.invokevirtual 380, 3) := by decide +kernel
theorem dX11_write_5 : decode cX11_write 5 = .ok (.astore 4, 2) := by decide +kernel
theorem dX11_write_7 : decode cX11_write 7 = .ok (.aload 4, 2) := by decide +kernel
theorem dX11_write_9 : decode cX11_write 9 = .ok (.ifnonnull 10, 3) := by decide +kernel
theorem dX11_write_12 : decode cX11_write 12 = .ok (.aload_n 0, 1) := by decide +kernel
theorem dX11_write_13 : decode cX11_write 13 = .ok (.ldc 78, 2) := by decide +kernel
theorem dX11_write_15 : decode cX11_write 15 = .ok (.invokevirtual 79, 3) := by decide +kernel
theorem dX11_write_18 : decode cX11_write 18 = .ok (.ireturn, 1) := by decide +kernel
theorem dX11_write_19 : decode cX11_write 19 = .ok (.aload 4, 2) := by decide +kernel
theorem dX11_write_21 : decode cX11_write 21 = .ok (.invokevirtual 389, 3) := by decide +kernel
theorem dX11_write_24 : decode cX11_write 24 = .ok (.ifCond .eq 11, 3) := by decide +kernel
theorem dX11_write_27 : decode cX11_write 27 = .ok (.aload_n 0, 1) := by decide +kernel
theorem dX11_write_28 : decode cX11_write 28 = .ok (.ldc_w 374, 3) := by decide +kernel
theorem dX11_write_31 : decode cX11_write 31 = .ok (.invokevirtual 79, 3) := by decide +kernel
theorem dX11_write_34 : decode cX11_write 34 = .ok (.ireturn, 1) := by decide +kernel
theorem dX11_write_35 : decode cX11_write 35 = .ok (.iload_n 2, 1) := by decide +kernel
theorem dX11_write_36 : decode cX11_write 36 = .ok (.iconst 0, 1) := by decide +kernel
theorem dX11_write_37 : decode cX11_write 37 = .ok (.aload 4, 2) := by decide +kernel
theorem dX11_write_39 : decode cX11_write 39 = .ok (.getfield 388, 3) := by decide +kernel
theorem dX11_write_42 : decode cX11_write 42 = .ok (.iconst 1, 1) := by decide +kernel
theorem dX11_write_43 : decode cX11_write 43 = .ok (.isub, 1) := by decide +kernel
theorem dX11_write_44 : decode cX11_write 44 = .ok (.invokestatic 74, 3) := by decide +kernel
theorem dX11_write_47 : decode cX11_write 47 = .ok (.ifCond .ne 10, 3) := by decide +kernel
theorem dX11_write_50 : decode cX11_write 50 = .ok (.aload_n 0, 1) := by decide +kernel
theorem dX11_write_51 : decode cX11_write 51 = .ok (.ldc 78, 2) := by decide +kernel
theorem dX11_write_53 : decode cX11_write 53 = .ok (.invokevirtual 79, 3) := by decide +kernel
theorem dX11_write_56 : decode cX11_write 56 = .ok (.ireturn, 1) := by decide +kernel
theorem dX11_write_57 : decode cX11_write 57 = .ok (.aload 4, 2) := by decide +kernel
theorem dX11_write_59 : decode cX11_write 59 = .ok (.iload_n 2, 1) := by decide +kernel
theorem dX11_write_60 : decode cX11_write 60 = .ok (.iload_n 3, 1) := by decide +kernel
theorem dX11_write_61 : decode cX11_write 61 = .ok (.invokevirtual 392, 3) := by decide +kernel
theorem dX11_write_64 : decode cX11_write 64 = .ok (.iconst 1, 1) := by decide +kernel
theorem dX11_write_65 : decode cX11_write 65 = .ok (.ireturn, 1) := by decide +kernel
theorem dX11_copy_0 : decode cX11_copy 0 = .ok (.aload_n 0, 1) := by decide +kernel
theorem dX11_copy_1 : decode cX11_copy 1 = .ok (.iload_n 1, 1) := by decide +kernel
theorem dX11_copy_2 : decode cX11_copy 2 = .ok (.invokevirtual 380, 3) := by decide +kernel
theorem dX11_copy_5 : decode cX11_copy 5 = .ok (.astore 6, 2) := by decide +kernel
theorem dX11_copy_7 : decode cX11_copy 7 = .ok (.aload_n 0, 1) := by decide +kernel
theorem dX11_copy_8 : decode cX11_copy 8 = .ok (.iload_n 3, 1) := by decide +kernel
theorem dX11_copy_9 : decode cX11_copy 9 = .ok (.invokevirtual 380, 3) := by decide +kernel
theorem dX11_copy_12 : decode cX11_copy 12 = .ok (.astore 7, 2) := by decide +kernel
theorem dX11_copy_14 : decode cX11_copy 14 = .ok (.aload 6, 2) := by decide +kernel
theorem dX11_copy_16 : decode cX11_copy 16 = .ok (.ifnull 8, 3) := by decide +kernel
theorem dX11_copy_19 : decode cX11_copy 19 = .ok (.aload 7, 2) := by decide +kernel
theorem dX11_copy_21 : decode cX11_copy 21 = .ok (.ifnonnull 10, 3) := by decide +kernel
theorem dX11_copy_24 : decode cX11_copy 24 = .ok (.aload_n 0, 1) := by decide +kernel
theorem dX11_copy_25 : decode cX11_copy 25 = .ok (.ldc 78, 2) := by decide +kernel
theorem dX11_copy_27 : decode cX11_copy 27 = .ok (.invokevirtual 79, 3) := by decide +kernel
theorem dX11_copy_30 : decode cX11_copy 30 = .ok (.ireturn, 1) := by decide +kernel
theorem dX11_copy_31 : decode cX11_copy 31 = .ok (.aload 6, 2) := by decide +kernel
theorem dX11_copy_33 : decode cX11_copy 33 = .ok (.invokevirtual 389, 3) := by decide +kernel
theorem dX11_copy_36 : decode cX11_copy 36 = .ok (.ifCond .ne 11, 3) := by decide +kernel
theorem dX11_copy_39 : decode cX11_copy 39 = .ok (.aload 7, 2) := by decide +kernel
theorem dX11_copy_41 : decode cX11_copy 41 = .ok (.invokevirtual 389, 3) := by decide +kernel
theorem dX11_copy_44 : decode cX11_copy 44 = .ok (.ifCond .eq 11, 3) := by decide +kernel
theorem dX11_copy_47 : decode cX11_copy 47 = .ok (.aload_n 0, 1) := by decide +kernel
theorem dX11_copy_48 : decode cX11_copy 48 = .ok (.ldc_w 374, 3) := by decide +kernel
theorem dX11_copy_51 : decode cX11_copy 51 = .ok (.invokevirtual 79, 3) := by decide +kernel
theorem dX11_copy_54 : decode cX11_copy 54 = .ok (.ireturn, 1) := by decide +kernel
theorem dX11_copy_55 : decode cX11_copy 55 = .ok (.aload 6, 2) := by decide +kernel
theorem dX11_copy_57 : decode cX11_copy 57 = .ok (.getfield 395, 3) := by decide +kernel
theorem dX11_copy_60 : decode cX11_copy 60 = .ok (.aload 7, 2) := by decide +kernel
theorem dX11_copy_62 : decode cX11_copy 62 = .ok (.getfield 395, 3) := by decide +kernel
theorem dX11_copy_65 : decode cX11_copy 65 = .ok (.if_icmp .eq 11, 3) := by decide +kernel
theorem dX11_copy_68 : decode cX11_copy 68 = .ok (.aload_n 0, 1) := by decide +kernel
theorem dX11_copy_69 : decode cX11_copy 69 = .ok (.ldc_w 379, 3) := by decide +kernel
theorem dX11_copy_72 : decode cX11_copy 72 = .ok (.invokevirtual 79, 3) := by decide +kernel
theorem dX11_copy_75 : decode cX11_copy 75 = .ok (.ireturn, 1) := by decide +kernel
theorem dX11_copy_76 : decode cX11_copy 76 = .ok (.aload 6, 2) := by decide +kernel
theorem dX11_copy_78 : decode cX11_copy 78 = .ok (.iload_n 2, 1) := by decide +kernel
theorem dX11_copy_79 : decode cX11_copy 79 = .ok (.iload 5, 2) := by decide +kernel
theorem dX11_copy_81 : decode cX11_copy 81 = .ok (.invokevirtual 398, 3) := by decide +kernel
theorem dX11_copy_84 : decode cX11_copy 84 = .ok (.ifCond .eq 15, 3) := by decide +kernel
theorem dX11_copy_87 : decode cX11_copy 87 = .ok (.aload 7, 2) := by decide +kernel
theorem dX11_copy_89 : decode cX11_copy 89 = .ok (.iload 4, 2) := by decide +kernel
theorem dX11_copy_91 : decode cX11_copy 91 = .ok (.iload 5, 2) := by decide +kernel
theorem dX11_copy_93 : decode cX11_copy 93 = .ok (.invokevirtual 398, 3) := by decide +kernel
theorem dX11_copy_96 : decode cX11_copy 96 = .ok (.ifCond .ne 10, 3) := by decide +kernel
theorem dX11_copy_99 : decode cX11_copy 99 = .ok (.aload_n 0, 1) := by decide +kernel
theorem dX11_copy_100 : decode cX11_copy 100 = .ok (.ldc 78, 2) := by decide +kernel
theorem dX11_copy_102 : decode cX11_copy 102 = .ok (.invokevirtual 79, 3) := by decide +kernel
theorem dX11_copy_105 : decode cX11_copy 105 = .ok (.ireturn, 1) := by decide +kernel
theorem dX11_copy_106 : decode cX11_copy 106 = .ok (.aload 6, 2) := by decide +kernel
theorem dX11_copy_108 : decode cX11_copy 108 = .ok (.getfield 401, 3) := by decide +kernel
theorem dX11_copy_111 : decode cX11_copy 111 = .ok (.iload_n 2, 1) := by decide +kernel
theorem dX11_copy_112 : decode cX11_copy 112 = .ok (.aload 7, 2) := by decide +kernel
theorem dX11_copy_114 : decode cX11_copy 114 = .ok (.getfield 401, 3) := by decide +kernel
theorem dX11_copy_117 : decode cX11_copy 117 = .ok (.iload 4, 2) := by decide +kernel
theorem dX11_copy_119 : decode cX11_copy 119 = .ok (.iload 5, 2) := by decide +kernel
theorem dX11_copy_121 : decode cX11_copy 121 = .ok (.invokestatic 404, 3) := by decide +kernel
theorem dX11_copy_124 : decode cX11_copy 124 = .ok (.iload 5, 2) := by decide +kernel
theorem dX11_copy_126 : decode cX11_copy 126 = .ok (.ireturn, 1) := by decide +kernel
theorem dX11_roads_0 : decode cX11_roads 0 = .ok (.aload_n 0, 1) := by decide +kernel
theorem dX11_roads_1 : decode cX11_roads 1 = .ok (.iload_n 1, 1) := by decide +kernel
theorem dX11_roads_2 : decode cX11_roads 2 = .ok (.invokevirtual 380, 3) := by decide +kernel
theorem dX11_roads_5 : decode cX11_roads 5 = .ok (.astore_n 2, 1) := by decide +kernel
theorem dX11_roads_6 : decode cX11_roads 6 = .ok (.aload_n 2, 1) := by decide +kernel
theorem dX11_roads_7 : decode cX11_roads 7 = .ok (.ifnonnull 10, 3) := by decide +kernel
theorem dX11_roads_10 : decode cX11_roads 10 = .ok (.aload_n 0, 1) := by decide +kernel
theorem dX11_roads_11 : decode cX11_roads 11 = .ok (.ldc 78, 2) := by decide +kernel
theorem dX11_roads_13 : decode cX11_roads 13 = .ok (.invokevirtual 79, 3) := by decide +kernel
theorem dX11_roads_16 : decode cX11_roads 16 = .ok (.ireturn, 1) := by decide +kernel
theorem dX11_roads_17 : decode cX11_roads 17 = .ok (.aload_n 2, 1) := by decide +kernel
theorem dX11_roads_18 : decode cX11_roads 18 = .ok (.invokevirtual 389, 3) := by decide +kernel
theorem dX11_roads_21 : decode cX11_roads 21 = .ok (.ifCond .eq 11, 3) := by decide +kernel
theorem dX11_roads_24 : decode cX11_roads 24 = .ok (.aload_n 0, 1) := by decide +kernel
theorem dX11_roads_25 : decode cX11_roads 25 = .ok (.ldc_w 374, 3) := by decide +kernel
theorem dX11_roads_28 : decode cX11_roads 28 = .ok (.invokevirtual 79, 3) := by decide +kernel
theorem dX11_roads_31 : decode cX11_roads 31 = .ok (.ireturn, 1) := by decide +kernel
theorem dX11_roads_32 : decode cX11_roads 32 = .ok (.iconst 0, 1) := by decide +kernel
theorem dX11_roads_33 : decode cX11_roads 33 = .ok (.istore_n 3, 1) := by decide +kernel
theorem dX11_roads_34 : decode cX11_roads 34 = .ok (.iconst 0, 1) := by decide +kernel
theorem dX11_roads_35 : decode cX11_roads 35 = .ok (.istore 4, 2) := by decide +kernel
theorem dX11_roads_37 : decode cX11_roads 37 = .ok (.iload 4, 2) := by decide +kernel
theorem dX11_roads_39 : decode cX11_roads 39 = .ok (.iconst 2, 1) := by decide +kernel
theorem dX11_roads_40 : decode cX11_roads 40 = .ok (.iadd, 1) := by decide +kernel
theorem dX11_roads_41 : decode cX11_roads 41 = .ok (.aload_n 2, 1) := by decide +kernel
theorem dX11_roads_42 : decode cX11_roads 42 = .ok (.getfield 388, 3) := by decide +kernel
theorem dX11_roads_45 : decode cX11_roads 45 = .ok (.if_icmp .ge 75, 3) := by decide +kernel
theorem dX11_roads_48 : decode cX11_roads 48 = .ok (.aload_n 2, 1) := by decide +kernel
theorem dX11_roads_49 : decode cX11_roads 49 = .ok (.getfield 401, 3) := by decide +kernel
theorem dX11_roads_52 : decode cX11_roads 52 = .ok (.iload 4, 2) := by decide +kernel
theorem dX11_roads_54 : decode cX11_roads 54 = .ok (.iaload, 1) := by decide +kernel
theorem dX11_roads_55 : decode cX11_roads 55 = .ok (.istore 5, 2) := by decide +kernel
theorem dX11_roads_57 : decode cX11_roads 57 = .ok (.aload_n 2, 1) := by decide +kernel
theorem dX11_roads_58 : decode cX11_roads 58 = .ok (.getfield 401, 3) := by decide +kernel
theorem dX11_roads_61 : decode cX11_roads 61 = .ok (.iload 4, 2) := by decide +kernel
theorem dX11_roads_63 : decode cX11_roads 63 = .ok (.iconst 1, 1) := by decide +kernel
theorem dX11_roads_64 : decode cX11_roads 64 = .ok (.iadd, 1) := by decide +kernel
theorem dX11_roads_65 : decode cX11_roads 65 = .ok (.iaload, 1) := by decide +kernel
theorem dX11_roads_66 : decode cX11_roads 66 = .ok (.istore 6, 2) := by decide +kernel
theorem dX11_roads_68 : decode cX11_roads 68 = .ok (.aload_n 2, 1) := by decide +kernel
theorem dX11_roads_69 : decode cX11_roads 69 = .ok (.getfield 401, 3) := by decide +kernel
theorem dX11_roads_72 : decode cX11_roads 72 = .ok (.iload 4, 2) := by decide +kernel
theorem dX11_roads_74 : decode cX11_roads 74 = .ok (.iconst 2, 1) := by decide +kernel
theorem dX11_roads_75 : decode cX11_roads 75 = .ok (.iadd, 1) := by decide +kernel
theorem dX11_roads_76 : decode cX11_roads 76 = .ok (.iaload, 1) := by decide +kernel
theorem dX11_roads_77 : decode cX11_roads 77 = .ok (.istore 7, 2) := by decide +kernel
theorem dX11_roads_79 : decode cX11_roads 79 = .ok (.iload 5, 2) := by decide +kernel
theorem dX11_roads_81 : decode cX11_roads 81 = .ok (.iload 6, 2) := by decide +kernel
theorem dX11_roads_83 : decode cX11_roads 83 = .ok (.iload 7, 2) := by decide +kernel
theorem dX11_roads_85 : decode cX11_roads 85 = .ok (.invokestatic 92, 3) := by decide +kernel
theorem dX11_roads_88 : decode cX11_roads 88 = .ok (.ifCond .ne 6, 3) := by decide +kernel
theorem dX11_roads_91 : decode cX11_roads 91 = .ok (.goto 29, 3) := by decide +kernel
theorem dX11_roads_94 : decode cX11_roads 94 = .ok (.aload_n 0, 1) := by decide +kernel
theorem dX11_roads_95 : decode cX11_roads 95 = .ok (.getfield 12, 3) := by decide +kernel
theorem dX11_roads_98 : decode cX11_roads 98 = .ok (.getfield 43, 3) := by decide +kernel
theorem dX11_roads_101 : decode cX11_roads 101 = .ok (.iload 5, 2) := by decide +kernel
theorem dX11_roads_103 : decode cX11_roads 103 = .ok (.iload 6, 2) := by decide +kernel
theorem dX11_roads_105 : decode cX11_roads 105 = .ok (.iload 7, 2) := by decide +kernel
theorem dX11_roads_107 : decode cX11_roads 107 = .ok (.invokevirtual 95, 3) := by decide +kernel
theorem dX11_roads_110 : decode cX11_roads 110 = .ok (.pop, 1) := by decide +kernel
theorem dX11_roads_111 : decode cX11_roads 111 = .ok (.iinc 3 1, 3) := by decide +kernel
theorem dX11_roads_114 : decode cX11_roads 114 = .ok (.iinc 4 3, 3) := by decide +kernel
theorem dX11_roads_117 : decode cX11_roads 117 = .ok (.goto (-80), 3) := by decide +kernel
theorem dX11_roads_120 : decode cX11_roads 120 = .ok (.iload_n 3, 1) := by decide +kernel
theorem dX11_roads_121 : decode cX11_roads 121 = .ok (.ireturn, 1) := by decide +kernel
theorem dX11_judge_0 : decode cX11_judge 0 = .ok (.aload_n 0, 1) := by decide +kernel
theorem dX11_judge_1 : decode cX11_judge 1 = .ok (.iload_n 1, 1) := by decide +kernel
theorem dX11_judge_2 : decode cX11_judge 2 = .ok (.invokevirtual 380, 3) := by decide +kernel
theorem dX11_judge_5 : decode cX11_judge 5 = .ok (.astore_n 3, 1) := by decide +kernel
theorem dX11_judge_6 : decode cX11_judge 6 = .ok (.aload_n 3, 1) := by decide +kernel
theorem dX11_judge_7 : decode cX11_judge 7 = .ok (.ifnonnull 10, 3) := by decide +kernel
theorem dX11_judge_10 : decode cX11_judge 10 = .ok (.aload_n 0, 1) := by decide +kernel
theorem dX11_judge_11 : decode cX11_judge 11 = .ok (.ldc 78, 2) := by decide +kernel
theorem dX11_judge_13 : decode cX11_judge 13 = .ok (.invokevirtual 79, 3) := by decide +kernel
theorem dX11_judge_16 : decode cX11_judge 16 = .ok (.ireturn, 1) := by decide +kernel
theorem dX11_judge_17 : decode cX11_judge 17 = .ok (.aload_n 3, 1) := by decide +kernel
theorem dX11_judge_18 : decode cX11_judge 18 = .ok (.invokevirtual 389, 3) := by decide +kernel
theorem dX11_judge_21 : decode cX11_judge 21 = .ok (.ifCond .eq 11, 3) := by decide +kernel
theorem dX11_judge_24 : decode cX11_judge 24 = .ok (.aload_n 0, 1) := by decide +kernel
theorem dX11_judge_25 : decode cX11_judge 25 = .ok (.ldc_w 374, 3) := by decide +kernel
theorem dX11_judge_28 : decode cX11_judge 28 = .ok (.invokevirtual 79, 3) := by decide +kernel
theorem dX11_judge_31 : decode cX11_judge 31 = .ok (.ireturn, 1) := by decide +kernel
theorem dX11_judge_32 : decode cX11_judge 32 = .ok (.aload_n 0, 1) := by decide +kernel
theorem dX11_judge_33 : decode cX11_judge 33 = .ok (.getfield 12, 3) := by decide +kernel
theorem dX11_judge_36 : decode cX11_judge 36 = .ok (.iload_n 2, 1) := by decide +kernel
theorem dX11_judge_37 : decode cX11_judge 37 = .ok (.invokevirtual 281, 3) := by decide +kernel
theorem dX11_judge_40 : decode cX11_judge 40 = .ok (.astore 4, 2) := by decide +kernel
theorem dX11_judge_42 : decode cX11_judge 42 = .ok (.aload 4, 2) := by decide +kernel
theorem dX11_judge_44 : decode cX11_judge 44 = .ok (.ifnonnull 10, 3) := by decide +kernel
theorem dX11_judge_47 : decode cX11_judge 47 = .ok (.aload_n 0, 1) := by decide +kernel
theorem dX11_judge_48 : decode cX11_judge 48 = .ok (.ldc 78, 2) := by decide +kernel
theorem dX11_judge_50 : decode cX11_judge 50 = .ok (.invokevirtual 79, 3) := by decide +kernel
theorem dX11_judge_53 : decode cX11_judge 53 = .ok (.ireturn, 1) := by decide +kernel
theorem dX11_judge_54 : decode cX11_judge 54 = .ok (.aload_n 0, 1) := by decide +kernel
theorem dX11_judge_55 : decode cX11_judge 55 = .ok (.getfield 66, 3) := by decide +kernel
theorem dX11_judge_58 : decode cX11_judge 58 = .ok (.aload 4, 2) := by decide +kernel
theorem dX11_judge_60 : decode cX11_judge 60 = .ok (.invokevirtual 352, 3) := by decide +kernel
theorem dX11_judge_63 : decode cX11_judge 63 = .ok (.aload_n 3, 1) := by decide +kernel
theorem dX11_judge_64 : decode cX11_judge 64 = .ok (.getfield 388, 3) := by decide +kernel
theorem dX11_judge_67 : decode cX11_judge 67 = .ok (.aload_n 0, 1) := by decide +kernel
theorem dX11_judge_68 : decode cX11_judge 68 = .ok (.getfield 12, 3) := by decide +kernel
theorem dX11_judge_71 : decode cX11_judge 71 = .ok (.getfield 125, 3) := by decide +kernel
theorem dX11_judge_74 : decode cX11_judge 74 = .ok (.invokestatic 410, 3) := by decide +kernel
theorem dX11_judge_77 : decode cX11_judge 77 = .ok (.istore 5, 2) := by decide +kernel
theorem dX11_judge_79 : decode cX11_judge 79 = .ok (.iconst 0, 1) := by decide +kernel
theorem dX11_judge_80 : decode cX11_judge 80 = .ok (.istore 6, 2) := by decide +kernel
theorem dX11_judge_82 : decode cX11_judge 82 = .ok (.iload 6, 2) := by decide +kernel
theorem dX11_judge_84 : decode cX11_judge 84 = .ok (.iload 5, 2) := by decide +kernel
theorem dX11_judge_86 : decode cX11_judge 86 = .ok (.if_icmp .ge 29, 3) := by decide +kernel
theorem dX11_judge_89 : decode cX11_judge 89 = .ok (.aload_n 3, 1) := by decide +kernel
theorem dX11_judge_90 : decode cX11_judge 90 = .ok (.getfield 401, 3) := by decide +kernel
theorem dX11_judge_93 : decode cX11_judge 93 = .ok (.iload 6, 2) := by decide +kernel
theorem dX11_judge_95 : decode cX11_judge 95 = .ok (.iaload, 1) := by decide +kernel
theorem dX11_judge_96 : decode cX11_judge 96 = .ok (.aload_n 0, 1) := by decide +kernel
theorem dX11_judge_97 : decode cX11_judge 97 = .ok (.getfield 66, 3) := by decide +kernel
theorem dX11_judge_100 : decode cX11_judge 100 = .ok (.getfield 368, 3) := by decide +kernel
theorem dX11_judge_103 : decode cX11_judge 103 = .ok (.iload 6, 2) := by decide +kernel
theorem dX11_judge_105 : decode cX11_judge 105 = .ok (.iaload, 1) := by decide +kernel
theorem dX11_judge_106 : decode cX11_judge 106 = .ok (.if_icmp .ne 9, 3) := by decide +kernel
theorem dX11_judge_109 : decode cX11_judge 109 = .ok (.iinc 6 1, 3) := by decide +kernel
theorem dX11_judge_112 : decode cX11_judge 112 = .ok (.goto (-30), 3) := by decide +kernel
theorem dX11_judge_115 : decode cX11_judge 115 = .ok (.iload 6, 2) := by decide +kernel
theorem dX11_judge_117 : decode cX11_judge 117 = .ok (.aload_n 3, 1) := by decide +kernel
theorem dX11_judge_118 : decode cX11_judge 118 = .ok (.getfield 388, 3) := by decide +kernel
theorem dX11_judge_121 : decode cX11_judge 121 = .ok (.if_icmp .ne 19, 3) := by decide +kernel
theorem dX11_judge_124 : decode cX11_judge 124 = .ok (.iload 6, 2) := by decide +kernel
theorem dX11_judge_126 : decode cX11_judge 126 = .ok (.aload_n 0, 1) := by decide +kernel
theorem dX11_judge_127 : decode cX11_judge 127 = .ok (.getfield 12, 3) := by decide +kernel
theorem dX11_judge_130 : decode cX11_judge 130 = .ok (.getfield 125, 3) := by decide +kernel
theorem dX11_judge_133 : decode cX11_judge 133 = .ok (.if_icmp .ne 7, 3) := by decide +kernel
theorem dX11_judge_136 : decode cX11_judge 136 = .ok (.iconst 0, 1) := by decide +kernel
theorem dX11_judge_137 : decode cX11_judge 137 = .ok (.goto 7, 3) := by decide +kernel
theorem dX11_judge_140 : decode cX11_judge 140 = .ok (.iload 6, 2) := by decide +kernel
theorem dX11_judge_142 : decode cX11_judge 142 = .ok (.iconst 1, 1) := by decide +kernel
theorem dX11_judge_143 : decode cX11_judge 143 = .ok (.iadd, 1) := by decide +kernel
theorem dX11_judge_144 : decode cX11_judge 144 = .ok (.ireturn, 1) := by decide +kernel
theorem dX11_image_0 : decode cX11_image 0 = .ok (.aload_n 0, 1) := by decide +kernel
theorem dX11_image_1 : decode cX11_image 1 = .ok (.getfield 16, 3) := by decide +kernel
theorem dX11_image_4 : decode cX11_image 4 = .ok (.aload_n 0, 1) := by decide +kernel
theorem dX11_image_5 : decode cX11_image 5 = .ok (.getfield 12, 3) := by decide +kernel
theorem dX11_image_8 : decode cX11_image 8 = .ok (.invokevirtual 413, 3) := by decide +kernel
theorem dX11_image_11 : decode cX11_image 11 = .ok (.aload_n 0, 1) := by decide +kernel
theorem dX11_image_12 : decode cX11_image 12 = .ok (.iconst 1, 1) := by decide +kernel
theorem dX11_image_13 : decode cX11_image 13 = .ok (.putfield 19, 3) := by decide +kernel
theorem dX11_image_16 : decode cX11_image 16 = .ok (.iconst 1, 1) := by decide +kernel
theorem dX11_image_17 : decode cX11_image 17 = .ok (.ireturn, 1) := by decide +kernel
theorem dX11_undo_0 : decode cX11_undo 0 = .ok (.aload_n 0, 1) := by decide +kernel
theorem dX11_undo_1 : decode cX11_undo 1 = .ok (.getfield 19, 3) := by decide +kernel
theorem dX11_undo_4 : decode cX11_undo 4 = .ok (.ifCond .ne 10, 3) := by decide +kernel
theorem dX11_undo_7 : decode cX11_undo 7 = .ok (.aload_n 0, 1) := by decide +kernel
theorem dX11_undo_8 : decode cX11_undo 8 = .ok (.ldc 102, 2) := by decide +kernel
theorem dX11_undo_10 : decode cX11_undo 10 = .ok (.invokevirtual 79, 3) := by decide +kernel
theorem dX11_undo_13 : decode cX11_undo 13 = .ok (.ireturn, 1) := by decide +kernel
theorem dX11_undo_14 : decode cX11_undo 14 = .ok (.aload_n 0, 1) := by decide +kernel
theorem dX11_undo_15 : decode cX11_undo 15 = .ok (.getfield 12, 3) := by decide +kernel
theorem dX11_undo_18 : decode cX11_undo 18 = .ok (.aload_n 0, 1) := by decide +kernel
theorem dX11_undo_19 : decode cX11_undo 19 = .ok (.getfield 16, 3) := by decide +kernel
theorem dX11_undo_22 : decode cX11_undo 22 = .ok (.invokevirtual 413, 3) := by decide +kernel
theorem dX11_undo_25 : decode cX11_undo 25 = .ok (.aload_n 0, 1) := by decide +kernel
theorem dX11_undo_26 : decode cX11_undo 26 = .ok (.getfield 12, 3) := by decide +kernel
theorem dX11_undo_29 : decode cX11_undo 29 = .ok (.getfield 103, 3) := by decide +kernel
theorem dX11_undo_32 : decode cX11_undo 32 = .ok (.ireturn, 1) := by decide +kernel
theorem dX11_tear_0 : decode cX11_tear 0 = .ok (.aload_n 0, 1) := by decide +kernel
theorem dX11_tear_1 : decode cX11_tear 1 = .ok (.getfield 19, 3) := by decide +kernel
theorem dX11_tear_4 : decode cX11_tear 4 = .ok (.ifCond .eq 7, 3) := by decide +kernel
theorem dX11_tear_7 : decode cX11_tear 7 = .ok (.iconst 1, 1) := by decide +kernel
theorem dX11_tear_8 : decode cX11_tear 8 = .ok (.goto 4, 3) := by decide +kernel
theorem dX11_tear_11 : decode cX11_tear 11 = .ok (.iconst 0, 1) := by decide +kernel
theorem dX11_tear_12 : decode cX11_tear 12 = .ok (.istore_n 1, 1) := by decide +kernel
theorem dX11_tear_13 : decode cX11_tear 13 = .ok (.aload_n 0, 1) := by decide +kernel
theorem dX11_tear_14 : decode cX11_tear 14 = .ok (.iconst 0, 1) := by decide +kernel
theorem dX11_tear_15 : decode cX11_tear 15 = .ok (.putfield 19, 3) := by decide +kernel
theorem dX11_tear_18 : decode cX11_tear 18 = .ok (.iload_n 1, 1) := by decide +kernel
theorem dX11_tear_19 : decode cX11_tear 19 = .ok (.ireturn, 1) := by decide +kernel
theorem dX11_count_0 : decode cX11_count 0 = .ok (.iload_n 1, 1) := by decide +kernel
theorem dX11_count_1 : decode cX11_count 1 = .ok (.tableswitch 102 0 6 #[43, 51, 62, 70, 78, 86, 94], 43) := by decide +kernel
theorem dX11_count_44 : decode cX11_count 44 = .ok (.aload_n 0, 1) := by decide +kernel
theorem dX11_count_45 : decode cX11_count 45 = .ok (.getfield 12, 3) := by decide +kernel
theorem dX11_count_48 : decode cX11_count 48 = .ok (.getfield 103, 3) := by decide +kernel
theorem dX11_count_51 : decode cX11_count 51 = .ok (.ireturn, 1) := by decide +kernel
theorem dX11_count_52 : decode cX11_count 52 = .ok (.aload_n 0, 1) := by decide +kernel
theorem dX11_count_53 : decode cX11_count 53 = .ok (.getfield 12, 3) := by decide +kernel
theorem dX11_count_56 : decode cX11_count 56 = .ok (.getfield 108, 3) := by decide +kernel
theorem dX11_count_59 : decode cX11_count 59 = .ok (.getfield 122, 3) := by decide +kernel
theorem dX11_count_62 : decode cX11_count 62 = .ok (.ireturn, 1) := by decide +kernel
theorem dX11_count_63 : decode cX11_count 63 = .ok (.aload_n 0, 1) := by decide +kernel
theorem dX11_count_64 : decode cX11_count 64 = .ok (.getfield 12, 3) := by decide +kernel
theorem dX11_count_67 : decode cX11_count 67 = .ok (.getfield 125, 3) := by decide +kernel
theorem dX11_count_70 : decode cX11_count 70 = .ok (.ireturn, 1) := by decide +kernel
theorem dX11_count_71 : decode cX11_count 71 = .ok (.aload_n 0, 1) := by decide +kernel
theorem dX11_count_72 : decode cX11_count 72 = .ok (.getfield 12, 3) := by decide +kernel
theorem dX11_count_75 : decode cX11_count 75 = .ok (.invokevirtual 417, 3) := by decide +kernel
theorem dX11_count_78 : decode cX11_count 78 = .ok (.ireturn, 1) := by decide +kernel
theorem dX11_count_79 : decode cX11_count 79 = .ok (.aload_n 0, 1) := by decide +kernel
theorem dX11_count_80 : decode cX11_count 80 = .ok (.getfield 12, 3) := by decide +kernel
theorem dX11_count_83 : decode cX11_count 83 = .ok (.getfield 172, 3) := by decide +kernel
theorem dX11_count_86 : decode cX11_count 86 = .ok (.ireturn, 1) := by decide +kernel
theorem dX11_count_87 : decode cX11_count 87 = .ok (.aload_n 0, 1) := by decide +kernel
theorem dX11_count_88 : decode cX11_count 88 = .ok (.getfield 12, 3) := by decide +kernel
theorem dX11_count_91 : decode cX11_count 91 = .ok (.getfield 247, 3) := by decide +kernel
theorem dX11_count_94 : decode cX11_count 94 = .ok (.ireturn, 1) := by decide +kernel
theorem dX11_count_95 : decode cX11_count 95 = .ok (.aload_n 0, 1) := by decide +kernel
theorem dX11_count_96 : decode cX11_count 96 = .ok (.getfield 26, 3) := by decide +kernel
theorem dX11_count_99 : decode cX11_count 99 = .ok (.getfield 240, 3) := by decide +kernel
theorem dX11_count_102 : decode cX11_count 102 = .ok (.ireturn, 1) := by decide +kernel
theorem dX11_count_103 : decode cX11_count 103 = .ok (.aload_n 0, 1) := by decide +kernel
theorem dX11_count_104 : decode cX11_count 104 = .ok (.ldc 78, 2) := by decide +kernel
theorem dX11_count_106 : decode cX11_count 106 = .ok (.invokevirtual 79, 3) := by decide +kernel
theorem dX11_count_109 : decode cX11_count 109 = .ok (.ireturn, 1) := by decide +kernel
theorem dX11_status_0 : decode cX11_status 0 = .ok (.iload_n 1, 1) := by decide +kernel
theorem dX11_status_1 : decode cX11_status 1 = .ok (.iconst (-1), 1) := by decide +kernel
theorem dX11_status_2 : decode cX11_status 2 = .ok (.bipush 6, 2) := by decide +kernel
theorem dX11_status_4 : decode cX11_status 4 = .ok (.invokestatic 74, 3) := by decide +kernel
theorem dX11_status_7 : decode cX11_status 7 = .ok (.ifCond .ne 10, 3) := by decide +kernel
theorem dX11_status_10 : decode cX11_status 10 = .ok (.aload_n 0, 1) := by decide +kernel
theorem dX11_status_11 : decode cX11_status 11 = .ok (.ldc 78, 2) := by decide +kernel
theorem dX11_status_13 : decode cX11_status 13 = .ok (.invokevirtual 79, 3) := by decide +kernel
theorem dX11_status_16 : decode cX11_status 16 = .ok (.ireturn, 1) := by decide +kernel
theorem dX11_status_17 : decode cX11_status 17 = .ok (.iload_n 1, 1) := by decide +kernel
theorem dX11_status_18 : decode cX11_status 18 = .ok (.ifCond .lt 10, 3) := by decide +kernel
theorem dX11_status_21 : decode cX11_status 21 = .ok (.aload_n 0, 1) := by decide +kernel
theorem dX11_status_22 : decode cX11_status 22 = .ok (.getfield 37, 3) := by decide +kernel
theorem dX11_status_25 : decode cX11_status 25 = .ok (.iload_n 1, 1) := by decide +kernel
theorem dX11_status_26 : decode cX11_status 26 = .ok (.iaload, 1) := by decide +kernel
theorem dX11_status_27 : decode cX11_status 27 = .ok (.ireturn, 1) := by decide +kernel
theorem dX11_status_28 : decode cX11_status 28 = .ok (.iconst 0, 1) := by decide +kernel
theorem dX11_status_29 : decode cX11_status 29 = .ok (.istore_n 2, 1) := by decide +kernel
theorem dX11_status_30 : decode cX11_status 30 = .ok (.iconst 0, 1) := by decide +kernel
theorem dX11_status_31 : decode cX11_status 31 = .ok (.istore_n 3, 1) := by decide +kernel
theorem dX11_status_32 : decode cX11_status 32 = .ok (.iload_n 3, 1) := by decide +kernel
theorem dX11_status_33 : decode cX11_status 33 = .ok (.bipush 7, 2) := by decide +kernel
theorem dX11_status_35 : decode cX11_status 35 = .ok (.if_icmp .ge 18, 3) := by decide +kernel
theorem dX11_status_38 : decode cX11_status 38 = .ok (.iload_n 2, 1) := by decide +kernel
theorem dX11_status_39 : decode cX11_status 39 = .ok (.aload_n 0, 1) := by decide +kernel
theorem dX11_status_40 : decode cX11_status 40 = .ok (.getfield 37, 3) := by decide +kernel
theorem dX11_status_43 : decode cX11_status 43 = .ok (.iload_n 3, 1) := by decide +kernel
theorem dX11_status_44 : decode cX11_status 44 = .ok (.iaload, 1) := by decide +kernel
theorem dX11_status_45 : decode cX11_status 45 = .ok (.iadd, 1) := by decide +kernel
theorem dX11_status_46 : decode cX11_status 46 = .ok (.istore_n 2, 1) := by decide +kernel
theorem dX11_status_47 : decode cX11_status 47 = .ok (.iinc 3 1, 3) := by decide +kernel
theorem dX11_status_50 : decode cX11_status 50 = .ok (.goto (-18), 3) := by decide +kernel
theorem dX11_status_53 : decode cX11_status 53 = .ok (.iload_n 2, 1) := by decide +kernel
theorem dX11_status_54 : decode cX11_status 54 = .ok (.ireturn, 1) := by decide +kernel
theorem dX11_finding_0 : decode cX11_finding 0 = .ok (.ldc 78, 2) := by decide +kernel
theorem dX11_finding_2 : decode cX11_finding 2 = .ok (.iload_n 1, 1) := by decide +kernel
theorem dX11_finding_3 : decode cX11_finding 3 = .ok (.isub, 1) := by decide +kernel
theorem dX11_finding_4 : decode cX11_finding 4 = .ok (.istore_n 2, 1) := by decide +kernel
theorem dX11_finding_5 : decode cX11_finding 5 = .ok (.iload_n 2, 1) := by decide +kernel
theorem dX11_finding_6 : decode cX11_finding 6 = .ok (.iconst 0, 1) := by decide +kernel
theorem dX11_finding_7 : decode cX11_finding 7 = .ok (.bipush 6, 2) := by decide +kernel
theorem dX11_finding_9 : decode cX11_finding 9 = .ok (.invokestatic 74, 3) := by decide +kernel
theorem dX11_finding_12 : decode cX11_finding 12 = .ok (.ifCond .eq 13, 3) := by decide +kernel
theorem dX11_finding_15 : decode cX11_finding 15 = .ok (.aload_n 0, 1) := by decide +kernel
theorem dX11_finding_16 : decode cX11_finding 16 = .ok (.getfield 37, 3) := by decide +kernel
theorem dX11_finding_19 : decode cX11_finding 19 = .ok (.iload_n 2, 1) := by decide +kernel
theorem dX11_finding_20 : decode cX11_finding 20 = .ok (.dup2, 1) := by decide +kernel
theorem dX11_finding_21 : decode cX11_finding 21 = .ok (.iaload, 1) := by decide +kernel
theorem dX11_finding_22 : decode cX11_finding 22 = .ok (.iconst 1, 1) := by decide +kernel
theorem dX11_finding_23 : decode cX11_finding 23 = .ok (.iadd, 1) := by decide +kernel
theorem dX11_finding_24 : decode cX11_finding 24 = .ok (.iastore, 1) := by decide +kernel
theorem dX11_finding_25 : decode cX11_finding 25 = .ok (.iload_n 1, 1) := by decide +kernel
theorem dX11_finding_26 : decode cX11_finding 26 = .ok (.ireturn, 1) := by decide +kernel
theorem dX11_sheetAt_0 : decode cX11_sheetAt 0 = .ok (.iload_n 1, 1) := by decide +kernel
theorem dX11_sheetAt_1 : decode cX11_sheetAt 1 = .ok (.iconst 0, 1) := by decide +kernel
theorem dX11_sheetAt_2 : decode cX11_sheetAt 2 = .ok (.iconst 3, 1) := by decide +kernel
theorem dX11_sheetAt_3 : decode cX11_sheetAt 3 = .ok (.invokestatic 74, 3) := by decide +kernel
theorem dX11_sheetAt_6 : decode cX11_sheetAt 6 = .ok (.ifCond .eq 12, 3) := by decide +kernel
theorem dX11_sheetAt_9 : decode cX11_sheetAt 9 = .ok (.aload_n 0, 1) := by decide +kernel
theorem dX11_sheetAt_10 : decode cX11_sheetAt 10 = .ok (.getfield 32, 3) := by decide +kernel
theorem dX11_sheetAt_13 : decode cX11_sheetAt 13 = .ok (.iload_n 1, 1) := by decide +kernel
theorem dX11_sheetAt_14 : decode cX11_sheetAt 14 = .ok (.aaload, 1) := by decide +kernel
theorem dX11_sheetAt_15 : decode cX11_sheetAt 15 = .ok (.goto 4, 3) := by decide +kernel
theorem dX11_sheetAt_18 : decode cX11_sheetAt 18 = .ok (.aconst_null, 1) := by decide +kernel
theorem dX11_sheetAt_19 : decode cX11_sheetAt 19 = .ok (.areturn, 1) := by decide +kernel
theorem dX11_planJoined_0 : decode cX11_planJoined 0 = .ok (.aload_n 0, 1) := by decide +kernel
theorem dX11_planJoined_1 : decode cX11_planJoined 1 = .ok (.getfield 12, 3) := by decide +kernel
theorem dX11_planJoined_4 : decode cX11_planJoined 4 = .ok (.iload_n 1, 1) := by decide +kernel
theorem dX11_planJoined_5 : decode cX11_planJoined 5 = .ok (.invokevirtual 179, 3) := by decide +kernel
theorem dX11_planJoined_8 : decode cX11_planJoined 8 = .ok (.astore 4, 2) := by decide +kernel
theorem dX11_planJoined_10 : decode cX11_planJoined 10 = .ok (.aload_n 0, 1) := by decide +kernel
theorem dX11_planJoined_11 : decode cX11_planJoined 11 = .ok (.getfield 12, 3) := by decide +kernel
theorem dX11_planJoined_14 : decode cX11_planJoined 14 = .ok (.iload_n 2, 1) := by decide +kernel
theorem dX11_planJoined_15 : decode cX11_planJoined 15 = .ok (.invokevirtual 132, 3) := by decide +kernel
theorem dX11_planJoined_18 : decode cX11_planJoined 18 = .ok (.astore 5, 2) := by decide +kernel
theorem dX11_planJoined_20 : decode cX11_planJoined 20 = .ok (.aload_n 0, 1) := by decide +kernel
theorem dX11_planJoined_21 : decode cX11_planJoined 21 = .ok (.getfield 12, 3) := by decide +kernel
theorem dX11_planJoined_24 : decode cX11_planJoined 24 = .ok (.iload_n 3, 1) := by decide +kernel
theorem dX11_planJoined_25 : decode cX11_planJoined 25 = .ok (.invokevirtual 132, 3) := by decide +kernel
theorem dX11_planJoined_28 : decode cX11_planJoined 28 = .ok (.astore 6, 2) := by decide +kernel
theorem dX11_planJoined_30 : decode cX11_planJoined 30 = .ok (.aload 4, 2) := by decide +kernel
theorem dX11_planJoined_32 : decode cX11_planJoined 32 = .ok (.ifnull 18, 3) := by decide +kernel
theorem dX11_planJoined_35 : decode cX11_planJoined 35 = .ok (.aload 5, 2) := by decide +kernel
theorem dX11_planJoined_37 : decode cX11_planJoined 37 = .ok (.ifnull 13, 3) := by decide +kernel
theorem dX11_planJoined_40 : decode cX11_planJoined 40 = .ok (.aload 6, 2) := by decide +kernel
theorem dX11_planJoined_42 : decode cX11_planJoined 42 = .ok (.ifnull 8, 3) := by decide +kernel
theorem dX11_planJoined_45 : decode cX11_planJoined 45 = .ok (.iload_n 2, 1) := by decide +kernel
theorem dX11_planJoined_46 : decode cX11_planJoined 46 = .ok (.iload_n 3, 1) := by decide +kernel
theorem dX11_planJoined_47 : decode cX11_planJoined 47 = .ok (.if_icmp .ne 6, 3) := by decide +kernel
theorem dX11_planJoined_50 : decode cX11_planJoined 50 = .ok (.ldc 78, 2) := by decide +kernel
theorem dX11_planJoined_52 : decode cX11_planJoined 52 = .ok (.ireturn, 1) := by decide +kernel
theorem dX11_planJoined_53 : decode cX11_planJoined 53 = .ok (.aload 5, 2) := by decide +kernel
theorem dX11_planJoined_55 : decode cX11_planJoined 55 = .ok (.getfield 136, 3) := by decide +kernel
theorem dX11_planJoined_58 : decode cX11_planJoined 58 = .ok (.ifCond .ne 11, 3) := by decide +kernel
theorem dX11_planJoined_61 : decode cX11_planJoined 61 = .ok (.aload 6, 2) := by decide +kernel
theorem dX11_planJoined_63 : decode cX11_planJoined 63 = .ok (.getfield 136, 3) := by decide +kernel
theorem dX11_planJoined_66 : decode cX11_planJoined 66 = .ok (.ifCond .eq 6, 3) := by decide +kernel
theorem dX11_planJoined_69 : decode cX11_planJoined 69 = .ok (.ldc 107, 2) := by decide +kernel
theorem dX11_planJoined_71 : decode cX11_planJoined 71 = .ok (.ireturn, 1) := by decide +kernel
theorem dX11_planJoined_72 : decode cX11_planJoined 72 = .ok (.aload_n 0, 1) := by decide +kernel
theorem dX11_planJoined_73 : decode cX11_planJoined 73 = .ok (.getfield 50, 3) := by decide +kernel
theorem dX11_planJoined_76 : decode cX11_planJoined 76 = .ok (.aload 4, 2) := by decide +kernel
theorem dX11_planJoined_78 : decode cX11_planJoined 78 = .ok (.getfield 183, 3) := by decide +kernel
theorem dX11_planJoined_81 : decode cX11_planJoined 81 = .ok (.aload 4, 2) := by decide +kernel
theorem dX11_planJoined_83 : decode cX11_planJoined 83 = .ok (.getfield 188, 3) := by decide +kernel
theorem dX11_planJoined_86 : decode cX11_planJoined 86 = .ok (.aload 4, 2) := by decide +kernel
theorem dX11_planJoined_88 : decode cX11_planJoined 88 = .ok (.aload_n 0, 1) := by decide +kernel
theorem dX11_planJoined_89 : decode cX11_planJoined 89 = .ok (.getfield 12, 3) := by decide +kernel
theorem dX11_planJoined_92 : decode cX11_planJoined 92 = .ok (.getfield 103, 3) := by decide +kernel
theorem dX11_planJoined_95 : decode cX11_planJoined 95 = .ok (.invokevirtual 212, 3) := by decide +kernel
theorem dX11_planJoined_98 : decode cX11_planJoined 98 = .ok (.invokevirtual 420, 3) := by decide +kernel
theorem dX11_planJoined_101 : decode cX11_planJoined 101 = .ok (.aload_n 0, 1) := by decide +kernel
theorem dX11_planJoined_102 : decode cX11_planJoined 102 = .ok (.getfield 50, 3) := by decide +kernel
theorem dX11_planJoined_105 : decode cX11_planJoined 105 = .ok (.aload 5, 2) := by decide +kernel
theorem dX11_planJoined_107 : decode cX11_planJoined 107 = .ok (.aload 6, 2) := by decide +kernel
theorem dX11_planJoined_109 : decode cX11_planJoined 109 = .ok (.invokevirtual 423, 3) := by decide +kernel
theorem dX11_planJoined_112 : decode cX11_planJoined 112 = .ok (.ifCond .eq 7, 3) := by decide +kernel
theorem dX11_planJoined_115 : decode cX11_planJoined 115 = .ok (.iconst 0, 1) := by decide +kernel
theorem dX11_planJoined_116 : decode cX11_planJoined 116 = .ok (.goto 5, 3) := by decide +kernel
theorem dX11_planJoined_119 : decode cX11_planJoined 119 = .ok (.ldc 102, 2) := by decide +kernel
theorem dX11_planJoined_121 : decode cX11_planJoined 121 = .ok (.ireturn, 1) := by decide +kernel
theorem dX11_bestFor_0 : decode cX11_bestFor 0 = .ok (.aload_n 0, 1) := by decide +kernel
theorem dX11_bestFor_1 : decode cX11_bestFor 1 = .ok (.getfield 12, 3) := by decide +kernel
theorem dX11_bestFor_4 : decode cX11_bestFor 4 = .ok (.getfield 306, 3) := by decide +kernel
theorem dX11_bestFor_7 : decode cX11_bestFor 7 = .ok (.iload_n 1, 1) := by decide +kernel
theorem dX11_bestFor_8 : decode cX11_bestFor 8 = .ok (.aaload, 1) := by decide +kernel
theorem dX11_bestFor_9 : decode cX11_bestFor 9 = .ok (.astore_n 3, 1) := by decide +kernel
theorem dX11_bestFor_10 : decode cX11_bestFor 10 = .ok (.iconst (-1), 1) := by decide +kernel
theorem dX11_bestFor_11 : decode cX11_bestFor 11 = .ok (.istore 4, 2) := by decide +kernel
theorem dX11_bestFor_13 : decode cX11_bestFor 13 = .ok (.iconst 0, 1) := by decide +kernel
theorem dX11_bestFor_14 : decode cX11_bestFor 14 = .ok (.istore 5, 2) := by decide +kernel
theorem dX11_bestFor_16 : decode cX11_bestFor 16 = .ok (.iconst 0, 1) := by decide +kernel
theorem dX11_bestFor_17 : decode cX11_bestFor 17 = .ok (.istore 6, 2) := by decide +kernel
theorem dX11_bestFor_19 : decode cX11_bestFor 19 = .ok (.iload 6, 2) := by decide +kernel
theorem dX11_bestFor_21 : decode cX11_bestFor 21 = .ok (.aload_n 0, 1) := by decide +kernel
theorem dX11_bestFor_22 : decode cX11_bestFor 22 = .ok (.getfield 12, 3) := by decide +kernel
theorem dX11_bestFor_25 : decode cX11_bestFor 25 = .ok (.getfield 172, 3) := by decide +kernel
theorem dX11_bestFor_28 : decode cX11_bestFor 28 = .ok (.if_icmp .ge 147, 3) := by decide +kernel
theorem dX11_bestFor_31 : decode cX11_bestFor 31 = .ok (.aload_n 0, 1) := by decide +kernel
theorem dX11_bestFor_32 : decode cX11_bestFor 32 = .ok (.getfield 12, 3) := by decide +kernel
theorem dX11_bestFor_35 : decode cX11_bestFor 35 = .ok (.getfield 427, 3) := by decide +kernel
theorem dX11_bestFor_38 : decode cX11_bestFor 38 = .ok (.iload 6, 2) := by decide +kernel
theorem dX11_bestFor_40 : decode cX11_bestFor 40 = .ok (.aaload, 1) := by decide +kernel
theorem dX11_bestFor_41 : decode cX11_bestFor 41 = .ok (.astore 7, 2) := by decide +kernel
theorem dX11_bestFor_43 : decode cX11_bestFor 43 = .ok (.aload 7, 2) := by decide +kernel
theorem dX11_bestFor_45 : decode cX11_bestFor 45 = .ok (.getfield 191, 3) := by decide +kernel
theorem dX11_bestFor_48 : decode cX11_bestFor 48 = .ok (.aload_n 0, 1) := by decide +kernel
theorem dX11_bestFor_49 : decode cX11_bestFor 49 = .ok (.getfield 12, 3) := by decide +kernel
theorem dX11_bestFor_52 : decode cX11_bestFor 52 = .ok (.getfield 103, 3) := by decide +kernel
theorem dX11_bestFor_55 : decode cX11_bestFor 55 = .ok (.if_icmp .gt 114, 3) := by decide +kernel
theorem dX11_bestFor_58 : decode cX11_bestFor 58 = .ok (.aload_n 3, 1) := by decide +kernel
theorem dX11_bestFor_59 : decode cX11_bestFor 59 = .ok (.iload 6, 2) := by decide +kernel
theorem dX11_bestFor_61 : decode cX11_bestFor 61 = .ok (.invokevirtual 300, 3) := by decide +kernel
theorem dX11_bestFor_64 : decode cX11_bestFor 64 = .ok (.ifCond .ne 105, 3) := by decide +kernel
theorem dX11_bestFor_67 : decode cX11_bestFor 67 = .ok (.aload_n 0, 1) := by decide +kernel
theorem dX11_bestFor_68 : decode cX11_bestFor 68 = .ok (.getfield 50, 3) := by decide +kernel
theorem dX11_bestFor_71 : decode cX11_bestFor 71 = .ok (.aload 7, 2) := by decide +kernel
theorem dX11_bestFor_73 : decode cX11_bestFor 73 = .ok (.getfield 183, 3) := by decide +kernel
theorem dX11_bestFor_76 : decode cX11_bestFor 76 = .ok (.aload 7, 2) := by decide +kernel
theorem dX11_bestFor_78 : decode cX11_bestFor 78 = .ok (.getfield 188, 3) := by decide +kernel
theorem dX11_bestFor_81 : decode cX11_bestFor 81 = .ok (.aload_n 0, 1) := by decide +kernel
theorem dX11_bestFor_82 : decode cX11_bestFor 82 = .ok (.getfield 12, 3) := by decide +kernel
theorem dX11_bestFor_85 : decode cX11_bestFor 85 = .ok (.getfield 103, 3) := by decide +kernel
theorem dX11_bestFor_88 : decode cX11_bestFor 88 = .ok (.aload_n 3, 1) := by decide +kernel
theorem dX11_bestFor_89 : decode cX11_bestFor 89 = .ok (.invokevirtual 215, 3) := by decide +kernel
theorem dX11_bestFor_92 : decode cX11_bestFor 92 = .ok (.ifCond .ne 6, 3) := by decide +kernel
theorem dX11_bestFor_95 : decode cX11_bestFor 95 = .ok (.goto 74, 3) := by decide +kernel
theorem dX11_bestFor_98 : decode cX11_bestFor 98 = .ok (.aload_n 0, 1) := by decide +kernel
theorem dX11_bestFor_99 : decode cX11_bestFor 99 = .ok (.getfield 12, 3) := by decide +kernel
theorem dX11_bestFor_102 : decode cX11_bestFor 102 = .ok (.aload_n 0, 1) := by decide +kernel
theorem dX11_bestFor_103 : decode cX11_bestFor 103 = .ok (.getfield 57, 3) := by decide +kernel
theorem dX11_bestFor_106 : decode cX11_bestFor 106 = .ok (.iload 6, 2) := by decide +kernel
theorem dX11_bestFor_108 : decode cX11_bestFor 108 = .ok (.aload_n 3, 1) := by decide +kernel
theorem dX11_bestFor_109 : decode cX11_bestFor 109 = .ok (.invokevirtual 285, 3) := by decide +kernel
theorem dX11_bestFor_112 : decode cX11_bestFor 112 = .ok (.aload_n 0, 1) := by decide +kernel
theorem dX11_bestFor_113 : decode cX11_bestFor 113 = .ok (.getfield 57, 3) := by decide +kernel
theorem dX11_bestFor_116 : decode cX11_bestFor 116 = .ok (.aload_n 0, 1) := by decide +kernel
theorem dX11_bestFor_117 : decode cX11_bestFor 117 = .ok (.getfield 12, 3) := by decide +kernel
theorem dX11_bestFor_120 : decode cX11_bestFor 120 = .ok (.getfield 103, 3) := by decide +kernel
theorem dX11_bestFor_123 : decode cX11_bestFor 123 = .ok (.aload_n 3, 1) := by decide +kernel
theorem dX11_bestFor_124 : decode cX11_bestFor 124 = .ok (.getfield 147, 3) := by decide +kernel
theorem dX11_bestFor_127 : decode cX11_bestFor 127 = .ok (.isub, 1) := by decide +kernel
theorem dX11_bestFor_128 : decode cX11_bestFor 128 = .ok (.aload_n 0, 1) := by decide +kernel
theorem dX11_bestFor_129 : decode cX11_bestFor 129 = .ok (.getfield 50, 3) := by decide +kernel
theorem dX11_bestFor_132 : decode cX11_bestFor 132 = .ok (.getfield 222, 3) := by decide +kernel
theorem dX11_bestFor_135 : decode cX11_bestFor 135 = .ok (.invokevirtual 289, 3) := by decide +kernel
theorem dX11_bestFor_138 : decode cX11_bestFor 138 = .ok (.aload_n 0, 1) := by decide +kernel
theorem dX11_bestFor_139 : decode cX11_bestFor 139 = .ok (.getfield 57, 3) := by decide +kernel
theorem dX11_bestFor_142 : decode cX11_bestFor 142 = .ok (.aload_n 2, 1) := by decide +kernel
theorem dX11_bestFor_143 : decode cX11_bestFor 143 = .ok (.invokevirtual 292, 3) := by decide +kernel
theorem dX11_bestFor_146 : decode cX11_bestFor 146 = .ok (.istore 8, 2) := by decide +kernel
theorem dX11_bestFor_148 : decode cX11_bestFor 148 = .ok (.iload 4, 2) := by decide +kernel
theorem dX11_bestFor_150 : decode cX11_bestFor 150 = .ok (.iconst (-1), 1) := by decide +kernel
theorem dX11_bestFor_151 : decode cX11_bestFor 151 = .ok (.if_icmp .eq 10, 3) := by decide +kernel
theorem dX11_bestFor_154 : decode cX11_bestFor 154 = .ok (.iload 8, 2) := by decide +kernel
theorem dX11_bestFor_156 : decode cX11_bestFor 156 = .ok (.iload 5, 2) := by decide +kernel
theorem dX11_bestFor_158 : decode cX11_bestFor 158 = .ok (.if_icmp .le 11, 3) := by decide +kernel
theorem dX11_bestFor_161 : decode cX11_bestFor 161 = .ok (.iload 6, 2) := by decide +kernel
theorem dX11_bestFor_163 : decode cX11_bestFor 163 = .ok (.istore 4, 2) := by decide +kernel
theorem dX11_bestFor_165 : decode cX11_bestFor 165 = .ok (.iload 8, 2) := by decide +kernel
theorem dX11_bestFor_167 : decode cX11_bestFor 167 = .ok (.istore 5, 2) := by decide +kernel
theorem dX11_bestFor_169 : decode cX11_bestFor 169 = .ok (.iinc 6 1, 3) := by decide +kernel
theorem dX11_bestFor_172 : decode cX11_bestFor 172 = .ok (.goto (-153), 3) := by decide +kernel
theorem dX11_bestFor_175 : decode cX11_bestFor 175 = .ok (.iload 4, 2) := by decide +kernel
theorem dX11_bestFor_177 : decode cX11_bestFor 177 = .ok (.ireturn, 1) := by decide +kernel
theorem dX11_wageFor_0 : decode cX11_wageFor 0 = .ok (.aload_n 0, 1) := by decide +kernel
theorem dX11_wageFor_1 : decode cX11_wageFor 1 = .ok (.getfield 12, 3) := by decide +kernel
theorem dX11_wageFor_4 : decode cX11_wageFor 4 = .ok (.aload_n 0, 1) := by decide +kernel
theorem dX11_wageFor_5 : decode cX11_wageFor 5 = .ok (.getfield 12, 3) := by decide +kernel
theorem dX11_wageFor_8 : decode cX11_wageFor 8 = .ok (.getfield 278, 3) := by decide +kernel
theorem dX11_wageFor_11 : decode cX11_wageFor 11 = .ok (.invokevirtual 281, 3) := by decide +kernel
theorem dX11_wageFor_14 : decode cX11_wageFor 14 = .ok (.astore 5, 2) := by decide +kernel
theorem dX11_wageFor_16 : decode cX11_wageFor 16 = .ok (.aload 5, 2) := by decide +kernel
theorem dX11_wageFor_18 : decode cX11_wageFor 18 = .ok (.ifnonnull 5, 3) := by decide +kernel
theorem dX11_wageFor_21 : decode cX11_wageFor 21 = .ok (.iconst 0, 1) := by decide +kernel
theorem dX11_wageFor_22 : decode cX11_wageFor 22 = .ok (.ireturn, 1) := by decide +kernel
theorem dX11_wageFor_23 : decode cX11_wageFor 23 = .ok (.aload_n 0, 1) := by decide +kernel
theorem dX11_wageFor_24 : decode cX11_wageFor 24 = .ok (.getfield 12, 3) := by decide +kernel
theorem dX11_wageFor_27 : decode cX11_wageFor 27 = .ok (.aload_n 0, 1) := by decide +kernel
theorem dX11_wageFor_28 : decode cX11_wageFor 28 = .ok (.getfield 57, 3) := by decide +kernel
theorem dX11_wageFor_31 : decode cX11_wageFor 31 = .ok (.iload_n 1, 1) := by decide +kernel
theorem dX11_wageFor_32 : decode cX11_wageFor 32 = .ok (.aload_n 2, 1) := by decide +kernel
theorem dX11_wageFor_33 : decode cX11_wageFor 33 = .ok (.invokevirtual 285, 3) := by decide +kernel
theorem dX11_wageFor_36 : decode cX11_wageFor 36 = .ok (.aload_n 0, 1) := by decide +kernel
theorem dX11_wageFor_37 : decode cX11_wageFor 37 = .ok (.getfield 57, 3) := by decide +kernel
theorem dX11_wageFor_40 : decode cX11_wageFor 40 = .ok (.iload_n 3, 1) := by decide +kernel
theorem dX11_wageFor_41 : decode cX11_wageFor 41 = .ok (.aload_n 2, 1) := by decide +kernel
theorem dX11_wageFor_42 : decode cX11_wageFor 42 = .ok (.getfield 147, 3) := by decide +kernel
theorem dX11_wageFor_45 : decode cX11_wageFor 45 = .ok (.isub, 1) := by decide +kernel
theorem dX11_wageFor_46 : decode cX11_wageFor 46 = .ok (.aload_n 2, 1) := by decide +kernel
theorem dX11_wageFor_47 : decode cX11_wageFor 47 = .ok (.iload 4, 2) := by decide +kernel
theorem dX11_wageFor_49 : decode cX11_wageFor 49 = .ok (.invokevirtual 431, 3) := by decide +kernel
theorem dX11_wageFor_52 : decode cX11_wageFor 52 = .ok (.invokevirtual 289, 3) := by decide +kernel
theorem dX11_wageFor_55 : decode cX11_wageFor 55 = .ok (.iconst 0, 1) := by decide +kernel
theorem dX11_wageFor_56 : decode cX11_wageFor 56 = .ok (.sipush 9999, 3) := by decide +kernel
theorem dX11_wageFor_59 : decode cX11_wageFor 59 = .ok (.aload_n 0, 1) := by decide +kernel
theorem dX11_wageFor_60 : decode cX11_wageFor 60 = .ok (.getfield 57, 3) := by decide +kernel
theorem dX11_wageFor_63 : decode cX11_wageFor 63 = .ok (.aload 5, 2) := by decide +kernel
theorem dX11_wageFor_65 : decode cX11_wageFor 65 = .ok (.invokevirtual 292, 3) := by decide +kernel
theorem dX11_wageFor_68 : decode cX11_wageFor 68 = .ok (.invokestatic 410, 3) := by decide +kernel
theorem dX11_wageFor_71 : decode cX11_wageFor 71 = .ok (.invokestatic 329, 3) := by decide +kernel
theorem dX11_wageFor_74 : decode cX11_wageFor 74 = .ok (.ireturn, 1) := by decide +kernel
theorem dX11_handOver_0 : decode cX11_handOver 0 = .ok (.aload_n 0, 1) := by decide +kernel
theorem dX11_handOver_1 : decode cX11_handOver 1 = .ok (.getfield 50, 3) := by decide +kernel
theorem dX11_handOver_4 : decode cX11_handOver 4 = .ok (.getfield 219, 3) := by decide +kernel
theorem dX11_handOver_7 : decode cX11_handOver 7 = .ok (.iconst 0, 1) := by decide +kernel
theorem dX11_handOver_8 : decode cX11_handOver 8 = .ok (.iaload, 1) := by decide +kernel
theorem dX11_handOver_9 : decode cX11_handOver 9 = .ok (.istore_n 3, 1) := by decide +kernel
theorem dX11_handOver_10 : decode cX11_handOver 10 = .ok (.aload_n 0, 1) := by decide +kernel
theorem dX11_handOver_11 : decode cX11_handOver 11 = .ok (.getfield 50, 3) := by decide +kernel
theorem dX11_handOver_14 : decode cX11_handOver 14 = .ok (.getfield 219, 3) := by decide +kernel
theorem dX11_handOver_17 : decode cX11_handOver 17 = .ok (.iconst 1, 1) := by decide +kernel
theorem dX11_handOver_18 : decode cX11_handOver 18 = .ok (.iaload, 1) := by decide +kernel
theorem dX11_handOver_19 : decode cX11_handOver 19 = .ok (.istore 4, 2) := by decide +kernel
theorem dX11_handOver_21 : decode cX11_handOver 21 = .ok (.aload_n 0, 1) := by decide +kernel
theorem dX11_handOver_22 : decode cX11_handOver 22 = .ok (.iload_n 1, 1) := by decide +kernel
theorem dX11_handOver_23 : decode cX11_handOver 23 = .ok (.aload_n 2, 1) := by decide +kernel
theorem dX11_handOver_24 : decode cX11_handOver 24 = .ok (.iload_n 3, 1) := by decide +kernel
theorem dX11_handOver_25 : decode cX11_handOver 25 = .ok (.iload 4, 2) := by decide +kernel
theorem dX11_handOver_27 : decode cX11_handOver 27 = .ok (.invokevirtual 434, 3) := by decide +kernel
theorem dX11_handOver_30 : decode cX11_handOver 30 = .ok (.istore 5, 2) := by decide +kernel
theorem dX11_handOver_32 : decode cX11_handOver 32 = .ok (.aload_n 2, 1) := by decide +kernel
theorem dX11_handOver_33 : decode cX11_handOver 33 = .ok (.iload_n 1, 1) := by decide +kernel
theorem dX11_handOver_34 : decode cX11_handOver 34 = .ok (.iload_n 3, 1) := by decide +kernel
theorem dX11_handOver_35 : decode cX11_handOver 35 = .ok (.iload 4, 2) := by decide +kernel
theorem dX11_handOver_37 : decode cX11_handOver 37 = .ok (.iload 5, 2) := by decide +kernel
theorem dX11_handOver_39 : decode cX11_handOver 39 = .ok (.invokevirtual 438, 3) := by decide +kernel
theorem dX11_handOver_42 : decode cX11_handOver 42 = .ok (.aload_n 0, 1) := by decide +kernel
theorem dX11_handOver_43 : decode cX11_handOver 43 = .ok (.getfield 12, 3) := by decide +kernel
theorem dX11_handOver_46 : decode cX11_handOver 46 = .ok (.iload_n 1, 1) := by decide +kernel
theorem dX11_handOver_47 : decode cX11_handOver 47 = .ok (.aload_n 0, 1) := by decide +kernel
theorem dX11_handOver_48 : decode cX11_handOver 48 = .ok (.getfield 50, 3) := by decide +kernel
theorem dX11_handOver_51 : decode cX11_handOver 51 = .ok (.iconst 1, 1) := by decide +kernel
theorem dX11_handOver_52 : decode cX11_handOver 52 = .ok (.invokevirtual 441, 3) := by decide +kernel
theorem dX11_handOver_55 : decode cX11_handOver 55 = .ok (.return_, 1) := by decide +kernel
theorem dX11_handOverTwo_0 : decode cX11_handOverTwo 0 = .ok (.aload_n 0, 1) := by decide +kernel
theorem dX11_handOverTwo_1 : decode cX11_handOverTwo 1 = .ok (.getfield 12, 3) := by decide +kernel
theorem dX11_handOverTwo_4 : decode cX11_handOverTwo 4 = .ok (.getfield 306, 3) := by decide +kernel
theorem dX11_handOverTwo_7 : decode cX11_handOverTwo 7 = .ok (.iload_n 2, 1) := by decide +kernel
theorem dX11_handOverTwo_8 : decode cX11_handOverTwo 8 = .ok (.aaload, 1) := by decide +kernel
theorem dX11_handOverTwo_9 : decode cX11_handOverTwo 9 = .ok (.astore 4, 2) := by decide +kernel
theorem dX11_handOverTwo_11 : decode cX11_handOverTwo 11 = .ok (.aload_n 0, 1) := by decide +kernel
theorem dX11_handOverTwo_12 : decode cX11_handOverTwo 12 = .ok (.getfield 12, 3) := by decide +kernel
theorem dX11_handOverTwo_15 : decode cX11_handOverTwo 15 = .ok (.getfield 306, 3) := by decide +kernel
theorem dX11_handOverTwo_18 : decode cX11_handOverTwo 18 = .ok (.iload_n 3, 1) := by decide +kernel
theorem dX11_handOverTwo_19 : decode cX11_handOverTwo 19 = .ok (.aaload, 1) := by decide +kernel
theorem dX11_handOverTwo_20 : decode cX11_handOverTwo 20 = .ok (.astore 5, 2) := by decide +kernel
theorem dX11_handOverTwo_22 : decode cX11_handOverTwo 22 = .ok (.aload_n 0, 1) := by decide +kernel
theorem dX11_handOverTwo_23 : decode cX11_handOverTwo 23 = .ok (.getfield 50, 3) := by decide +kernel
theorem dX11_handOverTwo_26 : decode cX11_handOverTwo 26 = .ok (.getfield 219, 3) := by decide +kernel
theorem dX11_handOverTwo_29 : decode cX11_handOverTwo 29 = .ok (.astore 6, 2) := by decide +kernel
theorem dX11_handOverTwo_31 : decode cX11_handOverTwo 31 = .ok (.aload_n 0, 1) := by decide +kernel
theorem dX11_handOverTwo_32 : decode cX11_handOverTwo 32 = .ok (.iload_n 1, 1) := by decide +kernel
theorem dX11_handOverTwo_33 : decode cX11_handOverTwo 33 = .ok (.aload 4, 2) := by decide +kernel
theorem dX11_handOverTwo_35 : decode cX11_handOverTwo 35 = .ok (.aload 6, 2) := by decide +kernel
theorem dX11_handOverTwo_37 : decode cX11_handOverTwo 37 = .ok (.iconst 0, 1) := by decide +kernel
theorem dX11_handOverTwo_38 : decode cX11_handOverTwo 38 = .ok (.iaload, 1) := by decide +kernel
theorem dX11_handOverTwo_39 : decode cX11_handOverTwo 39 = .ok (.aload 6, 2) := by decide +kernel
theorem dX11_handOverTwo_41 : decode cX11_handOverTwo 41 = .ok (.iconst 1, 1) := by decide +kernel
theorem dX11_handOverTwo_42 : decode cX11_handOverTwo 42 = .ok (.iaload, 1) := by decide +kernel
theorem dX11_handOverTwo_43 : decode cX11_handOverTwo 43 = .ok (.invokevirtual 434, 3) := by decide +kernel
theorem dX11_handOverTwo_46 : decode cX11_handOverTwo 46 = .ok (.istore 7, 2) := by decide +kernel
theorem dX11_handOverTwo_48 : decode cX11_handOverTwo 48 = .ok (.aload_n 0, 1) := by decide +kernel
theorem dX11_handOverTwo_49 : decode cX11_handOverTwo 49 = .ok (.iload_n 1, 1) := by decide +kernel
theorem dX11_handOverTwo_50 : decode cX11_handOverTwo 50 = .ok (.aload 5, 2) := by decide +kernel
theorem dX11_handOverTwo_52 : decode cX11_handOverTwo 52 = .ok (.aload 6, 2) := by decide +kernel
theorem dX11_handOverTwo_54 : decode cX11_handOverTwo 54 = .ok (.iconst 2, 1) := by decide +kernel
theorem dX11_handOverTwo_55 : decode cX11_handOverTwo 55 = .ok (.iaload, 1) := by decide +kernel
theorem dX11_handOverTwo_56 : decode cX11_handOverTwo 56 = .ok (.aload 6, 2) := by decide +kernel
theorem dX11_handOverTwo_58 : decode cX11_handOverTwo 58 = .ok (.iconst 3, 1) := by decide +kernel
theorem dX11_handOverTwo_59 : decode cX11_handOverTwo 59 = .ok (.iaload, 1) := by decide +kernel
theorem dX11_handOverTwo_60 : decode cX11_handOverTwo 60 = .ok (.invokevirtual 434, 3) := by decide +kernel
theorem dX11_handOverTwo_63 : decode cX11_handOverTwo 63 = .ok (.istore 8, 2) := by decide +kernel
theorem dX11_handOverTwo_65 : decode cX11_handOverTwo 65 = .ok (.aload 4, 2) := by decide +kernel
theorem dX11_handOverTwo_67 : decode cX11_handOverTwo 67 = .ok (.iload_n 1, 1) := by decide +kernel
theorem dX11_handOverTwo_68 : decode cX11_handOverTwo 68 = .ok (.aload 6, 2) := by decide +kernel
theorem dX11_handOverTwo_70 : decode cX11_handOverTwo 70 = .ok (.iconst 0, 1) := by decide +kernel
theorem dX11_handOverTwo_71 : decode cX11_handOverTwo 71 = .ok (.iaload, 1) := by decide +kernel
theorem dX11_handOverTwo_72 : decode cX11_handOverTwo 72 = .ok (.aload 6, 2) := by decide +kernel
theorem dX11_handOverTwo_74 : decode cX11_handOverTwo 74 = .ok (.iconst 1, 1) := by decide +kernel
theorem dX11_handOverTwo_75 : decode cX11_handOverTwo 75 = .ok (.iaload, 1) := by decide +kernel
theorem dX11_handOverTwo_76 : decode cX11_handOverTwo 76 = .ok (.iload 7, 2) := by decide +kernel
theorem dX11_handOverTwo_78 : decode cX11_handOverTwo 78 = .ok (.invokevirtual 438, 3) := by decide +kernel
theorem dX11_handOverTwo_81 : decode cX11_handOverTwo 81 = .ok (.aload 5, 2) := by decide +kernel
theorem dX11_handOverTwo_83 : decode cX11_handOverTwo 83 = .ok (.iload_n 1, 1) := by decide +kernel
theorem dX11_handOverTwo_84 : decode cX11_handOverTwo 84 = .ok (.aload 6, 2) := by decide +kernel
theorem dX11_handOverTwo_86 : decode cX11_handOverTwo 86 = .ok (.iconst 2, 1) := by decide +kernel
theorem dX11_handOverTwo_87 : decode cX11_handOverTwo 87 = .ok (.iaload, 1) := by decide +kernel
theorem dX11_handOverTwo_88 : decode cX11_handOverTwo 88 = .ok (.aload 6, 2) := by decide +kernel
theorem dX11_handOverTwo_90 : decode cX11_handOverTwo 90 = .ok (.iconst 3, 1) := by decide +kernel
theorem dX11_handOverTwo_91 : decode cX11_handOverTwo 91 = .ok (.iaload, 1) := by decide +kernel
theorem dX11_handOverTwo_92 : decode cX11_handOverTwo 92 = .ok (.iload 8, 2) := by decide +kernel
theorem dX11_handOverTwo_94 : decode cX11_handOverTwo 94 = .ok (.invokevirtual 438, 3) := by decide +kernel
theorem dX11_handOverTwo_97 : decode cX11_handOverTwo 97 = .ok (.aload_n 0, 1) := by decide +kernel
theorem dX11_handOverTwo_98 : decode cX11_handOverTwo 98 = .ok (.getfield 12, 3) := by decide +kernel
theorem dX11_handOverTwo_101 : decode cX11_handOverTwo 101 = .ok (.iload_n 1, 1) := by decide +kernel
theorem dX11_handOverTwo_102 : decode cX11_handOverTwo 102 = .ok (.aload_n 0, 1) := by decide +kernel
theorem dX11_handOverTwo_103 : decode cX11_handOverTwo 103 = .ok (.getfield 50, 3) := by decide +kernel
theorem dX11_handOverTwo_106 : decode cX11_handOverTwo 106 = .ok (.iconst 2, 1) := by decide +kernel
theorem dX11_handOverTwo_107 : decode cX11_handOverTwo 107 = .ok (.invokevirtual 441, 3) := by decide +kernel
theorem dX11_handOverTwo_110 : decode cX11_handOverTwo 110 = .ok (.return_, 1) := by decide +kernel
theorem dX11_isWithin_0 : decode cX11_isWithin 0 = .ok (.iload_n 0, 1) := by decide +kernel
theorem dX11_isWithin_1 : decode cX11_isWithin 1 = .ok (.iload_n 1, 1) := by decide +kernel
theorem dX11_isWithin_2 : decode cX11_isWithin 2 = .ok (.if_icmp .lt 12, 3) := by decide +kernel
theorem dX11_isWithin_5 : decode cX11_isWithin 5 = .ok (.iload_n 0, 1) := by decide +kernel
theorem dX11_isWithin_6 : decode cX11_isWithin 6 = .ok (.iload_n 2, 1) := by decide +kernel
theorem dX11_isWithin_7 : decode cX11_isWithin 7 = .ok (.if_icmp .gt 7, 3) := by decide +kernel
theorem dX11_isWithin_10 : decode cX11_isWithin 10 = .ok (.iconst 1, 1) := by decide +kernel
theorem dX11_isWithin_11 : decode cX11_isWithin 11 = .ok (.goto 4, 3) := by decide +kernel
theorem dX11_isWithin_14 : decode cX11_isWithin 14 = .ok (.iconst 0, 1) := by decide +kernel
theorem dX11_isWithin_15 : decode cX11_isWithin 15 = .ok (.ireturn, 1) := by decide +kernel
theorem dX11_isCrossing_0 : decode cX11_isCrossing 0 = .ok (.iload_n 0, 1) := by decide +kernel
theorem dX11_isCrossing_1 : decode cX11_isCrossing 1 = .ok (.iconst 0, 1) := by decide +kernel
theorem dX11_isCrossing_2 : decode cX11_isCrossing 2 = .ok (.bipush 15, 2) := by decide +kernel
theorem dX11_isCrossing_4 : decode cX11_isCrossing 4 = .ok (.invokestatic 74, 3) := by decide +kernel
theorem dX11_isCrossing_7 : decode cX11_isCrossing 7 = .ok (.ireturn, 1) := by decide +kernel
theorem dX11_isMinute_0 : decode cX11_isMinute 0 = .ok (.iload_n 0, 1) := by decide +kernel
theorem dX11_isMinute_1 : decode cX11_isMinute 1 = .ok (.iconst 0, 1) := by decide +kernel
theorem dX11_isMinute_2 : decode cX11_isMinute 2 = .ok (.sipush 1439, 3) := by decide +kernel
theorem dX11_isMinute_5 : decode cX11_isMinute 5 = .ok (.invokestatic 74, 3) := by decide +kernel
theorem dX11_isMinute_8 : decode cX11_isMinute 8 = .ok (.ireturn, 1) := by decide +kernel
theorem dX11_isRoad_0 : decode cX11_isRoad 0 = .ok (.iload_n 0, 1) := by decide +kernel
theorem dX11_isRoad_1 : decode cX11_isRoad 1 = .ok (.invokestatic 70, 3) := by decide +kernel
theorem dX11_isRoad_4 : decode cX11_isRoad 4 = .ok (.ifCond .eq 29, 3) := by decide +kernel
theorem dX11_isRoad_7 : decode cX11_isRoad 7 = .ok (.iload_n 1, 1) := by decide +kernel
theorem dX11_isRoad_8 : decode cX11_isRoad 8 = .ok (.invokestatic 70, 3) := by decide +kernel
theorem dX11_isRoad_11 : decode cX11_isRoad 11 = .ok (.ifCond .eq 22, 3) := by decide +kernel
theorem dX11_isRoad_14 : decode cX11_isRoad 14 = .ok (.iload_n 0, 1) := by decide +kernel
theorem dX11_isRoad_15 : decode cX11_isRoad 15 = .ok (.iload_n 1, 1) := by decide +kernel
theorem dX11_isRoad_16 : decode cX11_isRoad 16 = .ok (.if_icmp .eq 17, 3) := by decide +kernel
theorem dX11_isRoad_19 : decode cX11_isRoad 19 = .ok (.iload_n 2, 1) := by decide +kernel
theorem dX11_isRoad_20 : decode cX11_isRoad 20 = .ok (.iconst 1, 1) := by decide +kernel
theorem dX11_isRoad_21 : decode cX11_isRoad 21 = .ok (.bipush 60, 2) := by decide +kernel
theorem dX11_isRoad_23 : decode cX11_isRoad 23 = .ok (.invokestatic 74, 3) := by decide +kernel
theorem dX11_isRoad_26 : decode cX11_isRoad 26 = .ok (.ifCond .eq 7, 3) := by decide +kernel
theorem dX11_isRoad_29 : decode cX11_isRoad 29 = .ok (.iconst 1, 1) := by decide +kernel
theorem dX11_isRoad_30 : decode cX11_isRoad 30 = .ok (.goto 4, 3) := by decide +kernel
theorem dX11_isRoad_33 : decode cX11_isRoad 33 = .ok (.iconst 0, 1) := by decide +kernel
theorem dX11_isRoad_34 : decode cX11_isRoad 34 = .ok (.ireturn, 1) := by decide +kernel
theorem dX11_isOfKind_0 : decode cX11_isOfKind 0 = .ok (.iload_n 0, 1) := by decide +kernel
theorem dX11_isOfKind_1 : decode cX11_isOfKind 1 = .ok (.istore_n 2, 1) := by decide +kernel
theorem dX11_isOfKind_2 : decode cX11_isOfKind 2 = .ok (.iconst 0, 1) := by decide +kernel
theorem dX11_isOfKind_3 : decode cX11_isOfKind 3 = .ok (.istore_n 3, 1) := by decide +kernel
theorem dX11_isOfKind_4 : decode cX11_isOfKind 4 = .ok (.iload_n 3, 1) := by decide +kernel
theorem dX11_isOfKind_5 : decode cX11_isOfKind 5 = .ok (.bipush 7, 2) := by decide +kernel
theorem dX11_isOfKind_7 : decode cX11_isOfKind 7 = .ok (.if_icmp .ge 32, 3) := by decide +kernel
theorem dX11_isOfKind_10 : decode cX11_isOfKind 10 = .ok (.iload_n 2, 1) := by decide +kernel
theorem dX11_isOfKind_11 : decode cX11_isOfKind 11 = .ok (.iconst 0, 1) := by decide +kernel
theorem dX11_isOfKind_12 : decode cX11_isOfKind 12 = .ok (.bipush 6, 2) := by decide +kernel
theorem dX11_isOfKind_14 : decode cX11_isOfKind 14 = .ok (.invokestatic 74, 3) := by decide +kernel
theorem dX11_isOfKind_17 : decode cX11_isOfKind 17 = .ok (.ifCond .eq 22, 3) := by decide +kernel
theorem dX11_isOfKind_20 : decode cX11_isOfKind 20 = .ok (.iload_n 2, 1) := by decide +kernel
theorem dX11_isOfKind_21 : decode cX11_isOfKind 21 = .ok (.iload_n 1, 1) := by decide +kernel
theorem dX11_isOfKind_22 : decode cX11_isOfKind 22 = .ok (.if_icmp .ne 5, 3) := by decide +kernel
theorem dX11_isOfKind_25 : decode cX11_isOfKind 25 = .ok (.iconst 1, 1) := by decide +kernel
theorem dX11_isOfKind_26 : decode cX11_isOfKind 26 = .ok (.ireturn, 1) := by decide +kernel
theorem dX11_isOfKind_27 : decode cX11_isOfKind 27 = .ok (.getstatic 445, 3) := by decide +kernel
theorem dX11_isOfKind_30 : decode cX11_isOfKind 30 = .ok (.iload_n 2, 1) := by decide +kernel
theorem dX11_isOfKind_31 : decode cX11_isOfKind 31 = .ok (.iaload, 1) := by decide +kernel
theorem dX11_isOfKind_32 : decode cX11_isOfKind 32 = .ok (.istore_n 2, 1) := by decide +kernel
theorem dX11_isOfKind_33 : decode cX11_isOfKind 33 = .ok (.iinc 3 1, 3) := by decide +kernel
theorem dX11_isOfKind_36 : decode cX11_isOfKind 36 = .ok (.goto (-32), 3) := by decide +kernel
theorem dX11_isOfKind_39 : decode cX11_isOfKind 39 = .ok (.iconst 0, 1) := by decide +kernel
theorem dX11_isOfKind_40 : decode cX11_isOfKind 40 = .ok (.ireturn, 1) := by decide +kernel
theorem dX11_legFor_0 : decode cX11_legFor 0 = .ok (.iload_n 1, 1) := by decide +kernel
theorem dX11_legFor_1 : decode cX11_legFor 1 = .ok (.iconst (-1), 1) := by decide +kernel
theorem dX11_legFor_2 : decode cX11_legFor 2 = .ok (.if_icmp .ne 5, 3) := by decide +kernel
theorem dX11_legFor_5 : decode cX11_legFor 5 = .ok (.iconst (-1), 1) := by decide +kernel
theorem dX11_legFor_6 : decode cX11_legFor 6 = .ok (.ireturn, 1) := by decide +kernel
theorem dX11_legFor_7 : decode cX11_legFor 7 = .ok (.iconst 3, 1) := by decide +kernel
theorem dX11_legFor_8 : decode cX11_legFor 8 = .ok (.iload_n 1, 1) := by decide +kernel
theorem dX11_legFor_9 : decode cX11_legFor 9 = .ok (.imul, 1) := by decide +kernel
theorem dX11_legFor_10 : decode cX11_legFor 10 = .ok (.iconst 3, 1) := by decide +kernel
theorem dX11_legFor_11 : decode cX11_legFor 11 = .ok (.iadd, 1) := by decide +kernel
theorem dX11_legFor_12 : decode cX11_legFor 12 = .ok (.iconst 4, 1) := by decide +kernel
theorem dX11_legFor_13 : decode cX11_legFor 13 = .ok (.idiv, 1) := by decide +kernel
theorem dX11_legFor_14 : decode cX11_legFor 14 = .ok (.istore_n 2, 1) := by decide +kernel
theorem dX11_legFor_15 : decode cX11_legFor 15 = .ok (.iload_n 0, 1) := by decide +kernel
theorem dX11_legFor_16 : decode cX11_legFor 16 = .ok (.tableswitch 84 1 6 #[40, 42, 50, 54, 84, 70], 40) := by decide +kernel
theorem dX11_legFor_56 : decode cX11_legFor 56 = .ok (.iload_n 2, 1) := by decide +kernel
theorem dX11_legFor_57 : decode cX11_legFor 57 = .ok (.ireturn, 1) := by decide +kernel
theorem dX11_legFor_58 : decode cX11_legFor 58 = .ok (.iload_n 1, 1) := by decide +kernel
theorem dX11_legFor_59 : decode cX11_legFor 59 = .ok (.iconst 1, 1) := by decide +kernel
theorem dX11_legFor_60 : decode cX11_legFor 60 = .ok (.iadd, 1) := by decide +kernel
theorem dX11_legFor_61 : decode cX11_legFor 61 = .ok (.iconst 2, 1) := by decide +kernel
theorem dX11_legFor_62 : decode cX11_legFor 62 = .ok (.idiv, 1) := by decide +kernel
theorem dX11_legFor_63 : decode cX11_legFor 63 = .ok (.iconst 3, 1) := by decide +kernel
theorem dX11_legFor_64 : decode cX11_legFor 64 = .ok (.iadd, 1) := by decide +kernel
theorem dX11_legFor_65 : decode cX11_legFor 65 = .ok (.ireturn, 1) := by decide +kernel
theorem dX11_legFor_66 : decode cX11_legFor 66 = .ok (.iconst 2, 1) := by decide +kernel
theorem dX11_legFor_67 : decode cX11_legFor 67 = .ok (.iload_n 1, 1) := by decide +kernel
theorem dX11_legFor_68 : decode cX11_legFor 68 = .ok (.imul, 1) := by decide +kernel
theorem dX11_legFor_69 : decode cX11_legFor 69 = .ok (.ireturn, 1) := by decide +kernel
theorem dX11_legFor_70 : decode cX11_legFor 70 = .ok (.iload_n 1, 1) := by decide +kernel
theorem dX11_legFor_71 : decode cX11_legFor 71 = .ok (.ifCond .ne 7, 3) := by decide +kernel
theorem dX11_legFor_74 : decode cX11_legFor 74 = .ok (.iconst 0, 1) := by decide +kernel
theorem dX11_legFor_75 : decode cX11_legFor 75 = .ok (.goto 10, 3) := by decide +kernel
theorem dX11_legFor_78 : decode cX11_legFor 78 = .ok (.iconst 1, 1) := by decide +kernel
theorem dX11_legFor_79 : decode cX11_legFor 79 = .ok (.iload_n 2, 1) := by decide +kernel
theorem dX11_legFor_80 : decode cX11_legFor 80 = .ok (.iconst 1, 1) := by decide +kernel
theorem dX11_legFor_81 : decode cX11_legFor 81 = .ok (.isub, 1) := by decide +kernel
theorem dX11_legFor_82 : decode cX11_legFor 82 = .ok (.invokestatic 329, 3) := by decide +kernel
theorem dX11_legFor_85 : decode cX11_legFor 85 = .ok (.ireturn, 1) := by decide +kernel
theorem dX11_legFor_86 : decode cX11_legFor 86 = .ok (.iload_n 1, 1) := by decide +kernel
theorem dX11_legFor_87 : decode cX11_legFor 87 = .ok (.ifCond .ne 7, 3) := by decide +kernel
theorem dX11_legFor_90 : decode cX11_legFor 90 = .ok (.iconst 0, 1) := by decide +kernel
theorem dX11_legFor_91 : decode cX11_legFor 91 = .ok (.goto 8, 3) := by decide +kernel
theorem dX11_legFor_94 : decode cX11_legFor 94 = .ok (.iconst 2, 1) := by decide +kernel
theorem dX11_legFor_95 : decode cX11_legFor 95 = .ok (.iload_n 1, 1) := by decide +kernel
theorem dX11_legFor_96 : decode cX11_legFor 96 = .ok (.imul, 1) := by decide +kernel
theorem dX11_legFor_97 : decode cX11_legFor 97 = .ok (.iconst 2, 1) := by decide +kernel
theorem dX11_legFor_98 : decode cX11_legFor 98 = .ok (.iadd, 1) := by decide +kernel
theorem dX11_legFor_99 : decode cX11_legFor 99 = .ok (.ireturn, 1) := by decide +kernel
theorem dX11_legFor_100 : decode cX11_legFor 100 = .ok (.iload_n 1, 1) := by decide +kernel
theorem dX11_legFor_101 : decode cX11_legFor 101 = .ok (.ireturn, 1) := by decide +kernel
theorem dX12_init_0 : decode cX12_init 0 = .ok (.aload_n 0, 1) := by decide +kernel
theorem dX12_init_1 : decode cX12_init 1 = .ok (.invokespecial 1, 3) := by decide +kernel
theorem dX12_init_4 : decode cX12_init 4 = .ok (.aload_n 0, 1) := by decide +kernel
theorem dX12_init_5 : decode cX12_init 5 = .ok (.sipush 2296, 3) := by decide +kernel
theorem dX12_init_8 : decode cX12_init 8 = .ok (.newarray .int, 2) := by decide +kernel
theorem dX12_init_10 : decode cX12_init 10 = .ok (.putfield 7, 3) := by decide +kernel
theorem dX12_init_13 : decode cX12_init 13 = .ok (.aload_n 0, 1) := by decide +kernel
theorem dX12_init_14 : decode cX12_init 14 = .ok (.sipush 2296, 3) := by decide +kernel
theorem dX12_init_17 : decode cX12_init 17 = .ok (.newarray .int, 2) := by decide +kernel
theorem dX12_init_19 : decode cX12_init 19 = .ok (.putfield 13, 3) := by decide +kernel
theorem dX12_init_22 : decode cX12_init 22 = .ok (.aload_n 0, 1) := by decide +kernel
theorem dX12_init_23 : decode cX12_init 23 = .ok (.bipush 7, 2) := by decide +kernel
theorem dX12_init_25 : decode cX12_init 25 = .ok (.newarray .int, 2) := by decide +kernel
theorem dX12_init_27 : decode cX12_init 27 = .ok (.putfield 16, 3) := by decide +kernel
theorem dX12_init_30 : decode cX12_init 30 = .ok (.aload_n 0, 1) := by decide +kernel
theorem dX12_init_31 : decode cX12_init 31 = .ok (.sipush 256, 3) := by decide +kernel
theorem dX12_init_34 : decode cX12_init 34 = .ok (.newarray .int, 2) := by decide +kernel
theorem dX12_init_36 : decode cX12_init 36 = .ok (.putfield 19, 3) := by decide +kernel
theorem dX12_init_39 : decode cX12_init 39 = .ok (.aload_n 0, 1) := by decide +kernel
theorem dX12_init_40 : decode cX12_init 40 = .ok (.iconst 2, 1) := by decide +kernel
theorem dX12_init_41 : decode cX12_init 41 = .ok (.newarray .int, 2) := by decide +kernel
theorem dX12_init_43 : decode cX12_init 43 = .ok (.putfield 22, 3) := by decide +kernel
theorem dX12_init_46 : decode cX12_init 46 = .ok (.aload_n 0, 1) := by decide +kernel
theorem dX12_init_47 : decode cX12_init 47 = .ok (.iconst 2, 1) := by decide +kernel
theorem dX12_init_48 : decode cX12_init 48 = .ok (.newarray .int, 2) := by decide +kernel
theorem dX12_init_50 : decode cX12_init 50 = .ok (.putfield 25, 3) := by decide +kernel
theorem dX12_init_53 : decode cX12_init 53 = .ok (.aload_n 0, 1) := by decide +kernel
theorem dX12_init_54 : decode cX12_init 54 = .ok (.bipush 80, 2) := by decide +kernel
theorem dX12_init_56 : decode cX12_init 56 = .ok (.newarray .int, 2) := by decide +kernel
theorem dX12_init_58 : decode cX12_init 58 = .ok (.putfield 28, 3) := by decide +kernel
theorem dX12_init_61 : decode cX12_init 61 = .ok (.aload_n 0, 1) := by decide +kernel
theorem dX12_init_62 : decode cX12_init 62 = .ok (.sipush 164, 3) := by decide +kernel
theorem dX12_init_65 : decode cX12_init 65 = .ok (.newarray .int, 2) := by decide +kernel
theorem dX12_init_67 : decode cX12_init 67 = .ok (.putfield 31, 3) := by decide +kernel
theorem dX12_init_70 : decode cX12_init 70 = .ok (.aload_n 0, 1) := by decide +kernel
theorem dX12_init_71 : decode cX12_init 71 = .ok (.sipush 128, 3) := by decide +kernel
theorem dX12_init_74 : decode cX12_init 74 = .ok (.newarray .int, 2) := by decide +kernel
theorem dX12_init_76 : decode cX12_init 76 = .ok (.putfield 34, 3) := by decide +kernel
theorem dX12_init_79 : decode cX12_init 79 = .ok (.aload_n 0, 1) := by decide +kernel
theorem dX12_init_80 : decode cX12_init 80 = .ok (.bipush 84, 2) := by decide +kernel
theorem dX12_init_82 : decode cX12_init 82 = .ok (.newarray .int, 2) := by decide +kernel
theorem dX12_init_84 : decode cX12_init 84 = .ok (.putfield 37, 3) := by decide +kernel
theorem dX12_init_87 : decode cX12_init 87 = .ok (.aload_n 0, 1) := by decide +kernel
theorem dX12_init_88 : decode cX12_init 88 = .ok (.bipush 12, 2) := by decide +kernel
theorem dX12_init_90 : decode cX12_init 90 = .ok (.newarray .int, 2) := by decide +kernel
theorem dX12_init_92 : decode cX12_init 92 = .ok (.putfield 40, 3) := by decide +kernel
theorem dX12_init_95 : decode cX12_init 95 = .ok (.aload_n 0, 1) := by decide +kernel
theorem dX12_init_96 : decode cX12_init 96 = .ok (.bipush 12, 2) := by decide +kernel
theorem dX12_init_98 : decode cX12_init 98 = .ok (.newarray .int, 2) := by decide +kernel
theorem dX12_init_100 : decode cX12_init 100 = .ok (.putfield 43, 3) := by decide +kernel
theorem dX12_init_103 : decode cX12_init 103 = .ok (.aload_n 0, 1) := by decide +kernel
theorem dX12_init_104 : decode cX12_init 104 = .ok (.bipush 12, 2) := by decide +kernel
theorem dX12_init_106 : decode cX12_init 106 = .ok (.newarray .int, 2) := by decide +kernel
theorem dX12_init_108 : decode cX12_init 108 = .ok (.putfield 46, 3) := by decide +kernel
theorem dX12_init_111 : decode cX12_init 111 = .ok (.aload_n 0, 1) := by decide +kernel
theorem dX12_init_112 : decode cX12_init 112 = .ok (.bipush 24, 2) := by decide +kernel
theorem dX12_init_114 : decode cX12_init 114 = .ok (.newarray .int, 2) := by decide +kernel
theorem dX12_init_116 : decode cX12_init 116 = .ok (.putfield 49, 3) := by decide +kernel
theorem dX12_init_119 : decode cX12_init 119 = .ok (.aload_n 0, 1) := by decide +kernel
theorem dX12_init_120 : decode cX12_init 120 = .ok (.iconst 4, 1) := by decide +kernel
theorem dX12_init_121 : decode cX12_init 121 = .ok (.newarray .int, 2) := by decide +kernel
theorem dX12_init_123 : decode cX12_init 123 = .ok (.putfield 52, 3) := by decide +kernel
theorem dX12_init_126 : decode cX12_init 126 = .ok (.aload_n 0, 1) := by decide +kernel
theorem dX12_init_127 : decode cX12_init 127 = .ok (.iconst 4, 1) := by decide +kernel
theorem dX12_init_128 : decode cX12_init 128 = .ok (.newarray .int, 2) := by decide +kernel
theorem dX12_init_130 : decode cX12_init 130 = .ok (.putfield 55, 3) := by decide +kernel
theorem dX12_init_133 : decode cX12_init 133 = .ok (.aload_n 0, 1) := by decide +kernel
theorem dX12_init_134 : decode cX12_init 134 = .ok (.sipush 240, 3) := by decide +kernel
theorem dX12_init_137 : decode cX12_init 137 = .ok (.newarray .int, 2) := by decide +kernel
theorem dX12_init_139 : decode cX12_init 139 = .ok (.putfield 58, 3) := by decide +kernel
theorem dX12_init_142 : decode cX12_init 142 = .ok (.aload_n 0, 1) := by decide +kernel
theorem dX12_init_143 : decode cX12_init 143 = .ok (.bipush 60, 2) := by decide +kernel
theorem dX12_init_145 : decode cX12_init 145 = .ok (.newarray .int, 2) := by decide +kernel
theorem dX12_init_147 : decode cX12_init 147 = .ok (.putfield 61, 3) := by decide +kernel
theorem dX12_init_150 : decode cX12_init 150 = .ok (.aload_n 0, 1) := by decide +kernel
theorem dX12_init_151 : decode cX12_init 151 = .ok (.getfield 7, 3) := by decide +kernel
theorem dX12_init_154 : decode cX12_init 154 = .ok (.iconst 5, 1) := by decide +kernel
theorem dX12_init_155 : decode cX12_init 155 = .ok (.iconst (-1), 1) := by decide +kernel
theorem dX12_init_156 : decode cX12_init 156 = .ok (.iastore, 1) := by decide +kernel
theorem dX12_init_157 : decode cX12_init 157 = .ok (.aload_n 0, 1) := by decide +kernel
theorem dX12_init_158 : decode cX12_init 158 = .ok (.getfield 7, 3) := by decide +kernel
theorem dX12_init_161 : decode cX12_init 161 = .ok (.bipush 6, 2) := by decide +kernel
theorem dX12_init_163 : decode cX12_init 163 = .ok (.iconst (-1), 1) := by decide +kernel
theorem dX12_init_164 : decode cX12_init 164 = .ok (.iastore, 1) := by decide +kernel
theorem dX12_init_165 : decode cX12_init 165 = .ok (.iconst 0, 1) := by decide +kernel
theorem dX12_init_166 : decode cX12_init 166 = .ok (.istore_n 1, 1) := by decide +kernel
theorem dX12_init_167 : decode cX12_init 167 = .ok (.iload_n 1, 1) := by decide +kernel
theorem dX12_init_168 : decode cX12_init 168 = .ok (.bipush 10, 2) := by decide +kernel
theorem dX12_init_170 : decode cX12_init 170 = .ok (.if_icmp .ge 20, 3) := by decide +kernel
theorem dX12_init_173 : decode cX12_init 173 = .ok (.aload_n 0, 1) := by decide +kernel
theorem dX12_init_174 : decode cX12_init 174 = .ok (.getfield 7, 3) := by decide +kernel
theorem dX12_init_177 : decode cX12_init 177 = .ok (.sipush 966, 3) := by decide +kernel
theorem dX12_init_180 : decode cX12_init 180 = .ok (.iload_n 1, 1) := by decide +kernel
theorem dX12_init_181 : decode cX12_init 181 = .ok (.iadd, 1) := by decide +kernel
theorem dX12_init_182 : decode cX12_init 182 = .ok (.iconst (-1), 1) := by decide +kernel
theorem dX12_init_183 : decode cX12_init 183 = .ok (.iastore, 1) := by decide +kernel
theorem dX12_init_184 : decode cX12_init 184 = .ok (.iinc 1 1, 3) := by decide +kernel
theorem dX12_init_187 : decode cX12_init 187 = .ok (.goto (-20), 3) := by decide +kernel
theorem dX12_init_190 : decode cX12_init 190 = .ok (.return_, 1) := by decide +kernel
theorem dX12_finding_0 : decode cX12_finding 0 = .ok (.aload_n 0, 1) := by decide +kernel
theorem dX12_finding_1 : decode cX12_finding 1 = .ok (.getfield 16, 3) := by decide +kernel
theorem dX12_finding_4 : decode cX12_finding 4 = .ok (.iload_n 1, 1) := by decide +kernel
theorem dX12_finding_5 : decode cX12_finding 5 = .ok (.dup2, 1) := by decide +kernel
theorem dX12_finding_6 : decode cX12_finding 6 = .ok (.iaload, 1) := by decide +kernel
theorem dX12_finding_7 : decode cX12_finding 7 = .ok (.iconst 1, 1) := by decide +kernel
theorem dX12_finding_8 : decode cX12_finding 8 = .ok (.iadd, 1) := by decide +kernel
theorem dX12_finding_9 : decode cX12_finding 9 = .ok (.iastore, 1) := by decide +kernel
theorem dX12_finding_10 : decode cX12_finding 10 = .ok (.ldc 64, 2) := by decide +kernel
theorem dX12_finding_12 : decode cX12_finding 12 = .ok (.iload_n 1, 1) := by decide +kernel
theorem dX12_finding_13 : decode cX12_finding 13 = .ok (.isub, 1) := by decide +kernel
theorem dX12_finding_14 : decode cX12_finding 14 = .ok (.ireturn, 1) := by decide +kernel
theorem dX12_in_0 : decode cX12_in 0 = .ok (.iload_n 0, 1) := by decide +kernel
theorem dX12_in_1 : decode cX12_in 1 = .ok (.iload_n 1, 1) := by decide +kernel
theorem dX12_in_2 : decode cX12_in 2 = .ok (.if_icmp .lt 12, 3) := by decide +kernel
theorem dX12_in_5 : decode cX12_in 5 = .ok (.iload_n 0, 1) := by decide +kernel
theorem dX12_in_6 : decode cX12_in 6 = .ok (.iload_n 2, 1) := by decide +kernel
theorem dX12_in_7 : decode cX12_in 7 = .ok (.if_icmp .gt 7, 3) := by decide +kernel
theorem dX12_in_10 : decode cX12_in 10 = .ok (.iconst 1, 1) := by decide +kernel
theorem dX12_in_11 : decode cX12_in 11 = .ok (.goto 4, 3) := by decide +kernel
theorem dX12_in_14 : decode cX12_in 14 = .ok (.iconst 0, 1) := by decide +kernel
theorem dX12_in_15 : decode cX12_in 15 = .ok (.ireturn, 1) := by decide +kernel
theorem dX12_isCrossing_0 : decode cX12_isCrossing 0 = .ok (.iload_n 0, 1) := by decide +kernel
theorem dX12_isCrossing_1 : decode cX12_isCrossing 1 = .ok (.iconst 0, 1) := by decide +kernel
theorem dX12_isCrossing_2 : decode cX12_isCrossing 2 = .ok (.bipush 15, 2) := by decide +kernel
theorem dX12_isCrossing_4 : decode cX12_isCrossing 4 = .ok (.invokestatic 65, 3) := by decide +kernel
theorem dX12_isCrossing_7 : decode cX12_isCrossing 7 = .ok (.ireturn, 1) := by decide +kernel
theorem dX12_isMinute_0 : decode cX12_isMinute 0 = .ok (.iload_n 0, 1) := by decide +kernel
theorem dX12_isMinute_1 : decode cX12_isMinute 1 = .ok (.iconst 0, 1) := by decide +kernel
theorem dX12_isMinute_2 : decode cX12_isMinute 2 = .ok (.sipush 1439, 3) := by decide +kernel
theorem dX12_isMinute_5 : decode cX12_isMinute 5 = .ok (.invokestatic 65, 3) := by decide +kernel
theorem dX12_isMinute_8 : decode cX12_isMinute 8 = .ok (.ireturn, 1) := by decide +kernel
theorem dX12_isOrder_0 : decode cX12_isOrder 0 = .ok (.iload_n 1, 1) := by decide +kernel
theorem dX12_isOrder_1 : decode cX12_isOrder 1 = .ok (.iconst 0, 1) := by decide +kernel
theorem dX12_isOrder_2 : decode cX12_isOrder 2 = .ok (.aload_n 0, 1) := by decide +kernel
theorem dX12_isOrder_3 : decode cX12_isOrder 3 = .ok (.getfield 7, 3) := by decide +kernel
theorem dX12_isOrder_6 : decode cX12_isOrder 6 = .ok (.iconst 2, 1) := by decide +kernel
theorem dX12_isOrder_7 : decode cX12_isOrder 7 = .ok (.iaload, 1) := by decide +kernel
theorem dX12_isOrder_8 : decode cX12_isOrder 8 = .ok (.iconst 1, 1) := by decide +kernel
theorem dX12_isOrder_9 : decode cX12_isOrder 9 = .ok (.isub, 1) := by decide +kernel
theorem dX12_isOrder_10 : decode cX12_isOrder 10 = .ok (.invokestatic 65, 3) := by decide +kernel
theorem dX12_isOrder_13 : decode cX12_isOrder 13 = .ok (.ireturn, 1) := by decide +kernel
theorem dX12_isRider_0 : decode cX12_isRider 0 = .ok (.iload_n 1, 1) := by decide +kernel
theorem dX12_isRider_1 : decode cX12_isRider 1 = .ok (.iconst 0, 1) := by decide +kernel
theorem dX12_isRider_2 : decode cX12_isRider 2 = .ok (.aload_n 0, 1) := by decide +kernel
theorem dX12_isRider_3 : decode cX12_isRider 3 = .ok (.getfield 7, 3) := by decide +kernel
theorem dX12_isRider_6 : decode cX12_isRider 6 = .ok (.iconst 3, 1) := by decide +kernel
theorem dX12_isRider_7 : decode cX12_isRider 7 = .ok (.iaload, 1) := by decide +kernel
theorem dX12_isRider_8 : decode cX12_isRider 8 = .ok (.iconst 1, 1) := by decide +kernel
theorem dX12_isRider_9 : decode cX12_isRider 9 = .ok (.isub, 1) := by decide +kernel
theorem dX12_isRider_10 : decode cX12_isRider 10 = .ok (.invokestatic 65, 3) := by decide +kernel
theorem dX12_isRider_13 : decode cX12_isRider 13 = .ok (.ireturn, 1) := by decide +kernel
theorem dX12_isText_0 : decode cX12_isText 0 = .ok (.iload_n 1, 1) := by decide +kernel
theorem dX12_isText_1 : decode cX12_isText 1 = .ok (.iconst 0, 1) := by decide +kernel
theorem dX12_isText_2 : decode cX12_isText 2 = .ok (.aload_n 0, 1) := by decide +kernel
theorem dX12_isText_3 : decode cX12_isText 3 = .ok (.getfield 7, 3) := by decide +kernel
theorem dX12_isText_6 : decode cX12_isText 6 = .ok (.iconst 4, 1) := by decide +kernel
theorem dX12_isText_7 : decode cX12_isText 7 = .ok (.iaload, 1) := by decide +kernel
theorem dX12_isText_8 : decode cX12_isText 8 = .ok (.iconst 1, 1) := by decide +kernel
theorem dX12_isText_9 : decode cX12_isText 9 = .ok (.isub, 1) := by decide +kernel
theorem dX12_isText_10 : decode cX12_isText 10 = .ok (.invokestatic 65, 3) := by decide +kernel
theorem dX12_isText_13 : decode cX12_isText 13 = .ok (.ireturn, 1) := by decide +kernel
theorem dX12_become_0 : decode cX12_become 0 = .ok (.aload_n 0, 1) := by decide +kernel
theorem dX12_become_1 : decode cX12_become 1 = .ok (.getfield 7, 3) := by decide +kernel
theorem dX12_become_4 : decode cX12_become 4 = .ok (.iload_n 1, 1) := by decide +kernel
theorem dX12_become_5 : decode cX12_become 5 = .ok (.iaload, 1) := by decide +kernel
theorem dX12_become_6 : decode cX12_become 6 = .ok (.istore_n 3, 1) := by decide +kernel
theorem dX12_become_7 : decode cX12_become 7 = .ok (.aload_n 0, 1) := by decide +kernel
theorem dX12_become_8 : decode cX12_become 8 = .ok (.getfield 7, 3) := by decide +kernel
theorem dX12_become_11 : decode cX12_become 11 = .ok (.iload_n 1, 1) := by decide +kernel
theorem dX12_become_12 : decode cX12_become 12 = .ok (.iload_n 2, 1) := by decide +kernel
theorem dX12_become_13 : decode cX12_become 13 = .ok (.iastore, 1) := by decide +kernel
theorem dX12_become_14 : decode cX12_become 14 = .ok (.iload_n 3, 1) := by decide +kernel
theorem dX12_become_15 : decode cX12_become 15 = .ok (.ireturn, 1) := by decide +kernel
theorem dX12_ofOrder_0 : decode cX12_ofOrder 0 = .ok (.aload_n 0, 1) := by decide +kernel
theorem dX12_ofOrder_1 : decode cX12_ofOrder 1 = .ok (.getfield 7, 3) := by decide +kernel
theorem dX12_ofOrder_4 : decode cX12_ofOrder 4 = .ok (.sipush 312, 3) := by decide +kernel
theorem dX12_ofOrder_7 : decode cX12_ofOrder 7 = .ok (.bipush 12, 2) := by decide +kernel
theorem dX12_ofOrder_9 : decode cX12_ofOrder 9 = .ok (.iload_n 1, 1) := by decide +kernel
theorem dX12_ofOrder_10 : decode cX12_ofOrder 10 = .ok (.imul, 1) := by decide +kernel
theorem dX12_ofOrder_11 : decode cX12_ofOrder 11 = .ok (.iadd, 1) := by decide +kernel
theorem dX12_ofOrder_12 : decode cX12_ofOrder 12 = .ok (.iload_n 2, 1) := by decide +kernel
theorem dX12_ofOrder_13 : decode cX12_ofOrder 13 = .ok (.iadd, 1) := by decide +kernel
theorem dX12_ofOrder_14 : decode cX12_ofOrder 14 = .ok (.iaload, 1) := by decide +kernel
theorem dX12_ofOrder_15 : decode cX12_ofOrder 15 = .ok (.ireturn, 1) := by decide +kernel
theorem dX12_ofRider_0 : decode cX12_ofRider 0 = .ok (.aload_n 0, 1) := by decide +kernel
theorem dX12_ofRider_1 : decode cX12_ofRider 1 = .ok (.getfield 7, 3) := by decide +kernel
theorem dX12_ofRider_4 : decode cX12_ofRider 4 = .ok (.sipush 600, 3) := by decide +kernel
theorem dX12_ofRider_7 : decode cX12_ofRider 7 = .ok (.bipush 8, 2) := by decide +kernel
theorem dX12_ofRider_9 : decode cX12_ofRider 9 = .ok (.iload_n 1, 1) := by decide +kernel
theorem dX12_ofRider_10 : decode cX12_ofRider 10 = .ok (.imul, 1) := by decide +kernel
theorem dX12_ofRider_11 : decode cX12_ofRider 11 = .ok (.iadd, 1) := by decide +kernel
theorem dX12_ofRider_12 : decode cX12_ofRider 12 = .ok (.iload_n 2, 1) := by decide +kernel
theorem dX12_ofRider_13 : decode cX12_ofRider 13 = .ok (.iadd, 1) := by decide +kernel
theorem dX12_ofRider_14 : decode cX12_ofRider 14 = .ok (.iaload, 1) := by decide +kernel
theorem dX12_ofRider_15 : decode cX12_ofRider 15 = .ok (.ireturn, 1) := by decide +kernel
theorem dX12_crossing_0 : decode cX12_crossing 0 = .ok (.iload_n 1, 1) := by decide +kernel
theorem dX12_crossing_1 : decode cX12_crossing 1 = .ok (.invokestatic 69, 3) := by decide +kernel
