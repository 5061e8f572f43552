theorem dX12_crossing_4 : decode cX12_crossing 4 = .ok (.ifCond .eq 30, 3) := by decide +kernel
theorem dX12_crossing_7 : decode cX12_crossing 7 = .ok (.iload_n 2, 1) := by decide +kernel
theorem dX12_crossing_8 : decode cX12_crossing 8 = .ok (.iconst 0, 1) := by decide +kernel
theorem dX12_crossing_9 : decode cX12_crossing 9 = .ok (.iconst 1, 1) := by decide +kernel
theorem dX12_crossing_10 : decode cX12_crossing 10 = .ok (.invokestatic 65, 3) := by decide +kernel
theorem dX12_crossing_13 : decode cX12_crossing 13 = .ok (.ifCond .eq 21, 3) := by decide +kernel
theorem dX12_crossing_16 : decode cX12_crossing 16 = .ok (.iload_n 3, 1) := by decide +kernel
theorem dX12_crossing_17 : decode cX12_crossing 17 = .ok (.iconst 0, 1) := by decide +kernel
theorem dX12_crossing_18 : decode cX12_crossing 18 = .ok (.iload_n 2, 1) := by decide +kernel
theorem dX12_crossing_19 : decode cX12_crossing 19 = .ok (.ifCond .ne 8, 3) := by decide +kernel
theorem dX12_crossing_22 : decode cX12_crossing 22 = .ok (.bipush 9, 2) := by decide +kernel
theorem dX12_crossing_24 : decode cX12_crossing 24 = .ok (.goto 4, 3) := by decide +kernel
theorem dX12_crossing_27 : decode cX12_crossing 27 = .ok (.iconst 3, 1) := by decide +kernel
theorem dX12_crossing_28 : decode cX12_crossing 28 = .ok (.invokestatic 65, 3) := by decide +kernel
theorem dX12_crossing_31 : decode cX12_crossing 31 = .ok (.ifCond .ne 9, 3) := by decide +kernel
theorem dX12_crossing_34 : decode cX12_crossing 34 = .ok (.aload_n 0, 1) := by decide +kernel
theorem dX12_crossing_35 : decode cX12_crossing 35 = .ok (.iconst 0, 1) := by decide +kernel
theorem dX12_crossing_36 : decode cX12_crossing 36 = .ok (.invokevirtual 73, 3) := by decide +kernel
theorem dX12_crossing_39 : decode cX12_crossing 39 = .ok (.ireturn, 1) := by decide +kernel
theorem dX12_crossing_40 : decode cX12_crossing 40 = .ok (.aload_n 0, 1) := by decide +kernel
theorem dX12_crossing_41 : decode cX12_crossing 41 = .ok (.iconst 0, 1) := by decide +kernel
theorem dX12_crossing_42 : decode cX12_crossing 42 = .ok (.putfield 77, 3) := by decide +kernel
theorem dX12_crossing_45 : decode cX12_crossing 45 = .ok (.aload_n 0, 1) := by decide +kernel
theorem dX12_crossing_46 : decode cX12_crossing 46 = .ok (.bipush 12, 2) := by decide +kernel
theorem dX12_crossing_48 : decode cX12_crossing 48 = .ok (.bipush 16, 2) := by decide +kernel
theorem dX12_crossing_50 : decode cX12_crossing 50 = .ok (.iload_n 2, 1) := by decide +kernel
theorem dX12_crossing_51 : decode cX12_crossing 51 = .ok (.imul, 1) := by decide +kernel
theorem dX12_crossing_52 : decode cX12_crossing 52 = .ok (.iadd, 1) := by decide +kernel
theorem dX12_crossing_53 : decode cX12_crossing 53 = .ok (.iload_n 1, 1) := by decide +kernel
theorem dX12_crossing_54 : decode cX12_crossing 54 = .ok (.iadd, 1) := by decide +kernel
theorem dX12_crossing_55 : decode cX12_crossing 55 = .ok (.iload_n 3, 1) := by decide +kernel
theorem dX12_crossing_56 : decode cX12_crossing 56 = .ok (.invokevirtual 81, 3) := by decide +kernel
theorem dX12_crossing_59 : decode cX12_crossing 59 = .ok (.ireturn, 1) := by decide +kernel
theorem dX12_isRoad_0 : decode cX12_isRoad 0 = .ok (.iload_n 0, 1) := by decide +kernel
theorem dX12_isRoad_1 : decode cX12_isRoad 1 = .ok (.invokestatic 69, 3) := by decide +kernel
theorem dX12_isRoad_4 : decode cX12_isRoad 4 = .ok (.ifCond .eq 29, 3) := by decide +kernel
theorem dX12_isRoad_7 : decode cX12_isRoad 7 = .ok (.iload_n 1, 1) := by decide +kernel
theorem dX12_isRoad_8 : decode cX12_isRoad 8 = .ok (.invokestatic 69, 3) := by decide +kernel
theorem dX12_isRoad_11 : decode cX12_isRoad 11 = .ok (.ifCond .eq 22, 3) := by decide +kernel
theorem dX12_isRoad_14 : decode cX12_isRoad 14 = .ok (.iload_n 0, 1) := by decide +kernel
theorem dX12_isRoad_15 : decode cX12_isRoad 15 = .ok (.iload_n 1, 1) := by decide +kernel
theorem dX12_isRoad_16 : decode cX12_isRoad 16 = .ok (.if_icmp .eq 17, 3) := by decide +kernel
theorem dX12_isRoad_19 : decode cX12_isRoad 19 = .ok (.iload_n 2, 1) := by decide +kernel
theorem dX12_isRoad_20 : decode cX12_isRoad 20 = .ok (.iconst 1, 1) := by decide +kernel
theorem dX12_isRoad_21 : decode cX12_isRoad 21 = .ok (.bipush 60, 2) := by decide +kernel
theorem dX12_isRoad_23 : decode cX12_isRoad 23 = .ok (.invokestatic 65, 3) := by decide +kernel
theorem dX12_isRoad_26 : decode cX12_isRoad 26 = .ok (.ifCond .eq 7, 3) := by decide +kernel
theorem dX12_isRoad_29 : decode cX12_isRoad 29 = .ok (.iconst 1, 1) := by decide +kernel
theorem dX12_isRoad_30 : decode cX12_isRoad 30 = .ok (.goto 4, 3) := by decide +kernel
theorem dX12_isRoad_33 : decode cX12_isRoad 33 = .ok (.iconst 0, 1) := by decide +kernel
theorem dX12_isRoad_34 : decode cX12_isRoad 34 = .ok (.ireturn, 1) := by decide +kernel
theorem dX12_lay_0 : decode cX12_lay 0 = .ok (.aload_n 0, 1) := by decide +kernel
theorem dX12_lay_1 : decode cX12_lay 1 = .ok (.getfield 7, 3) := by decide +kernel
theorem dX12_lay_4 : decode cX12_lay 4 = .ok (.bipush 44, 2) := by decide +kernel
theorem dX12_lay_6 : decode cX12_lay 6 = .ok (.bipush 16, 2) := by decide +kernel
theorem dX12_lay_8 : decode cX12_lay 8 = .ok (.iload_n 1, 1) := by decide +kernel
theorem dX12_lay_9 : decode cX12_lay 9 = .ok (.imul, 1) := by decide +kernel
theorem dX12_lay_10 : decode cX12_lay 10 = .ok (.iadd, 1) := by decide +kernel
theorem dX12_lay_11 : decode cX12_lay 11 = .ok (.iload_n 2, 1) := by decide +kernel
theorem dX12_lay_12 : decode cX12_lay 12 = .ok (.iadd, 1) := by decide +kernel
theorem dX12_lay_13 : decode cX12_lay 13 = .ok (.iaload, 1) := by decide +kernel
theorem dX12_lay_14 : decode cX12_lay 14 = .ok (.istore 4, 2) := by decide +kernel
theorem dX12_lay_16 : decode cX12_lay 16 = .ok (.iload 4, 2) := by decide +kernel
theorem dX12_lay_18 : decode cX12_lay 18 = .ok (.ifCond .le 14, 3) := by decide +kernel
theorem dX12_lay_21 : decode cX12_lay 21 = .ok (.iload 4, 2) := by decide +kernel
theorem dX12_lay_23 : decode cX12_lay 23 = .ok (.iload_n 3, 1) := by decide +kernel
theorem dX12_lay_24 : decode cX12_lay 24 = .ok (.if_icmp .ge 8, 3) := by decide +kernel
theorem dX12_lay_27 : decode cX12_lay 27 = .ok (.iload 4, 2) := by decide +kernel
theorem dX12_lay_29 : decode cX12_lay 29 = .ok (.goto 4, 3) := by decide +kernel
theorem dX12_lay_32 : decode cX12_lay 32 = .ok (.iload_n 3, 1) := by decide +kernel
theorem dX12_lay_33 : decode cX12_lay 33 = .ok (.istore 5, 2) := by decide +kernel
theorem dX12_lay_35 : decode cX12_lay 35 = .ok (.aload_n 0, 1) := by decide +kernel
theorem dX12_lay_36 : decode cX12_lay 36 = .ok (.getfield 7, 3) := by decide +kernel
theorem dX12_lay_39 : decode cX12_lay 39 = .ok (.bipush 44, 2) := by decide +kernel
theorem dX12_lay_41 : decode cX12_lay 41 = .ok (.bipush 16, 2) := by decide +kernel
theorem dX12_lay_43 : decode cX12_lay 43 = .ok (.iload_n 1, 1) := by decide +kernel
theorem dX12_lay_44 : decode cX12_lay 44 = .ok (.imul, 1) := by decide +kernel
theorem dX12_lay_45 : decode cX12_lay 45 = .ok (.iadd, 1) := by decide +kernel
theorem dX12_lay_46 : decode cX12_lay 46 = .ok (.iload_n 2, 1) := by decide +kernel
theorem dX12_lay_47 : decode cX12_lay 47 = .ok (.iadd, 1) := by decide +kernel
theorem dX12_lay_48 : decode cX12_lay 48 = .ok (.iload 5, 2) := by decide +kernel
theorem dX12_lay_50 : decode cX12_lay 50 = .ok (.iastore, 1) := by decide +kernel
theorem dX12_lay_51 : decode cX12_lay 51 = .ok (.aload_n 0, 1) := by decide +kernel
theorem dX12_lay_52 : decode cX12_lay 52 = .ok (.getfield 7, 3) := by decide +kernel
theorem dX12_lay_55 : decode cX12_lay 55 = .ok (.bipush 44, 2) := by decide +kernel
theorem dX12_lay_57 : decode cX12_lay 57 = .ok (.bipush 16, 2) := by decide +kernel
theorem dX12_lay_59 : decode cX12_lay 59 = .ok (.iload_n 2, 1) := by decide +kernel
theorem dX12_lay_60 : decode cX12_lay 60 = .ok (.imul, 1) := by decide +kernel
theorem dX12_lay_61 : decode cX12_lay 61 = .ok (.iadd, 1) := by decide +kernel
theorem dX12_lay_62 : decode cX12_lay 62 = .ok (.iload_n 1, 1) := by decide +kernel
theorem dX12_lay_63 : decode cX12_lay 63 = .ok (.iadd, 1) := by decide +kernel
theorem dX12_lay_64 : decode cX12_lay 64 = .ok (.iload 5, 2) := by decide +kernel
theorem dX12_lay_66 : decode cX12_lay 66 = .ok (.iastore, 1) := by decide +kernel
theorem dX12_lay_67 : decode cX12_lay 67 = .ok (.aload_n 0, 1) := by decide +kernel
theorem dX12_lay_68 : decode cX12_lay 68 = .ok (.iconst 0, 1) := by decide +kernel
theorem dX12_lay_69 : decode cX12_lay 69 = .ok (.putfield 77, 3) := by decide +kernel
theorem dX12_lay_72 : decode cX12_lay 72 = .ok (.iload 5, 2) := by decide +kernel
theorem dX12_lay_74 : decode cX12_lay 74 = .ok (.ireturn, 1) := by decide +kernel
theorem dX12_road_0 : decode cX12_road 0 = .ok (.iload_n 1, 1) := by decide +kernel
theorem dX12_road_1 : decode cX12_road 1 = .ok (.iload_n 2, 1) := by decide +kernel
theorem dX12_road_2 : decode cX12_road 2 = .ok (.iload_n 3, 1) := by decide +kernel
theorem dX12_road_3 : decode cX12_road 3 = .ok (.invokestatic 85, 3) := by decide +kernel
theorem dX12_road_6 : decode cX12_road 6 = .ok (.ifCond .eq 13, 3) := by decide +kernel
theorem dX12_road_9 : decode cX12_road 9 = .ok (.aload_n 0, 1) := by decide +kernel
theorem dX12_road_10 : decode cX12_road 10 = .ok (.iload_n 1, 1) := by decide +kernel
theorem dX12_road_11 : decode cX12_road 11 = .ok (.iload_n 2, 1) := by decide +kernel
theorem dX12_road_12 : decode cX12_road 12 = .ok (.iload_n 3, 1) := by decide +kernel
theorem dX12_road_13 : decode cX12_road 13 = .ok (.invokevirtual 88, 3) := by decide +kernel
theorem dX12_road_16 : decode cX12_road 16 = .ok (.goto 8, 3) := by decide +kernel
theorem dX12_road_19 : decode cX12_road 19 = .ok (.aload_n 0, 1) := by decide +kernel
theorem dX12_road_20 : decode cX12_road 20 = .ok (.iconst 0, 1) := by decide +kernel
theorem dX12_road_21 : decode cX12_road 21 = .ok (.invokevirtual 73, 3) := by decide +kernel
theorem dX12_road_24 : decode cX12_road 24 = .ok (.ireturn, 1) := by decide +kernel
theorem dX12_findWays_0 : decode cX12_findWays 0 = .ok (.iconst 0, 1) := by decide +kernel
theorem dX12_findWays_1 : decode cX12_findWays 1 = .ok (.istore_n 1, 1) := by decide +kernel
theorem dX12_findWays_2 : decode cX12_findWays 2 = .ok (.iload_n 1, 1) := by decide +kernel
theorem dX12_findWays_3 : decode cX12_findWays 3 = .ok (.bipush 16, 2) := by decide +kernel
theorem dX12_findWays_5 : decode cX12_findWays 5 = .ok (.if_icmp .ge 101, 3) := by decide +kernel
theorem dX12_findWays_8 : decode cX12_findWays 8 = .ok (.iconst 0, 1) := by decide +kernel
theorem dX12_findWays_9 : decode cX12_findWays 9 = .ok (.istore_n 2, 1) := by decide +kernel
theorem dX12_findWays_10 : decode cX12_findWays 10 = .ok (.iload_n 2, 1) := by decide +kernel
theorem dX12_findWays_11 : decode cX12_findWays 11 = .ok (.bipush 16, 2) := by decide +kernel
theorem dX12_findWays_13 : decode cX12_findWays 13 = .ok (.if_icmp .ge 87, 3) := by decide +kernel
theorem dX12_findWays_16 : decode cX12_findWays 16 = .ok (.aload_n 0, 1) := by decide +kernel
theorem dX12_findWays_17 : decode cX12_findWays 17 = .ok (.getfield 7, 3) := by decide +kernel
theorem dX12_findWays_20 : decode cX12_findWays 20 = .ok (.bipush 12, 2) := by decide +kernel
theorem dX12_findWays_22 : decode cX12_findWays 22 = .ok (.iload_n 2, 1) := by decide +kernel
theorem dX12_findWays_23 : decode cX12_findWays 23 = .ok (.iadd, 1) := by decide +kernel
theorem dX12_findWays_24 : decode cX12_findWays 24 = .ok (.iaload, 1) := by decide +kernel
theorem dX12_findWays_25 : decode cX12_findWays 25 = .ok (.aload_n 0, 1) := by decide +kernel
theorem dX12_findWays_26 : decode cX12_findWays 26 = .ok (.getfield 7, 3) := by decide +kernel
theorem dX12_findWays_29 : decode cX12_findWays 29 = .ok (.bipush 12, 2) := by decide +kernel
theorem dX12_findWays_31 : decode cX12_findWays 31 = .ok (.iload_n 1, 1) := by decide +kernel
theorem dX12_findWays_32 : decode cX12_findWays 32 = .ok (.iadd, 1) := by decide +kernel
theorem dX12_findWays_33 : decode cX12_findWays 33 = .ok (.iaload, 1) := by decide +kernel
theorem dX12_findWays_34 : decode cX12_findWays 34 = .ok (.isub, 1) := by decide +kernel
theorem dX12_findWays_35 : decode cX12_findWays 35 = .ok (.istore_n 3, 1) := by decide +kernel
theorem dX12_findWays_36 : decode cX12_findWays 36 = .ok (.aload_n 0, 1) := by decide +kernel
theorem dX12_findWays_37 : decode cX12_findWays 37 = .ok (.getfield 7, 3) := by decide +kernel
theorem dX12_findWays_40 : decode cX12_findWays 40 = .ok (.bipush 44, 2) := by decide +kernel
theorem dX12_findWays_42 : decode cX12_findWays 42 = .ok (.bipush 16, 2) := by decide +kernel
theorem dX12_findWays_44 : decode cX12_findWays 44 = .ok (.iload_n 1, 1) := by decide +kernel
theorem dX12_findWays_45 : decode cX12_findWays 45 = .ok (.imul, 1) := by decide +kernel
theorem dX12_findWays_46 : decode cX12_findWays 46 = .ok (.iadd, 1) := by decide +kernel
theorem dX12_findWays_47 : decode cX12_findWays 47 = .ok (.iload_n 2, 1) := by decide +kernel
theorem dX12_findWays_48 : decode cX12_findWays 48 = .ok (.iadd, 1) := by decide +kernel
theorem dX12_findWays_49 : decode cX12_findWays 49 = .ok (.iaload, 1) := by decide +kernel
theorem dX12_findWays_50 : decode cX12_findWays 50 = .ok (.istore 4, 2) := by decide +kernel
theorem dX12_findWays_52 : decode cX12_findWays 52 = .ok (.aload_n 0, 1) := by decide +kernel
theorem dX12_findWays_53 : decode cX12_findWays 53 = .ok (.getfield 19, 3) := by decide +kernel
theorem dX12_findWays_56 : decode cX12_findWays 56 = .ok (.bipush 16, 2) := by decide +kernel
theorem dX12_findWays_58 : decode cX12_findWays 58 = .ok (.iload_n 1, 1) := by decide +kernel
theorem dX12_findWays_59 : decode cX12_findWays 59 = .ok (.imul, 1) := by decide +kernel
theorem dX12_findWays_60 : decode cX12_findWays 60 = .ok (.iload_n 2, 1) := by decide +kernel
theorem dX12_findWays_61 : decode cX12_findWays 61 = .ok (.iadd, 1) := by decide +kernel
theorem dX12_findWays_62 : decode cX12_findWays 62 = .ok (.iload_n 1, 1) := by decide +kernel
theorem dX12_findWays_63 : decode cX12_findWays 63 = .ok (.iload_n 2, 1) := by decide +kernel
theorem dX12_findWays_64 : decode cX12_findWays 64 = .ok (.if_icmp .ne 7, 3) := by decide +kernel
theorem dX12_findWays_67 : decode cX12_findWays 67 = .ok (.iconst 0, 1) := by decide +kernel
theorem dX12_findWays_68 : decode cX12_findWays 68 = .ok (.goto 25, 3) := by decide +kernel
theorem dX12_findWays_71 : decode cX12_findWays 71 = .ok (.iload 4, 2) := by decide +kernel
theorem dX12_findWays_73 : decode cX12_findWays 73 = .ok (.ifCond .ne 8, 3) := by decide +kernel
theorem dX12_findWays_76 : decode cX12_findWays 76 = .ok (.ldc 92, 2) := by decide +kernel
theorem dX12_findWays_78 : decode cX12_findWays 78 = .ok (.goto 15, 3) := by decide +kernel
theorem dX12_findWays_81 : decode cX12_findWays 81 = .ok (.iload 4, 2) := by decide +kernel
theorem dX12_findWays_83 : decode cX12_findWays 83 = .ok (.iload_n 3, 1) := by decide +kernel
theorem dX12_findWays_84 : decode cX12_findWays 84 = .ok (.ifCond .le 7, 3) := by decide +kernel
theorem dX12_findWays_87 : decode cX12_findWays 87 = .ok (.iload_n 3, 1) := by decide +kernel
theorem dX12_findWays_88 : decode cX12_findWays 88 = .ok (.goto 4, 3) := by decide +kernel
theorem dX12_findWays_91 : decode cX12_findWays 91 = .ok (.iconst 0, 1) := by decide +kernel
theorem dX12_findWays_92 : decode cX12_findWays 92 = .ok (.iadd, 1) := by decide +kernel
theorem dX12_findWays_93 : decode cX12_findWays 93 = .ok (.iastore, 1) := by decide +kernel
theorem dX12_findWays_94 : decode cX12_findWays 94 = .ok (.iinc 2 1, 3) := by decide +kernel
theorem dX12_findWays_97 : decode cX12_findWays 97 = .ok (.goto (-87), 3) := by decide +kernel
theorem dX12_findWays_100 : decode cX12_findWays 100 = .ok (.iinc 1 1, 3) := by decide +kernel
theorem dX12_findWays_103 : decode cX12_findWays 103 = .ok (.goto (-101), 3) := by decide +kernel
theorem dX12_findWays_106 : decode cX12_findWays 106 = .ok (.iconst 0, 1) := by decide +kernel
theorem dX12_findWays_107 : decode cX12_findWays 107 = .ok (.istore_n 1, 1) := by decide +kernel
theorem dX12_findWays_108 : decode cX12_findWays 108 = .ok (.iload_n 1, 1) := by decide +kernel
theorem dX12_findWays_109 : decode cX12_findWays 109 = .ok (.bipush 16, 2) := by decide +kernel
theorem dX12_findWays_111 : decode cX12_findWays 111 = .ok (.if_icmp .ge 105, 3) := by decide +kernel
theorem dX12_findWays_114 : decode cX12_findWays 114 = .ok (.iconst 0, 1) := by decide +kernel
theorem dX12_findWays_115 : decode cX12_findWays 115 = .ok (.istore_n 2, 1) := by decide +kernel
theorem dX12_findWays_116 : decode cX12_findWays 116 = .ok (.iload_n 2, 1) := by decide +kernel
theorem dX12_findWays_117 : decode cX12_findWays 117 = .ok (.bipush 16, 2) := by decide +kernel
theorem dX12_findWays_119 : decode cX12_findWays 119 = .ok (.if_icmp .ge 91, 3) := by decide +kernel
theorem dX12_findWays_122 : decode cX12_findWays 122 = .ok (.iconst 0, 1) := by decide +kernel
theorem dX12_findWays_123 : decode cX12_findWays 123 = .ok (.istore_n 3, 1) := by decide +kernel
theorem dX12_findWays_124 : decode cX12_findWays 124 = .ok (.iload_n 3, 1) := by decide +kernel
theorem dX12_findWays_125 : decode cX12_findWays 125 = .ok (.bipush 16, 2) := by decide +kernel
theorem dX12_findWays_127 : decode cX12_findWays 127 = .ok (.if_icmp .ge 77, 3) := by decide +kernel
theorem dX12_findWays_130 : decode cX12_findWays 130 = .ok (.aload_n 0, 1) := by decide +kernel
theorem dX12_findWays_131 : decode cX12_findWays 131 = .ok (.getfield 19, 3) := by decide +kernel
theorem dX12_findWays_134 : decode cX12_findWays 134 = .ok (.bipush 16, 2) := by decide +kernel
theorem dX12_findWays_136 : decode cX12_findWays 136 = .ok (.iload_n 2, 1) := by decide +kernel
theorem dX12_findWays_137 : decode cX12_findWays 137 = .ok (.imul, 1) := by decide +kernel
theorem dX12_findWays_138 : decode cX12_findWays 138 = .ok (.iload_n 1, 1) := by decide +kernel
theorem dX12_findWays_139 : decode cX12_findWays 139 = .ok (.iadd, 1) := by decide +kernel
theorem dX12_findWays_140 : decode cX12_findWays 140 = .ok (.iaload, 1) := by decide +kernel
theorem dX12_findWays_141 : decode cX12_findWays 141 = .ok (.aload_n 0, 1) := by decide +kernel
theorem dX12_findWays_142 : decode cX12_findWays 142 = .ok (.getfield 19, 3) := by decide +kernel
theorem dX12_findWays_145 : decode cX12_findWays 145 = .ok (.bipush 16, 2) := by decide +kernel
theorem dX12_findWays_147 : decode cX12_findWays 147 = .ok (.iload_n 1, 1) := by decide +kernel
theorem dX12_findWays_148 : decode cX12_findWays 148 = .ok (.imul, 1) := by decide +kernel
theorem dX12_findWays_149 : decode cX12_findWays 149 = .ok (.iload_n 3, 1) := by decide +kernel
theorem dX12_findWays_150 : decode cX12_findWays 150 = .ok (.iadd, 1) := by decide +kernel
theorem dX12_findWays_151 : decode cX12_findWays 151 = .ok (.iaload, 1) := by decide +kernel
theorem dX12_findWays_152 : decode cX12_findWays 152 = .ok (.iadd, 1) := by decide +kernel
theorem dX12_findWays_153 : decode cX12_findWays 153 = .ok (.istore 4, 2) := by decide +kernel
theorem dX12_findWays_155 : decode cX12_findWays 155 = .ok (.aload_n 0, 1) := by decide +kernel
theorem dX12_findWays_156 : decode cX12_findWays 156 = .ok (.getfield 19, 3) := by decide +kernel
theorem dX12_findWays_159 : decode cX12_findWays 159 = .ok (.bipush 16, 2) := by decide +kernel
theorem dX12_findWays_161 : decode cX12_findWays 161 = .ok (.iload_n 2, 1) := by decide +kernel
theorem dX12_findWays_162 : decode cX12_findWays 162 = .ok (.imul, 1) := by decide +kernel
theorem dX12_findWays_163 : decode cX12_findWays 163 = .ok (.iload_n 3, 1) := by decide +kernel
theorem dX12_findWays_164 : decode cX12_findWays 164 = .ok (.iadd, 1) := by decide +kernel
theorem dX12_findWays_165 : decode cX12_findWays 165 = .ok (.iload 4, 2) := by decide +kernel
theorem dX12_findWays_167 : decode cX12_findWays 167 = .ok (.aload_n 0, 1) := by decide +kernel
theorem dX12_findWays_168 : decode cX12_findWays 168 = .ok (.getfield 19, 3) := by decide +kernel
theorem dX12_findWays_171 : decode cX12_findWays 171 = .ok (.bipush 16, 2) := by decide +kernel
theorem dX12_findWays_173 : decode cX12_findWays 173 = .ok (.iload_n 2, 1) := by decide +kernel
theorem dX12_findWays_174 : decode cX12_findWays 174 = .ok (.imul, 1) := by decide +kernel
theorem dX12_findWays_175 : decode cX12_findWays 175 = .ok (.iload_n 3, 1) := by decide +kernel
theorem dX12_findWays_176 : decode cX12_findWays 176 = .ok (.iadd, 1) := by decide +kernel
theorem dX12_findWays_177 : decode cX12_findWays 177 = .ok (.iaload, 1) := by decide +kernel
theorem dX12_findWays_178 : decode cX12_findWays 178 = .ok (.if_icmp .ge 8, 3) := by decide +kernel
theorem dX12_findWays_181 : decode cX12_findWays 181 = .ok (.iload 4, 2) := by decide +kernel
theorem dX12_findWays_183 : decode cX12_findWays 183 = .ok (.goto 14, 3) := by decide +kernel
theorem dX12_findWays_186 : decode cX12_findWays 186 = .ok (.aload_n 0, 1) := by decide +kernel
theorem dX12_findWays_187 : decode cX12_findWays 187 = .ok (.getfield 19, 3) := by decide +kernel
theorem dX12_findWays_190 : decode cX12_findWays 190 = .ok (.bipush 16, 2) := by decide +kernel
theorem dX12_findWays_192 : decode cX12_findWays 192 = .ok (.iload_n 2, 1) := by decide +kernel
theorem dX12_findWays_193 : decode cX12_findWays 193 = .ok (.imul, 1) := by decide +kernel
theorem dX12_findWays_194 : decode cX12_findWays 194 = .ok (.iload_n 3, 1) := by decide +kernel
theorem dX12_findWays_195 : decode cX12_findWays 195 = .ok (.iadd, 1) := by decide +kernel
theorem dX12_findWays_196 : decode cX12_findWays 196 = .ok (.iaload, 1) := by decide +kernel
theorem dX12_findWays_197 : decode cX12_findWays 197 = .ok (.iastore, 1) := by decide +kernel
theorem dX12_findWays_198 : decode cX12_findWays 198 = .ok (.iinc 3 1, 3) := by decide +kernel
theorem dX12_findWays_201 : decode cX12_findWays 201 = .ok (.goto (-77), 3) := by decide +kernel
theorem dX12_findWays_204 : decode cX12_findWays 204 = .ok (.iinc 2 1, 3) := by decide +kernel
theorem dX12_findWays_207 : decode cX12_findWays 207 = .ok (.goto (-91), 3) := by decide +kernel
theorem dX12_findWays_210 : decode cX12_findWays 210 = .ok (.iinc 1 1, 3) := by decide +kernel
theorem dX12_findWays_213 : decode cX12_findWays 213 = .ok (.goto (-105), 3) := by decide +kernel
theorem dX12_findWays_216 : decode cX12_findWays 216 = .ok (.aload_n 0, 1) := by decide +kernel
theorem dX12_findWays_217 : decode cX12_findWays 217 = .ok (.iconst 1, 1) := by decide +kernel
theorem dX12_findWays_218 : decode cX12_findWays 218 = .ok (.putfield 77, 3) := by decide +kernel
theorem dX12_findWays_221 : decode cX12_findWays 221 = .ok (.return_, 1) := by decide +kernel
theorem dX12_wayOf_0 : decode cX12_wayOf 0 = .ok (.aload_n 0, 1) := by decide +kernel
theorem dX12_wayOf_1 : decode cX12_wayOf 1 = .ok (.getfield 77, 3) := by decide +kernel
theorem dX12_wayOf_4 : decode cX12_wayOf 4 = .ok (.ifCond .ne 7, 3) := by decide +kernel
theorem dX12_wayOf_7 : decode cX12_wayOf 7 = .ok (.aload_n 0, 1) := by decide +kernel
theorem dX12_wayOf_8 : decode cX12_wayOf 8 = .ok (.invokevirtual 93, 3) := by decide +kernel
theorem dX12_wayOf_11 : decode cX12_wayOf 11 = .ok (.aload_n 0, 1) := by decide +kernel
theorem dX12_wayOf_12 : decode cX12_wayOf 12 = .ok (.getfield 19, 3) := by decide +kernel
theorem dX12_wayOf_15 : decode cX12_wayOf 15 = .ok (.bipush 16, 2) := by decide +kernel
theorem dX12_wayOf_17 : decode cX12_wayOf 17 = .ok (.iload_n 1, 1) := by decide +kernel
theorem dX12_wayOf_18 : decode cX12_wayOf 18 = .ok (.imul, 1) := by decide +kernel
theorem dX12_wayOf_19 : decode cX12_wayOf 19 = .ok (.iload_n 2, 1) := by decide +kernel
theorem dX12_wayOf_20 : decode cX12_wayOf 20 = .ok (.iadd, 1) := by decide +kernel
theorem dX12_wayOf_21 : decode cX12_wayOf 21 = .ok (.iaload, 1) := by decide +kernel
theorem dX12_wayOf_22 : decode cX12_wayOf 22 = .ok (.istore_n 3, 1) := by decide +kernel
theorem dX12_wayOf_23 : decode cX12_wayOf 23 = .ok (.iload_n 3, 1) := by decide +kernel
theorem dX12_wayOf_24 : decode cX12_wayOf 24 = .ok (.ldc 92, 2) := by decide +kernel
theorem dX12_wayOf_26 : decode cX12_wayOf 26 = .ok (.if_icmp .ge 7, 3) := by decide +kernel
theorem dX12_wayOf_29 : decode cX12_wayOf 29 = .ok (.iload_n 3, 1) := by decide +kernel
theorem dX12_wayOf_30 : decode cX12_wayOf 30 = .ok (.goto 4, 3) := by decide +kernel
theorem dX12_wayOf_33 : decode cX12_wayOf 33 = .ok (.iconst (-1), 1) := by decide +kernel
theorem dX12_wayOf_34 : decode cX12_wayOf 34 = .ok (.ireturn, 1) := by decide +kernel
theorem dX12_way_0 : decode cX12_way 0 = .ok (.iload_n 1, 1) := by decide +kernel
theorem dX12_way_1 : decode cX12_way 1 = .ok (.invokestatic 69, 3) := by decide +kernel
theorem dX12_way_4 : decode cX12_way 4 = .ok (.ifCond .eq 10, 3) := by decide +kernel
theorem dX12_way_7 : decode cX12_way 7 = .ok (.iload_n 2, 1) := by decide +kernel
theorem dX12_way_8 : decode cX12_way 8 = .ok (.invokestatic 69, 3) := by decide +kernel
theorem dX12_way_11 : decode cX12_way 11 = .ok (.ifCond .ne 9, 3) := by decide +kernel
theorem dX12_way_14 : decode cX12_way 14 = .ok (.aload_n 0, 1) := by decide +kernel
theorem dX12_way_15 : decode cX12_way 15 = .ok (.iconst 0, 1) := by decide +kernel
theorem dX12_way_16 : decode cX12_way 16 = .ok (.invokevirtual 73, 3) := by decide +kernel
theorem dX12_way_19 : decode cX12_way 19 = .ok (.ireturn, 1) := by decide +kernel
theorem dX12_way_20 : decode cX12_way 20 = .ok (.aload_n 0, 1) := by decide +kernel
theorem dX12_way_21 : decode cX12_way 21 = .ok (.iload_n 1, 1) := by decide +kernel
theorem dX12_way_22 : decode cX12_way 22 = .ok (.iload_n 2, 1) := by decide +kernel
theorem dX12_way_23 : decode cX12_way 23 = .ok (.invokevirtual 96, 3) := by decide +kernel
theorem dX12_way_26 : decode cX12_way 26 = .ok (.istore_n 3, 1) := by decide +kernel
theorem dX12_way_27 : decode cX12_way 27 = .ok (.iload_n 3, 1) := by decide +kernel
theorem dX12_way_28 : decode cX12_way 28 = .ok (.ifCond .ge 11, 3) := by decide +kernel
theorem dX12_way_31 : decode cX12_way 31 = .ok (.aload_n 0, 1) := by decide +kernel
theorem dX12_way_32 : decode cX12_way 32 = .ok (.iconst 3, 1) := by decide +kernel
theorem dX12_way_33 : decode cX12_way 33 = .ok (.invokevirtual 73, 3) := by decide +kernel
theorem dX12_way_36 : decode cX12_way 36 = .ok (.goto 4, 3) := by decide +kernel
theorem dX12_way_39 : decode cX12_way 39 = .ok (.iload_n 3, 1) := by decide +kernel
theorem dX12_way_40 : decode cX12_way 40 = .ok (.ireturn, 1) := by decide +kernel
theorem dX12_minutes_0 : decode cX12_minutes 0 = .ok (.iload_n 1, 1) := by decide +kernel
theorem dX12_minutes_1 : decode cX12_minutes 1 = .ok (.iconst 1, 1) := by decide +kernel
theorem dX12_minutes_2 : decode cX12_minutes 2 = .ok (.sipush 600, 3) := by decide +kernel
theorem dX12_minutes_5 : decode cX12_minutes 5 = .ok (.invokestatic 65, 3) := by decide +kernel
theorem dX12_minutes_8 : decode cX12_minutes 8 = .ok (.ifCond .ne 9, 3) := by decide +kernel
theorem dX12_minutes_11 : decode cX12_minutes 11 = .ok (.aload_n 0, 1) := by decide +kernel
theorem dX12_minutes_12 : decode cX12_minutes 12 = .ok (.iconst 0, 1) := by decide +kernel
theorem dX12_minutes_13 : decode cX12_minutes 13 = .ok (.invokevirtual 73, 3) := by decide +kernel
theorem dX12_minutes_16 : decode cX12_minutes 16 = .ok (.ireturn, 1) := by decide +kernel
theorem dX12_minutes_17 : decode cX12_minutes 17 = .ok (.aload_n 0, 1) := by decide +kernel
theorem dX12_minutes_18 : decode cX12_minutes 18 = .ok (.getfield 7, 3) := by decide +kernel
theorem dX12_minutes_21 : decode cX12_minutes 21 = .ok (.iconst 0, 1) := by decide +kernel
theorem dX12_minutes_22 : decode cX12_minutes 22 = .ok (.iaload, 1) := by decide +kernel
theorem dX12_minutes_23 : decode cX12_minutes 23 = .ok (.iload_n 1, 1) := by decide +kernel
theorem dX12_minutes_24 : decode cX12_minutes 24 = .ok (.iadd, 1) := by decide +kernel
theorem dX12_minutes_25 : decode cX12_minutes 25 = .ok (.sipush 1439, 3) := by decide +kernel
theorem dX12_minutes_28 : decode cX12_minutes 28 = .ok (.if_icmp .le 9, 3) := by decide +kernel
theorem dX12_minutes_31 : decode cX12_minutes 31 = .ok (.aload_n 0, 1) := by decide +kernel
theorem dX12_minutes_32 : decode cX12_minutes 32 = .ok (.iconst 4, 1) := by decide +kernel
theorem dX12_minutes_33 : decode cX12_minutes 33 = .ok (.invokevirtual 73, 3) := by decide +kernel
theorem dX12_minutes_36 : decode cX12_minutes 36 = .ok (.ireturn, 1) := by decide +kernel
theorem dX12_minutes_37 : decode cX12_minutes 37 = .ok (.aload_n 0, 1) := by decide +kernel
theorem dX12_minutes_38 : decode cX12_minutes 38 = .ok (.getfield 7, 3) := by decide +kernel
theorem dX12_minutes_41 : decode cX12_minutes 41 = .ok (.iconst 0, 1) := by decide +kernel
theorem dX12_minutes_42 : decode cX12_minutes 42 = .ok (.dup2, 1) := by decide +kernel
theorem dX12_minutes_43 : decode cX12_minutes 43 = .ok (.iaload, 1) := by decide +kernel
theorem dX12_minutes_44 : decode cX12_minutes 44 = .ok (.iload_n 1, 1) := by decide +kernel
theorem dX12_minutes_45 : decode cX12_minutes 45 = .ok (.iadd, 1) := by decide +kernel
theorem dX12_minutes_46 : decode cX12_minutes 46 = .ok (.iastore, 1) := by decide +kernel
theorem dX12_minutes_47 : decode cX12_minutes 47 = .ok (.aload_n 0, 1) := by decide +kernel
theorem dX12_minutes_48 : decode cX12_minutes 48 = .ok (.getfield 7, 3) := by decide +kernel
theorem dX12_minutes_51 : decode cX12_minutes 51 = .ok (.iconst 0, 1) := by decide +kernel
theorem dX12_minutes_52 : decode cX12_minutes 52 = .ok (.iaload, 1) := by decide +kernel
theorem dX12_minutes_53 : decode cX12_minutes 53 = .ok (.ireturn, 1) := by decide +kernel
theorem dX12_kitchen_0 : decode cX12_kitchen 0 = .ok (.iload_n 1, 1) := by decide +kernel
theorem dX12_kitchen_1 : decode cX12_kitchen 1 = .ok (.invokestatic 69, 3) := by decide +kernel
theorem dX12_kitchen_4 : decode cX12_kitchen 4 = .ok (.ifCond .eq 13, 3) := by decide +kernel
theorem dX12_kitchen_7 : decode cX12_kitchen 7 = .ok (.iload_n 2, 1) := by decide +kernel
theorem dX12_kitchen_8 : decode cX12_kitchen 8 = .ok (.iconst 1, 1) := by decide +kernel
theorem dX12_kitchen_9 : decode cX12_kitchen 9 = .ok (.bipush 60, 2) := by decide +kernel
theorem dX12_kitchen_11 : decode cX12_kitchen 11 = .ok (.invokestatic 65, 3) := by decide +kernel
theorem dX12_kitchen_14 : decode cX12_kitchen 14 = .ok (.ifCond .ne 9, 3) := by decide +kernel
theorem dX12_kitchen_17 : decode cX12_kitchen 17 = .ok (.aload_n 0, 1) := by decide +kernel
theorem dX12_kitchen_18 : decode cX12_kitchen 18 = .ok (.iconst 0, 1) := by decide +kernel
theorem dX12_kitchen_19 : decode cX12_kitchen 19 = .ok (.invokevirtual 73, 3) := by decide +kernel
theorem dX12_kitchen_22 : decode cX12_kitchen 22 = .ok (.ireturn, 1) := by decide +kernel
theorem dX12_kitchen_23 : decode cX12_kitchen 23 = .ok (.aload_n 0, 1) := by decide +kernel
theorem dX12_kitchen_24 : decode cX12_kitchen 24 = .ok (.getfield 7, 3) := by decide +kernel
theorem dX12_kitchen_27 : decode cX12_kitchen 27 = .ok (.iconst 1, 1) := by decide +kernel
theorem dX12_kitchen_28 : decode cX12_kitchen 28 = .ok (.iaload, 1) := by decide +kernel
theorem dX12_kitchen_29 : decode cX12_kitchen 29 = .ok (.bipush 6, 2) := by decide +kernel
theorem dX12_kitchen_31 : decode cX12_kitchen 31 = .ok (.if_icmp .ne 9, 3) := by decide +kernel
theorem dX12_kitchen_34 : decode cX12_kitchen 34 = .ok (.aload_n 0, 1) := by decide +kernel
theorem dX12_kitchen_35 : decode cX12_kitchen 35 = .ok (.iconst 1, 1) := by decide +kernel
theorem dX12_kitchen_36 : decode cX12_kitchen 36 = .ok (.invokevirtual 73, 3) := by decide +kernel
theorem dX12_kitchen_39 : decode cX12_kitchen 39 = .ok (.ireturn, 1) := by decide +kernel
theorem dX12_kitchen_40 : decode cX12_kitchen 40 = .ok (.aload_n 0, 1) := by decide +kernel
theorem dX12_kitchen_41 : decode cX12_kitchen 41 = .ok (.getfield 7, 3) := by decide +kernel
theorem dX12_kitchen_44 : decode cX12_kitchen 44 = .ok (.sipush 300, 3) := by decide +kernel
theorem dX12_kitchen_47 : decode cX12_kitchen 47 = .ok (.iconst 2, 1) := by decide +kernel
theorem dX12_kitchen_48 : decode cX12_kitchen 48 = .ok (.aload_n 0, 1) := by decide +kernel
theorem dX12_kitchen_49 : decode cX12_kitchen 49 = .ok (.getfield 7, 3) := by decide +kernel
theorem dX12_kitchen_52 : decode cX12_kitchen 52 = .ok (.iconst 1, 1) := by decide +kernel
theorem dX12_kitchen_53 : decode cX12_kitchen 53 = .ok (.iaload, 1) := by decide +kernel
theorem dX12_kitchen_54 : decode cX12_kitchen 54 = .ok (.imul, 1) := by decide +kernel
theorem dX12_kitchen_55 : decode cX12_kitchen 55 = .ok (.iadd, 1) := by decide +kernel
theorem dX12_kitchen_56 : decode cX12_kitchen 56 = .ok (.iload_n 1, 1) := by decide +kernel
theorem dX12_kitchen_57 : decode cX12_kitchen 57 = .ok (.iastore, 1) := by decide +kernel
theorem dX12_kitchen_58 : decode cX12_kitchen 58 = .ok (.aload_n 0, 1) := by decide +kernel
theorem dX12_kitchen_59 : decode cX12_kitchen 59 = .ok (.getfield 7, 3) := by decide +kernel
theorem dX12_kitchen_62 : decode cX12_kitchen 62 = .ok (.sipush 300, 3) := by decide +kernel
theorem dX12_kitchen_65 : decode cX12_kitchen 65 = .ok (.iconst 2, 1) := by decide +kernel
theorem dX12_kitchen_66 : decode cX12_kitchen 66 = .ok (.aload_n 0, 1) := by decide +kernel
theorem dX12_kitchen_67 : decode cX12_kitchen 67 = .ok (.getfield 7, 3) := by decide +kernel
theorem dX12_kitchen_70 : decode cX12_kitchen 70 = .ok (.iconst 1, 1) := by decide +kernel
theorem dX12_kitchen_71 : decode cX12_kitchen 71 = .ok (.iaload, 1) := by decide +kernel
theorem dX12_kitchen_72 : decode cX12_kitchen 72 = .ok (.imul, 1) := by decide +kernel
theorem dX12_kitchen_73 : decode cX12_kitchen 73 = .ok (.iadd, 1) := by decide +kernel
theorem dX12_kitchen_74 : decode cX12_kitchen 74 = .ok (.iconst 1, 1) := by decide +kernel
theorem dX12_kitchen_75 : decode cX12_kitchen 75 = .ok (.iadd, 1) := by decide +kernel
theorem dX12_kitchen_76 : decode cX12_kitchen 76 = .ok (.iload_n 2, 1) := by decide +kernel
theorem dX12_kitchen_77 : decode cX12_kitchen 77 = .ok (.iastore, 1) := by decide +kernel
theorem dX12_kitchen_78 : decode cX12_kitchen 78 = .ok (.aload_n 0, 1) := by decide +kernel
theorem dX12_kitchen_79 : decode cX12_kitchen 79 = .ok (.getfield 7, 3) := by decide +kernel
theorem dX12_kitchen_82 : decode cX12_kitchen 82 = .ok (.iconst 1, 1) := by decide +kernel
theorem dX12_kitchen_83 : decode cX12_kitchen 83 = .ok (.dup2, 1) := by decide +kernel
theorem dX12_kitchen_84 : decode cX12_kitchen 84 = .ok (.iaload, 1) := by decide +kernel
theorem dX12_kitchen_85 : decode cX12_kitchen 85 = .ok (.iconst 1, 1) := by decide +kernel
theorem dX12_kitchen_86 : decode cX12_kitchen 86 = .ok (.iadd, 1) := by decide +kernel
theorem dX12_kitchen_87 : decode cX12_kitchen 87 = .ok (.iastore, 1) := by decide +kernel
theorem dX12_kitchen_88 : decode cX12_kitchen 88 = .ok (.aload_n 0, 1) := by decide +kernel
theorem dX12_kitchen_89 : decode cX12_kitchen 89 = .ok (.getfield 7, 3) := by decide +kernel
theorem dX12_kitchen_92 : decode cX12_kitchen 92 = .ok (.iconst 1, 1) := by decide +kernel
theorem dX12_kitchen_93 : decode cX12_kitchen 93 = .ok (.iaload, 1) := by decide +kernel
theorem dX12_kitchen_94 : decode cX12_kitchen 94 = .ok (.iconst 1, 1) := by decide +kernel
theorem dX12_kitchen_95 : decode cX12_kitchen 95 = .ok (.isub, 1) := by decide +kernel
theorem dX12_kitchen_96 : decode cX12_kitchen 96 = .ok (.ireturn, 1) := by decide +kernel
theorem dX12_order_0 : decode cX12_order 0 = .ok (.iload_n 1, 1) := by decide +kernel
theorem dX12_order_1 : decode cX12_order 1 = .ok (.iconst 0, 1) := by decide +kernel
theorem dX12_order_2 : decode cX12_order 2 = .ok (.aload_n 0, 1) := by decide +kernel
theorem dX12_order_3 : decode cX12_order 3 = .ok (.getfield 7, 3) := by decide +kernel
theorem dX12_order_6 : decode cX12_order 6 = .ok (.iconst 1, 1) := by decide +kernel
theorem dX12_order_7 : decode cX12_order 7 = .ok (.iaload, 1) := by decide +kernel
theorem dX12_order_8 : decode cX12_order 8 = .ok (.iconst 1, 1) := by decide +kernel
theorem dX12_order_9 : decode cX12_order 9 = .ok (.isub, 1) := by decide +kernel
theorem dX12_order_10 : decode cX12_order 10 = .ok (.invokestatic 65, 3) := by decide +kernel
theorem dX12_order_13 : decode cX12_order 13 = .ok (.ifCond .eq 32, 3) := by decide +kernel
theorem dX12_order_16 : decode cX12_order 16 = .ok (.iload_n 2, 1) := by decide +kernel
theorem dX12_order_17 : decode cX12_order 17 = .ok (.invokestatic 69, 3) := by decide +kernel
theorem dX12_order_20 : decode cX12_order 20 = .ok (.ifCond .eq 25, 3) := by decide +kernel
theorem dX12_order_23 : decode cX12_order 23 = .ok (.iload_n 3, 1) := by decide +kernel
theorem dX12_order_24 : decode cX12_order 24 = .ok (.bipush 10, 2) := by decide +kernel
theorem dX12_order_26 : decode cX12_order 26 = .ok (.bipush 120, 2) := by decide +kernel
theorem dX12_order_28 : decode cX12_order 28 = .ok (.invokestatic 65, 3) := by decide +kernel
theorem dX12_order_31 : decode cX12_order 31 = .ok (.ifCond .eq 14, 3) := by decide +kernel
theorem dX12_order_34 : decode cX12_order 34 = .ok (.iload 4, 2) := by decide +kernel
theorem dX12_order_36 : decode cX12_order 36 = .ok (.iconst 0, 1) := by decide +kernel
theorem dX12_order_37 : decode cX12_order 37 = .ok (.bipush 60, 2) := by decide +kernel
theorem dX12_order_39 : decode cX12_order 39 = .ok (.invokestatic 65, 3) := by decide +kernel
theorem dX12_order_42 : decode cX12_order 42 = .ok (.ifCond .ne 9, 3) := by decide +kernel
theorem dX12_order_45 : decode cX12_order 45 = .ok (.aload_n 0, 1) := by decide +kernel
theorem dX12_order_46 : decode cX12_order 46 = .ok (.iconst 0, 1) := by decide +kernel
theorem dX12_order_47 : decode cX12_order 47 = .ok (.invokevirtual 73, 3) := by decide +kernel
theorem dX12_order_50 : decode cX12_order 50 = .ok (.ireturn, 1) := by decide +kernel
theorem dX12_order_51 : decode cX12_order 51 = .ok (.aload_n 0, 1) := by decide +kernel
theorem dX12_order_52 : decode cX12_order 52 = .ok (.getfield 7, 3) := by decide +kernel
theorem dX12_order_55 : decode cX12_order 55 = .ok (.iconst 2, 1) := by decide +kernel
theorem dX12_order_56 : decode cX12_order 56 = .ok (.iaload, 1) := by decide +kernel
theorem dX12_order_57 : decode cX12_order 57 = .ok (.bipush 24, 2) := by decide +kernel
theorem dX12_order_59 : decode cX12_order 59 = .ok (.if_icmp .ne 9, 3) := by decide +kernel
theorem dX12_order_62 : decode cX12_order 62 = .ok (.aload_n 0, 1) := by decide +kernel
theorem dX12_order_63 : decode cX12_order 63 = .ok (.iconst 1, 1) := by decide +kernel
theorem dX12_order_64 : decode cX12_order 64 = .ok (.invokevirtual 73, 3) := by decide +kernel
theorem dX12_order_67 : decode cX12_order 67 = .ok (.ireturn, 1) := by decide +kernel
theorem dX12_order_68 : decode cX12_order 68 = .ok (.sipush 312, 3) := by decide +kernel
theorem dX12_order_71 : decode cX12_order 71 = .ok (.bipush 12, 2) := by decide +kernel
theorem dX12_order_73 : decode cX12_order 73 = .ok (.aload_n 0, 1) := by decide +kernel
theorem dX12_order_74 : decode cX12_order 74 = .ok (.getfield 7, 3) := by decide +kernel
theorem dX12_order_77 : decode cX12_order 77 = .ok (.iconst 2, 1) := by decide +kernel
theorem dX12_order_78 : decode cX12_order 78 = .ok (.iaload, 1) := by decide +kernel
theorem dX12_order_79 : decode cX12_order 79 = .ok (.imul, 1) := by decide +kernel
theorem dX12_order_80 : decode cX12_order 80 = .ok (.iadd, 1) := by decide +kernel
theorem dX12_order_81 : decode cX12_order 81 = .ok (.istore 5, 2) := by decide +kernel
theorem dX12_order_83 : decode cX12_order 83 = .ok (.aload_n 0, 1) := by decide +kernel
theorem dX12_order_84 : decode cX12_order 84 = .ok (.getfield 7, 3) := by decide +kernel
theorem dX12_order_87 : decode cX12_order 87 = .ok (.iload 5, 2) := by decide +kernel
theorem dX12_order_89 : decode cX12_order 89 = .ok (.iconst 0, 1) := by decide +kernel
theorem dX12_order_90 : decode cX12_order 90 = .ok (.iadd, 1) := by decide +kernel
theorem dX12_order_91 : decode cX12_order 91 = .ok (.iload_n 1, 1) := by decide +kernel
theorem dX12_order_92 : decode cX12_order 92 = .ok (.iastore, 1) := by decide +kernel
theorem dX12_order_93 : decode cX12_order 93 = .ok (.aload_n 0, 1) := by decide +kernel
theorem dX12_order_94 : decode cX12_order 94 = .ok (.getfield 7, 3) := by decide +kernel
theorem dX12_order_97 : decode cX12_order 97 = .ok (.iload 5, 2) := by decide +kernel
theorem dX12_order_99 : decode cX12_order 99 = .ok (.iconst 1, 1) := by decide +kernel
theorem dX12_order_100 : decode cX12_order 100 = .ok (.iadd, 1) := by decide +kernel
theorem dX12_order_101 : decode cX12_order 101 = .ok (.iload_n 2, 1) := by decide +kernel
theorem dX12_order_102 : decode cX12_order 102 = .ok (.iastore, 1) := by decide +kernel
theorem dX12_order_103 : decode cX12_order 103 = .ok (.aload_n 0, 1) := by decide +kernel
theorem dX12_order_104 : decode cX12_order 104 = .ok (.getfield 7, 3) := by decide +kernel
theorem dX12_order_107 : decode cX12_order 107 = .ok (.iload 5, 2) := by decide +kernel
theorem dX12_order_109 : decode cX12_order 109 = .ok (.iconst 2, 1) := by decide +kernel
theorem dX12_order_110 : decode cX12_order 110 = .ok (.iadd, 1) := by decide +kernel
theorem dX12_order_111 : decode cX12_order 111 = .ok (.aload_n 0, 1) := by decide +kernel
theorem dX12_order_112 : decode cX12_order 112 = .ok (.getfield 7, 3) := by decide +kernel
theorem dX12_order_115 : decode cX12_order 115 = .ok (.iconst 0, 1) := by decide +kernel
theorem dX12_order_116 : decode cX12_order 116 = .ok (.iaload, 1) := by decide +kernel
theorem dX12_order_117 : decode cX12_order 117 = .ok (.iastore, 1) := by decide +kernel
theorem dX12_order_118 : decode cX12_order 118 = .ok (.aload_n 0, 1) := by decide +kernel
theorem dX12_order_119 : decode cX12_order 119 = .ok (.getfield 7, 3) := by decide +kernel
theorem dX12_order_122 : decode cX12_order 122 = .ok (.iload 5, 2) := by decide +kernel
theorem dX12_order_124 : decode cX12_order 124 = .ok (.iconst 3, 1) := by decide +kernel
theorem dX12_order_125 : decode cX12_order 125 = .ok (.iadd, 1) := by decide +kernel
theorem dX12_order_126 : decode cX12_order 126 = .ok (.iload_n 3, 1) := by decide +kernel
theorem dX12_order_127 : decode cX12_order 127 = .ok (.iastore, 1) := by decide +kernel
theorem dX12_order_128 : decode cX12_order 128 = .ok (.aload_n 0, 1) := by decide +kernel
theorem dX12_order_129 : decode cX12_order 129 = .ok (.getfield 7, 3) := by decide +kernel
theorem dX12_order_132 : decode cX12_order 132 = .ok (.iload 5, 2) := by decide +kernel
theorem dX12_order_134 : decode cX12_order 134 = .ok (.iconst 4, 1) := by decide +kernel
theorem dX12_order_135 : decode cX12_order 135 = .ok (.iadd, 1) := by decide +kernel
theorem dX12_order_136 : decode cX12_order 136 = .ok (.iload 4, 2) := by decide +kernel
theorem dX12_order_138 : decode cX12_order 138 = .ok (.iastore, 1) := by decide +kernel
theorem dX12_order_139 : decode cX12_order 139 = .ok (.aload_n 0, 1) := by decide +kernel
theorem dX12_order_140 : decode cX12_order 140 = .ok (.getfield 7, 3) := by decide +kernel
theorem dX12_order_143 : decode cX12_order 143 = .ok (.iload 5, 2) := by decide +kernel
theorem dX12_order_145 : decode cX12_order 145 = .ok (.iconst 5, 1) := by decide +kernel
theorem dX12_order_146 : decode cX12_order 146 = .ok (.iadd, 1) := by decide +kernel
theorem dX12_order_147 : decode cX12_order 147 = .ok (.iconst 0, 1) := by decide +kernel
theorem dX12_order_148 : decode cX12_order 148 = .ok (.iastore, 1) := by decide +kernel
theorem dX12_order_149 : decode cX12_order 149 = .ok (.aload_n 0, 1) := by decide +kernel
theorem dX12_order_150 : decode cX12_order 150 = .ok (.getfield 7, 3) := by decide +kernel
theorem dX12_order_153 : decode cX12_order 153 = .ok (.iconst 2, 1) := by decide +kernel
theorem dX12_order_154 : decode cX12_order 154 = .ok (.dup2, 1) := by decide +kernel
theorem dX12_order_155 : decode cX12_order 155 = .ok (.iaload, 1) := by decide +kernel
theorem dX12_order_156 : decode cX12_order 156 = .ok (.iconst 1, 1) := by decide +kernel
theorem dX12_order_157 : decode cX12_order 157 = .ok (.iadd, 1) := by decide +kernel
theorem dX12_order_158 : decode cX12_order 158 = .ok (.iastore, 1) := by decide +kernel
theorem dX12_order_159 : decode cX12_order 159 = .ok (.aload_n 0, 1) := by decide +kernel
theorem dX12_order_160 : decode cX12_order 160 = .ok (.getfield 7, 3) := by decide +kernel
theorem dX12_order_163 : decode cX12_order 163 = .ok (.iconst 2, 1) := by decide +kernel
theorem dX12_order_164 : decode cX12_order 164 = .ok (.iaload, 1) := by decide +kernel
theorem dX12_order_165 : decode cX12_order 165 = .ok (.iconst 1, 1) := by decide +kernel
theorem dX12_order_166 : decode cX12_order 166 = .ok (.isub, 1) := by decide +kernel
theorem dX12_order_167 : decode cX12_order 167 = .ok (.ireturn, 1) := by decide +kernel
theorem dX12_kitchenAt_0 : decode cX12_kitchenAt 0 = .ok (.aload_n 0, 1) := by decide +kernel
theorem dX12_kitchenAt_1 : decode cX12_kitchenAt 1 = .ok (.getfield 7, 3) := by decide +kernel
theorem dX12_kitchenAt_4 : decode cX12_kitchenAt 4 = .ok (.sipush 300, 3) := by decide +kernel
theorem dX12_kitchenAt_7 : decode cX12_kitchenAt 7 = .ok (.iconst 2, 1) := by decide +kernel
theorem dX12_kitchenAt_8 : decode cX12_kitchenAt 8 = .ok (.aload_n 0, 1) := by decide +kernel
theorem dX12_kitchenAt_9 : decode cX12_kitchenAt 9 = .ok (.iload_n 1, 1) := by decide +kernel
theorem dX12_kitchenAt_10 : decode cX12_kitchenAt 10 = .ok (.iconst 0, 1) := by decide +kernel
theorem dX12_kitchenAt_11 : decode cX12_kitchenAt 11 = .ok (.invokevirtual 99, 3) := by decide +kernel
theorem dX12_kitchenAt_14 : decode cX12_kitchenAt 14 = .ok (.imul, 1) := by decide +kernel
theorem dX12_kitchenAt_15 : decode cX12_kitchenAt 15 = .ok (.iadd, 1) := by decide +kernel
theorem dX12_kitchenAt_16 : decode cX12_kitchenAt 16 = .ok (.iaload, 1) := by decide +kernel
theorem dX12_kitchenAt_17 : decode cX12_kitchenAt 17 = .ok (.ireturn, 1) := by decide +kernel
theorem dX12_ready_0 : decode cX12_ready 0 = .ok (.aload_n 0, 1) := by decide +kernel
theorem dX12_ready_1 : decode cX12_ready 1 = .ok (.iload_n 1, 1) := by decide +kernel
theorem dX12_ready_2 : decode cX12_ready 2 = .ok (.iconst 2, 1) := by decide +kernel
theorem dX12_ready_3 : decode cX12_ready 3 = .ok (.invokevirtual 99, 3) := by decide +kernel
theorem dX12_ready_6 : decode cX12_ready 6 = .ok (.aload_n 0, 1) := by decide +kernel
theorem dX12_ready_7 : decode cX12_ready 7 = .ok (.getfield 7, 3) := by decide +kernel
theorem dX12_ready_10 : decode cX12_ready 10 = .ok (.sipush 300, 3) := by decide +kernel
theorem dX12_ready_13 : decode cX12_ready 13 = .ok (.iconst 2, 1) := by decide +kernel
theorem dX12_ready_14 : decode cX12_ready 14 = .ok (.aload_n 0, 1) := by decide +kernel
theorem dX12_ready_15 : decode cX12_ready 15 = .ok (.iload_n 1, 1) := by decide +kernel
theorem dX12_ready_16 : decode cX12_ready 16 = .ok (.iconst 0, 1) := by decide +kernel
theorem dX12_ready_17 : decode cX12_ready 17 = .ok (.invokevirtual 99, 3) := by decide +kernel
theorem dX12_ready_20 : decode cX12_ready 20 = .ok (.imul, 1) := by decide +kernel
theorem dX12_ready_21 : decode cX12_ready 21 = .ok (.iadd, 1) := by decide +kernel
theorem dX12_ready_22 : decode cX12_ready 22 = .ok (.iconst 1, 1) := by decide +kernel
theorem dX12_ready_23 : decode cX12_ready 23 = .ok (.iadd, 1) := by decide +kernel
theorem dX12_ready_24 : decode cX12_ready 24 = .ok (.iaload, 1) := by decide +kernel
theorem dX12_ready_25 : decode cX12_ready 25 = .ok (.iadd, 1) := by decide +kernel
theorem dX12_ready_26 : decode cX12_ready 26 = .ok (.aload_n 0, 1) := by decide +kernel
theorem dX12_ready_27 : decode cX12_ready 27 = .ok (.iload_n 1, 1) := by decide +kernel
theorem dX12_ready_28 : decode cX12_ready 28 = .ok (.iconst 4, 1) := by decide +kernel
theorem dX12_ready_29 : decode cX12_ready 29 = .ok (.invokevirtual 99, 3) := by decide +kernel
theorem dX12_ready_32 : decode cX12_ready 32 = .ok (.iadd, 1) := by decide +kernel
theorem dX12_ready_33 : decode cX12_ready 33 = .ok (.ireturn, 1) := by decide +kernel
theorem dX12_lateBy_0 : decode cX12_lateBy 0 = .ok (.iload_n 2, 1) := by decide +kernel
theorem dX12_lateBy_1 : decode cX12_lateBy 1 = .ok (.aload_n 0, 1) := by decide +kernel
theorem dX12_lateBy_2 : decode cX12_lateBy 2 = .ok (.iload_n 1, 1) := by decide +kernel
theorem dX12_lateBy_3 : decode cX12_lateBy 3 = .ok (.iconst 2, 1) := by decide +kernel
theorem dX12_lateBy_4 : decode cX12_lateBy 4 = .ok (.invokevirtual 99, 3) := by decide +kernel
theorem dX12_lateBy_7 : decode cX12_lateBy 7 = .ok (.isub, 1) := by decide +kernel
theorem dX12_lateBy_8 : decode cX12_lateBy 8 = .ok (.aload_n 0, 1) := by decide +kernel
theorem dX12_lateBy_9 : decode cX12_lateBy 9 = .ok (.iload_n 1, 1) := by decide +kernel
theorem dX12_lateBy_10 : decode cX12_lateBy 10 = .ok (.iconst 3, 1) := by decide +kernel
theorem dX12_lateBy_11 : decode cX12_lateBy 11 = .ok (.invokevirtual 99, 3) := by decide +kernel
theorem dX12_lateBy_14 : decode cX12_lateBy 14 = .ok (.isub, 1) := by decide +kernel
theorem dX12_lateBy_15 : decode cX12_lateBy 15 = .ok (.istore_n 3, 1) := by decide +kernel
theorem dX12_lateBy_16 : decode cX12_lateBy 16 = .ok (.iload_n 3, 1) := by decide +kernel
theorem dX12_lateBy_17 : decode cX12_lateBy 17 = .ok (.ifCond .le 7, 3) := by decide +kernel
theorem dX12_lateBy_20 : decode cX12_lateBy 20 = .ok (.iload_n 3, 1) := by decide +kernel
theorem dX12_lateBy_21 : decode cX12_lateBy 21 = .ok (.goto 4, 3) := by decide +kernel
theorem dX12_lateBy_24 : decode cX12_lateBy 24 = .ok (.iconst 0, 1) := by decide +kernel
theorem dX12_lateBy_25 : decode cX12_lateBy 25 = .ok (.ireturn, 1) := by decide +kernel
theorem dX12_lateOf_0 : decode cX12_lateOf 0 = .ok (.aload_n 0, 1) := by decide +kernel
theorem dX12_lateOf_1 : decode cX12_lateOf 1 = .ok (.iload_n 1, 1) := by decide +kernel
theorem dX12_lateOf_2 : decode cX12_lateOf 2 = .ok (.aload_n 0, 1) := by decide +kernel
theorem dX12_lateOf_3 : decode cX12_lateOf 3 = .ok (.iload_n 1, 1) := by decide +kernel
theorem dX12_lateOf_4 : decode cX12_lateOf 4 = .ok (.bipush 8, 2) := by decide +kernel
theorem dX12_lateOf_6 : decode cX12_lateOf 6 = .ok (.invokevirtual 99, 3) := by decide +kernel
theorem dX12_lateOf_9 : decode cX12_lateOf 9 = .ok (.invokevirtual 102, 3) := by decide +kernel
theorem dX12_lateOf_12 : decode cX12_lateOf 12 = .ok (.ireturn, 1) := by decide +kernel
theorem dX12_payOf_0 : decode cX12_payOf 0 = .ok (.iconst 0, 1) := by decide +kernel
theorem dX12_payOf_1 : decode cX12_payOf 1 = .ok (.istore_n 2, 1) := by decide +kernel
theorem dX12_payOf_2 : decode cX12_payOf 2 = .ok (.iconst 0, 1) := by decide +kernel
theorem dX12_payOf_3 : decode cX12_payOf 3 = .ok (.istore_n 3, 1) := by decide +kernel
theorem dX12_payOf_4 : decode cX12_payOf 4 = .ok (.iload_n 3, 1) := by decide +kernel
theorem dX12_payOf_5 : decode cX12_payOf 5 = .ok (.aload_n 0, 1) := by decide +kernel
theorem dX12_payOf_6 : decode cX12_payOf 6 = .ok (.getfield 7, 3) := by decide +kernel
theorem dX12_payOf_9 : decode cX12_payOf 9 = .ok (.bipush 7, 2) := by decide +kernel
theorem dX12_payOf_11 : decode cX12_payOf 11 = .ok (.iaload, 1) := by decide +kernel
theorem dX12_payOf_12 : decode cX12_payOf 12 = .ok (.if_icmp .ge 69, 3) := by decide +kernel
theorem dX12_payOf_15 : decode cX12_payOf 15 = .ok (.iload_n 2, 1) := by decide +kernel
theorem dX12_payOf_16 : decode cX12_payOf 16 = .ok (.aload_n 0, 1) := by decide +kernel
theorem dX12_payOf_17 : decode cX12_payOf 17 = .ok (.iload_n 1, 1) := by decide +kernel
theorem dX12_payOf_18 : decode cX12_payOf 18 = .ok (.bipush 7, 2) := by decide +kernel
theorem dX12_payOf_20 : decode cX12_payOf 20 = .ok (.invokevirtual 99, 3) := by decide +kernel
theorem dX12_payOf_23 : decode cX12_payOf 23 = .ok (.aload_n 0, 1) := by decide +kernel
theorem dX12_payOf_24 : decode cX12_payOf 24 = .ok (.getfield 7, 3) := by decide +kernel
theorem dX12_payOf_27 : decode cX12_payOf 27 = .ok (.sipush 708, 3) := by decide +kernel
theorem dX12_payOf_30 : decode cX12_payOf 30 = .ok (.iconst 3, 1) := by decide +kernel
theorem dX12_payOf_31 : decode cX12_payOf 31 = .ok (.iload_n 3, 1) := by decide +kernel
theorem dX12_payOf_32 : decode cX12_payOf 32 = .ok (.imul, 1) := by decide +kernel
theorem dX12_payOf_33 : decode cX12_payOf 33 = .ok (.iadd, 1) := by decide +kernel
theorem dX12_payOf_34 : decode cX12_payOf 34 = .ok (.iaload, 1) := by decide +kernel
theorem dX12_payOf_35 : decode cX12_payOf 35 = .ok (.aload_n 0, 1) := by decide +kernel
theorem dX12_payOf_36 : decode cX12_payOf 36 = .ok (.getfield 7, 3) := by decide +kernel
theorem dX12_payOf_39 : decode cX12_payOf 39 = .ok (.sipush 708, 3) := by decide +kernel
theorem dX12_payOf_42 : decode cX12_payOf 42 = .ok (.iconst 3, 1) := by decide +kernel
theorem dX12_payOf_43 : decode cX12_payOf 43 = .ok (.iload_n 3, 1) := by decide +kernel
theorem dX12_payOf_44 : decode cX12_payOf 44 = .ok (.imul, 1) := by decide +kernel
theorem dX12_payOf_45 : decode cX12_payOf 45 = .ok (.iadd, 1) := by decide +kernel
theorem dX12_payOf_46 : decode cX12_payOf 46 = .ok (.iconst 1, 1) := by decide +kernel
theorem dX12_payOf_47 : decode cX12_payOf 47 = .ok (.iadd, 1) := by decide +kernel
theorem dX12_payOf_48 : decode cX12_payOf 48 = .ok (.iaload, 1) := by decide +kernel
theorem dX12_payOf_49 : decode cX12_payOf 49 = .ok (.invokestatic 65, 3) := by decide +kernel
theorem dX12_payOf_52 : decode cX12_payOf 52 = .ok (.ifCond .eq 20, 3) := by decide +kernel
theorem dX12_payOf_55 : decode cX12_payOf 55 = .ok (.aload_n 0, 1) := by decide +kernel
theorem dX12_payOf_56 : decode cX12_payOf 56 = .ok (.getfield 7, 3) := by decide +kernel
theorem dX12_payOf_59 : decode cX12_payOf 59 = .ok (.sipush 708, 3) := by decide +kernel
theorem dX12_payOf_62 : decode cX12_payOf 62 = .ok (.iconst 3, 1) := by decide +kernel
theorem dX12_payOf_63 : decode cX12_payOf 63 = .ok (.iload_n 3, 1) := by decide +kernel
theorem dX12_payOf_64 : decode cX12_payOf 64 = .ok (.imul, 1) := by decide +kernel
theorem dX12_payOf_65 : decode cX12_payOf 65 = .ok (.iadd, 1) := by decide +kernel
theorem dX12_payOf_66 : decode cX12_payOf 66 = .ok (.iconst 2, 1) := by decide +kernel
theorem dX12_payOf_67 : decode cX12_payOf 67 = .ok (.iadd, 1) := by decide +kernel
theorem dX12_payOf_68 : decode cX12_payOf 68 = .ok (.iaload, 1) := by decide +kernel
theorem dX12_payOf_69 : decode cX12_payOf 69 = .ok (.goto 4, 3) := by decide +kernel
theorem dX12_payOf_72 : decode cX12_payOf 72 = .ok (.iconst 0, 1) := by decide +kernel
theorem dX12_payOf_73 : decode cX12_payOf 73 = .ok (.iadd, 1) := by decide +kernel
theorem dX12_payOf_74 : decode cX12_payOf 74 = .ok (.istore_n 2, 1) := by decide +kernel
theorem dX12_payOf_75 : decode cX12_payOf 75 = .ok (.iinc 3 1, 3) := by decide +kernel
theorem dX12_payOf_78 : decode cX12_payOf 78 = .ok (.goto (-74), 3) := by decide +kernel
theorem dX12_payOf_81 : decode cX12_payOf 81 = .ok (.aload_n 0, 1) := by decide +kernel
theorem dX12_payOf_82 : decode cX12_payOf 82 = .ok (.iload_n 1, 1) := by decide +kernel
theorem dX12_payOf_83 : decode cX12_payOf 83 = .ok (.bipush 9, 2) := by decide +kernel
theorem dX12_payOf_85 : decode cX12_payOf 85 = .ok (.invokevirtual 99, 3) := by decide +kernel
theorem dX12_payOf_88 : decode cX12_payOf 88 = .ok (.aload_n 0, 1) := by decide +kernel
theorem dX12_payOf_89 : decode cX12_payOf 89 = .ok (.iload_n 1, 1) := by decide +kernel
theorem dX12_payOf_90 : decode cX12_payOf 90 = .ok (.bipush 9, 2) := by decide +kernel
theorem dX12_payOf_92 : decode cX12_payOf 92 = .ok (.invokevirtual 99, 3) := by decide +kernel
theorem dX12_payOf_95 : decode cX12_payOf 95 = .ok (.iload_n 2, 1) := by decide +kernel
theorem dX12_payOf_96 : decode cX12_payOf 96 = .ok (.imul, 1) := by decide +kernel
theorem dX12_payOf_97 : decode cX12_payOf 97 = .ok (.bipush 100, 2) := by decide +kernel
theorem dX12_payOf_99 : decode cX12_payOf 99 = .ok (.idiv, 1) := by decide +kernel
theorem dX12_payOf_100 : decode cX12_payOf 100 = .ok (.iadd, 1) := by decide +kernel
theorem dX12_payOf_101 : decode cX12_payOf 101 = .ok (.ireturn, 1) := by decide +kernel
theorem dX12_lack_0 : decode cX12_lack 0 = .ok (.aload_n 0, 1) := by decide +kernel
theorem dX12_lack_1 : decode cX12_lack 1 = .ok (.iload_n 1, 1) := by decide +kernel
theorem dX12_lack_2 : decode cX12_lack 2 = .ok (.iconst 4, 1) := by decide +kernel
theorem dX12_lack_3 : decode cX12_lack 3 = .ok (.invokevirtual 99, 3) := by decide +kernel
theorem dX12_lack_6 : decode cX12_lack 6 = .ok (.iconst 5, 1) := by decide +kernel
theorem dX12_lack_7 : decode cX12_lack 7 = .ok (.idiv, 1) := by decide +kernel
theorem dX12_lack_8 : decode cX12_lack 8 = .ok (.istore_n 3, 1) := by decide +kernel
theorem dX12_lack_9 : decode cX12_lack 9 = .ok (.aload_n 0, 1) := by decide +kernel
theorem dX12_lack_10 : decode cX12_lack 10 = .ok (.iload_n 1, 1) := by decide +kernel
theorem dX12_lack_11 : decode cX12_lack 11 = .ok (.invokevirtual 105, 3) := by decide +kernel
theorem dX12_lack_14 : decode cX12_lack 14 = .ok (.iconst 5, 1) := by decide +kernel
theorem dX12_lack_15 : decode cX12_lack 15 = .ok (.idiv, 1) := by decide +kernel
theorem dX12_lack_16 : decode cX12_lack 16 = .ok (.iload_n 3, 1) := by decide +kernel
theorem dX12_lack_17 : decode cX12_lack 17 = .ok (.isub, 1) := by decide +kernel
theorem dX12_lack_18 : decode cX12_lack 18 = .ok (.istore 4, 2) := by decide +kernel
theorem dX12_lack_20 : decode cX12_lack 20 = .ok (.iload_n 2, 1) := by decide +kernel
theorem dX12_lack_21 : decode cX12_lack 21 = .ok (.ifCond .ne 7, 3) := by decide +kernel
theorem dX12_lack_24 : decode cX12_lack 24 = .ok (.iload_n 3, 1) := by decide +kernel
theorem dX12_lack_25 : decode cX12_lack 25 = .ok (.goto 37, 3) := by decide +kernel
theorem dX12_lack_28 : decode cX12_lack 28 = .ok (.iload_n 2, 1) := by decide +kernel
theorem dX12_lack_29 : decode cX12_lack 29 = .ok (.iconst 1, 1) := by decide +kernel
theorem dX12_lack_30 : decode cX12_lack 30 = .ok (.if_icmp .ne 17, 3) := by decide +kernel
theorem dX12_lack_33 : decode cX12_lack 33 = .ok (.iload 4, 2) := by decide +kernel
theorem dX12_lack_35 : decode cX12_lack 35 = .ok (.ifCond .le 8, 3) := by decide +kernel
theorem dX12_lack_38 : decode cX12_lack 38 = .ok (.iload 4, 2) := by decide +kernel
theorem dX12_lack_40 : decode cX12_lack 40 = .ok (.goto 22, 3) := by decide +kernel
theorem dX12_lack_43 : decode cX12_lack 43 = .ok (.iconst 0, 1) := by decide +kernel
theorem dX12_lack_44 : decode cX12_lack 44 = .ok (.goto 18, 3) := by decide +kernel
theorem dX12_lack_47 : decode cX12_lack 47 = .ok (.aload_n 0, 1) := by decide +kernel
theorem dX12_lack_48 : decode cX12_lack 48 = .ok (.iload_n 1, 1) := by decide +kernel
theorem dX12_lack_49 : decode cX12_lack 49 = .ok (.bipush 7, 2) := by decide +kernel
theorem dX12_lack_51 : decode cX12_lack 51 = .ok (.invokevirtual 99, 3) := by decide +kernel
theorem dX12_lack_54 : decode cX12_lack 54 = .ok (.aload_n 0, 1) := by decide +kernel
theorem dX12_lack_55 : decode cX12_lack 55 = .ok (.iload_n 1, 1) := by decide +kernel
theorem dX12_lack_56 : decode cX12_lack 56 = .ok (.invokevirtual 108, 3) := by decide +kernel
theorem dX12_lack_59 : decode cX12_lack 59 = .ok (.isub, 1) := by decide +kernel
theorem dX12_lack_60 : decode cX12_lack 60 = .ok (.iconst 4, 1) := by decide +kernel
theorem dX12_lack_61 : decode cX12_lack 61 = .ok (.idiv, 1) := by decide +kernel
theorem dX12_lack_62 : decode cX12_lack 62 = .ok (.ireturn, 1) := by decide +kernel
theorem dX12_lessOf50_0 : decode cX12_lessOf50 0 = .ok (.iload_n 0, 1) := by decide +kernel
theorem dX12_lessOf50_1 : decode cX12_lessOf50 1 = .ok (.bipush 50, 2) := by decide +kernel
theorem dX12_lessOf50_3 : decode cX12_lessOf50 3 = .ok (.if_icmp .ge 10, 3) := by decide +kernel
theorem dX12_lessOf50_6 : decode cX12_lessOf50 6 = .ok (.bipush 50, 2) := by decide +kernel
theorem dX12_lessOf50_8 : decode cX12_lessOf50 8 = .ok (.iload_n 0, 1) := by decide +kernel
theorem dX12_lessOf50_9 : decode cX12_lessOf50 9 = .ok (.isub, 1) := by decide +kernel
theorem dX12_lessOf50_10 : decode cX12_lessOf50 10 = .ok (.goto 4, 3) := by decide +kernel
theorem dX12_lessOf50_13 : decode cX12_lessOf50 13 = .ok (.iconst 0, 1) := by decide +kernel
theorem dX12_lessOf50_14 : decode cX12_lessOf50 14 = .ok (.ireturn, 1) := by decide +kernel
theorem dX12_ratingOf_0 : decode cX12_ratingOf 0 = .ok (.aload_n 0, 1) := by decide +kernel
theorem dX12_ratingOf_1 : decode cX12_ratingOf 1 = .ok (.iload_n 1, 1) := by decide +kernel
theorem dX12_ratingOf_2 : decode cX12_ratingOf 2 = .ok (.iconst 0, 1) := by decide +kernel
theorem dX12_ratingOf_3 : decode cX12_ratingOf 3 = .ok (.invokevirtual 111, 3) := by decide +kernel
theorem dX12_ratingOf_6 : decode cX12_ratingOf 6 = .ok (.aload_n 0, 1) := by decide +kernel
theorem dX12_ratingOf_7 : decode cX12_ratingOf 7 = .ok (.iload_n 1, 1) := by decide +kernel
theorem dX12_ratingOf_8 : decode cX12_ratingOf 8 = .ok (.iconst 1, 1) := by decide +kernel
theorem dX12_ratingOf_9 : decode cX12_ratingOf 9 = .ok (.invokevirtual 111, 3) := by decide +kernel
theorem dX12_ratingOf_12 : decode cX12_ratingOf 12 = .ok (.iadd, 1) := by decide +kernel
theorem dX12_ratingOf_13 : decode cX12_ratingOf 13 = .ok (.aload_n 0, 1) := by decide +kernel
theorem dX12_ratingOf_14 : decode cX12_ratingOf 14 = .ok (.iload_n 1, 1) := by decide +kernel
theorem dX12_ratingOf_15 : decode cX12_ratingOf 15 = .ok (.iconst 2, 1) := by decide +kernel
theorem dX12_ratingOf_16 : decode cX12_ratingOf 16 = .ok (.invokevirtual 111, 3) := by decide +kernel
theorem dX12_ratingOf_19 : decode cX12_ratingOf 19 = .ok (.iadd, 1) := by decide +kernel
theorem dX12_ratingOf_20 : decode cX12_ratingOf 20 = .ok (.invokestatic 114, 3) := by decide +kernel
theorem dX12_ratingOf_23 : decode cX12_ratingOf 23 = .ok (.ireturn, 1) := by decide +kernel
theorem dX12_isGiven_0 : decode cX12_isGiven 0 = .ok (.aload_n 0, 1) := by decide +kernel
theorem dX12_isGiven_1 : decode cX12_isGiven 1 = .ok (.iload_n 1, 1) := by decide +kernel
theorem dX12_isGiven_2 : decode cX12_isGiven 2 = .ok (.iconst 5, 1) := by decide +kernel
theorem dX12_isGiven_3 : decode cX12_isGiven 3 = .ok (.invokevirtual 99, 3) := by decide +kernel
theorem dX12_isGiven_6 : decode cX12_isGiven 6 = .ok (.iconst 1, 1) := by decide +kernel
theorem dX12_isGiven_7 : decode cX12_isGiven 7 = .ok (.if_icmp .ne 7, 3) := by decide +kernel
theorem dX12_isGiven_10 : decode cX12_isGiven 10 = .ok (.iconst 1, 1) := by decide +kernel
theorem dX12_isGiven_11 : decode cX12_isGiven 11 = .ok (.goto 4, 3) := by decide +kernel
theorem dX12_isGiven_14 : decode cX12_isGiven 14 = .ok (.iconst 0, 1) := by decide +kernel
theorem dX12_isGiven_15 : decode cX12_isGiven 15 = .ok (.ireturn, 1) := by decide +kernel
theorem dX12_isWaiting_0 : decode cX12_isWaiting 0 = .ok (.aload_n 0, 1) := by decide +kernel
theorem dX12_isWaiting_1 : decode cX12_isWaiting 1 = .ok (.iload_n 1, 1) := by decide +kernel
theorem dX12_isWaiting_2 : decode cX12_isWaiting 2 = .ok (.iconst 5, 1) := by decide +kernel
theorem dX12_isWaiting_3 : decode cX12_isWaiting 3 = .ok (.invokevirtual 99, 3) := by decide +kernel
theorem dX12_isWaiting_6 : decode cX12_isWaiting 6 = .ok (.ifCond .ne 7, 3) := by decide +kernel
theorem dX12_isWaiting_9 : decode cX12_isWaiting 9 = .ok (.iconst 1, 1) := by decide +kernel
theorem dX12_isWaiting_10 : decode cX12_isWaiting 10 = .ok (.goto 4, 3) := by decide +kernel
theorem dX12_isWaiting_13 : decode cX12_isWaiting 13 = .ok (.iconst 0, 1) := by decide +kernel
theorem dX12_isWaiting_14 : decode cX12_isWaiting 14 = .ok (.ireturn, 1) := by decide +kernel
theorem dX12_orderOf_0 : decode cX12_orderOf 0 = .ok (.aload_n 0, 1) := by decide +kernel
theorem dX12_orderOf_1 : decode cX12_orderOf 1 = .ok (.iload_n 1, 1) := by decide +kernel
theorem dX12_orderOf_2 : decode cX12_orderOf 2 = .ok (.invokevirtual 117, 3) := by decide +kernel
theorem dX12_orderOf_5 : decode cX12_orderOf 5 = .ok (.ifCond .eq 13, 3) := by decide +kernel
theorem dX12_orderOf_8 : decode cX12_orderOf 8 = .ok (.iload_n 2, 1) := by decide +kernel
theorem dX12_orderOf_9 : decode cX12_orderOf 9 = .ok (.iconst 0, 1) := by decide +kernel
theorem dX12_orderOf_10 : decode cX12_orderOf 10 = .ok (.bipush 10, 2) := by decide +kernel
theorem dX12_orderOf_12 : decode cX12_orderOf 12 = .ok (.invokestatic 65, 3) := by decide +kernel
theorem dX12_orderOf_15 : decode cX12_orderOf 15 = .ok (.ifCond .ne 9, 3) := by decide +kernel
theorem dX12_orderOf_18 : decode cX12_orderOf 18 = .ok (.aload_n 0, 1) := by decide +kernel
theorem dX12_orderOf_19 : decode cX12_orderOf 19 = .ok (.iconst 0, 1) := by decide +kernel
theorem dX12_orderOf_20 : decode cX12_orderOf 20 = .ok (.invokevirtual 73, 3) := by decide +kernel
theorem dX12_orderOf_23 : decode cX12_orderOf 23 = .ok (.ireturn, 1) := by decide +kernel
theorem dX12_orderOf_24 : decode cX12_orderOf 24 = .ok (.iload_n 2, 1) := by decide +kernel
theorem dX12_orderOf_25 : decode cX12_orderOf 25 = .ok (.iconst 4, 1) := by decide +kernel
theorem dX12_orderOf_26 : decode cX12_orderOf 26 = .ok (.if_icmp .le 17, 3) := by decide +kernel
theorem dX12_orderOf_29 : decode cX12_orderOf 29 = .ok (.aload_n 0, 1) := by decide +kernel
theorem dX12_orderOf_30 : decode cX12_orderOf 30 = .ok (.iload_n 1, 1) := by decide +kernel
theorem dX12_orderOf_31 : decode cX12_orderOf 31 = .ok (.invokevirtual 120, 3) := by decide +kernel
theorem dX12_orderOf_34 : decode cX12_orderOf 34 = .ok (.ifCond .ne 9, 3) := by decide +kernel
theorem dX12_orderOf_37 : decode cX12_orderOf 37 = .ok (.aload_n 0, 1) := by decide +kernel
theorem dX12_orderOf_38 : decode cX12_orderOf 38 = .ok (.iconst 3, 1) := by decide +kernel
theorem dX12_orderOf_39 : decode cX12_orderOf 39 = .ok (.invokevirtual 73, 3) := by decide +kernel
theorem dX12_orderOf_42 : decode cX12_orderOf 42 = .ok (.ireturn, 1) := by decide +kernel
theorem dX12_orderOf_43 : decode cX12_orderOf 43 = .ok (.iload_n 2, 1) := by decide +kernel
theorem dX12_orderOf_44 : decode cX12_orderOf 44 = .ok (.tableswitch 112 0 9 #[56, 56, 56, 63, 69, 76, 84, 92, 100, 106], 56) := by decide +kernel
theorem dX12_orderOf_100 : decode cX12_orderOf 100 = .ok (.aload_n 0, 1) := by decide +kernel
theorem dX12_orderOf_101 : decode cX12_orderOf 101 = .ok (.iload_n 1, 1) := by decide +kernel
theorem dX12_orderOf_102 : decode cX12_orderOf 102 = .ok (.iload_n 2, 1) := by decide +kernel
theorem dX12_orderOf_103 : decode cX12_orderOf 103 = .ok (.invokevirtual 99, 3) := by decide +kernel
theorem dX12_orderOf_106 : decode cX12_orderOf 106 = .ok (.ireturn, 1) := by decide +kernel
theorem dX12_orderOf_107 : decode cX12_orderOf 107 = .ok (.aload_n 0, 1) := by decide +kernel
theorem dX12_orderOf_108 : decode cX12_orderOf 108 = .ok (.iload_n 1, 1) := by decide +kernel
theorem dX12_orderOf_109 : decode cX12_orderOf 109 = .ok (.invokevirtual 108, 3) := by decide +kernel
theorem dX12_orderOf_112 : decode cX12_orderOf 112 = .ok (.ireturn, 1) := by decide +kernel
theorem dX12_orderOf_113 : decode cX12_orderOf 113 = .ok (.aload_n 0, 1) := by decide +kernel
theorem dX12_orderOf_114 : decode cX12_orderOf 114 = .ok (.iload_n 1, 1) := by decide +kernel
theorem dX12_orderOf_115 : decode cX12_orderOf 115 = .ok (.iconst 5, 1) := by decide +kernel
theorem dX12_orderOf_116 : decode cX12_orderOf 116 = .ok (.invokevirtual 99, 3) := by decide +kernel
theorem dX12_orderOf_119 : decode cX12_orderOf 119 = .ok (.ireturn, 1) := by decide +kernel
theorem dX12_orderOf_120 : decode cX12_orderOf 120 = .ok (.aload_n 0, 1) := by decide +kernel
theorem dX12_orderOf_121 : decode cX12_orderOf 121 = .ok (.iload_n 1, 1) := by decide +kernel
theorem dX12_orderOf_122 : decode cX12_orderOf 122 = .ok (.bipush 6, 2) := by decide +kernel
theorem dX12_orderOf_124 : decode cX12_orderOf 124 = .ok (.invokevirtual 99, 3) := by decide +kernel
theorem dX12_orderOf_127 : decode cX12_orderOf 127 = .ok (.ireturn, 1) := by decide +kernel
theorem dX12_orderOf_128 : decode cX12_orderOf 128 = .ok (.aload_n 0, 1) := by decide +kernel
theorem dX12_orderOf_129 : decode cX12_orderOf 129 = .ok (.iload_n 1, 1) := by decide +kernel
theorem dX12_orderOf_130 : decode cX12_orderOf 130 = .ok (.bipush 7, 2) := by decide +kernel
theorem dX12_orderOf_132 : decode cX12_orderOf 132 = .ok (.invokevirtual 99, 3) := by decide +kernel
theorem dX12_orderOf_135 : decode cX12_orderOf 135 = .ok (.ireturn, 1) := by decide +kernel
theorem dX12_orderOf_136 : decode cX12_orderOf 136 = .ok (.aload_n 0, 1) := by decide +kernel
theorem dX12_orderOf_137 : decode cX12_orderOf 137 = .ok (.iload_n 1, 1) := by decide +kernel
theorem dX12_orderOf_138 : decode cX12_orderOf 138 = .ok (.bipush 8, 2) := by decide +kernel
theorem dX12_orderOf_140 : decode cX12_orderOf 140 = .ok (.invokevirtual 99, 3) := by decide +kernel
theorem dX12_orderOf_143 : decode cX12_orderOf 143 = .ok (.ireturn, 1) := by decide +kernel
theorem dX12_orderOf_144 : decode cX12_orderOf 144 = .ok (.aload_n 0, 1) := by decide +kernel
theorem dX12_orderOf_145 : decode cX12_orderOf 145 = .ok (.iload_n 1, 1) := by decide +kernel
theorem dX12_orderOf_146 : decode cX12_orderOf 146 = .ok (.invokevirtual 105, 3) := by decide +kernel
theorem dX12_orderOf_149 : decode cX12_orderOf 149 = .ok (.ireturn, 1) := by decide +kernel
theorem dX12_orderOf_150 : decode cX12_orderOf 150 = .ok (.aload_n 0, 1) := by decide +kernel
theorem dX12_orderOf_151 : decode cX12_orderOf 151 = .ok (.iload_n 1, 1) := by decide +kernel
theorem dX12_orderOf_152 : decode cX12_orderOf 152 = .ok (.invokevirtual 123, 3) := by decide +kernel
theorem dX12_orderOf_155 : decode cX12_orderOf 155 = .ok (.ireturn, 1) := by decide +kernel
theorem dX12_orderOf_156 : decode cX12_orderOf 156 = .ok (.aload_n 0, 1) := by decide +kernel
theorem dX12_orderOf_157 : decode cX12_orderOf 157 = .ok (.iload_n 1, 1) := by decide +kernel
theorem dX12_orderOf_158 : decode cX12_orderOf 158 = .ok (.invokevirtual 126, 3) := by decide +kernel
theorem dX12_orderOf_161 : decode cX12_orderOf 161 = .ok (.ireturn, 1) := by decide +kernel
theorem dX12_callOff_0 : decode cX12_callOff 0 = .ok (.aload_n 0, 1) := by decide +kernel
theorem dX12_callOff_1 : decode cX12_callOff 1 = .ok (.iload_n 1, 1) := by decide +kernel
theorem dX12_callOff_2 : decode cX12_callOff 2 = .ok (.invokevirtual 117, 3) := by decide +kernel
theorem dX12_callOff_5 : decode cX12_callOff 5 = .ok (.ifCond .ne 9, 3) := by decide +kernel
theorem dX12_callOff_8 : decode cX12_callOff 8 = .ok (.aload_n 0, 1) := by decide +kernel
theorem dX12_callOff_9 : decode cX12_callOff 9 = .ok (.iconst 0, 1) := by decide +kernel
theorem dX12_callOff_10 : decode cX12_callOff 10 = .ok (.invokevirtual 73, 3) := by decide +kernel
theorem dX12_callOff_13 : decode cX12_callOff 13 = .ok (.ireturn, 1) := by decide +kernel
theorem dX12_callOff_14 : decode cX12_callOff 14 = .ok (.aload_n 0, 1) := by decide +kernel
theorem dX12_callOff_15 : decode cX12_callOff 15 = .ok (.iload_n 1, 1) := by decide +kernel
theorem dX12_callOff_16 : decode cX12_callOff 16 = .ok (.invokevirtual 129, 3) := by decide +kernel
theorem dX12_callOff_19 : decode cX12_callOff 19 = .ok (.ifCond .ne 9, 3) := by decide +kernel
theorem dX12_callOff_22 : decode cX12_callOff 22 = .ok (.aload_n 0, 1) := by decide +kernel
theorem dX12_callOff_23 : decode cX12_callOff 23 = .ok (.iconst 4, 1) := by decide +kernel
theorem dX12_callOff_24 : decode cX12_callOff 24 = .ok (.invokevirtual 73, 3) := by decide +kernel
theorem dX12_callOff_27 : decode cX12_callOff 27 = .ok (.ireturn, 1) := by decide +kernel
theorem dX12_callOff_28 : decode cX12_callOff 28 = .ok (.aload_n 0, 1) := by decide +kernel
theorem dX12_callOff_29 : decode cX12_callOff 29 = .ok (.getfield 7, 3) := by decide +kernel
theorem dX12_callOff_32 : decode cX12_callOff 32 = .ok (.sipush 312, 3) := by decide +kernel
theorem dX12_callOff_35 : decode cX12_callOff 35 = .ok (.bipush 12, 2) := by decide +kernel
theorem dX12_callOff_37 : decode cX12_callOff 37 = .ok (.iload_n 1, 1) := by decide +kernel
theorem dX12_callOff_38 : decode cX12_callOff 38 = .ok (.imul, 1) := by decide +kernel
theorem dX12_callOff_39 : decode cX12_callOff 39 = .ok (.iadd, 1) := by decide +kernel
theorem dX12_callOff_40 : decode cX12_callOff 40 = .ok (.iconst 5, 1) := by decide +kernel
theorem dX12_callOff_41 : decode cX12_callOff 41 = .ok (.iadd, 1) := by decide +kernel
theorem dX12_callOff_42 : decode cX12_callOff 42 = .ok (.iconst 2, 1) := by decide +kernel
theorem dX12_callOff_43 : decode cX12_callOff 43 = .ok (.iastore, 1) := by decide +kernel
theorem dX12_callOff_44 : decode cX12_callOff 44 = .ok (.iconst 1, 1) := by decide +kernel
theorem dX12_callOff_45 : decode cX12_callOff 45 = .ok (.ireturn, 1) := by decide +kernel
theorem dX12_rider_0 : decode cX12_rider 0 = .ok (.iload_n 1, 1) := by decide +kernel
theorem dX12_rider_1 : decode cX12_rider 1 = .ok (.iconst 0, 1) := by decide +kernel
theorem dX12_rider_2 : decode cX12_rider 2 = .ok (.bipush 6, 2) := by decide +kernel
theorem dX12_rider_4 : decode cX12_rider 4 = .ok (.invokestatic 65, 3) := by decide +kernel
theorem dX12_rider_7 : decode cX12_rider 7 = .ok (.ifCond .eq 10, 3) := by decide +kernel
theorem dX12_rider_10 : decode cX12_rider 10 = .ok (.iload_n 2, 1) := by decide +kernel
theorem dX12_rider_11 : decode cX12_rider 11 = .ok (.invokestatic 69, 3) := by decide +kernel
theorem dX12_rider_14 : decode cX12_rider 14 = .ok (.ifCond .ne 9, 3) := by decide +kernel
theorem dX12_rider_17 : decode cX12_rider 17 = .ok (.aload_n 0, 1) := by decide +kernel
theorem dX12_rider_18 : decode cX12_rider 18 = .ok (.iconst 0, 1) := by decide +kernel
theorem dX12_rider_19 : decode cX12_rider 19 = .ok (.invokevirtual 73, 3) := by decide +kernel
theorem dX12_rider_22 : decode cX12_rider 22 = .ok (.ireturn, 1) := by decide +kernel
theorem dX12_rider_23 : decode cX12_rider 23 = .ok (.aload_n 0, 1) := by decide +kernel
theorem dX12_rider_24 : decode cX12_rider 24 = .ok (.getfield 7, 3) := by decide +kernel
theorem dX12_rider_27 : decode cX12_rider 27 = .ok (.iconst 3, 1) := by decide +kernel
theorem dX12_rider_28 : decode cX12_rider 28 = .ok (.iaload, 1) := by decide +kernel
theorem dX12_rider_29 : decode cX12_rider 29 = .ok (.bipush 12, 2) := by decide +kernel
theorem dX12_rider_31 : decode cX12_rider 31 = .ok (.if_icmp .ne 9, 3) := by decide +kernel
theorem dX12_rider_34 : decode cX12_rider 34 = .ok (.aload_n 0, 1) := by decide +kernel
theorem dX12_rider_35 : decode cX12_rider 35 = .ok (.iconst 1, 1) := by decide +kernel
theorem dX12_rider_36 : decode cX12_rider 36 = .ok (.invokevirtual 73, 3) := by decide +kernel
theorem dX12_rider_39 : decode cX12_rider 39 = .ok (.ireturn, 1) := by decide +kernel
theorem dX12_rider_40 : decode cX12_rider 40 = .ok (.sipush 600, 3) := by decide +kernel
theorem dX12_rider_43 : decode cX12_rider 43 = .ok (.bipush 8, 2) := by decide +kernel
theorem dX12_rider_45 : decode cX12_rider 45 = .ok (.aload_n 0, 1) := by decide +kernel
theorem dX12_rider_46 : decode cX12_rider 46 = .ok (.getfield 7, 3) := by decide +kernel
theorem dX12_rider_49 : decode cX12_rider 49 = .ok (.iconst 3, 1) := by decide +kernel
theorem dX12_rider_50 : decode cX12_rider 50 = .ok (.iaload, 1) := by decide +kernel
theorem dX12_rider_51 : decode cX12_rider 51 = .ok (.imul, 1) := by decide +kernel
theorem dX12_rider_52 : decode cX12_rider 52 = .ok (.iadd, 1) := by decide +kernel
theorem dX12_rider_53 : decode cX12_rider 53 = .ok (.istore_n 3, 1) := by decide +kernel
theorem dX12_rider_54 : decode cX12_rider 54 = .ok (.aload_n 0, 1) := by decide +kernel
theorem dX12_rider_55 : decode cX12_rider 55 = .ok (.getfield 7, 3) := by decide +kernel
theorem dX12_rider_58 : decode cX12_rider 58 = .ok (.iload_n 3, 1) := by decide +kernel
theorem dX12_rider_59 : decode cX12_rider 59 = .ok (.iconst 0, 1) := by decide +kernel
theorem dX12_rider_60 : decode cX12_rider 60 = .ok (.iadd, 1) := by decide +kernel
theorem dX12_rider_61 : decode cX12_rider 61 = .ok (.iload_n 1, 1) := by decide +kernel
theorem dX12_rider_62 : decode cX12_rider 62 = .ok (.iastore, 1) := by decide +kernel
theorem dX12_rider_63 : decode cX12_rider 63 = .ok (.aload_n 0, 1) := by decide +kernel
theorem dX12_rider_64 : decode cX12_rider 64 = .ok (.getfield 7, 3) := by decide +kernel
theorem dX12_rider_67 : decode cX12_rider 67 = .ok (.iload_n 3, 1) := by decide +kernel
theorem dX12_rider_68 : decode cX12_rider 68 = .ok (.iconst 1, 1) := by decide +kernel
theorem dX12_rider_69 : decode cX12_rider 69 = .ok (.iadd, 1) := by decide +kernel
theorem dX12_rider_70 : decode cX12_rider 70 = .ok (.iload_n 2, 1) := by decide +kernel
theorem dX12_rider_71 : decode cX12_rider 71 = .ok (.iastore, 1) := by decide +kernel
theorem dX12_rider_72 : decode cX12_rider 72 = .ok (.aload_n 0, 1) := by decide +kernel
theorem dX12_rider_73 : decode cX12_rider 73 = .ok (.getfield 7, 3) := by decide +kernel
theorem dX12_rider_76 : decode cX12_rider 76 = .ok (.iload_n 3, 1) := by decide +kernel
theorem dX12_rider_77 : decode cX12_rider 77 = .ok (.iconst 2, 1) := by decide +kernel
theorem dX12_rider_78 : decode cX12_rider 78 = .ok (.iadd, 1) := by decide +kernel
theorem dX12_rider_79 : decode cX12_rider 79 = .ok (.aload_n 0, 1) := by decide +kernel
theorem dX12_rider_80 : decode cX12_rider 80 = .ok (.getfield 7, 3) := by decide +kernel
theorem dX12_rider_83 : decode cX12_rider 83 = .ok (.iconst 0, 1) := by decide +kernel
theorem dX12_rider_84 : decode cX12_rider 84 = .ok (.iaload, 1) := by decide +kernel
theorem dX12_rider_85 : decode cX12_rider 85 = .ok (.iastore, 1) := by decide +kernel
theorem dX12_rider_86 : decode cX12_rider 86 = .ok (.aload_n 0, 1) := by decide +kernel
theorem dX12_rider_87 : decode cX12_rider 87 = .ok (.getfield 7, 3) := by decide +kernel
theorem dX12_rider_90 : decode cX12_rider 90 = .ok (.iload_n 3, 1) := by decide +kernel
theorem dX12_rider_91 : decode cX12_rider 91 = .ok (.iconst 3, 1) := by decide +kernel
theorem dX12_rider_92 : decode cX12_rider 92 = .ok (.iadd, 1) := by decide +kernel
theorem dX12_rider_93 : decode cX12_rider 93 = .ok (.iconst 0, 1) := by decide +kernel
theorem dX12_rider_94 : decode cX12_rider 94 = .ok (.iastore, 1) := by decide +kernel
theorem dX12_rider_95 : decode cX12_rider 95 = .ok (.aload_n 0, 1) := by decide +kernel
theorem dX12_rider_96 : decode cX12_rider 96 = .ok (.getfield 7, 3) := by decide +kernel
theorem dX12_rider_99 : decode cX12_rider 99 = .ok (.iload_n 3, 1) := by decide +kernel
theorem dX12_rider_100 : decode cX12_rider 100 = .ok (.iconst 4, 1) := by decide +kernel
theorem dX12_rider_101 : decode cX12_rider 101 = .ok (.iadd, 1) := by decide +kernel
theorem dX12_rider_102 : decode cX12_rider 102 = .ok (.iload_n 2, 1) := by decide +kernel
theorem dX12_rider_103 : decode cX12_rider 103 = .ok (.iastore, 1) := by decide +kernel
theorem dX12_rider_104 : decode cX12_rider 104 = .ok (.aload_n 0, 1) := by decide +kernel
theorem dX12_rider_105 : decode cX12_rider 105 = .ok (.getfield 7, 3) := by decide +kernel
theorem dX12_rider_108 : decode cX12_rider 108 = .ok (.iload_n 3, 1) := by decide +kernel
theorem dX12_rider_109 : decode cX12_rider 109 = .ok (.iconst 5, 1) := by decide +kernel
theorem dX12_rider_110 : decode cX12_rider 110 = .ok (.iadd, 1) := by decide +kernel
theorem dX12_rider_111 : decode cX12_rider 111 = .ok (.aload_n 0, 1) := by decide +kernel
theorem dX12_rider_112 : decode cX12_rider 112 = .ok (.getfield 7, 3) := by decide +kernel
theorem dX12_rider_115 : decode cX12_rider 115 = .ok (.iconst 0, 1) := by decide +kernel
theorem dX12_rider_116 : decode cX12_rider 116 = .ok (.iaload, 1) := by decide +kernel
theorem dX12_rider_117 : decode cX12_rider 117 = .ok (.iastore, 1) := by decide +kernel
theorem dX12_rider_118 : decode cX12_rider 118 = .ok (.aload_n 0, 1) := by decide +kernel
theorem dX12_rider_119 : decode cX12_rider 119 = .ok (.getfield 7, 3) := by decide +kernel
theorem dX12_rider_122 : decode cX12_rider 122 = .ok (.iconst 3, 1) := by decide +kernel
theorem dX12_rider_123 : decode cX12_rider 123 = .ok (.dup2, 1) := by decide +kernel
theorem dX12_rider_124 : decode cX12_rider 124 = .ok (.iaload, 1) := by decide +kernel
theorem dX12_rider_125 : decode cX12_rider 125 = .ok (.iconst 1, 1) := by decide +kernel
theorem dX12_rider_126 : decode cX12_rider 126 = .ok (.iadd, 1) := by decide +kernel
theorem dX12_rider_127 : decode cX12_rider 127 = .ok (.iastore, 1) := by decide +kernel
theorem dX12_rider_128 : decode cX12_rider 128 = .ok (.aload_n 0, 1) := by decide +kernel
theorem dX12_rider_129 : decode cX12_rider 129 = .ok (.getfield 7, 3) := by decide +kernel
theorem dX12_rider_132 : decode cX12_rider 132 = .ok (.iconst 3, 1) := by decide +kernel
theorem dX12_rider_133 : decode cX12_rider 133 = .ok (.iaload, 1) := by decide +kernel
theorem dX12_rider_134 : decode cX12_rider 134 = .ok (.iconst 1, 1) := by decide +kernel
theorem dX12_rider_135 : decode cX12_rider 135 = .ok (.isub, 1) := by decide +kernel
theorem dX12_rider_136 : decode cX12_rider 136 = .ok (.ireturn, 1) := by decide +kernel
theorem dX12_isHis_0 : decode cX12_isHis 0 = .ok (.aload_n 0, 1) := by decide +kernel
theorem dX12_isHis_1 : decode cX12_isHis 1 = .ok (.iload_n 2, 1) := by decide +kernel
theorem dX12_isHis_2 : decode cX12_isHis 2 = .ok (.invokevirtual 120, 3) := by decide +kernel
theorem dX12_isHis_5 : decode cX12_isHis 5 = .ok (.ifCond .eq 18, 3) := by decide +kernel
theorem dX12_isHis_8 : decode cX12_isHis 8 = .ok (.aload_n 0, 1) := by decide +kernel
theorem dX12_isHis_9 : decode cX12_isHis 9 = .ok (.iload_n 2, 1) := by decide +kernel
theorem dX12_isHis_10 : decode cX12_isHis 10 = .ok (.bipush 6, 2) := by decide +kernel
theorem dX12_isHis_12 : decode cX12_isHis 12 = .ok (.invokevirtual 99, 3) := by decide +kernel
theorem dX12_isHis_15 : decode cX12_isHis 15 = .ok (.iload_n 1, 1) := by decide +kernel
theorem dX12_isHis_16 : decode cX12_isHis 16 = .ok (.if_icmp .ne 7, 3) := by decide +kernel
theorem dX12_isHis_19 : decode cX12_isHis 19 = .ok (.iconst 1, 1) := by decide +kernel
theorem dX12_isHis_20 : decode cX12_isHis 20 = .ok (.goto 4, 3) := by decide +kernel
theorem dX12_isHis_23 : decode cX12_isHis 23 = .ok (.iconst 0, 1) := by decide +kernel
theorem dX12_isHis_24 : decode cX12_isHis 24 = .ok (.ireturn, 1) := by decide +kernel
theorem dX12_payOfAll_0 : decode cX12_payOfAll 0 = .ok (.iconst 0, 1) := by decide +kernel
theorem dX12_payOfAll_1 : decode cX12_payOfAll 1 = .ok (.istore_n 2, 1) := by decide +kernel
theorem dX12_payOfAll_2 : decode cX12_payOfAll 2 = .ok (.iconst 0, 1) := by decide +kernel
theorem dX12_payOfAll_3 : decode cX12_payOfAll 3 = .ok (.istore_n 3, 1) := by decide +kernel
theorem dX12_payOfAll_4 : decode cX12_payOfAll 4 = .ok (.iload_n 3, 1) := by decide +kernel
theorem dX12_payOfAll_5 : decode cX12_payOfAll 5 = .ok (.aload_n 0, 1) := by decide +kernel
theorem dX12_payOfAll_6 : decode cX12_payOfAll 6 = .ok (.getfield 7, 3) := by decide +kernel
theorem dX12_payOfAll_9 : decode cX12_payOfAll 9 = .ok (.iconst 2, 1) := by decide +kernel
theorem dX12_payOfAll_10 : decode cX12_payOfAll 10 = .ok (.iaload, 1) := by decide +kernel
theorem dX12_payOfAll_11 : decode cX12_payOfAll 11 = .ok (.if_icmp .ge 30, 3) := by decide +kernel
theorem dX12_payOfAll_14 : decode cX12_payOfAll 14 = .ok (.iload_n 2, 1) := by decide +kernel
theorem dX12_payOfAll_15 : decode cX12_payOfAll 15 = .ok (.aload_n 0, 1) := by decide +kernel
theorem dX12_payOfAll_16 : decode cX12_payOfAll 16 = .ok (.iload_n 1, 1) := by decide +kernel
theorem dX12_payOfAll_17 : decode cX12_payOfAll 17 = .ok (.iload_n 3, 1) := by decide +kernel
theorem dX12_payOfAll_18 : decode cX12_payOfAll 18 = .ok (.invokevirtual 132, 3) := by decide +kernel
theorem dX12_payOfAll_21 : decode cX12_payOfAll 21 = .ok (.ifCond .eq 11, 3) := by decide +kernel
theorem dX12_payOfAll_24 : decode cX12_payOfAll 24 = .ok (.aload_n 0, 1) := by decide +kernel
theorem dX12_payOfAll_25 : decode cX12_payOfAll 25 = .ok (.iload_n 3, 1) := by decide +kernel
theorem dX12_payOfAll_26 : decode cX12_payOfAll 26 = .ok (.invokevirtual 123, 3) := by decide +kernel
theorem dX12_payOfAll_29 : decode cX12_payOfAll 29 = .ok (.goto 4, 3) := by decide +kernel
theorem dX12_payOfAll_32 : decode cX12_payOfAll 32 = .ok (.iconst 0, 1) := by decide +kernel
theorem dX12_payOfAll_33 : decode cX12_payOfAll 33 = .ok (.iadd, 1) := by decide +kernel
theorem dX12_payOfAll_34 : decode cX12_payOfAll 34 = .ok (.istore_n 2, 1) := by decide +kernel
theorem dX12_payOfAll_35 : decode cX12_payOfAll 35 = .ok (.iinc 3 1, 3) := by decide +kernel
theorem dX12_payOfAll_38 : decode cX12_payOfAll 38 = .ok (.goto (-34), 3) := by decide +kernel
theorem dX12_payOfAll_41 : decode cX12_payOfAll 41 = .ok (.iload_n 2, 1) := by decide +kernel
theorem dX12_payOfAll_42 : decode cX12_payOfAll 42 = .ok (.ireturn, 1) := by decide +kernel
theorem dX12_ratingOfRider_0 : decode cX12_ratingOfRider 0 = .ok (.iconst 0, 1) := by decide +kernel
theorem dX12_ratingOfRider_1 : decode cX12_ratingOfRider 1 = .ok (.istore_n 2, 1) := by decide +kernel
theorem dX12_ratingOfRider_2 : decode cX12_ratingOfRider 2 = .ok (.iconst 0, 1) := by decide +kernel
theorem dX12_ratingOfRider_3 : decode cX12_ratingOfRider 3 = .ok (.istore_n 3, 1) := by decide +kernel
theorem dX12_ratingOfRider_4 : decode cX12_ratingOfRider 4 = .ok (.iload_n 3, 1) := by decide +kernel
theorem dX12_ratingOfRider_5 : decode cX12_ratingOfRider 5 = .ok (.aload_n 0, 1) := by decide +kernel
theorem dX12_ratingOfRider_6 : decode cX12_ratingOfRider 6 = .ok (.getfield 7, 3) := by decide +kernel
theorem dX12_ratingOfRider_9 : decode cX12_ratingOfRider 9 = .ok (.iconst 2, 1) := by decide +kernel
theorem dX12_ratingOfRider_10 : decode cX12_ratingOfRider 10 = .ok (.iaload, 1) := by decide +kernel
theorem dX12_ratingOfRider_11 : decode cX12_ratingOfRider 11 = .ok (.if_icmp .ge 30, 3) := by decide +kernel
theorem dX12_ratingOfRider_14 : decode cX12_ratingOfRider 14 = .ok (.iload_n 2, 1) := by decide +kernel
theorem dX12_ratingOfRider_15 : decode cX12_ratingOfRider 15 = .ok (.aload_n 0, 1) := by decide +kernel
theorem dX12_ratingOfRider_16 : decode cX12_ratingOfRider 16 = .ok (.iload_n 1, 1) := by decide +kernel
theorem dX12_ratingOfRider_17 : decode cX12_ratingOfRider 17 = .ok (.iload_n 3, 1) := by decide +kernel
theorem dX12_ratingOfRider_18 : decode cX12_ratingOfRider 18 = .ok (.invokevirtual 132, 3) := by decide +kernel
theorem dX12_ratingOfRider_21 : decode cX12_ratingOfRider 21 = .ok (.ifCond .eq 11, 3) := by decide +kernel
theorem dX12_ratingOfRider_24 : decode cX12_ratingOfRider 24 = .ok (.aload_n 0, 1) := by decide +kernel
theorem dX12_ratingOfRider_25 : decode cX12_ratingOfRider 25 = .ok (.iload_n 3, 1) := by decide +kernel
theorem dX12_ratingOfRider_26 : decode cX12_ratingOfRider 26 = .ok (.invokevirtual 126, 3) := by decide +kernel
theorem dX12_ratingOfRider_29 : decode cX12_ratingOfRider 29 = .ok (.goto 4, 3) := by decide +kernel
theorem dX12_ratingOfRider_32 : decode cX12_ratingOfRider 32 = .ok (.iconst 0, 1) := by decide +kernel
theorem dX12_ratingOfRider_33 : decode cX12_ratingOfRider 33 = .ok (.iadd, 1) := by decide +kernel
theorem dX12_ratingOfRider_34 : decode cX12_ratingOfRider 34 = .ok (.istore_n 2, 1) := by decide +kernel
theorem dX12_ratingOfRider_35 : decode cX12_ratingOfRider 35 = .ok (.iinc 3 1, 3) := by decide +kernel
theorem dX12_ratingOfRider_38 : decode cX12_ratingOfRider 38 = .ok (.goto (-34), 3) := by decide +kernel
theorem dX12_ratingOfRider_41 : decode cX12_ratingOfRider 41 = .ok (.aload_n 0, 1) := by decide +kernel
theorem dX12_ratingOfRider_42 : decode cX12_ratingOfRider 42 = .ok (.iload_n 1, 1) := by decide +kernel
theorem dX12_ratingOfRider_43 : decode cX12_ratingOfRider 43 = .ok (.iconst 3, 1) := by decide +kernel
theorem dX12_ratingOfRider_44 : decode cX12_ratingOfRider 44 = .ok (.invokevirtual 136, 3) := by decide +kernel
theorem dX12_ratingOfRider_47 : decode cX12_ratingOfRider 47 = .ok (.ifCond .ne 8, 3) := by decide +kernel
theorem dX12_ratingOfRider_50 : decode cX12_ratingOfRider 50 = .ok (.bipush 25, 2) := by decide +kernel
theorem dX12_ratingOfRider_52 : decode cX12_ratingOfRider 52 = .ok (.goto 11, 3) := by decide +kernel
theorem dX12_ratingOfRider_55 : decode cX12_ratingOfRider 55 = .ok (.iload_n 2, 1) := by decide +kernel
theorem dX12_ratingOfRider_56 : decode cX12_ratingOfRider 56 = .ok (.aload_n 0, 1) := by decide +kernel
theorem dX12_ratingOfRider_57 : decode cX12_ratingOfRider 57 = .ok (.iload_n 1, 1) := by decide +kernel
theorem dX12_ratingOfRider_58 : decode cX12_ratingOfRider 58 = .ok (.iconst 3, 1) := by decide +kernel
theorem dX12_ratingOfRider_59 : decode cX12_ratingOfRider 59 = .ok (.invokevirtual 136, 3) := by decide +kernel
theorem dX12_ratingOfRider_62 : decode cX12_ratingOfRider 62 = .ok (.idiv, 1) := by decide +kernel
theorem dX12_ratingOfRider_63 : decode cX12_ratingOfRider 63 = .ok (.ireturn, 1) := by decide +kernel
theorem dX12_engaged_0 : decode cX12_engaged 0 = .ok (.iconst 0, 1) := by decide +kernel
theorem dX12_engaged_1 : decode cX12_engaged 1 = .ok (.istore_n 2, 1) := by decide +kernel
theorem dX12_engaged_2 : decode cX12_engaged 2 = .ok (.iconst 0, 1) := by decide +kernel
theorem dX12_engaged_3 : decode cX12_engaged 3 = .ok (.istore_n 3, 1) := by decide +kernel
theorem dX12_engaged_4 : decode cX12_engaged 4 = .ok (.iload_n 3, 1) := by decide +kernel
theorem dX12_engaged_5 : decode cX12_engaged 5 = .ok (.aload_n 0, 1) := by decide +kernel
theorem dX12_engaged_6 : decode cX12_engaged 6 = .ok (.getfield 7, 3) := by decide +kernel
theorem dX12_engaged_9 : decode cX12_engaged 9 = .ok (.bipush 10, 2) := by decide +kernel
theorem dX12_engaged_11 : decode cX12_engaged 11 = .ok (.iaload, 1) := by decide +kernel
theorem dX12_engaged_12 : decode cX12_engaged 12 = .ok (.if_icmp .ge 61, 3) := by decide +kernel
theorem dX12_engaged_15 : decode cX12_engaged 15 = .ok (.iload_n 2, 1) := by decide +kernel
theorem dX12_engaged_16 : decode cX12_engaged 16 = .ok (.aload_n 0, 1) := by decide +kernel
theorem dX12_engaged_17 : decode cX12_engaged 17 = .ok (.getfield 7, 3) := by decide +kernel
theorem dX12_engaged_20 : decode cX12_engaged 20 = .ok (.sipush 894, 3) := by decide +kernel
theorem dX12_engaged_23 : decode cX12_engaged 23 = .ok (.iconst 3, 1) := by decide +kernel
theorem dX12_engaged_24 : decode cX12_engaged 24 = .ok (.iload_n 3, 1) := by decide +kernel
theorem dX12_engaged_25 : decode cX12_engaged 25 = .ok (.imul, 1) := by decide +kernel
theorem dX12_engaged_26 : decode cX12_engaged 26 = .ok (.iadd, 1) := by decide +kernel
theorem dX12_engaged_27 : decode cX12_engaged 27 = .ok (.iaload, 1) := by decide +kernel
theorem dX12_engaged_28 : decode cX12_engaged 28 = .ok (.iload_n 1, 1) := by decide +kernel
theorem dX12_engaged_29 : decode cX12_engaged 29 = .ok (.if_icmp .ne 35, 3) := by decide +kernel
theorem dX12_engaged_32 : decode cX12_engaged 32 = .ok (.aload_n 0, 1) := by decide +kernel
theorem dX12_engaged_33 : decode cX12_engaged 33 = .ok (.getfield 7, 3) := by decide +kernel
theorem dX12_engaged_36 : decode cX12_engaged 36 = .ok (.sipush 894, 3) := by decide +kernel
theorem dX12_engaged_39 : decode cX12_engaged 39 = .ok (.iconst 3, 1) := by decide +kernel
theorem dX12_engaged_40 : decode cX12_engaged 40 = .ok (.iload_n 3, 1) := by decide +kernel
theorem dX12_engaged_41 : decode cX12_engaged 41 = .ok (.imul, 1) := by decide +kernel
theorem dX12_engaged_42 : decode cX12_engaged 42 = .ok (.iadd, 1) := by decide +kernel
theorem dX12_engaged_43 : decode cX12_engaged 43 = .ok (.iconst 2, 1) := by decide +kernel
theorem dX12_engaged_44 : decode cX12_engaged 44 = .ok (.iadd, 1) := by decide +kernel
theorem dX12_engaged_45 : decode cX12_engaged 45 = .ok (.iaload, 1) := by decide +kernel
theorem dX12_engaged_46 : decode cX12_engaged 46 = .ok (.aload_n 0, 1) := by decide +kernel
theorem dX12_engaged_47 : decode cX12_engaged 47 = .ok (.getfield 7, 3) := by decide +kernel
theorem dX12_engaged_50 : decode cX12_engaged 50 = .ok (.sipush 894, 3) := by decide +kernel
theorem dX12_engaged_53 : decode cX12_engaged 53 = .ok (.iconst 3, 1) := by decide +kernel
theorem dX12_engaged_54 : decode cX12_engaged 54 = .ok (.iload_n 3, 1) := by decide +kernel
theorem dX12_engaged_55 : decode cX12_engaged 55 = .ok (.imul, 1) := by decide +kernel
theorem dX12_engaged_56 : decode cX12_engaged 56 = .ok (.iadd, 1) := by decide +kernel
theorem dX12_engaged_57 : decode cX12_engaged 57 = .ok (.iconst 1, 1) := by decide +kernel
theorem dX12_engaged_58 : decode cX12_engaged 58 = .ok (.iadd, 1) := by decide +kernel
theorem dX12_engaged_59 : decode cX12_engaged 59 = .ok (.iaload, 1) := by decide +kernel
theorem dX12_engaged_60 : decode cX12_engaged 60 = .ok (.isub, 1) := by decide +kernel
theorem dX12_engaged_61 : decode cX12_engaged 61 = .ok (.goto 4, 3) := by decide +kernel
theorem dX12_engaged_64 : decode cX12_engaged 64 = .ok (.iconst 0, 1) := by decide +kernel
theorem dX12_engaged_65 : decode cX12_engaged 65 = .ok (.iadd, 1) := by decide +kernel
theorem dX12_engaged_66 : decode cX12_engaged 66 = .ok (.istore_n 2, 1) := by decide +kernel
theorem dX12_engaged_67 : decode cX12_engaged 67 = .ok (.iinc 3 1, 3) := by decide +kernel
theorem dX12_engaged_70 : decode cX12_engaged 70 = .ok (.goto (-66), 3) := by decide +kernel
theorem dX12_engaged_73 : decode cX12_engaged 73 = .ok (.iload_n 2, 1) := by decide +kernel
theorem dX12_engaged_74 : decode cX12_engaged 74 = .ok (.ireturn, 1) := by decide +kernel
theorem dX12_refusals_0 : decode cX12_refusals 0 = .ok (.iconst 0, 1) := by decide +kernel
theorem dX12_refusals_1 : decode cX12_refusals 1 = .ok (.istore_n 2, 1) := by decide +kernel
theorem dX12_refusals_2 : decode cX12_refusals 2 = .ok (.iconst 0, 1) := by decide +kernel
theorem dX12_refusals_3 : decode cX12_refusals 3 = .ok (.istore_n 3, 1) := by decide +kernel
theorem dX12_refusals_4 : decode cX12_refusals 4 = .ok (.iload_n 3, 1) := by decide +kernel
theorem dX12_refusals_5 : decode cX12_refusals 5 = .ok (.bipush 24, 2) := by decide +kernel
theorem dX12_refusals_7 : decode cX12_refusals 7 = .ok (.if_icmp .ge 26, 3) := by decide +kernel
theorem dX12_refusals_10 : decode cX12_refusals 10 = .ok (.iload_n 2, 1) := by decide +kernel
theorem dX12_refusals_11 : decode cX12_refusals 11 = .ok (.aload_n 0, 1) := by decide +kernel
theorem dX12_refusals_12 : decode cX12_refusals 12 = .ok (.getfield 7, 3) := by decide +kernel
theorem dX12_refusals_15 : decode cX12_refusals 15 = .ok (.sipush 696, 3) := by decide +kernel
theorem dX12_refusals_18 : decode cX12_refusals 18 = .ok (.iload_n 1, 1) := by decide +kernel
theorem dX12_refusals_19 : decode cX12_refusals 19 = .ok (.iadd, 1) := by decide +kernel
theorem dX12_refusals_20 : decode cX12_refusals 20 = .ok (.iaload, 1) := by decide +kernel
theorem dX12_refusals_21 : decode cX12_refusals 21 = .ok (.iload_n 3, 1) := by decide +kernel
theorem dX12_refusals_22 : decode cX12_refusals 22 = .ok (.ishr, 1) := by decide +kernel
theorem dX12_refusals_23 : decode cX12_refusals 23 = .ok (.iconst 1, 1) := by decide +kernel
theorem dX12_refusals_24 : decode cX12_refusals 24 = .ok (.iand, 1) := by decide +kernel
theorem dX12_refusals_25 : decode cX12_refusals 25 = .ok (.iadd, 1) := by decide +kernel
theorem dX12_refusals_26 : decode cX12_refusals 26 = .ok (.istore_n 2, 1) := by decide +kernel
theorem dX12_refusals_27 : decode cX12_refusals 27 = .ok (.iinc 3 1, 3) := by decide +kernel
theorem dX12_refusals_30 : decode cX12_refusals 30 = .ok (.goto (-26), 3) := by decide +kernel
theorem dX12_refusals_33 : decode cX12_refusals 33 = .ok (.iload_n 2, 1) := by decide +kernel
theorem dX12_refusals_34 : decode cX12_refusals 34 = .ok (.ireturn, 1) := by decide +kernel
theorem dX12_riderOf_0 : decode cX12_riderOf 0 = .ok (.aload_n 0, 1) := by decide +kernel
theorem dX12_riderOf_1 : decode cX12_riderOf 1 = .ok (.iload_n 1, 1) := by decide +kernel
theorem dX12_riderOf_2 : decode cX12_riderOf 2 = .ok (.invokevirtual 139, 3) := by decide +kernel
theorem dX12_riderOf_5 : decode cX12_riderOf 5 = .ok (.ifCond .eq 13, 3) := by decide +kernel
theorem dX12_riderOf_8 : decode cX12_riderOf 8 = .ok (.iload_n 2, 1) := by decide +kernel
theorem dX12_riderOf_9 : decode cX12_riderOf 9 = .ok (.iconst 0, 1) := by decide +kernel
theorem dX12_riderOf_10 : decode cX12_riderOf 10 = .ok (.bipush 7, 2) := by decide +kernel
theorem dX12_riderOf_12 : decode cX12_riderOf 12 = .ok (.invokestatic 65, 3) := by decide +kernel
theorem dX12_riderOf_15 : decode cX12_riderOf 15 = .ok (.ifCond .ne 9, 3) := by decide +kernel
theorem dX12_riderOf_18 : decode cX12_riderOf 18 = .ok (.aload_n 0, 1) := by decide +kernel
theorem dX12_riderOf_19 : decode cX12_riderOf 19 = .ok (.iconst 0, 1) := by decide +kernel
theorem dX12_riderOf_20 : decode cX12_riderOf 20 = .ok (.invokevirtual 73, 3) := by decide +kernel
theorem dX12_riderOf_23 : decode cX12_riderOf 23 = .ok (.ireturn, 1) := by decide +kernel
theorem dX12_riderOf_24 : decode cX12_riderOf 24 = .ok (.iload_n 2, 1) := by decide +kernel
theorem dX12_riderOf_25 : decode cX12_riderOf 25 = .ok (.tableswitch 55 4 7 #[31, 37, 43, 49], 31) := by decide +kernel
theorem dX12_riderOf_56 : decode cX12_riderOf 56 = .ok (.aload_n 0, 1) := by decide +kernel
theorem dX12_riderOf_57 : decode cX12_riderOf 57 = .ok (.iload_n 1, 1) := by decide +kernel
theorem dX12_riderOf_58 : decode cX12_riderOf 58 = .ok (.invokevirtual 142, 3) := by decide +kernel
theorem dX12_riderOf_61 : decode cX12_riderOf 61 = .ok (.ireturn, 1) := by decide +kernel
theorem dX12_riderOf_62 : decode cX12_riderOf 62 = .ok (.aload_n 0, 1) := by decide +kernel
theorem dX12_riderOf_63 : decode cX12_riderOf 63 = .ok (.iload_n 1, 1) := by decide +kernel
theorem dX12_riderOf_64 : decode cX12_riderOf 64 = .ok (.invokevirtual 145, 3) := by decide +kernel
theorem dX12_riderOf_67 : decode cX12_riderOf 67 = .ok (.ireturn, 1) := by decide +kernel
theorem dX12_riderOf_68 : decode cX12_riderOf 68 = .ok (.aload_n 0, 1) := by decide +kernel
theorem dX12_riderOf_69 : decode cX12_riderOf 69 = .ok (.iload_n 1, 1) := by decide +kernel
theorem dX12_riderOf_70 : decode cX12_riderOf 70 = .ok (.invokevirtual 148, 3) := by decide +kernel
theorem dX12_riderOf_73 : decode cX12_riderOf 73 = .ok (.ireturn, 1) := by decide +kernel
theorem dX12_riderOf_74 : decode cX12_riderOf 74 = .ok (.aload_n 0, 1) := by decide +kernel
theorem dX12_riderOf_75 : decode cX12_riderOf 75 = .ok (.iload_n 1, 1) := by decide +kernel
theorem dX12_riderOf_76 : decode cX12_riderOf 76 = .ok (.invokevirtual 151, 3) := by decide +kernel
theorem dX12_riderOf_79 : decode cX12_riderOf 79 = .ok (.ireturn, 1) := by decide +kernel
theorem dX12_riderOf_80 : decode cX12_riderOf 80 = .ok (.aload_n 0, 1) := by decide +kernel
theorem dX12_riderOf_81 : decode cX12_riderOf 81 = .ok (.iload_n 1, 1) := by decide +kernel
theorem dX12_riderOf_82 : decode cX12_riderOf 82 = .ok (.iload_n 2, 1) := by decide +kernel
theorem dX12_riderOf_83 : decode cX12_riderOf 83 = .ok (.invokevirtual 136, 3) := by decide +kernel
theorem dX12_riderOf_86 : decode cX12_riderOf 86 = .ok (.ireturn, 1) := by decide +kernel
theorem dX12_minutesFor_0 : decode cX12_minutesFor 0 = .ok (.iload_n 1, 1) := by decide +kernel
theorem dX12_minutesFor_1 : decode cX12_minutesFor 1 = .ok (.ifCond .ge 5, 3) := by decide +kernel
theorem dX12_minutesFor_4 : decode cX12_minutesFor 4 = .ok (.iconst (-1), 1) := by decide +kernel
theorem dX12_minutesFor_5 : decode cX12_minutesFor 5 = .ok (.ireturn, 1) := by decide +kernel
theorem dX12_minutesFor_6 : decode cX12_minutesFor 6 = .ok (.iconst 3, 1) := by decide +kernel
theorem dX12_minutesFor_7 : decode cX12_minutesFor 7 = .ok (.iload_n 1, 1) := by decide +kernel
theorem dX12_minutesFor_8 : decode cX12_minutesFor 8 = .ok (.imul, 1) := by decide +kernel
theorem dX12_minutesFor_9 : decode cX12_minutesFor 9 = .ok (.iconst 3, 1) := by decide +kernel
theorem dX12_minutesFor_10 : decode cX12_minutesFor 10 = .ok (.iadd, 1) := by decide +kernel
theorem dX12_minutesFor_11 : decode cX12_minutesFor 11 = .ok (.iconst 4, 1) := by decide +kernel
theorem dX12_minutesFor_12 : decode cX12_minutesFor 12 = .ok (.idiv, 1) := by decide +kernel
theorem dX12_minutesFor_13 : decode cX12_minutesFor 13 = .ok (.istore_n 2, 1) := by decide +kernel
theorem dX12_minutesFor_14 : decode cX12_minutesFor 14 = .ok (.iload_n 0, 1) := by decide +kernel
theorem dX12_minutesFor_15 : decode cX12_minutesFor 15 = .ok (.tableswitch 86 1 6 #[37, 39, 47, 51, 86, 72], 37) := by decide +kernel
theorem dX12_minutesFor_52 : decode cX12_minutesFor 52 = .ok (.iload_n 2, 1) := by decide +kernel
theorem dX12_minutesFor_53 : decode cX12_minutesFor 53 = .ok (.ireturn, 1) := by decide +kernel
theorem dX12_minutesFor_54 : decode cX12_minutesFor 54 = .ok (.iload_n 1, 1) := by decide +kernel
theorem dX12_minutesFor_55 : decode cX12_minutesFor 55 = .ok (.iconst 1, 1) := by decide +kernel
theorem dX12_minutesFor_56 : decode cX12_minutesFor 56 = .ok (.iadd, 1) := by decide +kernel
theorem dX12_minutesFor_57 : decode cX12_minutesFor 57 = .ok (.iconst 2, 1) := by decide +kernel
theorem dX12_minutesFor_58 : decode cX12_minutesFor 58 = .ok (.idiv, 1) := by decide +kernel
theorem dX12_minutesFor_59 : decode cX12_minutesFor 59 = .ok (.iconst 3, 1) := by decide +kernel
theorem dX12_minutesFor_60 : decode cX12_minutesFor 60 = .ok (.iadd, 1) := by decide +kernel
theorem dX12_minutesFor_61 : decode cX12_minutesFor 61 = .ok (.ireturn, 1) := by decide +kernel
theorem dX12_minutesFor_62 : decode cX12_minutesFor 62 = .ok (.iconst 2, 1) := by decide +kernel
theorem dX12_minutesFor_63 : decode cX12_minutesFor 63 = .ok (.iload_n 1, 1) := by decide +kernel
theorem dX12_minutesFor_64 : decode cX12_minutesFor 64 = .ok (.imul, 1) := by decide +kernel
theorem dX12_minutesFor_65 : decode cX12_minutesFor 65 = .ok (.ireturn, 1) := by decide +kernel
theorem dX12_minutesFor_66 : decode cX12_minutesFor 66 = .ok (.iload_n 1, 1) := by decide +kernel
theorem dX12_minutesFor_67 : decode cX12_minutesFor 67 = .ok (.ifCond .ne 7, 3) := by decide +kernel
theorem dX12_minutesFor_70 : decode cX12_minutesFor 70 = .ok (.iconst 0, 1) := by decide +kernel
theorem dX12_minutesFor_71 : decode cX12_minutesFor 71 = .ok (.goto 15, 3) := by decide +kernel
theorem dX12_minutesFor_74 : decode cX12_minutesFor 74 = .ok (.iload_n 2, 1) := by decide +kernel
theorem dX12_minutesFor_75 : decode cX12_minutesFor 75 = .ok (.iconst 1, 1) := by decide +kernel
theorem dX12_minutesFor_76 : decode cX12_minutesFor 76 = .ok (.if_icmp .le 9, 3) := by decide +kernel
theorem dX12_minutesFor_79 : decode cX12_minutesFor 79 = .ok (.iload_n 2, 1) := by decide +kernel
theorem dX12_minutesFor_80 : decode cX12_minutesFor 80 = .ok (.iconst 1, 1) := by decide +kernel
theorem dX12_minutesFor_81 : decode cX12_minutesFor 81 = .ok (.isub, 1) := by decide +kernel
theorem dX12_minutesFor_82 : decode cX12_minutesFor 82 = .ok (.goto 4, 3) := by decide +kernel
theorem dX12_minutesFor_85 : decode cX12_minutesFor 85 = .ok (.iconst 1, 1) := by decide +kernel
theorem dX12_minutesFor_86 : decode cX12_minutesFor 86 = .ok (.ireturn, 1) := by decide +kernel
theorem dX12_minutesFor_87 : decode cX12_minutesFor 87 = .ok (.iload_n 1, 1) := by decide +kernel
theorem dX12_minutesFor_88 : decode cX12_minutesFor 88 = .ok (.ifCond .ne 7, 3) := by decide +kernel
theorem dX12_minutesFor_91 : decode cX12_minutesFor 91 = .ok (.iconst 0, 1) := by decide +kernel
theorem dX12_minutesFor_92 : decode cX12_minutesFor 92 = .ok (.goto 8, 3) := by decide +kernel
theorem dX12_minutesFor_95 : decode cX12_minutesFor 95 = .ok (.iconst 2, 1) := by decide +kernel
theorem dX12_minutesFor_96 : decode cX12_minutesFor 96 = .ok (.iload_n 1, 1) := by decide +kernel
theorem dX12_minutesFor_97 : decode cX12_minutesFor 97 = .ok (.imul, 1) := by decide +kernel
theorem dX12_minutesFor_98 : decode cX12_minutesFor 98 = .ok (.iconst 2, 1) := by decide +kernel
theorem dX12_minutesFor_99 : decode cX12_minutesFor 99 = .ok (.iadd, 1) := by decide +kernel
theorem dX12_minutesFor_100 : decode cX12_minutesFor 100 = .ok (.ireturn, 1) := by decide +kernel
theorem dX12_minutesFor_101 : decode cX12_minutesFor 101 = .ok (.iload_n 1, 1) := by decide +kernel
theorem dX12_minutesFor_102 : decode cX12_minutesFor 102 = .ok (.ireturn, 1) := by decide +kernel
theorem dX12_goesOf_0 : decode cX12_goesOf 0 = .ok (.iload_n 1, 1) := by decide +kernel
theorem dX12_goesOf_1 : decode cX12_goesOf 1 = .ok (.aload_n 0, 1) := by decide +kernel
theorem dX12_goesOf_2 : decode cX12_goesOf 2 = .ok (.iload_n 2, 1) := by decide +kernel
theorem dX12_goesOf_3 : decode cX12_goesOf 3 = .ok (.iload_n 3, 1) := by decide +kernel
theorem dX12_goesOf_4 : decode cX12_goesOf 4 = .ok (.invokevirtual 96, 3) := by decide +kernel
theorem dX12_goesOf_7 : decode cX12_goesOf 7 = .ok (.invokestatic 154, 3) := by decide +kernel
theorem dX12_goesOf_10 : decode cX12_goesOf 10 = .ok (.ireturn, 1) := by decide +kernel
theorem dX12_goes_0 : decode cX12_goes 0 = .ok (.aload_n 0, 1) := by decide +kernel
theorem dX12_goes_1 : decode cX12_goes 1 = .ok (.iload_n 1, 1) := by decide +kernel
theorem dX12_goes_2 : decode cX12_goes 2 = .ok (.invokevirtual 139, 3) := by decide +kernel
theorem dX12_goes_5 : decode cX12_goes 5 = .ok (.ifCond .eq 17, 3) := by decide +kernel
theorem dX12_goes_8 : decode cX12_goes 8 = .ok (.iload_n 2, 1) := by decide +kernel
theorem dX12_goes_9 : decode cX12_goes 9 = .ok (.invokestatic 69, 3) := by decide +kernel
theorem dX12_goes_12 : decode cX12_goes 12 = .ok (.ifCond .eq 10, 3) := by decide +kernel
theorem dX12_goes_15 : decode cX12_goes 15 = .ok (.iload_n 3, 1) := by decide +kernel
theorem dX12_goes_16 : decode cX12_goes 16 = .ok (.invokestatic 69, 3) := by decide +kernel
theorem dX12_goes_19 : decode cX12_goes 19 = .ok (.ifCond .ne 9, 3) := by decide +kernel
theorem dX12_goes_22 : decode cX12_goes 22 = .ok (.aload_n 0, 1) := by decide +kernel
theorem dX12_goes_23 : decode cX12_goes 23 = .ok (.iconst 0, 1) := by decide +kernel
theorem dX12_goes_24 : decode cX12_goes 24 = .ok (.invokevirtual 73, 3) := by decide +kernel
theorem dX12_goes_27 : decode cX12_goes 27 = .ok (.ireturn, 1) := by decide +kernel
theorem dX12_goes_28 : decode cX12_goes 28 = .ok (.aload_n 0, 1) := by decide +kernel
theorem dX12_goes_29 : decode cX12_goes 29 = .ok (.aload_n 0, 1) := by decide +kernel
theorem dX12_goes_30 : decode cX12_goes 30 = .ok (.iload_n 1, 1) := by decide +kernel
theorem dX12_goes_31 : decode cX12_goes 31 = .ok (.iconst 0, 1) := by decide +kernel
theorem dX12_goes_32 : decode cX12_goes 32 = .ok (.invokevirtual 136, 3) := by decide +kernel
theorem dX12_goes_35 : decode cX12_goes 35 = .ok (.iload_n 2, 1) := by decide +kernel
theorem dX12_goes_36 : decode cX12_goes 36 = .ok (.iload_n 3, 1) := by decide +kernel
theorem dX12_goes_37 : decode cX12_goes 37 = .ok (.invokevirtual 157, 3) := by decide +kernel
theorem dX12_goes_40 : decode cX12_goes 40 = .ok (.istore 4, 2) := by decide +kernel
theorem dX12_goes_42 : decode cX12_goes 42 = .ok (.aload_n 0, 1) := by decide +kernel
theorem dX12_goes_43 : decode cX12_goes 43 = .ok (.iload_n 2, 1) := by decide +kernel
theorem dX12_goes_44 : decode cX12_goes 44 = .ok (.iload_n 3, 1) := by decide +kernel
theorem dX12_goes_45 : decode cX12_goes 45 = .ok (.invokevirtual 96, 3) := by decide +kernel
theorem dX12_goes_48 : decode cX12_goes 48 = .ok (.ifCond .ge 11, 3) := by decide +kernel
theorem dX12_goes_51 : decode cX12_goes 51 = .ok (.aload_n 0, 1) := by decide +kernel
theorem dX12_goes_52 : decode cX12_goes 52 = .ok (.iconst 3, 1) := by decide +kernel
theorem dX12_goes_53 : decode cX12_goes 53 = .ok (.invokevirtual 73, 3) := by decide +kernel
theorem dX12_goes_56 : decode cX12_goes 56 = .ok (.goto 5, 3) := by decide +kernel
theorem dX12_goes_59 : decode cX12_goes 59 = .ok (.iload 4, 2) := by decide +kernel
theorem dX12_goes_61 : decode cX12_goes 61 = .ok (.ireturn, 1) := by decide +kernel
theorem dX12_ride_0 : decode cX12_ride 0 = .ok (.aload_n 0, 1) := by decide +kernel
theorem dX12_ride_1 : decode cX12_ride 1 = .ok (.aload_n 0, 1) := by decide +kernel
theorem dX12_ride_2 : decode cX12_ride 2 = .ok (.getfield 160, 3) := by decide +kernel
theorem dX12_ride_5 : decode cX12_ride 5 = .ok (.ifCond .eq 19, 3) := by decide +kernel
theorem dX12_ride_8 : decode cX12_ride 8 = .ok (.aload_n 0, 1) := by decide +kernel
theorem dX12_ride_9 : decode cX12_ride 9 = .ok (.aload_n 0, 1) := by decide +kernel
theorem dX12_ride_10 : decode cX12_ride 10 = .ok (.getfield 163, 3) := by decide +kernel
theorem dX12_ride_13 : decode cX12_ride 13 = .ok (.iload_n 2, 1) := by decide +kernel
theorem dX12_ride_14 : decode cX12_ride 14 = .ok (.invokevirtual 96, 3) := by decide +kernel
theorem dX12_ride_17 : decode cX12_ride 17 = .ok (.ifCond .lt 7, 3) := by decide +kernel
theorem dX12_ride_20 : decode cX12_ride 20 = .ok (.iconst 1, 1) := by decide +kernel
theorem dX12_ride_21 : decode cX12_ride 21 = .ok (.goto 4, 3) := by decide +kernel
theorem dX12_ride_24 : decode cX12_ride 24 = .ok (.iconst 0, 1) := by decide +kernel
theorem dX12_ride_25 : decode cX12_ride 25 = .ok (.putfield 160, 3) := by decide +kernel
theorem dX12_ride_28 : decode cX12_ride 28 = .ok (.aload_n 0, 1) := by decide +kernel
theorem dX12_ride_29 : decode cX12_ride 29 = .ok (.dup, 1) := by decide +kernel
theorem dX12_ride_30 : decode cX12_ride 30 = .ok (.getfield 167, 3) := by decide +kernel
theorem dX12_ride_33 : decode cX12_ride 33 = .ok (.aload_n 0, 1) := by decide +kernel
theorem dX12_ride_34 : decode cX12_ride 34 = .ok (.getfield 160, 3) := by decide +kernel
theorem dX12_ride_37 : decode cX12_ride 37 = .ok (.ifCond .eq 16, 3) := by decide +kernel
theorem dX12_ride_40 : decode cX12_ride 40 = .ok (.aload_n 0, 1) := by decide +kernel
theorem dX12_ride_41 : decode cX12_ride 41 = .ok (.iload_n 1, 1) := by decide +kernel
theorem dX12_ride_42 : decode cX12_ride 42 = .ok (.aload_n 0, 1) := by decide +kernel
theorem dX12_ride_43 : decode cX12_ride 43 = .ok (.getfield 163, 3) := by decide +kernel
theorem dX12_ride_46 : decode cX12_ride 46 = .ok (.iload_n 2, 1) := by decide +kernel
theorem dX12_ride_47 : decode cX12_ride 47 = .ok (.invokevirtual 157, 3) := by decide +kernel
theorem dX12_ride_50 : decode cX12_ride 50 = .ok (.goto 4, 3) := by decide +kernel
theorem dX12_ride_53 : decode cX12_ride 53 = .ok (.iconst 0, 1) := by decide +kernel
theorem dX12_ride_54 : decode cX12_ride 54 = .ok (.iadd, 1) := by decide +kernel
theorem dX12_ride_55 : decode cX12_ride 55 = .ok (.putfield 167, 3) := by decide +kernel
theorem dX12_ride_58 : decode cX12_ride 58 = .ok (.aload_n 0, 1) := by decide +kernel
theorem dX12_ride_59 : decode cX12_ride 59 = .ok (.iload_n 2, 1) := by decide +kernel
theorem dX12_ride_60 : decode cX12_ride 60 = .ok (.putfield 163, 3) := by decide +kernel
theorem dX12_ride_63 : decode cX12_ride 63 = .ok (.return_, 1) := by decide +kernel
theorem dX12_begin_0 : decode cX12_begin 0 = .ok (.aload_n 0, 1) := by decide +kernel
theorem dX12_begin_1 : decode cX12_begin 1 = .ok (.iload_n 1, 1) := by decide +kernel
theorem dX12_begin_2 : decode cX12_begin 2 = .ok (.putfield 163, 3) := by decide +kernel
theorem dX12_begin_5 : decode cX12_begin 5 = .ok (.aload_n 0, 1) := by decide +kernel
theorem dX12_begin_6 : decode cX12_begin 6 = .ok (.iload_n 2, 1) := by decide +kernel
theorem dX12_begin_7 : decode cX12_begin 7 = .ok (.putfield 167, 3) := by decide +kernel
theorem dX12_begin_10 : decode cX12_begin 10 = .ok (.aload_n 0, 1) := by decide +kernel
theorem dX12_begin_11 : decode cX12_begin 11 = .ok (.iconst 1, 1) := by decide +kernel
theorem dX12_begin_12 : decode cX12_begin 12 = .ok (.putfield 160, 3) := by decide +kernel
theorem dX12_begin_15 : decode cX12_begin 15 = .ok (.return_, 1) := by decide +kernel
theorem dX12_pickUp_0 : decode cX12_pickUp 0 = .ok (.aload_n 0, 1) := by decide +kernel
theorem dX12_pickUp_1 : decode cX12_pickUp 1 = .ok (.iload_n 1, 1) := by decide +kernel
theorem dX12_pickUp_2 : decode cX12_pickUp 2 = .ok (.aload_n 0, 1) := by decide +kernel
theorem dX12_pickUp_3 : decode cX12_pickUp 3 = .ok (.iload_n 2, 1) := by decide +kernel
theorem dX12_pickUp_4 : decode cX12_pickUp 4 = .ok (.invokevirtual 170, 3) := by decide +kernel
theorem dX12_pickUp_7 : decode cX12_pickUp 7 = .ok (.invokevirtual 173, 3) := by decide +kernel
theorem dX12_pickUp_10 : decode cX12_pickUp 10 = .ok (.aload_n 0, 1) := by decide +kernel
theorem dX12_pickUp_11 : decode cX12_pickUp 11 = .ok (.aload_n 0, 1) := by decide +kernel
theorem dX12_pickUp_12 : decode cX12_pickUp 12 = .ok (.getfield 167, 3) := by decide +kernel
theorem dX12_pickUp_15 : decode cX12_pickUp 15 = .ok (.aload_n 0, 1) := by decide +kernel
theorem dX12_pickUp_16 : decode cX12_pickUp 16 = .ok (.iload_n 2, 1) := by decide +kernel
theorem dX12_pickUp_17 : decode cX12_pickUp 17 = .ok (.invokevirtual 108, 3) := by decide +kernel
theorem dX12_pickUp_20 : decode cX12_pickUp 20 = .ok (.if_icmp .le 10, 3) := by decide +kernel
theorem dX12_pickUp_23 : decode cX12_pickUp 23 = .ok (.aload_n 0, 1) := by decide +kernel
theorem dX12_pickUp_24 : decode cX12_pickUp 24 = .ok (.getfield 167, 3) := by decide +kernel
theorem dX12_pickUp_27 : decode cX12_pickUp 27 = .ok (.goto 8, 3) := by decide +kernel
theorem dX12_pickUp_30 : decode cX12_pickUp 30 = .ok (.aload_n 0, 1) := by decide +kernel
theorem dX12_pickUp_31 : decode cX12_pickUp 31 = .ok (.iload_n 2, 1) := by decide +kernel
theorem dX12_pickUp_32 : decode cX12_pickUp 32 = .ok (.invokevirtual 108, 3) := by decide +kernel
theorem dX12_pickUp_35 : decode cX12_pickUp 35 = .ok (.putfield 167, 3) := by decide +kernel
theorem dX12_pickUp_38 : decode cX12_pickUp 38 = .ok (.aload_n 0, 1) := by decide +kernel
theorem dX12_pickUp_39 : decode cX12_pickUp 39 = .ok (.getfield 22, 3) := by decide +kernel
theorem dX12_pickUp_42 : decode cX12_pickUp 42 = .ok (.iload_n 3, 1) := by decide +kernel
theorem dX12_pickUp_43 : decode cX12_pickUp 43 = .ok (.aload_n 0, 1) := by decide +kernel
theorem dX12_pickUp_44 : decode cX12_pickUp 44 = .ok (.getfield 167, 3) := by decide +kernel
theorem dX12_pickUp_47 : decode cX12_pickUp 47 = .ok (.iastore, 1) := by decide +kernel
theorem dX12_pickUp_48 : decode cX12_pickUp 48 = .ok (.return_, 1) := by decide +kernel
theorem dX12_bring_0 : decode cX12_bring 0 = .ok (.aload_n 0, 1) := by decide +kernel
theorem dX12_bring_1 : decode cX12_bring 1 = .ok (.iload_n 1, 1) := by decide +kernel
theorem dX12_bring_2 : decode cX12_bring 2 = .ok (.aload_n 0, 1) := by decide +kernel
theorem dX12_bring_3 : decode cX12_bring 3 = .ok (.iload_n 2, 1) := by decide +kernel
theorem dX12_bring_4 : decode cX12_bring 4 = .ok (.iconst 1, 1) := by decide +kernel
theorem dX12_bring_5 : decode cX12_bring 5 = .ok (.invokevirtual 99, 3) := by decide +kernel
theorem dX12_bring_8 : decode cX12_bring 8 = .ok (.invokevirtual 173, 3) := by decide +kernel
theorem dX12_bring_11 : decode cX12_bring 11 = .ok (.aload_n 0, 1) := by decide +kernel
theorem dX12_bring_12 : decode cX12_bring 12 = .ok (.getfield 25, 3) := by decide +kernel
theorem dX12_bring_15 : decode cX12_bring 15 = .ok (.iload_n 3, 1) := by decide +kernel
theorem dX12_bring_16 : decode cX12_bring 16 = .ok (.aload_n 0, 1) := by decide +kernel
theorem dX12_bring_17 : decode cX12_bring 17 = .ok (.getfield 167, 3) := by decide +kernel
theorem dX12_bring_20 : decode cX12_bring 20 = .ok (.iastore, 1) := by decide +kernel
theorem dX12_bring_21 : decode cX12_bring 21 = .ok (.return_, 1) := by decide +kernel
theorem dX12_tripFrom_0 : decode cX12_tripFrom 0 = .ok (.aload_n 0, 1) := by decide +kernel
theorem dX12_tripFrom_1 : decode cX12_tripFrom 1 = .ok (.iload_n 2, 1) := by decide +kernel
theorem dX12_tripFrom_2 : decode cX12_tripFrom 2 = .ok (.iload_n 3, 1) := by decide +kernel
theorem dX12_tripFrom_3 : decode cX12_tripFrom 3 = .ok (.invokevirtual 177, 3) := by decide +kernel
theorem dX12_tripFrom_6 : decode cX12_tripFrom 6 = .ok (.aload_n 0, 1) := by decide +kernel
theorem dX12_tripFrom_7 : decode cX12_tripFrom 7 = .ok (.iload_n 1, 1) := by decide +kernel
theorem dX12_tripFrom_8 : decode cX12_tripFrom 8 = .ok (.iload 4, 2) := by decide +kernel
theorem dX12_tripFrom_10 : decode cX12_tripFrom 10 = .ok (.iconst 0, 1) := by decide +kernel
theorem dX12_tripFrom_11 : decode cX12_tripFrom 11 = .ok (.invokevirtual 180, 3) := by decide +kernel
theorem dX12_tripFrom_14 : decode cX12_tripFrom 14 = .ok (.aload_n 0, 1) := by decide +kernel
theorem dX12_tripFrom_15 : decode cX12_tripFrom 15 = .ok (.iload_n 1, 1) := by decide +kernel
theorem dX12_tripFrom_16 : decode cX12_tripFrom 16 = .ok (.iload 4, 2) := by decide +kernel
theorem dX12_tripFrom_18 : decode cX12_tripFrom 18 = .ok (.iconst 0, 1) := by decide +kernel
theorem dX12_tripFrom_19 : decode cX12_tripFrom 19 = .ok (.invokevirtual 184, 3) := by decide +kernel
theorem dX12_tripFrom_22 : decode cX12_tripFrom 22 = .ok (.aload_n 0, 1) := by decide +kernel
theorem dX12_tripFrom_23 : decode cX12_tripFrom 23 = .ok (.getfield 160, 3) := by decide +kernel
theorem dX12_tripFrom_26 : decode cX12_tripFrom 26 = .ok (.ifCond .eq 17, 3) := by decide +kernel
theorem dX12_tripFrom_29 : decode cX12_tripFrom 29 = .ok (.aload_n 0, 1) := by decide +kernel
theorem dX12_tripFrom_30 : decode cX12_tripFrom 30 = .ok (.getfield 167, 3) := by decide +kernel
theorem dX12_tripFrom_33 : decode cX12_tripFrom 33 = .ok (.sipush 1439, 3) := by decide +kernel
theorem dX12_tripFrom_36 : decode cX12_tripFrom 36 = .ok (.if_icmp .gt 7, 3) := by decide +kernel
theorem dX12_tripFrom_39 : decode cX12_tripFrom 39 = .ok (.iconst 1, 1) := by decide +kernel
theorem dX12_tripFrom_40 : decode cX12_tripFrom 40 = .ok (.goto 4, 3) := by decide +kernel
theorem dX12_tripFrom_43 : decode cX12_tripFrom 43 = .ok (.iconst 0, 1) := by decide +kernel
theorem dX12_tripFrom_44 : decode cX12_tripFrom 44 = .ok (.ireturn, 1) := by decide +kernel
theorem dX12_beginsAt_0 : decode cX12_beginsAt 0 = .ok (.aload_n 0, 1) := by decide +kernel
theorem dX12_beginsAt_1 : decode cX12_beginsAt 1 = .ok (.iload_n 1, 1) := by decide +kernel
theorem dX12_beginsAt_2 : decode cX12_beginsAt 2 = .ok (.iconst 2, 1) := by decide +kernel
theorem dX12_beginsAt_3 : decode cX12_beginsAt 3 = .ok (.invokevirtual 136, 3) := by decide +kernel
theorem dX12_beginsAt_6 : decode cX12_beginsAt 6 = .ok (.aload_n 0, 1) := by decide +kernel
theorem dX12_beginsAt_7 : decode cX12_beginsAt 7 = .ok (.getfield 7, 3) := by decide +kernel
theorem dX12_beginsAt_10 : decode cX12_beginsAt 10 = .ok (.iconst 0, 1) := by decide +kernel
theorem dX12_beginsAt_11 : decode cX12_beginsAt 11 = .ok (.iaload, 1) := by decide +kernel
theorem dX12_beginsAt_12 : decode cX12_beginsAt 12 = .ok (.if_icmp .le 12, 3) := by decide +kernel
theorem dX12_beginsAt_15 : decode cX12_beginsAt 15 = .ok (.aload_n 0, 1) := by decide +kernel
theorem dX12_beginsAt_16 : decode cX12_beginsAt 16 = .ok (.iload_n 1, 1) := by decide +kernel
theorem dX12_beginsAt_17 : decode cX12_beginsAt 17 = .ok (.iconst 2, 1) := by decide +kernel
theorem dX12_beginsAt_18 : decode cX12_beginsAt 18 = .ok (.invokevirtual 136, 3) := by decide +kernel
theorem dX12_beginsAt_21 : decode cX12_beginsAt 21 = .ok (.goto 9, 3) := by decide +kernel
theorem dX12_beginsAt_24 : decode cX12_beginsAt 24 = .ok (.aload_n 0, 1) := by decide +kernel
theorem dX12_beginsAt_25 : decode cX12_beginsAt 25 = .ok (.getfield 7, 3) := by decide +kernel
theorem dX12_beginsAt_28 : decode cX12_beginsAt 28 = .ok (.iconst 0, 1) := by decide +kernel
theorem dX12_beginsAt_29 : decode cX12_beginsAt 29 = .ok (.iaload, 1) := by decide +kernel
theorem dX12_beginsAt_30 : decode cX12_beginsAt 30 = .ok (.ireturn, 1) := by decide +kernel
theorem dX12_tripNow_0 : decode cX12_tripNow 0 = .ok (.aload_n 0, 1) := by decide +kernel
theorem dX12_tripNow_1 : decode cX12_tripNow 1 = .ok (.aload_n 0, 1) := by decide +kernel
theorem dX12_tripNow_2 : decode cX12_tripNow 2 = .ok (.iload_n 1, 1) := by decide +kernel
theorem dX12_tripNow_3 : decode cX12_tripNow 3 = .ok (.iconst 0, 1) := by decide +kernel
theorem dX12_tripNow_4 : decode cX12_tripNow 4 = .ok (.invokevirtual 136, 3) := by decide +kernel
theorem dX12_tripNow_7 : decode cX12_tripNow 7 = .ok (.aload_n 0, 1) := by decide +kernel
theorem dX12_tripNow_8 : decode cX12_tripNow 8 = .ok (.iload_n 1, 1) := by decide +kernel
theorem dX12_tripNow_9 : decode cX12_tripNow 9 = .ok (.iconst 1, 1) := by decide +kernel
theorem dX12_tripNow_10 : decode cX12_tripNow 10 = .ok (.invokevirtual 136, 3) := by decide +kernel
theorem dX12_tripNow_13 : decode cX12_tripNow 13 = .ok (.aload_n 0, 1) := by decide +kernel
theorem dX12_tripNow_14 : decode cX12_tripNow 14 = .ok (.iload_n 1, 1) := by decide +kernel
theorem dX12_tripNow_15 : decode cX12_tripNow 15 = .ok (.invokevirtual 187, 3) := by decide +kernel
theorem dX12_tripNow_18 : decode cX12_tripNow 18 = .ok (.iload_n 2, 1) := by decide +kernel
theorem dX12_tripNow_19 : decode cX12_tripNow 19 = .ok (.invokevirtual 190, 3) := by decide +kernel
theorem dX12_tripNow_22 : decode cX12_tripNow 22 = .ok (.ireturn, 1) := by decide +kernel
theorem dX12_trip_0 : decode cX12_trip 0 = .ok (.aload_n 0, 1) := by decide +kernel
theorem dX12_trip_1 : decode cX12_trip 1 = .ok (.iload_n 1, 1) := by decide +kernel
theorem dX12_trip_2 : decode cX12_trip 2 = .ok (.invokevirtual 139, 3) := by decide +kernel
theorem dX12_trip_5 : decode cX12_trip 5 = .ok (.ifCond .eq 20, 3) := by decide +kernel
theorem dX12_trip_8 : decode cX12_trip 8 = .ok (.aload_n 0, 1) := by decide +kernel
theorem dX12_trip_9 : decode cX12_trip 9 = .ok (.iload_n 2, 1) := by decide +kernel
theorem dX12_trip_10 : decode cX12_trip 10 = .ok (.invokevirtual 117, 3) := by decide +kernel
theorem dX12_trip_13 : decode cX12_trip 13 = .ok (.ifCond .eq 12, 3) := by decide +kernel
theorem dX12_trip_16 : decode cX12_trip 16 = .ok (.iload_n 3, 1) := by decide +kernel
theorem dX12_trip_17 : decode cX12_trip 17 = .ok (.iconst 0, 1) := by decide +kernel
theorem dX12_trip_18 : decode cX12_trip 18 = .ok (.iconst 2, 1) := by decide +kernel
theorem dX12_trip_19 : decode cX12_trip 19 = .ok (.invokestatic 65, 3) := by decide +kernel
theorem dX12_trip_22 : decode cX12_trip 22 = .ok (.ifCond .ne 9, 3) := by decide +kernel
theorem dX12_trip_25 : decode cX12_trip 25 = .ok (.aload_n 0, 1) := by decide +kernel
theorem dX12_trip_26 : decode cX12_trip 26 = .ok (.iconst 0, 1) := by decide +kernel
theorem dX12_trip_27 : decode cX12_trip 27 = .ok (.invokevirtual 73, 3) := by decide +kernel
theorem dX12_trip_30 : decode cX12_trip 30 = .ok (.ireturn, 1) := by decide +kernel
theorem dX12_trip_31 : decode cX12_trip 31 = .ok (.aload_n 0, 1) := by decide +kernel
theorem dX12_trip_32 : decode cX12_trip 32 = .ok (.iload_n 2, 1) := by decide +kernel
theorem dX12_trip_33 : decode cX12_trip 33 = .ok (.invokevirtual 129, 3) := by decide +kernel
theorem dX12_trip_36 : decode cX12_trip 36 = .ok (.ifCond .ne 9, 3) := by decide +kernel
theorem dX12_trip_39 : decode cX12_trip 39 = .ok (.aload_n 0, 1) := by decide +kernel
theorem dX12_trip_40 : decode cX12_trip 40 = .ok (.iconst 4, 1) := by decide +kernel
theorem dX12_trip_41 : decode cX12_trip 41 = .ok (.invokevirtual 73, 3) := by decide +kernel
theorem dX12_trip_44 : decode cX12_trip 44 = .ok (.ireturn, 1) := by decide +kernel
theorem dX12_trip_45 : decode cX12_trip 45 = .ok (.aload_n 0, 1) := by decide +kernel
theorem dX12_trip_46 : decode cX12_trip 46 = .ok (.iload_n 1, 1) := by decide +kernel
theorem dX12_trip_47 : decode cX12_trip 47 = .ok (.iload_n 2, 1) := by decide +kernel
theorem dX12_trip_48 : decode cX12_trip 48 = .ok (.invokevirtual 194, 3) := by decide +kernel
theorem dX12_trip_51 : decode cX12_trip 51 = .ok (.ifCond .ne 9, 3) := by decide +kernel
theorem dX12_trip_54 : decode cX12_trip 54 = .ok (.aload_n 0, 1) := by decide +kernel
theorem dX12_trip_55 : decode cX12_trip 55 = .ok (.iconst 3, 1) := by decide +kernel
theorem dX12_trip_56 : decode cX12_trip 56 = .ok (.invokevirtual 73, 3) := by decide +kernel
theorem dX12_trip_59 : decode cX12_trip 59 = .ok (.ireturn, 1) := by decide +kernel
theorem dX12_trip_60 : decode cX12_trip 60 = .ok (.iload_n 3, 1) := by decide +kernel
theorem dX12_trip_61 : decode cX12_trip 61 = .ok (.ifCond .ne 12, 3) := by decide +kernel
theorem dX12_trip_64 : decode cX12_trip 64 = .ok (.aload_n 0, 1) := by decide +kernel
theorem dX12_trip_65 : decode cX12_trip 65 = .ok (.getfield 22, 3) := by decide +kernel
theorem dX12_trip_68 : decode cX12_trip 68 = .ok (.iconst 0, 1) := by decide +kernel
theorem dX12_trip_69 : decode cX12_trip 69 = .ok (.iaload, 1) := by decide +kernel
theorem dX12_trip_70 : decode cX12_trip 70 = .ok (.goto 28, 3) := by decide +kernel
theorem dX12_trip_73 : decode cX12_trip 73 = .ok (.iload_n 3, 1) := by decide +kernel
theorem dX12_trip_74 : decode cX12_trip 74 = .ok (.iconst 1, 1) := by decide +kernel
theorem dX12_trip_75 : decode cX12_trip 75 = .ok (.if_icmp .ne 12, 3) := by decide +kernel
theorem dX12_trip_78 : decode cX12_trip 78 = .ok (.aload_n 0, 1) := by decide +kernel
theorem dX12_trip_79 : decode cX12_trip 79 = .ok (.getfield 25, 3) := by decide +kernel
theorem dX12_trip_82 : decode cX12_trip 82 = .ok (.iconst 0, 1) := by decide +kernel
theorem dX12_trip_83 : decode cX12_trip 83 = .ok (.iaload, 1) := by decide +kernel
theorem dX12_trip_84 : decode cX12_trip 84 = .ok (.goto 14, 3) := by decide +kernel
theorem dX12_trip_87 : decode cX12_trip 87 = .ok (.aload_n 0, 1) := by decide +kernel
theorem dX12_trip_88 : decode cX12_trip 88 = .ok (.iload_n 2, 1) := by decide +kernel
theorem dX12_trip_89 : decode cX12_trip 89 = .ok (.aload_n 0, 1) := by decide +kernel
theorem dX12_trip_90 : decode cX12_trip 90 = .ok (.getfield 25, 3) := by decide +kernel
theorem dX12_trip_93 : decode cX12_trip 93 = .ok (.iconst 0, 1) := by decide +kernel
theorem dX12_trip_94 : decode cX12_trip 94 = .ok (.iaload, 1) := by decide +kernel
theorem dX12_trip_95 : decode cX12_trip 95 = .ok (.invokevirtual 102, 3) := by decide +kernel
theorem dX12_trip_98 : decode cX12_trip 98 = .ok (.ireturn, 1) := by decide +kernel
theorem dX12_stepOf_0 : decode cX12_stepOf 0 = .ok (.iload_n 0, 1) := by decide +kernel
theorem dX12_stepOf_1 : decode cX12_stepOf 1 = .ok (.tableswitch 140 0 4 #[35, 63, 91, 93, 121], 35) := by decide +kernel
theorem dX12_stepOf_36 : decode cX12_stepOf 36 = .ok (.iload_n 1, 1) := by decide +kernel
theorem dX12_stepOf_37 : decode cX12_stepOf 37 = .ok (.ifCond .ne 7, 3) := by decide +kernel
theorem dX12_stepOf_40 : decode cX12_stepOf 40 = .ok (.iconst 0, 1) := by decide +kernel
theorem dX12_stepOf_41 : decode cX12_stepOf 41 = .ok (.goto 22, 3) := by decide +kernel
theorem dX12_stepOf_44 : decode cX12_stepOf 44 = .ok (.iload_n 1, 1) := by decide +kernel
theorem dX12_stepOf_45 : decode cX12_stepOf 45 = .ok (.iconst 1, 1) := by decide +kernel
theorem dX12_stepOf_46 : decode cX12_stepOf 46 = .ok (.if_icmp .ne 7, 3) := by decide +kernel
theorem dX12_stepOf_49 : decode cX12_stepOf 49 = .ok (.iconst 2, 1) := by decide +kernel
theorem dX12_stepOf_50 : decode cX12_stepOf 50 = .ok (.goto 13, 3) := by decide +kernel
theorem dX12_stepOf_53 : decode cX12_stepOf 53 = .ok (.iload_n 1, 1) := by decide +kernel
theorem dX12_stepOf_54 : decode cX12_stepOf 54 = .ok (.iconst 2, 1) := by decide +kernel
theorem dX12_stepOf_55 : decode cX12_stepOf 55 = .ok (.if_icmp .ne 7, 3) := by decide +kernel
theorem dX12_stepOf_58 : decode cX12_stepOf 58 = .ok (.iconst 1, 1) := by decide +kernel
theorem dX12_stepOf_59 : decode cX12_stepOf 59 = .ok (.goto 4, 3) := by decide +kernel
theorem dX12_stepOf_62 : decode cX12_stepOf 62 = .ok (.iconst 3, 1) := by decide +kernel
theorem dX12_stepOf_63 : decode cX12_stepOf 63 = .ok (.ireturn, 1) := by decide +kernel
theorem dX12_stepOf_64 : decode cX12_stepOf 64 = .ok (.iload_n 1, 1) := by decide +kernel
theorem dX12_stepOf_65 : decode cX12_stepOf 65 = .ok (.ifCond .ne 7, 3) := by decide +kernel
theorem dX12_stepOf_68 : decode cX12_stepOf 68 = .ok (.iconst 1, 1) := by decide +kernel
theorem dX12_stepOf_69 : decode cX12_stepOf 69 = .ok (.goto 22, 3) := by decide +kernel
theorem dX12_stepOf_72 : decode cX12_stepOf 72 = .ok (.iload_n 1, 1) := by decide +kernel
theorem dX12_stepOf_73 : decode cX12_stepOf 73 = .ok (.iconst 1, 1) := by decide +kernel
theorem dX12_stepOf_74 : decode cX12_stepOf 74 = .ok (.if_icmp .ne 7, 3) := by decide +kernel
theorem dX12_stepOf_77 : decode cX12_stepOf 77 = .ok (.iconst 3, 1) := by decide +kernel
theorem dX12_stepOf_78 : decode cX12_stepOf 78 = .ok (.goto 13, 3) := by decide +kernel
theorem dX12_stepOf_81 : decode cX12_stepOf 81 = .ok (.iload_n 1, 1) := by decide +kernel
theorem dX12_stepOf_82 : decode cX12_stepOf 82 = .ok (.iconst 2, 1) := by decide +kernel
theorem dX12_stepOf_83 : decode cX12_stepOf 83 = .ok (.if_icmp .ne 7, 3) := by decide +kernel
theorem dX12_stepOf_86 : decode cX12_stepOf 86 = .ok (.iconst 0, 1) := by decide +kernel
theorem dX12_stepOf_87 : decode cX12_stepOf 87 = .ok (.goto 4, 3) := by decide +kernel
theorem dX12_stepOf_90 : decode cX12_stepOf 90 = .ok (.iconst 2, 1) := by decide +kernel
theorem dX12_stepOf_91 : decode cX12_stepOf 91 = .ok (.ireturn, 1) := by decide +kernel
theorem dX12_stepOf_92 : decode cX12_stepOf 92 = .ok (.iload_n 1, 1) := by decide +kernel
theorem dX12_stepOf_93 : decode cX12_stepOf 93 = .ok (.ireturn, 1) := by decide +kernel
theorem dX12_stepOf_94 : decode cX12_stepOf 94 = .ok (.iload_n 1, 1) := by decide +kernel
theorem dX12_stepOf_95 : decode cX12_stepOf 95 = .ok (.ifCond .ne 7, 3) := by decide +kernel
theorem dX12_stepOf_98 : decode cX12_stepOf 98 = .ok (.iconst 0, 1) := by decide +kernel
theorem dX12_stepOf_99 : decode cX12_stepOf 99 = .ok (.goto 22, 3) := by decide +kernel
theorem dX12_stepOf_102 : decode cX12_stepOf 102 = .ok (.iload_n 1, 1) := by decide +kernel
theorem dX12_stepOf_103 : decode cX12_stepOf 103 = .ok (.iconst 1, 1) := by decide +kernel
theorem dX12_stepOf_104 : decode cX12_stepOf 104 = .ok (.if_icmp .ne 7, 3) := by decide +kernel
theorem dX12_stepOf_107 : decode cX12_stepOf 107 = .ok (.iconst 1, 1) := by decide +kernel
theorem dX12_stepOf_108 : decode cX12_stepOf 108 = .ok (.goto 13, 3) := by decide +kernel
theorem dX12_stepOf_111 : decode cX12_stepOf 111 = .ok (.iload_n 1, 1) := by decide +kernel
theorem dX12_stepOf_112 : decode cX12_stepOf 112 = .ok (.iconst 2, 1) := by decide +kernel
theorem dX12_stepOf_113 : decode cX12_stepOf 113 = .ok (.if_icmp .ne 7, 3) := by decide +kernel
theorem dX12_stepOf_116 : decode cX12_stepOf 116 = .ok (.iconst 3, 1) := by decide +kernel
theorem dX12_stepOf_117 : decode cX12_stepOf 117 = .ok (.goto 4, 3) := by decide +kernel
theorem dX12_stepOf_120 : decode cX12_stepOf 120 = .ok (.iconst 2, 1) := by decide +kernel
theorem dX12_stepOf_121 : decode cX12_stepOf 121 = .ok (.ireturn, 1) := by decide +kernel
theorem dX12_stepOf_122 : decode cX12_stepOf 122 = .ok (.iload_n 1, 1) := by decide +kernel
theorem dX12_stepOf_123 : decode cX12_stepOf 123 = .ok (.ifCond .ne 7, 3) := by decide +kernel
theorem dX12_stepOf_126 : decode cX12_stepOf 126 = .ok (.iconst 1, 1) := by decide +kernel
theorem dX12_stepOf_127 : decode cX12_stepOf 127 = .ok (.goto 13, 3) := by decide +kernel
theorem dX12_stepOf_130 : decode cX12_stepOf 130 = .ok (.iload_n 1, 1) := by decide +kernel
theorem dX12_stepOf_131 : decode cX12_stepOf 131 = .ok (.iconst 1, 1) := by decide +kernel
theorem dX12_stepOf_132 : decode cX12_stepOf 132 = .ok (.if_icmp .ne 7, 3) := by decide +kernel
theorem dX12_stepOf_135 : decode cX12_stepOf 135 = .ok (.iconst 0, 1) := by decide +kernel
theorem dX12_stepOf_136 : decode cX12_stepOf 136 = .ok (.goto 4, 3) := by decide +kernel
theorem dX12_stepOf_139 : decode cX12_stepOf 139 = .ok (.iload_n 1, 1) := by decide +kernel
theorem dX12_stepOf_140 : decode cX12_stepOf 140 = .ok (.ireturn, 1) := by decide +kernel
theorem dX12_stepOf_141 : decode cX12_stepOf 141 = .ok (.iconst 1, 1) := by decide +kernel
theorem dX12_stepOf_142 : decode cX12_stepOf 142 = .ok (.iload_n 1, 1) := by decide +kernel
theorem dX12_stepOf_143 : decode cX12_stepOf 143 = .ok (.ixor, 1) := by decide +kernel
theorem dX12_stepOf_144 : decode cX12_stepOf 144 = .ok (.ireturn, 1) := by decide +kernel
theorem dX12_goesWay_0 : decode cX12_goesWay 0 = .ok (.aload_n 0, 1) := by decide +kernel
theorem dX12_goesWay_1 : decode cX12_goesWay 1 = .ok (.iload_n 1, 1) := by decide +kernel
theorem dX12_goesWay_2 : decode cX12_goesWay 2 = .ok (.iconst 0, 1) := by decide +kernel
theorem dX12_goesWay_3 : decode cX12_goesWay 3 = .ok (.invokevirtual 136, 3) := by decide +kernel
theorem dX12_goesWay_6 : decode cX12_goesWay 6 = .ok (.istore 5, 2) := by decide +kernel
theorem dX12_goesWay_8 : decode cX12_goesWay 8 = .ok (.aload_n 0, 1) := by decide +kernel
theorem dX12_goesWay_9 : decode cX12_goesWay 9 = .ok (.aload_n 0, 1) := by decide +kernel
theorem dX12_goesWay_10 : decode cX12_goesWay 10 = .ok (.iload_n 1, 1) := by decide +kernel
theorem dX12_goesWay_11 : decode cX12_goesWay 11 = .ok (.iconst 1, 1) := by decide +kernel
theorem dX12_goesWay_12 : decode cX12_goesWay 12 = .ok (.invokevirtual 136, 3) := by decide +kernel
theorem dX12_goesWay_15 : decode cX12_goesWay 15 = .ok (.aload_n 0, 1) := by decide +kernel
theorem dX12_goesWay_16 : decode cX12_goesWay 16 = .ok (.iload_n 1, 1) := by decide +kernel
theorem dX12_goesWay_17 : decode cX12_goesWay 17 = .ok (.invokevirtual 187, 3) := by decide +kernel
theorem dX12_goesWay_20 : decode cX12_goesWay 20 = .ok (.invokevirtual 177, 3) := by decide +kernel
theorem dX12_goesWay_23 : decode cX12_goesWay 23 = .ok (.iconst 0, 1) := by decide +kernel
theorem dX12_goesWay_24 : decode cX12_goesWay 24 = .ok (.istore 6, 2) := by decide +kernel
theorem dX12_goesWay_26 : decode cX12_goesWay 26 = .ok (.iload 6, 2) := by decide +kernel
theorem dX12_goesWay_28 : decode cX12_goesWay 28 = .ok (.iconst 4, 1) := by decide +kernel
theorem dX12_goesWay_29 : decode cX12_goesWay 29 = .ok (.if_icmp .ge 63, 3) := by decide +kernel
theorem dX12_goesWay_32 : decode cX12_goesWay 32 = .ok (.iload 4, 2) := by decide +kernel
theorem dX12_goesWay_34 : decode cX12_goesWay 34 = .ok (.iload 6, 2) := by decide +kernel
theorem dX12_goesWay_36 : decode cX12_goesWay 36 = .ok (.invokestatic 197, 3) := by decide +kernel
theorem dX12_goesWay_39 : decode cX12_goesWay 39 = .ok (.istore 7, 2) := by decide +kernel
theorem dX12_goesWay_41 : decode cX12_goesWay 41 = .ok (.iload 7, 2) := by decide +kernel
theorem dX12_goesWay_43 : decode cX12_goesWay 43 = .ok (.iconst 2, 1) := by decide +kernel
theorem dX12_goesWay_44 : decode cX12_goesWay 44 = .ok (.irem, 1) := by decide +kernel
theorem dX12_goesWay_45 : decode cX12_goesWay 45 = .ok (.ifCond .ne 7, 3) := by decide +kernel
theorem dX12_goesWay_48 : decode cX12_goesWay 48 = .ok (.iload_n 2, 1) := by decide +kernel
theorem dX12_goesWay_49 : decode cX12_goesWay 49 = .ok (.goto 4, 3) := by decide +kernel
theorem dX12_goesWay_52 : decode cX12_goesWay 52 = .ok (.iload_n 3, 1) := by decide +kernel
theorem dX12_goesWay_53 : decode cX12_goesWay 53 = .ok (.istore 8, 2) := by decide +kernel
theorem dX12_goesWay_55 : decode cX12_goesWay 55 = .ok (.iload 7, 2) := by decide +kernel
theorem dX12_goesWay_57 : decode cX12_goesWay 57 = .ok (.iconst 2, 1) := by decide +kernel
theorem dX12_goesWay_58 : decode cX12_goesWay 58 = .ok (.if_icmp .ge 16, 3) := by decide +kernel
theorem dX12_goesWay_61 : decode cX12_goesWay 61 = .ok (.aload_n 0, 1) := by decide +kernel
theorem dX12_goesWay_62 : decode cX12_goesWay 62 = .ok (.iload 5, 2) := by decide +kernel
theorem dX12_goesWay_64 : decode cX12_goesWay 64 = .ok (.iload 8, 2) := by decide +kernel
theorem dX12_goesWay_66 : decode cX12_goesWay 66 = .ok (.iload 7, 2) := by decide +kernel
theorem dX12_goesWay_68 : decode cX12_goesWay 68 = .ok (.invokevirtual 180, 3) := by decide +kernel
theorem dX12_goesWay_71 : decode cX12_goesWay 71 = .ok (.goto 15, 3) := by decide +kernel
theorem dX12_goesWay_74 : decode cX12_goesWay 74 = .ok (.aload_n 0, 1) := by decide +kernel
theorem dX12_goesWay_75 : decode cX12_goesWay 75 = .ok (.iload 5, 2) := by decide +kernel
theorem dX12_goesWay_77 : decode cX12_goesWay 77 = .ok (.iload 8, 2) := by decide +kernel
theorem dX12_goesWay_79 : decode cX12_goesWay 79 = .ok (.iload 7, 2) := by decide +kernel
theorem dX12_goesWay_81 : decode cX12_goesWay 81 = .ok (.iconst 2, 1) := by decide +kernel
theorem dX12_goesWay_82 : decode cX12_goesWay 82 = .ok (.isub, 1) := by decide +kernel
theorem dX12_goesWay_83 : decode cX12_goesWay 83 = .ok (.invokevirtual 184, 3) := by decide +kernel
theorem dX12_goesWay_86 : decode cX12_goesWay 86 = .ok (.iinc 6 1, 3) := by decide +kernel
theorem dX12_goesWay_89 : decode cX12_goesWay 89 = .ok (.goto (-63), 3) := by decide +kernel
theorem dX12_goesWay_92 : decode cX12_goesWay 92 = .ok (.aload_n 0, 1) := by decide +kernel
theorem dX12_goesWay_93 : decode cX12_goesWay 93 = .ok (.getfield 160, 3) := by decide +kernel
theorem dX12_goesWay_96 : decode cX12_goesWay 96 = .ok (.ifCond .eq 17, 3) := by decide +kernel
theorem dX12_goesWay_99 : decode cX12_goesWay 99 = .ok (.aload_n 0, 1) := by decide +kernel
theorem dX12_goesWay_100 : decode cX12_goesWay 100 = .ok (.getfield 167, 3) := by decide +kernel
theorem dX12_goesWay_103 : decode cX12_goesWay 103 = .ok (.sipush 1439, 3) := by decide +kernel
theorem dX12_goesWay_106 : decode cX12_goesWay 106 = .ok (.if_icmp .gt 7, 3) := by decide +kernel
theorem dX12_goesWay_109 : decode cX12_goesWay 109 = .ok (.iconst 1, 1) := by decide +kernel
theorem dX12_goesWay_110 : decode cX12_goesWay 110 = .ok (.goto 4, 3) := by decide +kernel
theorem dX12_goesWay_113 : decode cX12_goesWay 113 = .ok (.iconst 0, 1) := by decide +kernel
theorem dX12_goesWay_114 : decode cX12_goesWay 114 = .ok (.ireturn, 1) := by decide +kernel
theorem dX12_joins_0 : decode cX12_joins 0 = .ok (.aload_n 0, 1) := by decide +kernel
theorem dX12_joins_1 : decode cX12_joins 1 = .ok (.iconst (-1), 1) := by decide +kernel
theorem dX12_joins_2 : decode cX12_joins 2 = .ok (.putfield 200, 3) := by decide +kernel
theorem dX12_joins_5 : decode cX12_joins 5 = .ok (.iconst 0, 1) := by decide +kernel
theorem dX12_joins_6 : decode cX12_joins 6 = .ok (.istore 4, 2) := by decide +kernel
theorem dX12_joins_8 : decode cX12_joins 8 = .ok (.iconst 0, 1) := by decide +kernel
theorem dX12_joins_9 : decode cX12_joins 9 = .ok (.istore 5, 2) := by decide +kernel
theorem dX12_joins_11 : decode cX12_joins 11 = .ok (.iload 5, 2) := by decide +kernel
theorem dX12_joins_13 : decode cX12_joins 13 = .ok (.bipush 6, 2) := by decide +kernel
theorem dX12_joins_15 : decode cX12_joins 15 = .ok (.if_icmp .ge 98, 3) := by decide +kernel
theorem dX12_joins_18 : decode cX12_joins 18 = .ok (.aload_n 0, 1) := by decide +kernel
theorem dX12_joins_19 : decode cX12_joins 19 = .ok (.iload_n 1, 1) := by decide +kernel
theorem dX12_joins_20 : decode cX12_joins 20 = .ok (.iload_n 2, 1) := by decide +kernel
theorem dX12_joins_21 : decode cX12_joins 21 = .ok (.iload_n 3, 1) := by decide +kernel
theorem dX12_joins_22 : decode cX12_joins 22 = .ok (.iload 5, 2) := by decide +kernel
theorem dX12_joins_24 : decode cX12_joins 24 = .ok (.invokevirtual 203, 3) := by decide +kernel
theorem dX12_joins_27 : decode cX12_joins 27 = .ok (.ifCond .eq 80, 3) := by decide +kernel
theorem dX12_joins_30 : decode cX12_joins 30 = .ok (.aload_n 0, 1) := by decide +kernel
theorem dX12_joins_31 : decode cX12_joins 31 = .ok (.iload_n 2, 1) := by decide +kernel
theorem dX12_joins_32 : decode cX12_joins 32 = .ok (.aload_n 0, 1) := by decide +kernel
theorem dX12_joins_33 : decode cX12_joins 33 = .ok (.getfield 25, 3) := by decide +kernel
theorem dX12_joins_36 : decode cX12_joins 36 = .ok (.iconst 0, 1) := by decide +kernel
theorem dX12_joins_37 : decode cX12_joins 37 = .ok (.iaload, 1) := by decide +kernel
theorem dX12_joins_38 : decode cX12_joins 38 = .ok (.invokevirtual 102, 3) := by decide +kernel
theorem dX12_joins_41 : decode cX12_joins 41 = .ok (.aload_n 0, 1) := by decide +kernel
theorem dX12_joins_42 : decode cX12_joins 42 = .ok (.iload_n 3, 1) := by decide +kernel
theorem dX12_joins_43 : decode cX12_joins 43 = .ok (.aload_n 0, 1) := by decide +kernel
theorem dX12_joins_44 : decode cX12_joins 44 = .ok (.getfield 25, 3) := by decide +kernel
theorem dX12_joins_47 : decode cX12_joins 47 = .ok (.iconst 1, 1) := by decide +kernel
theorem dX12_joins_48 : decode cX12_joins 48 = .ok (.iaload, 1) := by decide +kernel
theorem dX12_joins_49 : decode cX12_joins 49 = .ok (.invokevirtual 102, 3) := by decide +kernel
theorem dX12_joins_52 : decode cX12_joins 52 = .ok (.iadd, 1) := by decide +kernel
theorem dX12_joins_53 : decode cX12_joins 53 = .ok (.istore 6, 2) := by decide +kernel
theorem dX12_joins_55 : decode cX12_joins 55 = .ok (.aload_n 0, 1) := by decide +kernel
theorem dX12_joins_56 : decode cX12_joins 56 = .ok (.getfield 200, 3) := by decide +kernel
theorem dX12_joins_59 : decode cX12_joins 59 = .ok (.ifCond .lt 30, 3) := by decide +kernel
theorem dX12_joins_62 : decode cX12_joins 62 = .ok (.iload 6, 2) := by decide +kernel
theorem dX12_joins_64 : decode cX12_joins 64 = .ok (.aload_n 0, 1) := by decide +kernel
theorem dX12_joins_65 : decode cX12_joins 65 = .ok (.getfield 206, 3) := by decide +kernel
theorem dX12_joins_68 : decode cX12_joins 68 = .ok (.if_icmp .lt 21, 3) := by decide +kernel
theorem dX12_joins_71 : decode cX12_joins 71 = .ok (.iload 6, 2) := by decide +kernel
theorem dX12_joins_73 : decode cX12_joins 73 = .ok (.aload_n 0, 1) := by decide +kernel
theorem dX12_joins_74 : decode cX12_joins 74 = .ok (.getfield 206, 3) := by decide +kernel
theorem dX12_joins_77 : decode cX12_joins 77 = .ok (.if_icmp .ne 30, 3) := by decide +kernel
theorem dX12_joins_80 : decode cX12_joins 80 = .ok (.aload_n 0, 1) := by decide +kernel
theorem dX12_joins_81 : decode cX12_joins 81 = .ok (.getfield 167, 3) := by decide +kernel
theorem dX12_joins_84 : decode cX12_joins 84 = .ok (.iload 4, 2) := by decide +kernel
theorem dX12_joins_86 : decode cX12_joins 86 = .ok (.if_icmp .ge 21, 3) := by decide +kernel
theorem dX12_joins_89 : decode cX12_joins 89 = .ok (.aload_n 0, 1) := by decide +kernel
theorem dX12_joins_90 : decode cX12_joins 90 = .ok (.iload 5, 2) := by decide +kernel
theorem dX12_joins_92 : decode cX12_joins 92 = .ok (.putfield 200, 3) := by decide +kernel
theorem dX12_joins_95 : decode cX12_joins 95 = .ok (.aload_n 0, 1) := by decide +kernel
theorem dX12_joins_96 : decode cX12_joins 96 = .ok (.iload 6, 2) := by decide +kernel
theorem dX12_joins_98 : decode cX12_joins 98 = .ok (.putfield 206, 3) := by decide +kernel
theorem dX12_joins_101 : decode cX12_joins 101 = .ok (.aload_n 0, 1) := by decide +kernel
theorem dX12_joins_102 : decode cX12_joins 102 = .ok (.getfield 167, 3) := by decide +kernel
theorem dX12_joins_105 : decode cX12_joins 105 = .ok (.istore 4, 2) := by decide +kernel
theorem dX12_joins_107 : decode cX12_joins 107 = .ok (.iinc 5 1, 3) := by decide +kernel
theorem dX12_joins_110 : decode cX12_joins 110 = .ok (.goto (-99), 3) := by decide +kernel
theorem dX12_joins_113 : decode cX12_joins 113 = .ok (.aload_n 0, 1) := by decide +kernel
theorem dX12_joins_114 : decode cX12_joins 114 = .ok (.getfield 200, 3) := by decide +kernel
theorem dX12_joins_117 : decode cX12_joins 117 = .ok (.ifCond .lt 21, 3) := by decide +kernel
theorem dX12_joins_120 : decode cX12_joins 120 = .ok (.aload_n 0, 1) := by decide +kernel
theorem dX12_joins_121 : decode cX12_joins 121 = .ok (.iload_n 1, 1) := by decide +kernel
theorem dX12_joins_122 : decode cX12_joins 122 = .ok (.iload_n 2, 1) := by decide +kernel
theorem dX12_joins_123 : decode cX12_joins 123 = .ok (.iload_n 3, 1) := by decide +kernel
theorem dX12_joins_124 : decode cX12_joins 124 = .ok (.aload_n 0, 1) := by decide +kernel
theorem dX12_joins_125 : decode cX12_joins 125 = .ok (.getfield 200, 3) := by decide +kernel
theorem dX12_joins_128 : decode cX12_joins 128 = .ok (.invokevirtual 203, 3) := by decide +kernel
theorem dX12_joins_131 : decode cX12_joins 131 = .ok (.ifCond .eq 7, 3) := by decide +kernel
theorem dX12_joins_134 : decode cX12_joins 134 = .ok (.iconst 1, 1) := by decide +kernel
theorem dX12_joins_135 : decode cX12_joins 135 = .ok (.goto 4, 3) := by decide +kernel
theorem dX12_joins_138 : decode cX12_joins 138 = .ok (.iconst 0, 1) := by decide +kernel
theorem dX12_joins_139 : decode cX12_joins 139 = .ok (.ireturn, 1) := by decide +kernel
theorem dX12_hinders_0 : decode cX12_hinders 0 = .ok (.aload_n 0, 1) := by decide +kernel
theorem dX12_hinders_1 : decode cX12_hinders 1 = .ok (.iload_n 1, 1) := by decide +kernel
theorem dX12_hinders_2 : decode cX12_hinders 2 = .ok (.invokevirtual 139, 3) := by decide +kernel
theorem dX12_hinders_5 : decode cX12_hinders 5 = .ok (.ifCond .eq 24, 3) := by decide +kernel
theorem dX12_hinders_8 : decode cX12_hinders 8 = .ok (.aload_n 0, 1) := by decide +kernel
theorem dX12_hinders_9 : decode cX12_hinders 9 = .ok (.iload_n 2, 1) := by decide +kernel
theorem dX12_hinders_10 : decode cX12_hinders 10 = .ok (.invokevirtual 117, 3) := by decide +kernel
theorem dX12_hinders_13 : decode cX12_hinders 13 = .ok (.ifCond .eq 16, 3) := by decide +kernel
theorem dX12_hinders_16 : decode cX12_hinders 16 = .ok (.aload_n 0, 1) := by decide +kernel
theorem dX12_hinders_17 : decode cX12_hinders 17 = .ok (.iload_n 3, 1) := by decide +kernel
theorem dX12_hinders_18 : decode cX12_hinders 18 = .ok (.invokevirtual 117, 3) := by decide +kernel
theorem dX12_hinders_21 : decode cX12_hinders 21 = .ok (.ifCond .eq 8, 3) := by decide +kernel
theorem dX12_hinders_24 : decode cX12_hinders 24 = .ok (.iload_n 2, 1) := by decide +kernel
theorem dX12_hinders_25 : decode cX12_hinders 25 = .ok (.iload_n 3, 1) := by decide +kernel
theorem dX12_hinders_26 : decode cX12_hinders 26 = .ok (.if_icmp .ne 5, 3) := by decide +kernel
theorem dX12_hinders_29 : decode cX12_hinders 29 = .ok (.iconst 0, 1) := by decide +kernel
theorem dX12_hinders_30 : decode cX12_hinders 30 = .ok (.ireturn, 1) := by decide +kernel
theorem dX12_hinders_31 : decode cX12_hinders 31 = .ok (.aload_n 0, 1) := by decide +kernel
theorem dX12_hinders_32 : decode cX12_hinders 32 = .ok (.iload_n 2, 1) := by decide +kernel
theorem dX12_hinders_33 : decode cX12_hinders 33 = .ok (.invokevirtual 129, 3) := by decide +kernel
theorem dX12_hinders_36 : decode cX12_hinders 36 = .ok (.ifCond .eq 11, 3) := by decide +kernel
theorem dX12_hinders_39 : decode cX12_hinders 39 = .ok (.aload_n 0, 1) := by decide +kernel
theorem dX12_hinders_40 : decode cX12_hinders 40 = .ok (.iload_n 3, 1) := by decide +kernel
theorem dX12_hinders_41 : decode cX12_hinders 41 = .ok (.invokevirtual 129, 3) := by decide +kernel
theorem dX12_hinders_44 : decode cX12_hinders 44 = .ok (.ifCond .ne 7, 3) := by decide +kernel
theorem dX12_hinders_47 : decode cX12_hinders 47 = .ok (.iconst 4, 1) := by decide +kernel
theorem dX12_hinders_48 : decode cX12_hinders 48 = .ok (.goto 18, 3) := by decide +kernel
theorem dX12_hinders_51 : decode cX12_hinders 51 = .ok (.aload_n 0, 1) := by decide +kernel
theorem dX12_hinders_52 : decode cX12_hinders 52 = .ok (.iload_n 1, 1) := by decide +kernel
theorem dX12_hinders_53 : decode cX12_hinders 53 = .ok (.iload_n 2, 1) := by decide +kernel
theorem dX12_hinders_54 : decode cX12_hinders 54 = .ok (.iload_n 3, 1) := by decide +kernel
theorem dX12_hinders_55 : decode cX12_hinders 55 = .ok (.invokevirtual 209, 3) := by decide +kernel
theorem dX12_hinders_58 : decode cX12_hinders 58 = .ok (.ifCond .eq 7, 3) := by decide +kernel
theorem dX12_hinders_61 : decode cX12_hinders 61 = .ok (.iconst (-1), 1) := by decide +kernel
theorem dX12_hinders_62 : decode cX12_hinders 62 = .ok (.goto 4, 3) := by decide +kernel
theorem dX12_hinders_65 : decode cX12_hinders 65 = .ok (.iconst 3, 1) := by decide +kernel
theorem dX12_hinders_66 : decode cX12_hinders 66 = .ok (.ireturn, 1) := by decide +kernel
theorem dX12_join_0 : decode cX12_join 0 = .ok (.iload 4, 2) := by decide +kernel
theorem dX12_join_2 : decode cX12_join 2 = .ok (.iconst 0, 1) := by decide +kernel
theorem dX12_join_3 : decode cX12_join 3 = .ok (.iconst 4, 1) := by decide +kernel
theorem dX12_join_4 : decode cX12_join 4 = .ok (.invokestatic 65, 3) := by decide +kernel
theorem dX12_join_7 : decode cX12_join 7 = .ok (.ifCond .eq 13, 3) := by decide +kernel
theorem dX12_join_10 : decode cX12_join 10 = .ok (.aload_n 0, 1) := by decide +kernel
theorem dX12_join_11 : decode cX12_join 11 = .ok (.iload_n 1, 1) := by decide +kernel
theorem dX12_join_12 : decode cX12_join 12 = .ok (.iload_n 2, 1) := by decide +kernel
theorem dX12_join_13 : decode cX12_join 13 = .ok (.iload_n 3, 1) := by decide +kernel
theorem dX12_join_14 : decode cX12_join 14 = .ok (.invokevirtual 212, 3) := by decide +kernel
theorem dX12_join_17 : decode cX12_join 17 = .ok (.goto 4, 3) := by decide +kernel
theorem dX12_join_20 : decode cX12_join 20 = .ok (.iconst 0, 1) := by decide +kernel
theorem dX12_join_21 : decode cX12_join 21 = .ok (.istore 5, 2) := by decide +kernel
theorem dX12_join_23 : decode cX12_join 23 = .ok (.iload 5, 2) := by decide +kernel
theorem dX12_join_25 : decode cX12_join 25 = .ok (.ifCond .lt 10, 3) := by decide +kernel
theorem dX12_join_28 : decode cX12_join 28 = .ok (.aload_n 0, 1) := by decide +kernel
theorem dX12_join_29 : decode cX12_join 29 = .ok (.iload 5, 2) := by decide +kernel
theorem dX12_join_31 : decode cX12_join 31 = .ok (.invokevirtual 73, 3) := by decide +kernel
theorem dX12_join_34 : decode cX12_join 34 = .ok (.ireturn, 1) := by decide +kernel
theorem dX12_join_35 : decode cX12_join 35 = .ok (.iload 4, 2) := by decide +kernel
theorem dX12_join_37 : decode cX12_join 37 = .ok (.ifCond .ne 10, 3) := by decide +kernel
theorem dX12_join_40 : decode cX12_join 40 = .ok (.aload_n 0, 1) := by decide +kernel
theorem dX12_join_41 : decode cX12_join 41 = .ok (.getfield 200, 3) := by decide +kernel
theorem dX12_join_44 : decode cX12_join 44 = .ok (.goto 38, 3) := by decide +kernel
theorem dX12_join_47 : decode cX12_join 47 = .ok (.iload 4, 2) := by decide +kernel
theorem dX12_join_49 : decode cX12_join 49 = .ok (.iconst 1, 1) := by decide +kernel
theorem dX12_join_50 : decode cX12_join 50 = .ok (.if_icmp .ne 10, 3) := by decide +kernel
theorem dX12_join_53 : decode cX12_join 53 = .ok (.aload_n 0, 1) := by decide +kernel
theorem dX12_join_54 : decode cX12_join 54 = .ok (.getfield 206, 3) := by decide +kernel
theorem dX12_join_57 : decode cX12_join 57 = .ok (.goto 25, 3) := by decide +kernel
theorem dX12_join_60 : decode cX12_join 60 = .ok (.iload 4, 2) := by decide +kernel
theorem dX12_join_62 : decode cX12_join 62 = .ok (.iconst 2, 1) := by decide +kernel
theorem dX12_join_63 : decode cX12_join 63 = .ok (.if_icmp .ne 10, 3) := by decide +kernel
theorem dX12_join_66 : decode cX12_join 66 = .ok (.aload_n 0, 1) := by decide +kernel
theorem dX12_join_67 : decode cX12_join 67 = .ok (.getfield 167, 3) := by decide +kernel
theorem dX12_join_70 : decode cX12_join 70 = .ok (.goto 12, 3) := by decide +kernel
theorem dX12_join_73 : decode cX12_join 73 = .ok (.aload_n 0, 1) := by decide +kernel
theorem dX12_join_74 : decode cX12_join 74 = .ok (.getfield 25, 3) := by decide +kernel
theorem dX12_join_77 : decode cX12_join 77 = .ok (.iload 4, 2) := by decide +kernel
theorem dX12_join_79 : decode cX12_join 79 = .ok (.iconst 3, 1) := by decide +kernel
theorem dX12_join_80 : decode cX12_join 80 = .ok (.isub, 1) := by decide +kernel
theorem dX12_join_81 : decode cX12_join 81 = .ok (.iaload, 1) := by decide +kernel
theorem dX12_join_82 : decode cX12_join 82 = .ok (.ireturn, 1) := by decide +kernel
theorem dX12_payFor_0 : decode cX12_payFor 0 = .ok (.aload_n 0, 1) := by decide +kernel
theorem dX12_payFor_1 : decode cX12_payFor 1 = .ok (.getfield 7, 3) := by decide +kernel
theorem dX12_payFor_4 : decode cX12_payFor 4 = .ok (.bipush 6, 2) := by decide +kernel
theorem dX12_payFor_6 : decode cX12_payFor 6 = .ok (.iaload, 1) := by decide +kernel
theorem dX12_payFor_7 : decode cX12_payFor 7 = .ok (.ifCond .ge 5, 3) := by decide +kernel
theorem dX12_payFor_10 : decode cX12_payFor 10 = .ok (.iconst 0, 1) := by decide +kernel
theorem dX12_payFor_11 : decode cX12_payFor 11 = .ok (.ireturn, 1) := by decide +kernel
theorem dX12_payFor_12 : decode cX12_payFor 12 = .ok (.aload_n 0, 1) := by decide +kernel
theorem dX12_payFor_13 : decode cX12_payFor 13 = .ok (.iload_n 1, 1) := by decide +kernel
theorem dX12_payFor_14 : decode cX12_payFor 14 = .ok (.iconst 0, 1) := by decide +kernel
theorem dX12_payFor_15 : decode cX12_payFor 15 = .ok (.invokevirtual 136, 3) := by decide +kernel
theorem dX12_payFor_18 : decode cX12_payFor 18 = .ok (.istore 4, 2) := by decide +kernel
theorem dX12_payFor_20 : decode cX12_payFor 20 = .ok (.aload_n 0, 1) := by decide +kernel
theorem dX12_payFor_21 : decode cX12_payFor 21 = .ok (.iload 4, 2) := by decide +kernel
theorem dX12_payFor_23 : decode cX12_payFor 23 = .ok (.aload_n 0, 1) := by decide +kernel
theorem dX12_payFor_24 : decode cX12_payFor 24 = .ok (.iload_n 1, 1) := by decide +kernel
theorem dX12_payFor_25 : decode cX12_payFor 25 = .ok (.iconst 1, 1) := by decide +kernel
theorem dX12_payFor_26 : decode cX12_payFor 26 = .ok (.invokevirtual 136, 3) := by decide +kernel
theorem dX12_payFor_29 : decode cX12_payFor 29 = .ok (.iload_n 2, 1) := by decide +kernel
theorem dX12_payFor_30 : decode cX12_payFor 30 = .ok (.invokevirtual 215, 3) := by decide +kernel
theorem dX12_payFor_33 : decode cX12_payFor 33 = .ok (.aload_n 0, 1) := by decide +kernel
theorem dX12_payFor_34 : decode cX12_payFor 34 = .ok (.getfield 34, 3) := by decide +kernel
theorem dX12_payFor_37 : decode cX12_payFor 37 = .ok (.bipush 119, 2) := by decide +kernel
theorem dX12_payFor_39 : decode cX12_payFor 39 = .ok (.aload_n 0, 1) := by decide +kernel
theorem dX12_payFor_40 : decode cX12_payFor 40 = .ok (.getfield 22, 3) := by decide +kernel
theorem dX12_payFor_43 : decode cX12_payFor 43 = .ok (.iload_n 3, 1) := by decide +kernel
theorem dX12_payFor_44 : decode cX12_payFor 44 = .ok (.iaload, 1) := by decide +kernel
theorem dX12_payFor_45 : decode cX12_payFor 45 = .ok (.aload_n 0, 1) := by decide +kernel
theorem dX12_payFor_46 : decode cX12_payFor 46 = .ok (.iload_n 2, 1) := by decide +kernel
theorem dX12_payFor_47 : decode cX12_payFor 47 = .ok (.iconst 2, 1) := by decide +kernel
theorem dX12_payFor_48 : decode cX12_payFor 48 = .ok (.invokevirtual 99, 3) := by decide +kernel
theorem dX12_payFor_51 : decode cX12_payFor 51 = .ok (.isub, 1) := by decide +kernel
theorem dX12_payFor_52 : decode cX12_payFor 52 = .ok (.iastore, 1) := by decide +kernel
theorem dX12_payFor_53 : decode cX12_payFor 53 = .ok (.aload_n 0, 1) := by decide +kernel
theorem dX12_payFor_54 : decode cX12_payFor 54 = .ok (.getfield 34, 3) := by decide +kernel
theorem dX12_payFor_57 : decode cX12_payFor 57 = .ok (.bipush 104, 2) := by decide +kernel
theorem dX12_payFor_59 : decode cX12_payFor 59 = .ok (.aload_n 0, 1) := by decide +kernel
theorem dX12_payFor_60 : decode cX12_payFor 60 = .ok (.iload_n 1, 1) := by decide +kernel
theorem dX12_payFor_61 : decode cX12_payFor 61 = .ok (.iconst 3, 1) := by decide +kernel
theorem dX12_payFor_62 : decode cX12_payFor 62 = .ok (.invokevirtual 136, 3) := by decide +kernel
theorem dX12_payFor_65 : decode cX12_payFor 65 = .ok (.iastore, 1) := by decide +kernel
theorem dX12_payFor_66 : decode cX12_payFor 66 = .ok (.aload_n 0, 1) := by decide +kernel
theorem dX12_payFor_67 : decode cX12_payFor 67 = .ok (.getfield 34, 3) := by decide +kernel
theorem dX12_payFor_70 : decode cX12_payFor 70 = .ok (.bipush 114, 2) := by decide +kernel
theorem dX12_payFor_72 : decode cX12_payFor 72 = .ok (.aload_n 0, 1) := by decide +kernel
theorem dX12_payFor_73 : decode cX12_payFor 73 = .ok (.iload_n 1, 1) := by decide +kernel
theorem dX12_payFor_74 : decode cX12_payFor 74 = .ok (.invokevirtual 148, 3) := by decide +kernel
theorem dX12_payFor_77 : decode cX12_payFor 77 = .ok (.iastore, 1) := by decide +kernel
theorem dX12_payFor_78 : decode cX12_payFor 78 = .ok (.aload_n 0, 1) := by decide +kernel
theorem dX12_payFor_79 : decode cX12_payFor 79 = .ok (.getfield 34, 3) := by decide +kernel
theorem dX12_payFor_82 : decode cX12_payFor 82 = .ok (.bipush 108, 2) := by decide +kernel
theorem dX12_payFor_84 : decode cX12_payFor 84 = .ok (.aload_n 0, 1) := by decide +kernel
theorem dX12_payFor_85 : decode cX12_payFor 85 = .ok (.iload_n 2, 1) := by decide +kernel
theorem dX12_payFor_86 : decode cX12_payFor 86 = .ok (.aload_n 0, 1) := by decide +kernel
theorem dX12_payFor_87 : decode cX12_payFor 87 = .ok (.getfield 25, 3) := by decide +kernel
theorem dX12_payFor_90 : decode cX12_payFor 90 = .ok (.iload_n 3, 1) := by decide +kernel
theorem dX12_payFor_91 : decode cX12_payFor 91 = .ok (.iaload, 1) := by decide +kernel
theorem dX12_payFor_92 : decode cX12_payFor 92 = .ok (.invokevirtual 102, 3) := by decide +kernel
theorem dX12_payFor_95 : decode cX12_payFor 95 = .ok (.iastore, 1) := by decide +kernel
theorem dX12_payFor_96 : decode cX12_payFor 96 = .ok (.aload_n 0, 1) := by decide +kernel
theorem dX12_payFor_97 : decode cX12_payFor 97 = .ok (.getfield 34, 3) := by decide +kernel
theorem dX12_payFor_100 : decode cX12_payFor 100 = .ok (.bipush 110, 2) := by decide +kernel
theorem dX12_payFor_102 : decode cX12_payFor 102 = .ok (.iload_n 1, 1) := by decide +kernel
theorem dX12_payFor_103 : decode cX12_payFor 103 = .ok (.iastore, 1) := by decide +kernel
theorem dX12_payFor_104 : decode cX12_payFor 104 = .ok (.aload_n 0, 1) := by decide +kernel
theorem dX12_payFor_105 : decode cX12_payFor 105 = .ok (.aload_n 0, 1) := by decide +kernel
theorem dX12_payFor_106 : decode cX12_payFor 106 = .ok (.getfield 7, 3) := by decide +kernel
theorem dX12_payFor_109 : decode cX12_payFor 109 = .ok (.bipush 6, 2) := by decide +kernel
theorem dX12_payFor_111 : decode cX12_payFor 111 = .ok (.iaload, 1) := by decide +kernel
theorem dX12_payFor_112 : decode cX12_payFor 112 = .ok (.invokevirtual 218, 3) := by decide +kernel
theorem dX12_payFor_115 : decode cX12_payFor 115 = .ok (.istore 5, 2) := by decide +kernel
theorem dX12_payFor_117 : decode cX12_payFor 117 = .ok (.iload 5, 2) := by decide +kernel
theorem dX12_payFor_119 : decode cX12_payFor 119 = .ok (.ifCond .ge 7, 3) := by decide +kernel
theorem dX12_payFor_122 : decode cX12_payFor 122 = .ok (.iconst 0, 1) := by decide +kernel
theorem dX12_payFor_123 : decode cX12_payFor 123 = .ok (.goto 19, 3) := by decide +kernel
theorem dX12_payFor_126 : decode cX12_payFor 126 = .ok (.iload 5, 2) := by decide +kernel
theorem dX12_payFor_128 : decode cX12_payFor 128 = .ok (.sipush 9999, 3) := by decide +kernel
theorem dX12_payFor_131 : decode cX12_payFor 131 = .ok (.if_icmp .le 9, 3) := by decide +kernel
theorem dX12_payFor_134 : decode cX12_payFor 134 = .ok (.sipush 9999, 3) := by decide +kernel
theorem dX12_payFor_137 : decode cX12_payFor 137 = .ok (.goto 5, 3) := by decide +kernel
theorem dX12_payFor_140 : decode cX12_payFor 140 = .ok (.iload 5, 2) := by decide +kernel
theorem dX12_payFor_142 : decode cX12_payFor 142 = .ok (.ireturn, 1) := by decide +kernel
theorem dX12_becomesGiven_0 : decode cX12_becomesGiven 0 = .ok (.sipush 312, 3) := by decide +kernel
theorem dX12_becomesGiven_3 : decode cX12_becomesGiven 3 = .ok (.bipush 12, 2) := by decide +kernel
theorem dX12_becomesGiven_5 : decode cX12_becomesGiven 5 = .ok (.iload_n 2, 1) := by decide +kernel
theorem dX12_becomesGiven_6 : decode cX12_becomesGiven 6 = .ok (.imul, 1) := by decide +kernel
theorem dX12_becomesGiven_7 : decode cX12_becomesGiven 7 = .ok (.iadd, 1) := by decide +kernel
theorem dX12_becomesGiven_8 : decode cX12_becomesGiven 8 = .ok (.istore 5, 2) := by decide +kernel
theorem dX12_becomesGiven_10 : decode cX12_becomesGiven 10 = .ok (.aload_n 0, 1) := by decide +kernel
theorem dX12_becomesGiven_11 : decode cX12_becomesGiven 11 = .ok (.getfield 7, 3) := by decide +kernel
theorem dX12_becomesGiven_14 : decode cX12_becomesGiven 14 = .ok (.iload 5, 2) := by decide +kernel
theorem dX12_becomesGiven_16 : decode cX12_becomesGiven 16 = .ok (.iconst 5, 1) := by decide +kernel
theorem dX12_becomesGiven_17 : decode cX12_becomesGiven 17 = .ok (.iadd, 1) := by decide +kernel
theorem dX12_becomesGiven_18 : decode cX12_becomesGiven 18 = .ok (.iconst 1, 1) := by decide +kernel
theorem dX12_becomesGiven_19 : decode cX12_becomesGiven 19 = .ok (.iastore, 1) := by decide +kernel
theorem dX12_becomesGiven_20 : decode cX12_becomesGiven 20 = .ok (.aload_n 0, 1) := by decide +kernel
theorem dX12_becomesGiven_21 : decode cX12_becomesGiven 21 = .ok (.getfield 7, 3) := by decide +kernel
theorem dX12_becomesGiven_24 : decode cX12_becomesGiven 24 = .ok (.iload 5, 2) := by decide +kernel
theorem dX12_becomesGiven_26 : decode cX12_becomesGiven 26 = .ok (.bipush 6, 2) := by decide +kernel
theorem dX12_becomesGiven_28 : decode cX12_becomesGiven 28 = .ok (.iadd, 1) := by decide +kernel
theorem dX12_becomesGiven_29 : decode cX12_becomesGiven 29 = .ok (.iload_n 1, 1) := by decide +kernel
theorem dX12_becomesGiven_30 : decode cX12_becomesGiven 30 = .ok (.iastore, 1) := by decide +kernel
theorem dX12_becomesGiven_31 : decode cX12_becomesGiven 31 = .ok (.aload_n 0, 1) := by decide +kernel
theorem dX12_becomesGiven_32 : decode cX12_becomesGiven 32 = .ok (.getfield 7, 3) := by decide +kernel
theorem dX12_becomesGiven_35 : decode cX12_becomesGiven 35 = .ok (.iload 5, 2) := by decide +kernel
theorem dX12_becomesGiven_37 : decode cX12_becomesGiven 37 = .ok (.bipush 7, 2) := by decide +kernel
theorem dX12_becomesGiven_39 : decode cX12_becomesGiven 39 = .ok (.iadd, 1) := by decide +kernel
theorem dX12_becomesGiven_40 : decode cX12_becomesGiven 40 = .ok (.aload_n 0, 1) := by decide +kernel
theorem dX12_becomesGiven_41 : decode cX12_becomesGiven 41 = .ok (.getfield 22, 3) := by decide +kernel
theorem dX12_becomesGiven_44 : decode cX12_becomesGiven 44 = .ok (.iload_n 3, 1) := by decide +kernel
theorem dX12_becomesGiven_45 : decode cX12_becomesGiven 45 = .ok (.iaload, 1) := by decide +kernel
theorem dX12_becomesGiven_46 : decode cX12_becomesGiven 46 = .ok (.iastore, 1) := by decide +kernel
theorem dX12_becomesGiven_47 : decode cX12_becomesGiven 47 = .ok (.aload_n 0, 1) := by decide +kernel
theorem dX12_becomesGiven_48 : decode cX12_becomesGiven 48 = .ok (.getfield 7, 3) := by decide +kernel
theorem dX12_becomesGiven_51 : decode cX12_becomesGiven 51 = .ok (.iload 5, 2) := by decide +kernel
theorem dX12_becomesGiven_53 : decode cX12_becomesGiven 53 = .ok (.bipush 8, 2) := by decide +kernel
theorem dX12_becomesGiven_55 : decode cX12_becomesGiven 55 = .ok (.iadd, 1) := by decide +kernel
theorem dX12_becomesGiven_56 : decode cX12_becomesGiven 56 = .ok (.aload_n 0, 1) := by decide +kernel
theorem dX12_becomesGiven_57 : decode cX12_becomesGiven 57 = .ok (.getfield 25, 3) := by decide +kernel
theorem dX12_becomesGiven_60 : decode cX12_becomesGiven 60 = .ok (.iload_n 3, 1) := by decide +kernel
theorem dX12_becomesGiven_61 : decode cX12_becomesGiven 61 = .ok (.iaload, 1) := by decide +kernel
theorem dX12_becomesGiven_62 : decode cX12_becomesGiven 62 = .ok (.iastore, 1) := by decide +kernel
theorem dX12_becomesGiven_63 : decode cX12_becomesGiven 63 = .ok (.aload_n 0, 1) := by decide +kernel
theorem dX12_becomesGiven_64 : decode cX12_becomesGiven 64 = .ok (.getfield 7, 3) := by decide +kernel
theorem dX12_becomesGiven_67 : decode cX12_becomesGiven 67 = .ok (.iload 5, 2) := by decide +kernel
theorem dX12_becomesGiven_69 : decode cX12_becomesGiven 69 = .ok (.bipush 9, 2) := by decide +kernel
theorem dX12_becomesGiven_71 : decode cX12_becomesGiven 71 = .ok (.iadd, 1) := by decide +kernel
theorem dX12_becomesGiven_72 : decode cX12_becomesGiven 72 = .ok (.iload 4, 2) := by decide +kernel
theorem dX12_becomesGiven_74 : decode cX12_becomesGiven 74 = .ok (.iastore, 1) := by decide +kernel
theorem dX12_becomesGiven_75 : decode cX12_becomesGiven 75 = .ok (.aload_n 0, 1) := by decide +kernel
theorem dX12_becomesGiven_76 : decode cX12_becomesGiven 76 = .ok (.getfield 7, 3) := by decide +kernel
theorem dX12_becomesGiven_79 : decode cX12_becomesGiven 79 = .ok (.sipush 600, 3) := by decide +kernel
theorem dX12_becomesGiven_82 : decode cX12_becomesGiven 82 = .ok (.bipush 8, 2) := by decide +kernel
theorem dX12_becomesGiven_84 : decode cX12_becomesGiven 84 = .ok (.iload_n 1, 1) := by decide +kernel
theorem dX12_becomesGiven_85 : decode cX12_becomesGiven 85 = .ok (.imul, 1) := by decide +kernel
theorem dX12_becomesGiven_86 : decode cX12_becomesGiven 86 = .ok (.iadd, 1) := by decide +kernel
theorem dX12_becomesGiven_87 : decode cX12_becomesGiven 87 = .ok (.iconst 3, 1) := by decide +kernel
theorem dX12_becomesGiven_88 : decode cX12_becomesGiven 88 = .ok (.iadd, 1) := by decide +kernel
theorem dX12_becomesGiven_89 : decode cX12_becomesGiven 89 = .ok (.dup2, 1) := by decide +kernel
theorem dX12_becomesGiven_90 : decode cX12_becomesGiven 90 = .ok (.iaload, 1) := by decide +kernel
theorem dX12_becomesGiven_91 : decode cX12_becomesGiven 91 = .ok (.iconst 1, 1) := by decide +kernel
theorem dX12_becomesGiven_92 : decode cX12_becomesGiven 92 = .ok (.iadd, 1) := by decide +kernel
theorem dX12_becomesGiven_93 : decode cX12_becomesGiven 93 = .ok (.iastore, 1) := by decide +kernel
theorem dX12_becomesGiven_94 : decode cX12_becomesGiven 94 = .ok (.return_, 1) := by decide +kernel
theorem dX12_ends_0 : decode cX12_ends 0 = .ok (.aload_n 0, 1) := by decide +kernel
theorem dX12_ends_1 : decode cX12_ends 1 = .ok (.getfield 7, 3) := by decide +kernel
theorem dX12_ends_4 : decode cX12_ends 4 = .ok (.sipush 894, 3) := by decide +kernel
theorem dX12_ends_7 : decode cX12_ends 7 = .ok (.iconst 3, 1) := by decide +kernel
theorem dX12_ends_8 : decode cX12_ends 8 = .ok (.aload_n 0, 1) := by decide +kernel
theorem dX12_ends_9 : decode cX12_ends 9 = .ok (.getfield 7, 3) := by decide +kernel
theorem dX12_ends_12 : decode cX12_ends 12 = .ok (.bipush 10, 2) := by decide +kernel
theorem dX12_ends_14 : decode cX12_ends 14 = .ok (.iaload, 1) := by decide +kernel
theorem dX12_ends_15 : decode cX12_ends 15 = .ok (.imul, 1) := by decide +kernel
theorem dX12_ends_16 : decode cX12_ends 16 = .ok (.iadd, 1) := by decide +kernel
theorem dX12_ends_17 : decode cX12_ends 17 = .ok (.iload_n 1, 1) := by decide +kernel
theorem dX12_ends_18 : decode cX12_ends 18 = .ok (.iastore, 1) := by decide +kernel
theorem dX12_ends_19 : decode cX12_ends 19 = .ok (.aload_n 0, 1) := by decide +kernel
theorem dX12_ends_20 : decode cX12_ends 20 = .ok (.getfield 7, 3) := by decide +kernel
theorem dX12_ends_23 : decode cX12_ends 23 = .ok (.sipush 894, 3) := by decide +kernel
theorem dX12_ends_26 : decode cX12_ends 26 = .ok (.iconst 3, 1) := by decide +kernel
theorem dX12_ends_27 : decode cX12_ends 27 = .ok (.aload_n 0, 1) := by decide +kernel
theorem dX12_ends_28 : decode cX12_ends 28 = .ok (.getfield 7, 3) := by decide +kernel
theorem dX12_ends_31 : decode cX12_ends 31 = .ok (.bipush 10, 2) := by decide +kernel
theorem dX12_ends_33 : decode cX12_ends 33 = .ok (.iaload, 1) := by decide +kernel
theorem dX12_ends_34 : decode cX12_ends 34 = .ok (.imul, 1) := by decide +kernel
theorem dX12_ends_35 : decode cX12_ends 35 = .ok (.iadd, 1) := by decide +kernel
theorem dX12_ends_36 : decode cX12_ends 36 = .ok (.iconst 1, 1) := by decide +kernel
theorem dX12_ends_37 : decode cX12_ends 37 = .ok (.iadd, 1) := by decide +kernel
theorem dX12_ends_38 : decode cX12_ends 38 = .ok (.aload_n 0, 1) := by decide +kernel
theorem dX12_ends_39 : decode cX12_ends 39 = .ok (.iload_n 1, 1) := by decide +kernel
theorem dX12_ends_40 : decode cX12_ends 40 = .ok (.invokevirtual 187, 3) := by decide +kernel
theorem dX12_ends_43 : decode cX12_ends 43 = .ok (.iastore, 1) := by decide +kernel
theorem dX12_ends_44 : decode cX12_ends 44 = .ok (.aload_n 0, 1) := by decide +kernel
theorem dX12_ends_45 : decode cX12_ends 45 = .ok (.getfield 7, 3) := by decide +kernel
theorem dX12_ends_48 : decode cX12_ends 48 = .ok (.sipush 894, 3) := by decide +kernel
theorem dX12_ends_51 : decode cX12_ends 51 = .ok (.iconst 3, 1) := by decide +kernel
theorem dX12_ends_52 : decode cX12_ends 52 = .ok (.aload_n 0, 1) := by decide +kernel
theorem dX12_ends_53 : decode cX12_ends 53 = .ok (.getfield 7, 3) := by decide +kernel
theorem dX12_ends_56 : decode cX12_ends 56 = .ok (.bipush 10, 2) := by decide +kernel
theorem dX12_ends_58 : decode cX12_ends 58 = .ok (.iaload, 1) := by decide +kernel
theorem dX12_ends_59 : decode cX12_ends 59 = .ok (.imul, 1) := by decide +kernel
theorem dX12_ends_60 : decode cX12_ends 60 = .ok (.iadd, 1) := by decide +kernel
theorem dX12_ends_61 : decode cX12_ends 61 = .ok (.iconst 2, 1) := by decide +kernel
theorem dX12_ends_62 : decode cX12_ends 62 = .ok (.iadd, 1) := by decide +kernel
theorem dX12_ends_63 : decode cX12_ends 63 = .ok (.aload_n 0, 1) := by decide +kernel
theorem dX12_ends_64 : decode cX12_ends 64 = .ok (.getfield 167, 3) := by decide +kernel
theorem dX12_ends_67 : decode cX12_ends 67 = .ok (.iastore, 1) := by decide +kernel
theorem dX12_ends_68 : decode cX12_ends 68 = .ok (.aload_n 0, 1) := by decide +kernel
theorem dX12_ends_69 : decode cX12_ends 69 = .ok (.getfield 7, 3) := by decide +kernel
theorem dX12_ends_72 : decode cX12_ends 72 = .ok (.bipush 10, 2) := by decide +kernel
theorem dX12_ends_74 : decode cX12_ends 74 = .ok (.dup2, 1) := by decide +kernel
theorem dX12_ends_75 : decode cX12_ends 75 = .ok (.iaload, 1) := by decide +kernel
theorem dX12_ends_76 : decode cX12_ends 76 = .ok (.iconst 1, 1) := by decide +kernel
theorem dX12_ends_77 : decode cX12_ends 77 = .ok (.iadd, 1) := by decide +kernel
theorem dX12_ends_78 : decode cX12_ends 78 = .ok (.iastore, 1) := by decide +kernel
theorem dX12_ends_79 : decode cX12_ends 79 = .ok (.aload_n 0, 1) := by decide +kernel
theorem dX12_ends_80 : decode cX12_ends 80 = .ok (.getfield 7, 3) := by decide +kernel
theorem dX12_ends_83 : decode cX12_ends 83 = .ok (.sipush 600, 3) := by decide +kernel
theorem dX12_ends_86 : decode cX12_ends 86 = .ok (.bipush 8, 2) := by decide +kernel
theorem dX12_ends_88 : decode cX12_ends 88 = .ok (.iload_n 1, 1) := by decide +kernel
theorem dX12_ends_89 : decode cX12_ends 89 = .ok (.imul, 1) := by decide +kernel
theorem dX12_ends_90 : decode cX12_ends 90 = .ok (.iadd, 1) := by decide +kernel
theorem dX12_ends_91 : decode cX12_ends 91 = .ok (.iconst 1, 1) := by decide +kernel
theorem dX12_ends_92 : decode cX12_ends 92 = .ok (.iadd, 1) := by decide +kernel
theorem dX12_ends_93 : decode cX12_ends 93 = .ok (.aload_n 0, 1) := by decide +kernel
theorem dX12_ends_94 : decode cX12_ends 94 = .ok (.getfield 163, 3) := by decide +kernel
theorem dX12_ends_97 : decode cX12_ends 97 = .ok (.iastore, 1) := by decide +kernel
theorem dX12_ends_98 : decode cX12_ends 98 = .ok (.aload_n 0, 1) := by decide +kernel
theorem dX12_ends_99 : decode cX12_ends 99 = .ok (.getfield 7, 3) := by decide +kernel
theorem dX12_ends_102 : decode cX12_ends 102 = .ok (.sipush 600, 3) := by decide +kernel
theorem dX12_ends_105 : decode cX12_ends 105 = .ok (.bipush 8, 2) := by decide +kernel
theorem dX12_ends_107 : decode cX12_ends 107 = .ok (.iload_n 1, 1) := by decide +kernel
theorem dX12_ends_108 : decode cX12_ends 108 = .ok (.imul, 1) := by decide +kernel
theorem dX12_ends_109 : decode cX12_ends 109 = .ok (.iadd, 1) := by decide +kernel
theorem dX12_ends_110 : decode cX12_ends 110 = .ok (.iconst 2, 1) := by decide +kernel
theorem dX12_ends_111 : decode cX12_ends 111 = .ok (.iadd, 1) := by decide +kernel
theorem dX12_ends_112 : decode cX12_ends 112 = .ok (.aload_n 0, 1) := by decide +kernel
theorem dX12_ends_113 : decode cX12_ends 113 = .ok (.getfield 167, 3) := by decide +kernel
theorem dX12_ends_116 : decode cX12_ends 116 = .ok (.iastore, 1) := by decide +kernel
theorem dX12_ends_117 : decode cX12_ends 117 = .ok (.return_, 1) := by decide +kernel
theorem dX12_gives_0 : decode cX12_gives 0 = .ok (.aload_n 0, 1) := by decide +kernel
theorem dX12_gives_1 : decode cX12_gives 1 = .ok (.iload_n 1, 1) := by decide +kernel
theorem dX12_gives_2 : decode cX12_gives 2 = .ok (.iload_n 2, 1) := by decide +kernel
theorem dX12_gives_3 : decode cX12_gives 3 = .ok (.iconst 0, 1) := by decide +kernel
theorem dX12_gives_4 : decode cX12_gives 4 = .ok (.invokevirtual 221, 3) := by decide +kernel
theorem dX12_gives_7 : decode cX12_gives 7 = .ok (.istore_n 3, 1) := by decide +kernel
theorem dX12_gives_8 : decode cX12_gives 8 = .ok (.aload_n 0, 1) := by decide +kernel
theorem dX12_gives_9 : decode cX12_gives 9 = .ok (.iload_n 1, 1) := by decide +kernel
theorem dX12_gives_10 : decode cX12_gives 10 = .ok (.invokevirtual 224, 3) := by decide +kernel
theorem dX12_gives_13 : decode cX12_gives 13 = .ok (.aload_n 0, 1) := by decide +kernel
theorem dX12_gives_14 : decode cX12_gives 14 = .ok (.iload_n 1, 1) := by decide +kernel
theorem dX12_gives_15 : decode cX12_gives 15 = .ok (.iload_n 2, 1) := by decide +kernel
theorem dX12_gives_16 : decode cX12_gives 16 = .ok (.iconst 0, 1) := by decide +kernel
theorem dX12_gives_17 : decode cX12_gives 17 = .ok (.iload_n 3, 1) := by decide +kernel
theorem dX12_gives_18 : decode cX12_gives 18 = .ok (.invokevirtual 228, 3) := by decide +kernel
theorem dX12_gives_21 : decode cX12_gives 21 = .ok (.aload_n 0, 1) := by decide +kernel
theorem dX12_gives_22 : decode cX12_gives 22 = .ok (.getfield 25, 3) := by decide +kernel
theorem dX12_gives_25 : decode cX12_gives 25 = .ok (.iconst 0, 1) := by decide +kernel
theorem dX12_gives_26 : decode cX12_gives 26 = .ok (.iaload, 1) := by decide +kernel
theorem dX12_gives_27 : decode cX12_gives 27 = .ok (.ireturn, 1) := by decide +kernel
theorem dX12_give_0 : decode cX12_give 0 = .ok (.aload_n 0, 1) := by decide +kernel
theorem dX12_give_1 : decode cX12_give 1 = .ok (.iload_n 1, 1) := by decide +kernel
theorem dX12_give_2 : decode cX12_give 2 = .ok (.invokevirtual 139, 3) := by decide +kernel
theorem dX12_give_5 : decode cX12_give 5 = .ok (.ifCond .eq 11, 3) := by decide +kernel
theorem dX12_give_8 : decode cX12_give 8 = .ok (.aload_n 0, 1) := by decide +kernel
theorem dX12_give_9 : decode cX12_give 9 = .ok (.iload_n 2, 1) := by decide +kernel
theorem dX12_give_10 : decode cX12_give 10 = .ok (.invokevirtual 117, 3) := by decide +kernel
theorem dX12_give_13 : decode cX12_give 13 = .ok (.ifCond .ne 9, 3) := by decide +kernel
theorem dX12_give_16 : decode cX12_give 16 = .ok (.aload_n 0, 1) := by decide +kernel
theorem dX12_give_17 : decode cX12_give 17 = .ok (.iconst 0, 1) := by decide +kernel
theorem dX12_give_18 : decode cX12_give 18 = .ok (.invokevirtual 73, 3) := by decide +kernel
theorem dX12_give_21 : decode cX12_give 21 = .ok (.ireturn, 1) := by decide +kernel
theorem dX12_give_22 : decode cX12_give 22 = .ok (.aload_n 0, 1) := by decide +kernel
theorem dX12_give_23 : decode cX12_give 23 = .ok (.iload_n 2, 1) := by decide +kernel
theorem dX12_give_24 : decode cX12_give 24 = .ok (.invokevirtual 129, 3) := by decide +kernel
theorem dX12_give_27 : decode cX12_give 27 = .ok (.ifCond .ne 9, 3) := by decide +kernel
theorem dX12_give_30 : decode cX12_give 30 = .ok (.aload_n 0, 1) := by decide +kernel
theorem dX12_give_31 : decode cX12_give 31 = .ok (.iconst 4, 1) := by decide +kernel
theorem dX12_give_32 : decode cX12_give 32 = .ok (.invokevirtual 73, 3) := by decide +kernel
theorem dX12_give_35 : decode cX12_give 35 = .ok (.ireturn, 1) := by decide +kernel
theorem dX12_give_36 : decode cX12_give 36 = .ok (.aload_n 0, 1) := by decide +kernel
theorem dX12_give_37 : decode cX12_give 37 = .ok (.iload_n 1, 1) := by decide +kernel
theorem dX12_give_38 : decode cX12_give 38 = .ok (.iload_n 2, 1) := by decide +kernel
theorem dX12_give_39 : decode cX12_give 39 = .ok (.invokevirtual 194, 3) := by decide +kernel
theorem dX12_give_42 : decode cX12_give 42 = .ok (.ifCond .eq 12, 3) := by decide +kernel
theorem dX12_give_45 : decode cX12_give 45 = .ok (.aload_n 0, 1) := by decide +kernel
theorem dX12_give_46 : decode cX12_give 46 = .ok (.iload_n 1, 1) := by decide +kernel
theorem dX12_give_47 : decode cX12_give 47 = .ok (.iload_n 2, 1) := by decide +kernel
theorem dX12_give_48 : decode cX12_give 48 = .ok (.invokevirtual 232, 3) := by decide +kernel
theorem dX12_give_51 : decode cX12_give 51 = .ok (.goto 8, 3) := by decide +kernel
theorem dX12_give_54 : decode cX12_give 54 = .ok (.aload_n 0, 1) := by decide +kernel
theorem dX12_give_55 : decode cX12_give 55 = .ok (.iconst 3, 1) := by decide +kernel
theorem dX12_give_56 : decode cX12_give 56 = .ok (.invokevirtual 73, 3) := by decide +kernel
theorem dX12_give_59 : decode cX12_give 59 = .ok (.ireturn, 1) := by decide +kernel
theorem dX12_giveTwo_0 : decode cX12_giveTwo 0 = .ok (.aload_n 0, 1) := by decide +kernel
theorem dX12_giveTwo_1 : decode cX12_giveTwo 1 = .ok (.iload_n 1, 1) := by decide +kernel
theorem dX12_giveTwo_2 : decode cX12_giveTwo 2 = .ok (.iload_n 2, 1) := by decide +kernel
theorem dX12_giveTwo_3 : decode cX12_giveTwo 3 = .ok (.iload_n 3, 1) := by decide +kernel
theorem dX12_giveTwo_4 : decode cX12_giveTwo 4 = .ok (.invokevirtual 212, 3) := by decide +kernel
theorem dX12_giveTwo_7 : decode cX12_giveTwo 7 = .ok (.istore 4, 2) := by decide +kernel
theorem dX12_giveTwo_9 : decode cX12_giveTwo 9 = .ok (.iload 4, 2) := by decide +kernel
theorem dX12_giveTwo_11 : decode cX12_giveTwo 11 = .ok (.ifCond .lt 10, 3) := by decide +kernel
theorem dX12_giveTwo_14 : decode cX12_giveTwo 14 = .ok (.aload_n 0, 1) := by decide +kernel
theorem dX12_giveTwo_15 : decode cX12_giveTwo 15 = .ok (.iload 4, 2) := by decide +kernel
theorem dX12_giveTwo_17 : decode cX12_giveTwo 17 = .ok (.invokevirtual 73, 3) := by decide +kernel
theorem dX12_giveTwo_20 : decode cX12_giveTwo 20 = .ok (.ireturn, 1) := by decide +kernel
theorem dX12_giveTwo_21 : decode cX12_giveTwo 21 = .ok (.aload_n 0, 1) := by decide +kernel
theorem dX12_giveTwo_22 : decode cX12_giveTwo 22 = .ok (.iload_n 1, 1) := by decide +kernel
theorem dX12_giveTwo_23 : decode cX12_giveTwo 23 = .ok (.iload_n 2, 1) := by decide +kernel
theorem dX12_giveTwo_24 : decode cX12_giveTwo 24 = .ok (.iconst 0, 1) := by decide +kernel
theorem dX12_giveTwo_25 : decode cX12_giveTwo 25 = .ok (.invokevirtual 221, 3) := by decide +kernel
theorem dX12_giveTwo_28 : decode cX12_giveTwo 28 = .ok (.istore 5, 2) := by decide +kernel
theorem dX12_giveTwo_30 : decode cX12_giveTwo 30 = .ok (.aload_n 0, 1) := by decide +kernel
theorem dX12_giveTwo_31 : decode cX12_giveTwo 31 = .ok (.iload_n 1, 1) := by decide +kernel
theorem dX12_giveTwo_32 : decode cX12_giveTwo 32 = .ok (.iload_n 3, 1) := by decide +kernel
theorem dX12_giveTwo_33 : decode cX12_giveTwo 33 = .ok (.iconst 1, 1) := by decide +kernel
theorem dX12_giveTwo_34 : decode cX12_giveTwo 34 = .ok (.invokevirtual 221, 3) := by decide +kernel
theorem dX12_giveTwo_37 : decode cX12_giveTwo 37 = .ok (.istore 6, 2) := by decide +kernel
theorem dX12_giveTwo_39 : decode cX12_giveTwo 39 = .ok (.aload_n 0, 1) := by decide +kernel
theorem dX12_giveTwo_40 : decode cX12_giveTwo 40 = .ok (.iload_n 1, 1) := by decide +kernel
theorem dX12_giveTwo_41 : decode cX12_giveTwo 41 = .ok (.invokevirtual 224, 3) := by decide +kernel
theorem dX12_giveTwo_44 : decode cX12_giveTwo 44 = .ok (.aload_n 0, 1) := by decide +kernel
theorem dX12_giveTwo_45 : decode cX12_giveTwo 45 = .ok (.iload_n 1, 1) := by decide +kernel
theorem dX12_giveTwo_46 : decode cX12_giveTwo 46 = .ok (.iload_n 2, 1) := by decide +kernel
theorem dX12_giveTwo_47 : decode cX12_giveTwo 47 = .ok (.iconst 0, 1) := by decide +kernel
theorem dX12_giveTwo_48 : decode cX12_giveTwo 48 = .ok (.iload 5, 2) := by decide +kernel
theorem dX12_giveTwo_50 : decode cX12_giveTwo 50 = .ok (.invokevirtual 228, 3) := by decide +kernel
theorem dX12_giveTwo_53 : decode cX12_giveTwo 53 = .ok (.aload_n 0, 1) := by decide +kernel
theorem dX12_giveTwo_54 : decode cX12_giveTwo 54 = .ok (.iload_n 1, 1) := by decide +kernel
theorem dX12_giveTwo_55 : decode cX12_giveTwo 55 = .ok (.iload_n 3, 1) := by decide +kernel
theorem dX12_giveTwo_56 : decode cX12_giveTwo 56 = .ok (.iconst 1, 1) := by decide +kernel
theorem dX12_giveTwo_57 : decode cX12_giveTwo 57 = .ok (.iload 6, 2) := by decide +kernel
theorem dX12_giveTwo_59 : decode cX12_giveTwo 59 = .ok (.invokevirtual 228, 3) := by decide +kernel
theorem dX12_giveTwo_62 : decode cX12_giveTwo 62 = .ok (.aload_n 0, 1) := by decide +kernel
theorem dX12_giveTwo_63 : decode cX12_giveTwo 63 = .ok (.getfield 167, 3) := by decide +kernel
theorem dX12_giveTwo_66 : decode cX12_giveTwo 66 = .ok (.ireturn, 1) := by decide +kernel
theorem dX12_feed_0 : decode cX12_feed 0 = .ok (.iload_n 2, 1) := by decide +kernel
theorem dX12_feed_1 : decode cX12_feed 1 = .ok (.iconst 1, 1) := by decide +kernel
theorem dX12_feed_2 : decode cX12_feed 2 = .ok (.iconst 4, 1) := by decide +kernel
theorem dX12_feed_3 : decode cX12_feed 3 = .ok (.invokestatic 65, 3) := by decide +kernel
theorem dX12_feed_6 : decode cX12_feed 6 = .ok (.ifCond .ne 9, 3) := by decide +kernel
theorem dX12_feed_9 : decode cX12_feed 9 = .ok (.aload_n 0, 1) := by decide +kernel
theorem dX12_feed_10 : decode cX12_feed 10 = .ok (.iconst 0, 1) := by decide +kernel
theorem dX12_feed_11 : decode cX12_feed 11 = .ok (.invokevirtual 73, 3) := by decide +kernel
theorem dX12_feed_14 : decode cX12_feed 14 = .ok (.ireturn, 1) := by decide +kernel
theorem dX12_feed_15 : decode cX12_feed 15 = .ok (.aload_n 0, 1) := by decide +kernel
theorem dX12_feed_16 : decode cX12_feed 16 = .ok (.getfield 235, 3) := by decide +kernel
theorem dX12_feed_19 : decode cX12_feed 19 = .ok (.iload_n 2, 1) := by decide +kernel
theorem dX12_feed_20 : decode cX12_feed 20 = .ok (.iadd, 1) := by decide +kernel
theorem dX12_feed_21 : decode cX12_feed 21 = .ok (.bipush 80, 2) := by decide +kernel
theorem dX12_feed_23 : decode cX12_feed 23 = .ok (.if_icmp .le 9, 3) := by decide +kernel
theorem dX12_feed_26 : decode cX12_feed 26 = .ok (.aload_n 0, 1) := by decide +kernel
theorem dX12_feed_27 : decode cX12_feed 27 = .ok (.iconst 1, 1) := by decide +kernel
theorem dX12_feed_28 : decode cX12_feed 28 = .ok (.invokevirtual 73, 3) := by decide +kernel
theorem dX12_feed_31 : decode cX12_feed 31 = .ok (.ireturn, 1) := by decide +kernel
theorem dX12_feed_32 : decode cX12_feed 32 = .ok (.iload_n 2, 1) := by decide +kernel
theorem dX12_feed_33 : decode cX12_feed 33 = .ok (.iconst 1, 1) := by decide +kernel
theorem dX12_feed_34 : decode cX12_feed 34 = .ok (.isub, 1) := by decide +kernel
theorem dX12_feed_35 : decode cX12_feed 35 = .ok (.istore_n 3, 1) := by decide +kernel
theorem dX12_feed_36 : decode cX12_feed 36 = .ok (.iload_n 3, 1) := by decide +kernel
theorem dX12_feed_37 : decode cX12_feed 37 = .ok (.ifCond .lt 38, 3) := by decide +kernel
theorem dX12_feed_40 : decode cX12_feed 40 = .ok (.aload_n 0, 1) := by decide +kernel
theorem dX12_feed_41 : decode cX12_feed 41 = .ok (.getfield 28, 3) := by decide +kernel
theorem dX12_feed_44 : decode cX12_feed 44 = .ok (.aload_n 0, 1) := by decide +kernel
theorem dX12_feed_45 : decode cX12_feed 45 = .ok (.getfield 235, 3) := by decide +kernel
theorem dX12_feed_48 : decode cX12_feed 48 = .ok (.iload_n 1, 1) := by decide +kernel
theorem dX12_feed_49 : decode cX12_feed 49 = .ok (.bipush 8, 2) := by decide +kernel
theorem dX12_feed_51 : decode cX12_feed 51 = .ok (.iload_n 3, 1) := by decide +kernel
theorem dX12_feed_52 : decode cX12_feed 52 = .ok (.imul, 1) := by decide +kernel
theorem dX12_feed_53 : decode cX12_feed 53 = .ok (.ishr, 1) := by decide +kernel
theorem dX12_feed_54 : decode cX12_feed 54 = .ok (.sipush 255, 3) := by decide +kernel
theorem dX12_feed_57 : decode cX12_feed 57 = .ok (.iand, 1) := by decide +kernel
theorem dX12_feed_58 : decode cX12_feed 58 = .ok (.iastore, 1) := by decide +kernel
theorem dX12_feed_59 : decode cX12_feed 59 = .ok (.aload_n 0, 1) := by decide +kernel
theorem dX12_feed_60 : decode cX12_feed 60 = .ok (.dup, 1) := by decide +kernel
theorem dX12_feed_61 : decode cX12_feed 61 = .ok (.getfield 235, 3) := by decide +kernel
theorem dX12_feed_64 : decode cX12_feed 64 = .ok (.iconst 1, 1) := by decide +kernel
theorem dX12_feed_65 : decode cX12_feed 65 = .ok (.iadd, 1) := by decide +kernel
theorem dX12_feed_66 : decode cX12_feed 66 = .ok (.putfield 235, 3) := by decide +kernel
theorem dX12_feed_69 : decode cX12_feed 69 = .ok (.iinc 3 (-1), 3) := by decide +kernel
theorem dX12_feed_72 : decode cX12_feed 72 = .ok (.goto (-36), 3) := by decide +kernel
theorem dX12_feed_75 : decode cX12_feed 75 = .ok (.aload_n 0, 1) := by decide +kernel
theorem dX12_feed_76 : decode cX12_feed 76 = .ok (.getfield 235, 3) := by decide +kernel
theorem dX12_feed_79 : decode cX12_feed 79 = .ok (.ireturn, 1) := by decide +kernel
theorem dX12_wipe_0 : decode cX12_wipe 0 = .ok (.aload_n 0, 1) := by decide +kernel
theorem dX12_wipe_1 : decode cX12_wipe 1 = .ok (.getfield 235, 3) := by decide +kernel
theorem dX12_wipe_4 : decode cX12_wipe 4 = .ok (.istore_n 1, 1) := by decide +kernel
theorem dX12_wipe_5 : decode cX12_wipe 5 = .ok (.aload_n 0, 1) := by decide +kernel
theorem dX12_wipe_6 : decode cX12_wipe 6 = .ok (.iconst 0, 1) := by decide +kernel
theorem dX12_wipe_7 : decode cX12_wipe 7 = .ok (.putfield 235, 3) := by decide +kernel
theorem dX12_wipe_10 : decode cX12_wipe 10 = .ok (.iload_n 1, 1) := by decide +kernel
theorem dX12_wipe_11 : decode cX12_wipe 11 = .ok (.ireturn, 1) := by decide +kernel
theorem dX12_isName_0 : decode cX12_isName 0 = .ok (.iload_n 0, 1) := by decide +kernel
theorem dX12_isName_1 : decode cX12_isName 1 = .ok (.bipush 100, 2) := by decide +kernel
theorem dX12_isName_3 : decode cX12_isName 3 = .ok (.if_icmp .eq 39, 3) := by decide +kernel
theorem dX12_isName_6 : decode cX12_isName 6 = .ok (.iload_n 0, 1) := by decide +kernel
theorem dX12_isName_7 : decode cX12_isName 7 = .ok (.bipush 119, 2) := by decide +kernel
theorem dX12_isName_9 : decode cX12_isName 9 = .ok (.if_icmp .eq 33, 3) := by decide +kernel
theorem dX12_isName_12 : decode cX12_isName 12 = .ok (.iload_n 0, 1) := by decide +kernel
theorem dX12_isName_13 : decode cX12_isName 13 = .ok (.bipush 104, 2) := by decide +kernel
theorem dX12_isName_15 : decode cX12_isName 15 = .ok (.if_icmp .eq 27, 3) := by decide +kernel
theorem dX12_isName_18 : decode cX12_isName 18 = .ok (.iload_n 0, 1) := by decide +kernel
theorem dX12_isName_19 : decode cX12_isName 19 = .ok (.bipush 114, 2) := by decide +kernel
theorem dX12_isName_21 : decode cX12_isName 21 = .ok (.if_icmp .eq 21, 3) := by decide +kernel
theorem dX12_isName_24 : decode cX12_isName 24 = .ok (.iload_n 0, 1) := by decide +kernel
theorem dX12_isName_25 : decode cX12_isName 25 = .ok (.bipush 108, 2) := by decide +kernel
theorem dX12_isName_27 : decode cX12_isName 27 = .ok (.if_icmp .eq 15, 3) := by decide +kernel
theorem dX12_isName_30 : decode cX12_isName 30 = .ok (.iload_n 0, 1) := by decide +kernel
theorem dX12_isName_31 : decode cX12_isName 31 = .ok (.bipush 99, 2) := by decide +kernel
theorem dX12_isName_33 : decode cX12_isName 33 = .ok (.if_icmp .eq 9, 3) := by decide +kernel
theorem dX12_isName_36 : decode cX12_isName 36 = .ok (.iload_n 0, 1) := by decide +kernel
theorem dX12_isName_37 : decode cX12_isName 37 = .ok (.bipush 110, 2) := by decide +kernel
theorem dX12_isName_39 : decode cX12_isName 39 = .ok (.if_icmp .ne 7, 3) := by decide +kernel
theorem dX12_isName_42 : decode cX12_isName 42 = .ok (.iconst 1, 1) := by decide +kernel
theorem dX12_isName_43 : decode cX12_isName 43 = .ok (.goto 4, 3) := by decide +kernel
theorem dX12_isName_46 : decode cX12_isName 46 = .ok (.iconst 0, 1) := by decide +kernel
theorem dX12_isName_47 : decode cX12_isName 47 = .ok (.ireturn, 1) := by decide +kernel
theorem dX12_isSignByte_0 : decode cX12_isSignByte 0 = .ok (.iload_n 0, 1) := by decide +kernel
theorem dX12_isSignByte_1 : decode cX12_isSignByte 1 = .ok (.bipush 43, 2) := by decide +kernel
theorem dX12_isSignByte_3 : decode cX12_isSignByte 3 = .ok (.if_icmp .eq 45, 3) := by decide +kernel
theorem dX12_isSignByte_6 : decode cX12_isSignByte 6 = .ok (.iload_n 0, 1) := by decide +kernel
theorem dX12_isSignByte_7 : decode cX12_isSignByte 7 = .ok (.bipush 45, 2) := by decide +kernel
theorem dX12_isSignByte_9 : decode cX12_isSignByte 9 = .ok (.if_icmp .eq 39, 3) := by decide +kernel
theorem dX12_isSignByte_12 : decode cX12_isSignByte 12 = .ok (.iload_n 0, 1) := by decide +kernel
theorem dX12_isSignByte_13 : decode cX12_isSignByte 13 = .ok (.bipush 42, 2) := by decide +kernel
theorem dX12_isSignByte_15 : decode cX12_isSignByte 15 = .ok (.if_icmp .eq 33, 3) := by decide +kernel
theorem dX12_isSignByte_18 : decode cX12_isSignByte 18 = .ok (.iload_n 0, 1) := by decide +kernel
theorem dX12_isSignByte_19 : decode cX12_isSignByte 19 = .ok (.bipush 47, 2) := by decide +kernel
theorem dX12_isSignByte_21 : decode cX12_isSignByte 21 = .ok (.if_icmp .eq 27, 3) := by decide +kernel
theorem dX12_isSignByte_24 : decode cX12_isSignByte 24 = .ok (.iload_n 0, 1) := by decide +kernel
theorem dX12_isSignByte_25 : decode cX12_isSignByte 25 = .ok (.bipush 40, 2) := by decide +kernel
theorem dX12_isSignByte_27 : decode cX12_isSignByte 27 = .ok (.if_icmp .eq 21, 3) := by decide +kernel
theorem dX12_isSignByte_30 : decode cX12_isSignByte 30 = .ok (.iload_n 0, 1) := by decide +kernel
theorem dX12_isSignByte_31 : decode cX12_isSignByte 31 = .ok (.bipush 41, 2) := by decide +kernel
theorem dX12_isSignByte_33 : decode cX12_isSignByte 33 = .ok (.if_icmp .eq 15, 3) := by decide +kernel
theorem dX12_isSignByte_36 : decode cX12_isSignByte 36 = .ok (.iload_n 0, 1) := by decide +kernel
theorem dX12_isSignByte_37 : decode cX12_isSignByte 37 = .ok (.bipush 60, 2) := by decide +kernel
theorem dX12_isSignByte_39 : decode cX12_isSignByte 39 = .ok (.if_icmp .eq 9, 3) := by decide +kernel
theorem dX12_isSignByte_42 : decode cX12_isSignByte 42 = .ok (.iload_n 0, 1) := by decide +kernel
theorem dX12_isSignByte_43 : decode cX12_isSignByte 43 = .ok (.bipush 61, 2) := by decide +kernel
theorem dX12_isSignByte_45 : decode cX12_isSignByte 45 = .ok (.if_icmp .ne 7, 3) := by decide +kernel
theorem dX12_isSignByte_48 : decode cX12_isSignByte 48 = .ok (.iconst 1, 1) := by decide +kernel
theorem dX12_isSignByte_49 : decode cX12_isSignByte 49 = .ok (.goto 4, 3) := by decide +kernel
theorem dX12_isSignByte_52 : decode cX12_isSignByte 52 = .ok (.iconst 0, 1) := by decide +kernel
theorem dX12_isSignByte_53 : decode cX12_isSignByte 53 = .ok (.ireturn, 1) := by decide +kernel
theorem dX12_isDigit_0 : decode cX12_isDigit 0 = .ok (.iload_n 1, 1) := by decide +kernel
theorem dX12_isDigit_1 : decode cX12_isDigit 1 = .ok (.aload_n 0, 1) := by decide +kernel
theorem dX12_isDigit_2 : decode cX12_isDigit 2 = .ok (.getfield 235, 3) := by decide +kernel
theorem dX12_isDigit_5 : decode cX12_isDigit 5 = .ok (.if_icmp .ge 23, 3) := by decide +kernel
theorem dX12_isDigit_8 : decode cX12_isDigit 8 = .ok (.aload_n 0, 1) := by decide +kernel
theorem dX12_isDigit_9 : decode cX12_isDigit 9 = .ok (.getfield 28, 3) := by decide +kernel
theorem dX12_isDigit_12 : decode cX12_isDigit 12 = .ok (.iload_n 1, 1) := by decide +kernel
theorem dX12_isDigit_13 : decode cX12_isDigit 13 = .ok (.iaload, 1) := by decide +kernel
theorem dX12_isDigit_14 : decode cX12_isDigit 14 = .ok (.bipush 48, 2) := by decide +kernel
theorem dX12_isDigit_16 : decode cX12_isDigit 16 = .ok (.bipush 57, 2) := by decide +kernel
theorem dX12_isDigit_18 : decode cX12_isDigit 18 = .ok (.invokestatic 65, 3) := by decide +kernel
theorem dX12_isDigit_21 : decode cX12_isDigit 21 = .ok (.ifCond .eq 7, 3) := by decide +kernel
theorem dX12_isDigit_24 : decode cX12_isDigit 24 = .ok (.iconst 1, 1) := by decide +kernel
theorem dX12_isDigit_25 : decode cX12_isDigit 25 = .ok (.goto 4, 3) := by decide +kernel
theorem dX12_isDigit_28 : decode cX12_isDigit 28 = .ok (.iconst 0, 1) := by decide +kernel
theorem dX12_isDigit_29 : decode cX12_isDigit 29 = .ok (.ireturn, 1) := by decide +kernel
theorem dX12_next_0 : decode cX12_next 0 = .ok (.aload_n 0, 1) := by decide +kernel
theorem dX12_next_1 : decode cX12_next 1 = .ok (.getfield 238, 3) := by decide +kernel
theorem dX12_next_4 : decode cX12_next 4 = .ok (.aload_n 0, 1) := by decide +kernel
theorem dX12_next_5 : decode cX12_next 5 = .ok (.getfield 235, 3) := by decide +kernel
theorem dX12_next_8 : decode cX12_next 8 = .ok (.if_icmp .ge 30, 3) := by decide +kernel
theorem dX12_next_11 : decode cX12_next 11 = .ok (.aload_n 0, 1) := by decide +kernel
theorem dX12_next_12 : decode cX12_next 12 = .ok (.getfield 28, 3) := by decide +kernel
theorem dX12_next_15 : decode cX12_next 15 = .ok (.aload_n 0, 1) := by decide +kernel
theorem dX12_next_16 : decode cX12_next 16 = .ok (.getfield 238, 3) := by decide +kernel
theorem dX12_next_19 : decode cX12_next 19 = .ok (.iaload, 1) := by decide +kernel
theorem dX12_next_20 : decode cX12_next 20 = .ok (.bipush 32, 2) := by decide +kernel
theorem dX12_next_22 : decode cX12_next 22 = .ok (.if_icmp .ne 16, 3) := by decide +kernel
theorem dX12_next_25 : decode cX12_next 25 = .ok (.aload_n 0, 1) := by decide +kernel
theorem dX12_next_26 : decode cX12_next 26 = .ok (.dup, 1) := by decide +kernel
theorem dX12_next_27 : decode cX12_next 27 = .ok (.getfield 238, 3) := by decide +kernel
theorem dX12_next_30 : decode cX12_next 30 = .ok (.iconst 1, 1) := by decide +kernel
theorem dX12_next_31 : decode cX12_next 31 = .ok (.iadd, 1) := by decide +kernel
theorem dX12_next_32 : decode cX12_next 32 = .ok (.putfield 238, 3) := by decide +kernel
theorem dX12_next_35 : decode cX12_next 35 = .ok (.goto (-35), 3) := by decide +kernel
theorem dX12_next_38 : decode cX12_next 38 = .ok (.aload_n 0, 1) := by decide +kernel
theorem dX12_next_39 : decode cX12_next 39 = .ok (.aload_n 0, 1) := by decide +kernel
theorem dX12_next_40 : decode cX12_next 40 = .ok (.getfield 238, 3) := by decide +kernel
theorem dX12_next_43 : decode cX12_next 43 = .ok (.putfield 241, 3) := by decide +kernel
theorem dX12_next_46 : decode cX12_next 46 = .ok (.aload_n 0, 1) := by decide +kernel
theorem dX12_next_47 : decode cX12_next 47 = .ok (.getfield 241, 3) := by decide +kernel
theorem dX12_next_50 : decode cX12_next 50 = .ok (.aload_n 0, 1) := by decide +kernel
theorem dX12_next_51 : decode cX12_next 51 = .ok (.getfield 235, 3) := by decide +kernel
theorem dX12_next_54 : decode cX12_next 54 = .ok (.if_icmp .ne 9, 3) := by decide +kernel
theorem dX12_next_57 : decode cX12_next 57 = .ok (.aload_n 0, 1) := by decide +kernel
theorem dX12_next_58 : decode cX12_next 58 = .ok (.iconst 0, 1) := by decide +kernel
theorem dX12_next_59 : decode cX12_next 59 = .ok (.putfield 244, 3) := by decide +kernel
theorem dX12_next_62 : decode cX12_next 62 = .ok (.return_, 1) := by decide +kernel
theorem dX12_next_63 : decode cX12_next 63 = .ok (.aload_n 0, 1) := by decide +kernel
theorem dX12_next_64 : decode cX12_next 64 = .ok (.aload_n 0, 1) := by decide +kernel
theorem dX12_next_65 : decode cX12_next 65 = .ok (.getfield 28, 3) := by decide +kernel
theorem dX12_next_68 : decode cX12_next 68 = .ok (.aload_n 0, 1) := by decide +kernel
theorem dX12_next_69 : decode cX12_next 69 = .ok (.getfield 241, 3) := by decide +kernel
theorem dX12_next_72 : decode cX12_next 72 = .ok (.iaload, 1) := by decide +kernel
theorem dX12_next_73 : decode cX12_next 73 = .ok (.putfield 247, 3) := by decide +kernel
theorem dX12_next_76 : decode cX12_next 76 = .ok (.aload_n 0, 1) := by decide +kernel
theorem dX12_next_77 : decode cX12_next 77 = .ok (.aload_n 0, 1) := by decide +kernel
theorem dX12_next_78 : decode cX12_next 78 = .ok (.getfield 241, 3) := by decide +kernel
theorem dX12_next_81 : decode cX12_next 81 = .ok (.invokevirtual 250, 3) := by decide +kernel
theorem dX12_next_84 : decode cX12_next 84 = .ok (.ifCond .eq 80, 3) := by decide +kernel
theorem dX12_next_87 : decode cX12_next 87 = .ok (.iconst 0, 1) := by decide +kernel
theorem dX12_next_88 : decode cX12_next 88 = .ok (.istore_n 1, 1) := by decide +kernel
theorem dX12_next_89 : decode cX12_next 89 = .ok (.aload_n 0, 1) := by decide +kernel
theorem dX12_next_90 : decode cX12_next 90 = .ok (.aload_n 0, 1) := by decide +kernel
theorem dX12_next_91 : decode cX12_next 91 = .ok (.getfield 238, 3) := by decide +kernel
theorem dX12_next_94 : decode cX12_next 94 = .ok (.invokevirtual 250, 3) := by decide +kernel
theorem dX12_next_97 : decode cX12_next 97 = .ok (.ifCond .eq 45, 3) := by decide +kernel
theorem dX12_next_100 : decode cX12_next 100 = .ok (.iload_n 1, 1) := by decide +kernel
theorem dX12_next_101 : decode cX12_next 101 = .ok (.sipush 9999, 3) := by decide +kernel
theorem dX12_next_104 : decode cX12_next 104 = .ok (.if_icmp .le 7, 3) := by decide +kernel
theorem dX12_next_107 : decode cX12_next 107 = .ok (.iload_n 1, 1) := by decide +kernel
theorem dX12_next_108 : decode cX12_next 108 = .ok (.goto 20, 3) := by decide +kernel
theorem dX12_next_111 : decode cX12_next 111 = .ok (.bipush 10, 2) := by decide +kernel
theorem dX12_next_113 : decode cX12_next 113 = .ok (.iload_n 1, 1) := by decide +kernel
theorem dX12_next_114 : decode cX12_next 114 = .ok (.imul, 1) := by decide +kernel
theorem dX12_next_115 : decode cX12_next 115 = .ok (.aload_n 0, 1) := by decide +kernel
theorem dX12_next_116 : decode cX12_next 116 = .ok (.getfield 28, 3) := by decide +kernel
theorem dX12_next_119 : decode cX12_next 119 = .ok (.aload_n 0, 1) := by decide +kernel
theorem dX12_next_120 : decode cX12_next 120 = .ok (.getfield 238, 3) := by decide +kernel
theorem dX12_next_123 : decode cX12_next 123 = .ok (.iaload, 1) := by decide +kernel
theorem dX12_next_124 : decode cX12_next 124 = .ok (.iadd, 1) := by decide +kernel
theorem dX12_next_125 : decode cX12_next 125 = .ok (.bipush 48, 2) := by decide +kernel
theorem dX12_next_127 : decode cX12_next 127 = .ok (.isub, 1) := by decide +kernel
theorem dX12_next_128 : decode cX12_next 128 = .ok (.istore_n 1, 1) := by decide +kernel
theorem dX12_next_129 : decode cX12_next 129 = .ok (.aload_n 0, 1) := by decide +kernel
theorem dX12_next_130 : decode cX12_next 130 = .ok (.dup, 1) := by decide +kernel
theorem dX12_next_131 : decode cX12_next 131 = .ok (.getfield 238, 3) := by decide +kernel
theorem dX12_next_134 : decode cX12_next 134 = .ok (.iconst 1, 1) := by decide +kernel
theorem dX12_next_135 : decode cX12_next 135 = .ok (.iadd, 1) := by decide +kernel
theorem dX12_next_136 : decode cX12_next 136 = .ok (.putfield 238, 3) := by decide +kernel
theorem dX12_next_139 : decode cX12_next 139 = .ok (.goto (-50), 3) := by decide +kernel
theorem dX12_next_142 : decode cX12_next 142 = .ok (.aload_n 0, 1) := by decide +kernel
theorem dX12_next_143 : decode cX12_next 143 = .ok (.iload_n 1, 1) := by decide +kernel
theorem dX12_next_144 : decode cX12_next 144 = .ok (.putfield 247, 3) := by decide +kernel
theorem dX12_next_147 : decode cX12_next 147 = .ok (.aload_n 0, 1) := by decide +kernel
theorem dX12_next_148 : decode cX12_next 148 = .ok (.iload_n 1, 1) := by decide +kernel
theorem dX12_next_149 : decode cX12_next 149 = .ok (.sipush 9999, 3) := by decide +kernel
theorem dX12_next_152 : decode cX12_next 152 = .ok (.if_icmp .le 7, 3) := by decide +kernel
theorem dX12_next_155 : decode cX12_next 155 = .ok (.iconst 4, 1) := by decide +kernel
theorem dX12_next_156 : decode cX12_next 156 = .ok (.goto 4, 3) := by decide +kernel
theorem dX12_next_159 : decode cX12_next 159 = .ok (.iconst 2, 1) := by decide +kernel
theorem dX12_next_160 : decode cX12_next 160 = .ok (.putfield 244, 3) := by decide +kernel
theorem dX12_next_163 : decode cX12_next 163 = .ok (.return_, 1) := by decide +kernel
theorem dX12_next_164 : decode cX12_next 164 = .ok (.aload_n 0, 1) := by decide +kernel
theorem dX12_next_165 : decode cX12_next 165 = .ok (.dup, 1) := by decide +kernel
theorem dX12_next_166 : decode cX12_next 166 = .ok (.getfield 238, 3) := by decide +kernel
theorem dX12_next_169 : decode cX12_next 169 = .ok (.iconst 1, 1) := by decide +kernel
theorem dX12_next_170 : decode cX12_next 170 = .ok (.iadd, 1) := by decide +kernel
theorem dX12_next_171 : decode cX12_next 171 = .ok (.putfield 238, 3) := by decide +kernel
theorem dX12_next_174 : decode cX12_next 174 = .ok (.aload_n 0, 1) := by decide +kernel
theorem dX12_next_175 : decode cX12_next 175 = .ok (.aload_n 0, 1) := by decide +kernel
theorem dX12_next_176 : decode cX12_next 176 = .ok (.getfield 247, 3) := by decide +kernel
theorem dX12_next_179 : decode cX12_next 179 = .ok (.invokestatic 253, 3) := by decide +kernel
theorem dX12_next_182 : decode cX12_next 182 = .ok (.ifCond .eq 7, 3) := by decide +kernel
theorem dX12_next_185 : decode cX12_next 185 = .ok (.iconst 1, 1) := by decide +kernel
theorem dX12_next_186 : decode cX12_next 186 = .ok (.goto 18, 3) := by decide +kernel
theorem dX12_next_189 : decode cX12_next 189 = .ok (.aload_n 0, 1) := by decide +kernel
theorem dX12_next_190 : decode cX12_next 190 = .ok (.getfield 247, 3) := by decide +kernel
theorem dX12_next_193 : decode cX12_next 193 = .ok (.invokestatic 256, 3) := by decide +kernel
theorem dX12_next_196 : decode cX12_next 196 = .ok (.ifCond .eq 7, 3) := by decide +kernel
theorem dX12_next_199 : decode cX12_next 199 = .ok (.iconst 3, 1) := by decide +kernel
theorem dX12_next_200 : decode cX12_next 200 = .ok (.goto 4, 3) := by decide +kernel
theorem dX12_next_203 : decode cX12_next 203 = .ok (.iconst 4, 1) := by decide +kernel
theorem dX12_next_204 : decode cX12_next 204 = .ok (.putfield 244, 3) := by decide +kernel
theorem dX12_next_207 : decode cX12_next 207 = .ok (.return_, 1) := by decide +kernel
theorem dX12_isSign_0 : decode cX12_isSign 0 = .ok (.aload_n 0, 1) := by decide +kernel
theorem dX12_isSign_1 : decode cX12_isSign 1 = .ok (.getfield 244, 3) := by decide +kernel
theorem dX12_isSign_4 : decode cX12_isSign 4 = .ok (.iconst 3, 1) := by decide +kernel
theorem dX12_isSign_5 : decode cX12_isSign 5 = .ok (.if_icmp .ne 15, 3) := by decide +kernel
theorem dX12_isSign_8 : decode cX12_isSign 8 = .ok (.aload_n 0, 1) := by decide +kernel
theorem dX12_isSign_9 : decode cX12_isSign 9 = .ok (.getfield 247, 3) := by decide +kernel
theorem dX12_isSign_12 : decode cX12_isSign 12 = .ok (.iload_n 1, 1) := by decide +kernel
theorem dX12_isSign_13 : decode cX12_isSign 13 = .ok (.if_icmp .ne 7, 3) := by decide +kernel
theorem dX12_isSign_16 : decode cX12_isSign 16 = .ok (.iconst 1, 1) := by decide +kernel
theorem dX12_isSign_17 : decode cX12_isSign 17 = .ok (.goto 4, 3) := by decide +kernel
theorem dX12_isSign_20 : decode cX12_isSign 20 = .ok (.iconst 0, 1) := by decide +kernel
theorem dX12_isSign_21 : decode cX12_isSign 21 = .ok (.ireturn, 1) := by decide +kernel
theorem dX12_lays_0 : decode cX12_lays 0 = .ok (.aload_n 0, 1) := by decide +kernel
theorem dX12_lays_1 : decode cX12_lays 1 = .ok (.getfield 31, 3) := by decide +kernel
theorem dX12_lays_4 : decode cX12_lays 4 = .ok (.iconst 2, 1) := by decide +kernel
theorem dX12_lays_5 : decode cX12_lays 5 = .ok (.aload_n 0, 1) := by decide +kernel
theorem dX12_lays_6 : decode cX12_lays 6 = .ok (.getfield 259, 3) := by decide +kernel
theorem dX12_lays_9 : decode cX12_lays 9 = .ok (.imul, 1) := by decide +kernel
theorem dX12_lays_10 : decode cX12_lays 10 = .ok (.iload_n 1, 1) := by decide +kernel
theorem dX12_lays_11 : decode cX12_lays 11 = .ok (.iastore, 1) := by decide +kernel
theorem dX12_lays_12 : decode cX12_lays 12 = .ok (.aload_n 0, 1) := by decide +kernel
theorem dX12_lays_13 : decode cX12_lays 13 = .ok (.getfield 31, 3) := by decide +kernel
theorem dX12_lays_16 : decode cX12_lays 16 = .ok (.iconst 2, 1) := by decide +kernel
theorem dX12_lays_17 : decode cX12_lays 17 = .ok (.aload_n 0, 1) := by decide +kernel
theorem dX12_lays_18 : decode cX12_lays 18 = .ok (.getfield 259, 3) := by decide +kernel
theorem dX12_lays_21 : decode cX12_lays 21 = .ok (.imul, 1) := by decide +kernel
theorem dX12_lays_22 : decode cX12_lays 22 = .ok (.iconst 1, 1) := by decide +kernel
theorem dX12_lays_23 : decode cX12_lays 23 = .ok (.iadd, 1) := by decide +kernel
theorem dX12_lays_24 : decode cX12_lays 24 = .ok (.iload_n 2, 1) := by decide +kernel
theorem dX12_lays_25 : decode cX12_lays 25 = .ok (.iastore, 1) := by decide +kernel
theorem dX12_lays_26 : decode cX12_lays 26 = .ok (.aload_n 0, 1) := by decide +kernel
theorem dX12_lays_27 : decode cX12_lays 27 = .ok (.dup, 1) := by decide +kernel
theorem dX12_lays_28 : decode cX12_lays 28 = .ok (.getfield 259, 3) := by decide +kernel
theorem dX12_lays_31 : decode cX12_lays 31 = .ok (.iconst 1, 1) := by decide +kernel
theorem dX12_lays_32 : decode cX12_lays 32 = .ok (.iadd, 1) := by decide +kernel
theorem dX12_lays_33 : decode cX12_lays 33 = .ok (.putfield 259, 3) := by decide +kernel
theorem dX12_lays_36 : decode cX12_lays 36 = .ok (.return_, 1) := by decide +kernel
theorem dX12_opens_0 : decode cX12_opens 0 = .ok (.aload_n 0, 1) := by decide +kernel
theorem dX12_opens_1 : decode cX12_opens 1 = .ok (.getfield 262, 3) := by decide +kernel
theorem dX12_opens_4 : decode cX12_opens 4 = .ok (.bipush 6, 2) := by decide +kernel
theorem dX12_opens_6 : decode cX12_opens 6 = .ok (.if_icmp .ne 5, 3) := by decide +kernel
theorem dX12_opens_9 : decode cX12_opens 9 = .ok (.iconst 0, 1) := by decide +kernel
theorem dX12_opens_10 : decode cX12_opens 10 = .ok (.ireturn, 1) := by decide +kernel
theorem dX12_opens_11 : decode cX12_opens 11 = .ok (.aload_n 0, 1) := by decide +kernel
theorem dX12_opens_12 : decode cX12_opens 12 = .ok (.dup, 1) := by decide +kernel
theorem dX12_opens_13 : decode cX12_opens 13 = .ok (.getfield 262, 3) := by decide +kernel
theorem dX12_opens_16 : decode cX12_opens 16 = .ok (.iconst 1, 1) := by decide +kernel
theorem dX12_opens_17 : decode cX12_opens 17 = .ok (.iadd, 1) := by decide +kernel
theorem dX12_opens_18 : decode cX12_opens 18 = .ok (.putfield 262, 3) := by decide +kernel
theorem dX12_opens_21 : decode cX12_opens 21 = .ok (.aload_n 0, 1) := by decide +kernel
theorem dX12_opens_22 : decode cX12_opens 22 = .ok (.invokevirtual 265, 3) := by decide +kernel
theorem dX12_opens_25 : decode cX12_opens 25 = .ok (.iconst 1, 1) := by decide +kernel
theorem dX12_opens_26 : decode cX12_opens 26 = .ok (.ireturn, 1) := by decide +kernel
theorem dX12_whole_0 : decode cX12_whole 0 = .ok (.aload_n 0, 1) := by decide +kernel
theorem dX12_whole_1 : decode cX12_whole 1 = .ok (.invokevirtual 268, 3) := by decide +kernel
theorem dX12_whole_4 : decode cX12_whole 4 = .ok (.ifCond .ne 5, 3) := by decide +kernel
theorem dX12_whole_7 : decode cX12_whole 7 = .ok (.iconst 0, 1) := by decide +kernel
theorem dX12_whole_8 : decode cX12_whole 8 = .ok (.ireturn, 1) := by decide +kernel
theorem dX12_whole_9 : decode cX12_whole 9 = .ok (.aload_n 0, 1) := by decide +kernel
theorem dX12_whole_10 : decode cX12_whole 10 = .ok (.bipush 60, 2) := by decide +kernel
theorem dX12_whole_12 : decode cX12_whole 12 = .ok (.invokevirtual 272, 3) := by decide +kernel
theorem dX12_whole_15 : decode cX12_whole 15 = .ok (.ifCond .ne 12, 3) := by decide +kernel
theorem dX12_whole_18 : decode cX12_whole 18 = .ok (.aload_n 0, 1) := by decide +kernel
theorem dX12_whole_19 : decode cX12_whole 19 = .ok (.bipush 61, 2) := by decide +kernel
theorem dX12_whole_21 : decode cX12_whole 21 = .ok (.invokevirtual 272, 3) := by decide +kernel
theorem dX12_whole_24 : decode cX12_whole 24 = .ok (.ifCond .eq 27, 3) := by decide +kernel
theorem dX12_whole_27 : decode cX12_whole 27 = .ok (.aload_n 0, 1) := by decide +kernel
theorem dX12_whole_28 : decode cX12_whole 28 = .ok (.getfield 247, 3) := by decide +kernel
theorem dX12_whole_31 : decode cX12_whole 31 = .ok (.istore_n 1, 1) := by decide +kernel
theorem dX12_whole_32 : decode cX12_whole 32 = .ok (.aload_n 0, 1) := by decide +kernel
theorem dX12_whole_33 : decode cX12_whole 33 = .ok (.invokevirtual 265, 3) := by decide +kernel
theorem dX12_whole_36 : decode cX12_whole 36 = .ok (.aload_n 0, 1) := by decide +kernel
theorem dX12_whole_37 : decode cX12_whole 37 = .ok (.invokevirtual 268, 3) := by decide +kernel
theorem dX12_whole_40 : decode cX12_whole 40 = .ok (.ifCond .ne 5, 3) := by decide +kernel
theorem dX12_whole_43 : decode cX12_whole 43 = .ok (.iconst 0, 1) := by decide +kernel
theorem dX12_whole_44 : decode cX12_whole 44 = .ok (.ireturn, 1) := by decide +kernel
theorem dX12_whole_45 : decode cX12_whole 45 = .ok (.aload_n 0, 1) := by decide +kernel
theorem dX12_whole_46 : decode cX12_whole 46 = .ok (.iconst 3, 1) := by decide +kernel
theorem dX12_whole_47 : decode cX12_whole 47 = .ok (.iload_n 1, 1) := by decide +kernel
theorem dX12_whole_48 : decode cX12_whole 48 = .ok (.invokevirtual 275, 3) := by decide +kernel
theorem dX12_whole_51 : decode cX12_whole 51 = .ok (.iconst 1, 1) := by decide +kernel
theorem dX12_whole_52 : decode cX12_whole 52 = .ok (.ireturn, 1) := by decide +kernel
theorem dX12_sum_0 : decode cX12_sum 0 = .ok (.aload_n 0, 1) := by decide +kernel
theorem dX12_sum_1 : decode cX12_sum 1 = .ok (.invokevirtual 278, 3) := by decide +kernel
theorem dX12_sum_4 : decode cX12_sum 4 = .ok (.ifCond .ne 5, 3) := by decide +kernel
theorem dX12_sum_7 : decode cX12_sum 7 = .ok (.iconst 0, 1) := by decide +kernel
theorem dX12_sum_8 : decode cX12_sum 8 = .ok (.ireturn, 1) := by decide +kernel
theorem dX12_sum_9 : decode cX12_sum 9 = .ok (.aload_n 0, 1) := by decide +kernel
theorem dX12_sum_10 : decode cX12_sum 10 = .ok (.bipush 43, 2) := by decide +kernel
theorem dX12_sum_12 : decode cX12_sum 12 = .ok (.invokevirtual 272, 3) := by decide +kernel
theorem dX12_sum_15 : decode cX12_sum 15 = .ok (.ifCond .ne 12, 3) := by decide +kernel
theorem dX12_sum_18 : decode cX12_sum 18 = .ok (.aload_n 0, 1) := by decide +kernel
theorem dX12_sum_19 : decode cX12_sum 19 = .ok (.bipush 45, 2) := by decide +kernel
theorem dX12_sum_21 : decode cX12_sum 21 = .ok (.invokevirtual 272, 3) := by decide +kernel
theorem dX12_sum_24 : decode cX12_sum 24 = .ok (.ifCond .eq 30, 3) := by decide +kernel
theorem dX12_sum_27 : decode cX12_sum 27 = .ok (.aload_n 0, 1) := by decide +kernel
theorem dX12_sum_28 : decode cX12_sum 28 = .ok (.getfield 247, 3) := by decide +kernel
theorem dX12_sum_31 : decode cX12_sum 31 = .ok (.istore_n 1, 1) := by decide +kernel
theorem dX12_sum_32 : decode cX12_sum 32 = .ok (.aload_n 0, 1) := by decide +kernel
theorem dX12_sum_33 : decode cX12_sum 33 = .ok (.invokevirtual 265, 3) := by decide +kernel
theorem dX12_sum_36 : decode cX12_sum 36 = .ok (.aload_n 0, 1) := by decide +kernel
theorem dX12_sum_37 : decode cX12_sum 37 = .ok (.invokevirtual 278, 3) := by decide +kernel
theorem dX12_sum_40 : decode cX12_sum 40 = .ok (.ifCond .ne 5, 3) := by decide +kernel
theorem dX12_sum_43 : decode cX12_sum 43 = .ok (.iconst 0, 1) := by decide +kernel
theorem dX12_sum_44 : decode cX12_sum 44 = .ok (.ireturn, 1) := by decide +kernel
theorem dX12_sum_45 : decode cX12_sum 45 = .ok (.aload_n 0, 1) := by decide +kernel
theorem dX12_sum_46 : decode cX12_sum 46 = .ok (.iconst 3, 1) := by decide +kernel
theorem dX12_sum_47 : decode cX12_sum 47 = .ok (.iload_n 1, 1) := by decide +kernel
theorem dX12_sum_48 : decode cX12_sum 48 = .ok (.invokevirtual 275, 3) := by decide +kernel
theorem dX12_sum_51 : decode cX12_sum 51 = .ok (.goto (-42), 3) := by decide +kernel
theorem dX12_sum_54 : decode cX12_sum 54 = .ok (.iconst 1, 1) := by decide +kernel
theorem dX12_sum_55 : decode cX12_sum 55 = .ok (.ireturn, 1) := by decide +kernel
theorem dX12_term_0 : decode cX12_term 0 = .ok (.aload_n 0, 1) := by decide +kernel
theorem dX12_term_1 : decode cX12_term 1 = .ok (.invokevirtual 281, 3) := by decide +kernel
theorem dX12_term_4 : decode cX12_term 4 = .ok (.ifCond .ne 5, 3) := by decide +kernel
theorem dX12_term_7 : decode cX12_term 7 = .ok (.iconst 0, 1) := by decide +kernel
theorem dX12_term_8 : decode cX12_term 8 = .ok (.ireturn, 1) := by decide +kernel
theorem dX12_term_9 : decode cX12_term 9 = .ok (.aload_n 0, 1) := by decide +kernel
theorem dX12_term_10 : decode cX12_term 10 = .ok (.bipush 42, 2) := by decide +kernel
theorem dX12_term_12 : decode cX12_term 12 = .ok (.invokevirtual 272, 3) := by decide +kernel
theorem dX12_term_15 : decode cX12_term 15 = .ok (.ifCond .ne 12, 3) := by decide +kernel
theorem dX12_term_18 : decode cX12_term 18 = .ok (.aload_n 0, 1) := by decide +kernel
theorem dX12_term_19 : decode cX12_term 19 = .ok (.bipush 47, 2) := by decide +kernel
theorem dX12_term_21 : decode cX12_term 21 = .ok (.invokevirtual 272, 3) := by decide +kernel
theorem dX12_term_24 : decode cX12_term 24 = .ok (.ifCond .eq 30, 3) := by decide +kernel
theorem dX12_term_27 : decode cX12_term 27 = .ok (.aload_n 0, 1) := by decide +kernel
theorem dX12_term_28 : decode cX12_term 28 = .ok (.getfield 247, 3) := by decide +kernel
theorem dX12_term_31 : decode cX12_term 31 = .ok (.istore_n 1, 1) := by decide +kernel
theorem dX12_term_32 : decode cX12_term 32 = .ok (.aload_n 0, 1) := by decide +kernel
theorem dX12_term_33 : decode cX12_term 33 = .ok (.invokevirtual 265, 3) := by decide +kernel
theorem dX12_term_36 : decode cX12_term 36 = .ok (.aload_n 0, 1) := by decide +kernel
theorem dX12_term_37 : decode cX12_term 37 = .ok (.invokevirtual 281, 3) := by decide +kernel
theorem dX12_term_40 : decode cX12_term 40 = .ok (.ifCond .ne 5, 3) := by decide +kernel
theorem dX12_term_43 : decode cX12_term 43 = .ok (.iconst 0, 1) := by decide +kernel
theorem dX12_term_44 : decode cX12_term 44 = .ok (.ireturn, 1) := by decide +kernel
theorem dX12_term_45 : decode cX12_term 45 = .ok (.aload_n 0, 1) := by decide +kernel
theorem dX12_term_46 : decode cX12_term 46 = .ok (.iconst 3, 1) := by decide +kernel
theorem dX12_term_47 : decode cX12_term 47 = .ok (.iload_n 1, 1) := by decide +kernel
theorem dX12_term_48 : decode cX12_term 48 = .ok (.invokevirtual 275, 3) := by decide +kernel
theorem dX12_term_51 : decode cX12_term 51 = .ok (.goto (-42), 3) := by decide +kernel
theorem dX12_term_54 : decode cX12_term 54 = .ok (.iconst 1, 1) := by decide +kernel
theorem dX12_term_55 : decode cX12_term 55 = .ok (.ireturn, 1) := by decide +kernel
theorem dX12_one_0 : decode cX12_one 0 = .ok (.aload_n 0, 1) := by decide +kernel
theorem dX12_one_1 : decode cX12_one 1 = .ok (.getfield 244, 3) := by decide +kernel
theorem dX12_one_4 : decode cX12_one 4 = .ok (.iconst 2, 1) := by decide +kernel
theorem dX12_one_5 : decode cX12_one 5 = .ok (.if_icmp .eq 11, 3) := by decide +kernel
theorem dX12_one_8 : decode cX12_one 8 = .ok (.aload_n 0, 1) := by decide +kernel
theorem dX12_one_9 : decode cX12_one 9 = .ok (.getfield 244, 3) := by decide +kernel
theorem dX12_one_12 : decode cX12_one 12 = .ok (.iconst 1, 1) := by decide +kernel
theorem dX12_one_13 : decode cX12_one 13 = .ok (.if_icmp .ne 30, 3) := by decide +kernel
theorem dX12_one_16 : decode cX12_one 16 = .ok (.aload_n 0, 1) := by decide +kernel
theorem dX12_one_17 : decode cX12_one 17 = .ok (.aload_n 0, 1) := by decide +kernel
theorem dX12_one_18 : decode cX12_one 18 = .ok (.getfield 244, 3) := by decide +kernel
theorem dX12_one_21 : decode cX12_one 21 = .ok (.iconst 2, 1) := by decide +kernel
theorem dX12_one_22 : decode cX12_one 22 = .ok (.if_icmp .ne 7, 3) := by decide +kernel
theorem dX12_one_25 : decode cX12_one 25 = .ok (.iconst 0, 1) := by decide +kernel
theorem dX12_one_26 : decode cX12_one 26 = .ok (.goto 4, 3) := by decide +kernel
theorem dX12_one_29 : decode cX12_one 29 = .ok (.iconst 1, 1) := by decide +kernel
theorem dX12_one_30 : decode cX12_one 30 = .ok (.aload_n 0, 1) := by decide +kernel
theorem dX12_one_31 : decode cX12_one 31 = .ok (.getfield 247, 3) := by decide +kernel
theorem dX12_one_34 : decode cX12_one 34 = .ok (.invokevirtual 275, 3) := by decide +kernel
theorem dX12_one_37 : decode cX12_one 37 = .ok (.aload_n 0, 1) := by decide +kernel
theorem dX12_one_38 : decode cX12_one 38 = .ok (.invokevirtual 265, 3) := by decide +kernel
theorem dX12_one_41 : decode cX12_one 41 = .ok (.iconst 1, 1) := by decide +kernel
theorem dX12_one_42 : decode cX12_one 42 = .ok (.ireturn, 1) := by decide +kernel
theorem dX12_one_43 : decode cX12_one 43 = .ok (.aload_n 0, 1) := by decide +kernel
theorem dX12_one_44 : decode cX12_one 44 = .ok (.bipush 45, 2) := by decide +kernel
theorem dX12_one_46 : decode cX12_one 46 = .ok (.invokevirtual 272, 3) := by decide +kernel
theorem dX12_one_49 : decode cX12_one 49 = .ok (.ifCond .eq 37, 3) := by decide +kernel
theorem dX12_one_52 : decode cX12_one 52 = .ok (.aload_n 0, 1) := by decide +kernel
theorem dX12_one_53 : decode cX12_one 53 = .ok (.invokevirtual 284, 3) := by decide +kernel
theorem dX12_one_56 : decode cX12_one 56 = .ok (.ifCond .eq 10, 3) := by decide +kernel
theorem dX12_one_59 : decode cX12_one 59 = .ok (.aload_n 0, 1) := by decide +kernel
theorem dX12_one_60 : decode cX12_one 60 = .ok (.invokevirtual 281, 3) := by decide +kernel
theorem dX12_one_63 : decode cX12_one 63 = .ok (.ifCond .ne 5, 3) := by decide +kernel
theorem dX12_one_66 : decode cX12_one 66 = .ok (.iconst 0, 1) := by decide +kernel
theorem dX12_one_67 : decode cX12_one 67 = .ok (.ireturn, 1) := by decide +kernel
theorem dX12_one_68 : decode cX12_one 68 = .ok (.aload_n 0, 1) := by decide +kernel
theorem dX12_one_69 : decode cX12_one 69 = .ok (.dup, 1) := by decide +kernel
theorem dX12_one_70 : decode cX12_one 70 = .ok (.getfield 262, 3) := by decide +kernel
theorem dX12_one_73 : decode cX12_one 73 = .ok (.iconst 1, 1) := by decide +kernel
theorem dX12_one_74 : decode cX12_one 74 = .ok (.isub, 1) := by decide +kernel
theorem dX12_one_75 : decode cX12_one 75 = .ok (.putfield 262, 3) := by decide +kernel
theorem dX12_one_78 : decode cX12_one 78 = .ok (.aload_n 0, 1) := by decide +kernel
theorem dX12_one_79 : decode cX12_one 79 = .ok (.iconst 2, 1) := by decide +kernel
theorem dX12_one_80 : decode cX12_one 80 = .ok (.iconst 0, 1) := by decide +kernel
theorem dX12_one_81 : decode cX12_one 81 = .ok (.invokevirtual 275, 3) := by decide +kernel
theorem dX12_one_84 : decode cX12_one 84 = .ok (.iconst 1, 1) := by decide +kernel
theorem dX12_one_85 : decode cX12_one 85 = .ok (.ireturn, 1) := by decide +kernel
theorem dX12_one_86 : decode cX12_one 86 = .ok (.aload_n 0, 1) := by decide +kernel
theorem dX12_one_87 : decode cX12_one 87 = .ok (.bipush 40, 2) := by decide +kernel
theorem dX12_one_89 : decode cX12_one 89 = .ok (.invokevirtual 272, 3) := by decide +kernel
theorem dX12_one_92 : decode cX12_one 92 = .ok (.ifCond .eq 26, 3) := by decide +kernel
theorem dX12_one_95 : decode cX12_one 95 = .ok (.aload_n 0, 1) := by decide +kernel
theorem dX12_one_96 : decode cX12_one 96 = .ok (.invokevirtual 284, 3) := by decide +kernel
theorem dX12_one_99 : decode cX12_one 99 = .ok (.ifCond .eq 19, 3) := by decide +kernel
theorem dX12_one_102 : decode cX12_one 102 = .ok (.aload_n 0, 1) := by decide +kernel
theorem dX12_one_103 : decode cX12_one 103 = .ok (.invokevirtual 287, 3) := by decide +kernel
theorem dX12_one_106 : decode cX12_one 106 = .ok (.ifCond .eq 12, 3) := by decide +kernel
theorem dX12_one_109 : decode cX12_one 109 = .ok (.aload_n 0, 1) := by decide +kernel
theorem dX12_one_110 : decode cX12_one 110 = .ok (.bipush 41, 2) := by decide +kernel
theorem dX12_one_112 : decode cX12_one 112 = .ok (.invokevirtual 272, 3) := by decide +kernel
theorem dX12_one_115 : decode cX12_one 115 = .ok (.ifCond .ne 5, 3) := by decide +kernel
theorem dX12_one_118 : decode cX12_one 118 = .ok (.iconst 0, 1) := by decide +kernel
theorem dX12_one_119 : decode cX12_one 119 = .ok (.ireturn, 1) := by decide +kernel
theorem dX12_one_120 : decode cX12_one 120 = .ok (.aload_n 0, 1) := by decide +kernel
theorem dX12_one_121 : decode cX12_one 121 = .ok (.dup, 1) := by decide +kernel
theorem dX12_one_122 : decode cX12_one 122 = .ok (.getfield 262, 3) := by decide +kernel
theorem dX12_one_125 : decode cX12_one 125 = .ok (.iconst 1, 1) := by decide +kernel
theorem dX12_one_126 : decode cX12_one 126 = .ok (.isub, 1) := by decide +kernel
theorem dX12_one_127 : decode cX12_one 127 = .ok (.putfield 262, 3) := by decide +kernel
theorem dX12_one_130 : decode cX12_one 130 = .ok (.aload_n 0, 1) := by decide +kernel
theorem dX12_one_131 : decode cX12_one 131 = .ok (.invokevirtual 265, 3) := by decide +kernel
theorem dX12_one_134 : decode cX12_one 134 = .ok (.iconst 1, 1) := by decide +kernel
theorem dX12_one_135 : decode cX12_one 135 = .ok (.ireturn, 1) := by decide +kernel
theorem dX12_text_0 : decode cX12_text 0 = .ok (.aload_n 0, 1) := by decide +kernel
theorem dX12_text_1 : decode cX12_text 1 = .ok (.getfield 7, 3) := by decide +kernel
theorem dX12_text_4 : decode cX12_text 4 = .ok (.iconst 4, 1) := by decide +kernel
theorem dX12_text_5 : decode cX12_text 5 = .ok (.iaload, 1) := by decide +kernel
theorem dX12_text_6 : decode cX12_text 6 = .ok (.bipush 8, 2) := by decide +kernel
theorem dX12_text_8 : decode cX12_text 8 = .ok (.if_icmp .ne 9, 3) := by decide +kernel
theorem dX12_text_11 : decode cX12_text 11 = .ok (.aload_n 0, 1) := by decide +kernel
theorem dX12_text_12 : decode cX12_text 12 = .ok (.iconst 1, 1) := by decide +kernel
theorem dX12_text_13 : decode cX12_text 13 = .ok (.invokevirtual 73, 3) := by decide +kernel
theorem dX12_text_16 : decode cX12_text 16 = .ok (.ireturn, 1) := by decide +kernel
theorem dX12_text_17 : decode cX12_text 17 = .ok (.aload_n 0, 1) := by decide +kernel
theorem dX12_text_18 : decode cX12_text 18 = .ok (.iconst 0, 1) := by decide +kernel
theorem dX12_text_19 : decode cX12_text 19 = .ok (.putfield 238, 3) := by decide +kernel
theorem dX12_text_22 : decode cX12_text 22 = .ok (.aload_n 0, 1) := by decide +kernel
theorem dX12_text_23 : decode cX12_text 23 = .ok (.iconst 0, 1) := by decide +kernel
theorem dX12_text_24 : decode cX12_text 24 = .ok (.putfield 262, 3) := by decide +kernel
theorem dX12_text_27 : decode cX12_text 27 = .ok (.aload_n 0, 1) := by decide +kernel
theorem dX12_text_28 : decode cX12_text 28 = .ok (.iconst 0, 1) := by decide +kernel
theorem dX12_text_29 : decode cX12_text 29 = .ok (.putfield 259, 3) := by decide +kernel
theorem dX12_text_32 : decode cX12_text 32 = .ok (.aload_n 0, 1) := by decide +kernel
theorem dX12_text_33 : decode cX12_text 33 = .ok (.invokevirtual 265, 3) := by decide +kernel
theorem dX12_text_36 : decode cX12_text 36 = .ok (.aload_n 0, 1) := by decide +kernel
theorem dX12_text_37 : decode cX12_text 37 = .ok (.invokevirtual 287, 3) := by decide +kernel
theorem dX12_text_40 : decode cX12_text 40 = .ok (.ifCond .eq 14, 3) := by decide +kernel
theorem dX12_text_43 : decode cX12_text 43 = .ok (.aload_n 0, 1) := by decide +kernel
theorem dX12_text_44 : decode cX12_text 44 = .ok (.getfield 244, 3) := by decide +kernel
theorem dX12_text_47 : decode cX12_text 47 = .ok (.ifCond .ne 7, 3) := by decide +kernel
theorem dX12_text_50 : decode cX12_text 50 = .ok (.iconst 1, 1) := by decide +kernel
theorem dX12_text_51 : decode cX12_text 51 = .ok (.goto 4, 3) := by decide +kernel
theorem dX12_text_54 : decode cX12_text 54 = .ok (.iconst 0, 1) := by decide +kernel
theorem dX12_text_55 : decode cX12_text 55 = .ok (.istore_n 1, 1) := by decide +kernel
theorem dX12_text_56 : decode cX12_text 56 = .ok (.aload_n 0, 1) := by decide +kernel
theorem dX12_text_57 : decode cX12_text 57 = .ok (.iconst 0, 1) := by decide +kernel
theorem dX12_text_58 : decode cX12_text 58 = .ok (.putfield 235, 3) := by decide +kernel
theorem dX12_text_61 : decode cX12_text 61 = .ok (.iload_n 1, 1) := by decide +kernel
theorem dX12_text_62 : decode cX12_text 62 = .ok (.ifCond .ne 10, 3) := by decide +kernel
theorem dX12_text_65 : decode cX12_text 65 = .ok (.iconst (-1), 1) := by decide +kernel
theorem dX12_text_66 : decode cX12_text 66 = .ok (.aload_n 0, 1) := by decide +kernel
theorem dX12_text_67 : decode cX12_text 67 = .ok (.getfield 241, 3) := by decide +kernel
theorem dX12_text_70 : decode cX12_text 70 = .ok (.isub, 1) := by decide +kernel
theorem dX12_text_71 : decode cX12_text 71 = .ok (.ireturn, 1) := by decide +kernel
theorem dX12_text_72 : decode cX12_text 72 = .ok (.sipush 976, 3) := by decide +kernel
theorem dX12_text_75 : decode cX12_text 75 = .ok (.sipush 165, 3) := by decide +kernel
theorem dX12_text_78 : decode cX12_text 78 = .ok (.aload_n 0, 1) := by decide +kernel
theorem dX12_text_79 : decode cX12_text 79 = .ok (.getfield 7, 3) := by decide +kernel
theorem dX12_text_82 : decode cX12_text 82 = .ok (.iconst 4, 1) := by decide +kernel
theorem dX12_text_83 : decode cX12_text 83 = .ok (.iaload, 1) := by decide +kernel
theorem dX12_text_84 : decode cX12_text 84 = .ok (.imul, 1) := by decide +kernel
theorem dX12_text_85 : decode cX12_text 85 = .ok (.iadd, 1) := by decide +kernel
theorem dX12_text_86 : decode cX12_text 86 = .ok (.istore_n 2, 1) := by decide +kernel
theorem dX12_text_87 : decode cX12_text 87 = .ok (.aload_n 0, 1) := by decide +kernel
theorem dX12_text_88 : decode cX12_text 88 = .ok (.getfield 7, 3) := by decide +kernel
theorem dX12_text_91 : decode cX12_text 91 = .ok (.iload_n 2, 1) := by decide +kernel
theorem dX12_text_92 : decode cX12_text 92 = .ok (.aload_n 0, 1) := by decide +kernel
theorem dX12_text_93 : decode cX12_text 93 = .ok (.getfield 259, 3) := by decide +kernel
theorem dX12_text_96 : decode cX12_text 96 = .ok (.iastore, 1) := by decide +kernel
theorem dX12_text_97 : decode cX12_text 97 = .ok (.iconst 0, 1) := by decide +kernel
theorem dX12_text_98 : decode cX12_text 98 = .ok (.istore_n 3, 1) := by decide +kernel
theorem dX12_text_99 : decode cX12_text 99 = .ok (.iload_n 3, 1) := by decide +kernel
theorem dX12_text_100 : decode cX12_text 100 = .ok (.iconst 2, 1) := by decide +kernel
theorem dX12_text_101 : decode cX12_text 101 = .ok (.aload_n 0, 1) := by decide +kernel
theorem dX12_text_102 : decode cX12_text 102 = .ok (.getfield 259, 3) := by decide +kernel
theorem dX12_text_105 : decode cX12_text 105 = .ok (.imul, 1) := by decide +kernel
theorem dX12_text_106 : decode cX12_text 106 = .ok (.if_icmp .ge 25, 3) := by decide +kernel
theorem dX12_text_109 : decode cX12_text 109 = .ok (.aload_n 0, 1) := by decide +kernel
theorem dX12_text_110 : decode cX12_text 110 = .ok (.getfield 7, 3) := by decide +kernel
theorem dX12_text_113 : decode cX12_text 113 = .ok (.iload_n 2, 1) := by decide +kernel
theorem dX12_text_114 : decode cX12_text 114 = .ok (.iconst 1, 1) := by decide +kernel
theorem dX12_text_115 : decode cX12_text 115 = .ok (.iadd, 1) := by decide +kernel
theorem dX12_text_116 : decode cX12_text 116 = .ok (.iload_n 3, 1) := by decide +kernel
theorem dX12_text_117 : decode cX12_text 117 = .ok (.iadd, 1) := by decide +kernel
theorem dX12_text_118 : decode cX12_text 118 = .ok (.aload_n 0, 1) := by decide +kernel
theorem dX12_text_119 : decode cX12_text 119 = .ok (.getfield 31, 3) := by decide +kernel
theorem dX12_text_122 : decode cX12_text 122 = .ok (.iload_n 3, 1) := by decide +kernel
theorem dX12_text_123 : decode cX12_text 123 = .ok (.iaload, 1) := by decide +kernel
theorem dX12_text_124 : decode cX12_text 124 = .ok (.iastore, 1) := by decide +kernel
theorem dX12_text_125 : decode cX12_text 125 = .ok (.iinc 3 1, 3) := by decide +kernel
theorem dX12_text_128 : decode cX12_text 128 = .ok (.goto (-29), 3) := by decide +kernel
theorem dX12_text_131 : decode cX12_text 131 = .ok (.aload_n 0, 1) := by decide +kernel
theorem dX12_text_132 : decode cX12_text 132 = .ok (.getfield 7, 3) := by decide +kernel
theorem dX12_text_135 : decode cX12_text 135 = .ok (.iconst 4, 1) := by decide +kernel
theorem dX12_text_136 : decode cX12_text 136 = .ok (.dup2, 1) := by decide +kernel
theorem dX12_text_137 : decode cX12_text 137 = .ok (.iaload, 1) := by decide +kernel
theorem dX12_text_138 : decode cX12_text 138 = .ok (.iconst 1, 1) := by decide +kernel
theorem dX12_text_139 : decode cX12_text 139 = .ok (.iadd, 1) := by decide +kernel
theorem dX12_text_140 : decode cX12_text 140 = .ok (.iastore, 1) := by decide +kernel
theorem dX12_text_141 : decode cX12_text 141 = .ok (.aload_n 0, 1) := by decide +kernel
theorem dX12_text_142 : decode cX12_text 142 = .ok (.getfield 7, 3) := by decide +kernel
theorem dX12_text_145 : decode cX12_text 145 = .ok (.iconst 4, 1) := by decide +kernel
theorem dX12_text_146 : decode cX12_text 146 = .ok (.iaload, 1) := by decide +kernel
theorem dX12_text_147 : decode cX12_text 147 = .ok (.iconst 1, 1) := by decide +kernel
theorem dX12_text_148 : decode cX12_text 148 = .ok (.isub, 1) := by decide +kernel
theorem dX12_text_149 : decode cX12_text 149 = .ok (.ireturn, 1) := by decide +kernel
theorem dX12_joined_0 : decode cX12_joined 0 = .ok (.iload_n 0, 1) := by decide +kernel
theorem dX12_joined_1 : decode cX12_joined 1 = .ok (.lookupswitch 96 #[(42, 59), (43, 51), (45, 55), (47, 63), (60, 85)], 51) := by decide +kernel
theorem dX12_joined_52 : decode cX12_joined 52 = .ok (.iload_n 1, 1) := by decide +kernel
theorem dX12_joined_53 : decode cX12_joined 53 = .ok (.iload_n 2, 1) := by decide +kernel
theorem dX12_joined_54 : decode cX12_joined 54 = .ok (.iadd, 1) := by decide +kernel
theorem dX12_joined_55 : decode cX12_joined 55 = .ok (.ireturn, 1) := by decide +kernel
theorem dX12_joined_56 : decode cX12_joined 56 = .ok (.iload_n 1, 1) := by decide +kernel
theorem dX12_joined_57 : decode cX12_joined 57 = .ok (.iload_n 2, 1) := by decide +kernel
theorem dX12_joined_58 : decode cX12_joined 58 = .ok (.isub, 1) := by decide +kernel
theorem dX12_joined_59 : decode cX12_joined 59 = .ok (.ireturn, 1) := by decide +kernel
theorem dX12_joined_60 : decode cX12_joined 60 = .ok (.iload_n 1, 1) := by decide +kernel
theorem dX12_joined_61 : decode cX12_joined 61 = .ok (.iload_n 2, 1) := by decide +kernel
theorem dX12_joined_62 : decode cX12_joined 62 = .ok (.imul, 1) := by decide +kernel
theorem dX12_joined_63 : decode cX12_joined 63 = .ok (.ireturn, 1) := by decide +kernel
theorem dX12_joined_64 : decode cX12_joined 64 = .ok (.iload_n 2, 1) := by decide +kernel
theorem dX12_joined_65 : decode cX12_joined 65 = .ok (.ifCond .ne 7, 3) := by decide +kernel
theorem dX12_joined_68 : decode cX12_joined 68 = .ok (.iconst 0, 1) := by decide +kernel
theorem dX12_joined_69 : decode cX12_joined 69 = .ok (.goto 16, 3) := by decide +kernel
theorem dX12_joined_72 : decode cX12_joined 72 = .ok (.iload_n 2, 1) := by decide +kernel
theorem dX12_joined_73 : decode cX12_joined 73 = .ok (.iconst (-1), 1) := by decide +kernel
theorem dX12_joined_74 : decode cX12_joined 74 = .ok (.if_icmp .ne 8, 3) := by decide +kernel
theorem dX12_joined_77 : decode cX12_joined 77 = .ok (.iload_n 1, 1) := by decide +kernel
theorem dX12_joined_78 : decode cX12_joined 78 = .ok (.ineg, 1) := by decide +kernel
theorem dX12_joined_79 : decode cX12_joined 79 = .ok (.goto 6, 3) := by decide +kernel
theorem dX12_joined_82 : decode cX12_joined 82 = .ok (.iload_n 1, 1) := by decide +kernel
theorem dX12_joined_83 : decode cX12_joined 83 = .ok (.iload_n 2, 1) := by decide +kernel
theorem dX12_joined_84 : decode cX12_joined 84 = .ok (.idiv, 1) := by decide +kernel
theorem dX12_joined_85 : decode cX12_joined 85 = .ok (.ireturn, 1) := by decide +kernel
theorem dX12_joined_86 : decode cX12_joined 86 = .ok (.iload_n 1, 1) := by decide +kernel
theorem dX12_joined_87 : decode cX12_joined 87 = .ok (.iload_n 2, 1) := by decide +kernel
theorem dX12_joined_88 : decode cX12_joined 88 = .ok (.if_icmp .ge 7, 3) := by decide +kernel
theorem dX12_joined_91 : decode cX12_joined 91 = .ok (.iconst 1, 1) := by decide +kernel
theorem dX12_joined_92 : decode cX12_joined 92 = .ok (.goto 4, 3) := by decide +kernel
theorem dX12_joined_95 : decode cX12_joined 95 = .ok (.iconst 0, 1) := by decide +kernel
theorem dX12_joined_96 : decode cX12_joined 96 = .ok (.ireturn, 1) := by decide +kernel
theorem dX12_joined_97 : decode cX12_joined 97 = .ok (.iload_n 1, 1) := by decide +kernel
theorem dX12_joined_98 : decode cX12_joined 98 = .ok (.iload_n 2, 1) := by decide +kernel
theorem dX12_joined_99 : decode cX12_joined 99 = .ok (.if_icmp .ne 7, 3) := by decide +kernel
theorem dX12_joined_102 : decode cX12_joined 102 = .ok (.iconst 1, 1) := by decide +kernel
theorem dX12_joined_103 : decode cX12_joined 103 = .ok (.goto 4, 3) := by decide +kernel
theorem dX12_joined_106 : decode cX12_joined 106 = .ok (.iconst 0, 1) := by decide +kernel
theorem dX12_joined_107 : decode cX12_joined 107 = .ok (.ireturn, 1) := by decide +kernel
theorem dX12_works_0 : decode cX12_works 0 = .ok (.sipush 976, 3) := by decide +kernel
theorem dX12_works_3 : decode cX12_works 3 = .ok (.sipush 165, 3) := by decide +kernel
theorem dX12_works_6 : decode cX12_works 6 = .ok (.iload_n 1, 1) := by decide +kernel
theorem dX12_works_7 : decode cX12_works 7 = .ok (.imul, 1) := by decide +kernel
theorem dX12_works_8 : decode cX12_works 8 = .ok (.iadd, 1) := by decide +kernel
theorem dX12_works_9 : decode cX12_works 9 = .ok (.istore_n 2, 1) := by decide +kernel
theorem dX12_works_10 : decode cX12_works 10 = .ok (.iconst 0, 1) := by decide +kernel
theorem dX12_works_11 : decode cX12_works 11 = .ok (.istore_n 3, 1) := by decide +kernel
theorem dX12_works_12 : decode cX12_works 12 = .ok (.iconst 0, 1) := by decide +kernel
theorem dX12_works_13 : decode cX12_works 13 = .ok (.istore 4, 2) := by decide +kernel
theorem dX12_works_15 : decode cX12_works 15 = .ok (.iload 4, 2) := by decide +kernel
theorem dX12_works_17 : decode cX12_works 17 = .ok (.aload_n 0, 1) := by decide +kernel
theorem dX12_works_18 : decode cX12_works 18 = .ok (.getfield 7, 3) := by decide +kernel
theorem dX12_works_21 : decode cX12_works 21 = .ok (.iload_n 2, 1) := by decide +kernel
theorem dX12_works_22 : decode cX12_works 22 = .ok (.iaload, 1) := by decide +kernel
theorem dX12_works_23 : decode cX12_works 23 = .ok (.if_icmp .ge 135, 3) := by decide +kernel
theorem dX12_works_26 : decode cX12_works 26 = .ok (.aload_n 0, 1) := by decide +kernel
theorem dX12_works_27 : decode cX12_works 27 = .ok (.getfield 7, 3) := by decide +kernel
theorem dX12_works_30 : decode cX12_works 30 = .ok (.iload_n 2, 1) := by decide +kernel
theorem dX12_works_31 : decode cX12_works 31 = .ok (.iconst 1, 1) := by decide +kernel
theorem dX12_works_32 : decode cX12_works 32 = .ok (.iadd, 1) := by decide +kernel
theorem dX12_works_33 : decode cX12_works 33 = .ok (.iconst 2, 1) := by decide +kernel
theorem dX12_works_34 : decode cX12_works 34 = .ok (.iload 4, 2) := by decide +kernel
theorem dX12_works_36 : decode cX12_works 36 = .ok (.imul, 1) := by decide +kernel
theorem dX12_works_37 : decode cX12_works 37 = .ok (.iadd, 1) := by decide +kernel
theorem dX12_works_38 : decode cX12_works 38 = .ok (.iaload, 1) := by decide +kernel
theorem dX12_works_39 : decode cX12_works 39 = .ok (.istore 5, 2) := by decide +kernel
theorem dX12_works_41 : decode cX12_works 41 = .ok (.aload_n 0, 1) := by decide +kernel
theorem dX12_works_42 : decode cX12_works 42 = .ok (.getfield 7, 3) := by decide +kernel
theorem dX12_works_45 : decode cX12_works 45 = .ok (.iload_n 2, 1) := by decide +kernel
theorem dX12_works_46 : decode cX12_works 46 = .ok (.iconst 2, 1) := by decide +kernel
theorem dX12_works_47 : decode cX12_works 47 = .ok (.iadd, 1) := by decide +kernel
theorem dX12_works_48 : decode cX12_works 48 = .ok (.iconst 2, 1) := by decide +kernel
theorem dX12_works_49 : decode cX12_works 49 = .ok (.iload 4, 2) := by decide +kernel
theorem dX12_works_51 : decode cX12_works 51 = .ok (.imul, 1) := by decide +kernel
theorem dX12_works_52 : decode cX12_works 52 = .ok (.iadd, 1) := by decide +kernel
theorem dX12_works_53 : decode cX12_works 53 = .ok (.iaload, 1) := by decide +kernel
theorem dX12_works_54 : decode cX12_works 54 = .ok (.istore 6, 2) := by decide +kernel
theorem dX12_works_56 : decode cX12_works 56 = .ok (.iload 5, 2) := by decide +kernel
theorem dX12_works_58 : decode cX12_works 58 = .ok (.ifCond .eq 9, 3) := by decide +kernel
