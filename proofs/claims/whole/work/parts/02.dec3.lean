theorem dX12_works_61 : decode cX12_works 61 = .ok (.iload 5, 2) := by decide +kernel
theorem dX12_works_63 : decode cX12_works 63 = .ok (.iconst 1, 1) := by decide +kernel
theorem dX12_works_64 : decode cX12_works 64 = .ok (.if_icmp .ne 32, 3) := by decide +kernel
theorem dX12_works_67 : decode cX12_works 67 = .ok (.aload_n 0, 1) := by decide +kernel
theorem dX12_works_68 : decode cX12_works 68 = .ok (.getfield 37, 3) := by decide +kernel
theorem dX12_works_71 : decode cX12_works 71 = .ok (.iload_n 3, 1) := by decide +kernel
theorem dX12_works_72 : decode cX12_works 72 = .ok (.iload 5, 2) := by decide +kernel
theorem dX12_works_74 : decode cX12_works 74 = .ok (.ifCond .ne 8, 3) := by decide +kernel
theorem dX12_works_77 : decode cX12_works 77 = .ok (.iload 6, 2) := by decide +kernel
theorem dX12_works_79 : decode cX12_works 79 = .ok (.goto 10, 3) := by decide +kernel
theorem dX12_works_82 : decode cX12_works 82 = .ok (.aload_n 0, 1) := by decide +kernel
theorem dX12_works_83 : decode cX12_works 83 = .ok (.getfield 34, 3) := by decide +kernel
theorem dX12_works_86 : decode cX12_works 86 = .ok (.iload 6, 2) := by decide +kernel
theorem dX12_works_88 : decode cX12_works 88 = .ok (.iaload, 1) := by decide +kernel
theorem dX12_works_89 : decode cX12_works 89 = .ok (.iastore, 1) := by decide +kernel
theorem dX12_works_90 : decode cX12_works 90 = .ok (.iinc 3 1, 3) := by decide +kernel
theorem dX12_works_93 : decode cX12_works 93 = .ok (.goto 59, 3) := by decide +kernel
theorem dX12_works_96 : decode cX12_works 96 = .ok (.iload 5, 2) := by decide +kernel
theorem dX12_works_98 : decode cX12_works 98 = .ok (.iconst 2, 1) := by decide +kernel
theorem dX12_works_99 : decode cX12_works 99 = .ok (.if_icmp .ne 23, 3) := by decide +kernel
theorem dX12_works_102 : decode cX12_works 102 = .ok (.aload_n 0, 1) := by decide +kernel
theorem dX12_works_103 : decode cX12_works 103 = .ok (.getfield 37, 3) := by decide +kernel
theorem dX12_works_106 : decode cX12_works 106 = .ok (.iload_n 3, 1) := by decide +kernel
theorem dX12_works_107 : decode cX12_works 107 = .ok (.iconst 1, 1) := by decide +kernel
theorem dX12_works_108 : decode cX12_works 108 = .ok (.isub, 1) := by decide +kernel
theorem dX12_works_109 : decode cX12_works 109 = .ok (.aload_n 0, 1) := by decide +kernel
theorem dX12_works_110 : decode cX12_works 110 = .ok (.getfield 37, 3) := by decide +kernel
theorem dX12_works_113 : decode cX12_works 113 = .ok (.iload_n 3, 1) := by decide +kernel
theorem dX12_works_114 : decode cX12_works 114 = .ok (.iconst 1, 1) := by decide +kernel
theorem dX12_works_115 : decode cX12_works 115 = .ok (.isub, 1) := by decide +kernel
theorem dX12_works_116 : decode cX12_works 116 = .ok (.iaload, 1) := by decide +kernel
theorem dX12_works_117 : decode cX12_works 117 = .ok (.ineg, 1) := by decide +kernel
theorem dX12_works_118 : decode cX12_works 118 = .ok (.iastore, 1) := by decide +kernel
theorem dX12_works_119 : decode cX12_works 119 = .ok (.goto 33, 3) := by decide +kernel
theorem dX12_works_122 : decode cX12_works 122 = .ok (.iinc 3 (-1), 3) := by decide +kernel
theorem dX12_works_125 : decode cX12_works 125 = .ok (.aload_n 0, 1) := by decide +kernel
theorem dX12_works_126 : decode cX12_works 126 = .ok (.getfield 37, 3) := by decide +kernel
theorem dX12_works_129 : decode cX12_works 129 = .ok (.iload_n 3, 1) := by decide +kernel
theorem dX12_works_130 : decode cX12_works 130 = .ok (.iconst 1, 1) := by decide +kernel
theorem dX12_works_131 : decode cX12_works 131 = .ok (.isub, 1) := by decide +kernel
theorem dX12_works_132 : decode cX12_works 132 = .ok (.iload 6, 2) := by decide +kernel
theorem dX12_works_134 : decode cX12_works 134 = .ok (.aload_n 0, 1) := by decide +kernel
theorem dX12_works_135 : decode cX12_works 135 = .ok (.getfield 37, 3) := by decide +kernel
theorem dX12_works_138 : decode cX12_works 138 = .ok (.iload_n 3, 1) := by decide +kernel
theorem dX12_works_139 : decode cX12_works 139 = .ok (.iconst 1, 1) := by decide +kernel
theorem dX12_works_140 : decode cX12_works 140 = .ok (.isub, 1) := by decide +kernel
theorem dX12_works_141 : decode cX12_works 141 = .ok (.iaload, 1) := by decide +kernel
theorem dX12_works_142 : decode cX12_works 142 = .ok (.aload_n 0, 1) := by decide +kernel
theorem dX12_works_143 : decode cX12_works 143 = .ok (.getfield 37, 3) := by decide +kernel
theorem dX12_works_146 : decode cX12_works 146 = .ok (.iload_n 3, 1) := by decide +kernel
theorem dX12_works_147 : decode cX12_works 147 = .ok (.iaload, 1) := by decide +kernel
theorem dX12_works_148 : decode cX12_works 148 = .ok (.invokestatic 290, 3) := by decide +kernel
theorem dX12_works_151 : decode cX12_works 151 = .ok (.iastore, 1) := by decide +kernel
theorem dX12_works_152 : decode cX12_works 152 = .ok (.iinc 4 1, 3) := by decide +kernel
theorem dX12_works_155 : decode cX12_works 155 = .ok (.goto (-140), 3) := by decide +kernel
theorem dX12_works_158 : decode cX12_works 158 = .ok (.aload_n 0, 1) := by decide +kernel
theorem dX12_works_159 : decode cX12_works 159 = .ok (.getfield 37, 3) := by decide +kernel
theorem dX12_works_162 : decode cX12_works 162 = .ok (.iconst 0, 1) := by decide +kernel
theorem dX12_works_163 : decode cX12_works 163 = .ok (.iaload, 1) := by decide +kernel
theorem dX12_works_164 : decode cX12_works 164 = .ok (.ireturn, 1) := by decide +kernel
theorem dX12_orZero_0 : decode cX12_orZero 0 = .ok (.iload_n 0, 1) := by decide +kernel
theorem dX12_orZero_1 : decode cX12_orZero 1 = .ok (.ifCond .ge 7, 3) := by decide +kernel
theorem dX12_orZero_4 : decode cX12_orZero 4 = .ok (.iconst 0, 1) := by decide +kernel
theorem dX12_orZero_5 : decode cX12_orZero 5 = .ok (.goto 4, 3) := by decide +kernel
theorem dX12_orZero_8 : decode cX12_orZero 8 = .ok (.iload_n 0, 1) := by decide +kernel
theorem dX12_orZero_9 : decode cX12_orZero 9 = .ok (.ireturn, 1) := by decide +kernel
theorem dX12_nameWays_0 : decode cX12_nameWays 0 = .ok (.aload_n 0, 1) := by decide +kernel
theorem dX12_nameWays_1 : decode cX12_nameWays 1 = .ok (.getfield 34, 3) := by decide +kernel
theorem dX12_nameWays_4 : decode cX12_nameWays 4 = .ok (.bipush 100, 2) := by decide +kernel
theorem dX12_nameWays_6 : decode cX12_nameWays 6 = .ok (.aload_n 0, 1) := by decide +kernel
theorem dX12_nameWays_7 : decode cX12_nameWays 7 = .ok (.iload_n 1, 1) := by decide +kernel
theorem dX12_nameWays_8 : decode cX12_nameWays 8 = .ok (.iload_n 2, 1) := by decide +kernel
theorem dX12_nameWays_9 : decode cX12_nameWays 9 = .ok (.aload_n 0, 1) := by decide +kernel
theorem dX12_nameWays_10 : decode cX12_nameWays 10 = .ok (.iload_n 3, 1) := by decide +kernel
theorem dX12_nameWays_11 : decode cX12_nameWays 11 = .ok (.invokevirtual 170, 3) := by decide +kernel
theorem dX12_nameWays_14 : decode cX12_nameWays 14 = .ok (.invokevirtual 157, 3) := by decide +kernel
theorem dX12_nameWays_17 : decode cX12_nameWays 17 = .ok (.invokestatic 293, 3) := by decide +kernel
theorem dX12_nameWays_20 : decode cX12_nameWays 20 = .ok (.iastore, 1) := by decide +kernel
theorem dX12_nameWays_21 : decode cX12_nameWays 21 = .ok (.aload_n 0, 1) := by decide +kernel
theorem dX12_nameWays_22 : decode cX12_nameWays 22 = .ok (.getfield 34, 3) := by decide +kernel
theorem dX12_nameWays_25 : decode cX12_nameWays 25 = .ok (.bipush 99, 2) := by decide +kernel
theorem dX12_nameWays_27 : decode cX12_nameWays 27 = .ok (.aload_n 0, 1) := by decide +kernel
theorem dX12_nameWays_28 : decode cX12_nameWays 28 = .ok (.iload_n 1, 1) := by decide +kernel
theorem dX12_nameWays_29 : decode cX12_nameWays 29 = .ok (.aload_n 0, 1) := by decide +kernel
theorem dX12_nameWays_30 : decode cX12_nameWays 30 = .ok (.iload_n 3, 1) := by decide +kernel
theorem dX12_nameWays_31 : decode cX12_nameWays 31 = .ok (.invokevirtual 170, 3) := by decide +kernel
theorem dX12_nameWays_34 : decode cX12_nameWays 34 = .ok (.aload_n 0, 1) := by decide +kernel
theorem dX12_nameWays_35 : decode cX12_nameWays 35 = .ok (.iload_n 3, 1) := by decide +kernel
theorem dX12_nameWays_36 : decode cX12_nameWays 36 = .ok (.iconst 1, 1) := by decide +kernel
theorem dX12_nameWays_37 : decode cX12_nameWays 37 = .ok (.invokevirtual 99, 3) := by decide +kernel
theorem dX12_nameWays_40 : decode cX12_nameWays 40 = .ok (.invokevirtual 157, 3) := by decide +kernel
theorem dX12_nameWays_43 : decode cX12_nameWays 43 = .ok (.invokestatic 293, 3) := by decide +kernel
theorem dX12_nameWays_46 : decode cX12_nameWays 46 = .ok (.iastore, 1) := by decide +kernel
theorem dX12_nameWays_47 : decode cX12_nameWays 47 = .ok (.return_, 1) := by decide +kernel
theorem dX12_nameAll_0 : decode cX12_nameAll 0 = .ok (.aload_n 0, 1) := by decide +kernel
theorem dX12_nameAll_1 : decode cX12_nameAll 1 = .ok (.aload_n 0, 1) := by decide +kernel
theorem dX12_nameAll_2 : decode cX12_nameAll 2 = .ok (.iload_n 1, 1) := by decide +kernel
theorem dX12_nameAll_3 : decode cX12_nameAll 3 = .ok (.iconst 0, 1) := by decide +kernel
theorem dX12_nameAll_4 : decode cX12_nameAll 4 = .ok (.invokevirtual 136, 3) := by decide +kernel
theorem dX12_nameAll_7 : decode cX12_nameAll 7 = .ok (.aload_n 0, 1) := by decide +kernel
theorem dX12_nameAll_8 : decode cX12_nameAll 8 = .ok (.iload_n 1, 1) := by decide +kernel
theorem dX12_nameAll_9 : decode cX12_nameAll 9 = .ok (.iconst 1, 1) := by decide +kernel
theorem dX12_nameAll_10 : decode cX12_nameAll 10 = .ok (.invokevirtual 136, 3) := by decide +kernel
theorem dX12_nameAll_13 : decode cX12_nameAll 13 = .ok (.iload_n 2, 1) := by decide +kernel
theorem dX12_nameAll_14 : decode cX12_nameAll 14 = .ok (.invokevirtual 215, 3) := by decide +kernel
theorem dX12_nameAll_17 : decode cX12_nameAll 17 = .ok (.aload_n 0, 1) := by decide +kernel
theorem dX12_nameAll_18 : decode cX12_nameAll 18 = .ok (.getfield 34, 3) := by decide +kernel
theorem dX12_nameAll_21 : decode cX12_nameAll 21 = .ok (.bipush 119, 2) := by decide +kernel
theorem dX12_nameAll_23 : decode cX12_nameAll 23 = .ok (.aload_n 0, 1) := by decide +kernel
theorem dX12_nameAll_24 : decode cX12_nameAll 24 = .ok (.iload_n 2, 1) := by decide +kernel
theorem dX12_nameAll_25 : decode cX12_nameAll 25 = .ok (.invokevirtual 120, 3) := by decide +kernel
theorem dX12_nameAll_28 : decode cX12_nameAll 28 = .ok (.ifCond .eq 13, 3) := by decide +kernel
theorem dX12_nameAll_31 : decode cX12_nameAll 31 = .ok (.aload_n 0, 1) := by decide +kernel
theorem dX12_nameAll_32 : decode cX12_nameAll 32 = .ok (.iload_n 2, 1) := by decide +kernel
theorem dX12_nameAll_33 : decode cX12_nameAll 33 = .ok (.bipush 7, 2) := by decide +kernel
theorem dX12_nameAll_35 : decode cX12_nameAll 35 = .ok (.invokevirtual 99, 3) := by decide +kernel
theorem dX12_nameAll_38 : decode cX12_nameAll 38 = .ok (.goto 9, 3) := by decide +kernel
theorem dX12_nameAll_41 : decode cX12_nameAll 41 = .ok (.aload_n 0, 1) := by decide +kernel
theorem dX12_nameAll_42 : decode cX12_nameAll 42 = .ok (.getfield 7, 3) := by decide +kernel
theorem dX12_nameAll_45 : decode cX12_nameAll 45 = .ok (.iconst 0, 1) := by decide +kernel
theorem dX12_nameAll_46 : decode cX12_nameAll 46 = .ok (.iaload, 1) := by decide +kernel
theorem dX12_nameAll_47 : decode cX12_nameAll 47 = .ok (.aload_n 0, 1) := by decide +kernel
theorem dX12_nameAll_48 : decode cX12_nameAll 48 = .ok (.iload_n 2, 1) := by decide +kernel
theorem dX12_nameAll_49 : decode cX12_nameAll 49 = .ok (.iconst 2, 1) := by decide +kernel
theorem dX12_nameAll_50 : decode cX12_nameAll 50 = .ok (.invokevirtual 99, 3) := by decide +kernel
theorem dX12_nameAll_53 : decode cX12_nameAll 53 = .ok (.isub, 1) := by decide +kernel
theorem dX12_nameAll_54 : decode cX12_nameAll 54 = .ok (.iastore, 1) := by decide +kernel
theorem dX12_nameAll_55 : decode cX12_nameAll 55 = .ok (.aload_n 0, 1) := by decide +kernel
theorem dX12_nameAll_56 : decode cX12_nameAll 56 = .ok (.getfield 34, 3) := by decide +kernel
theorem dX12_nameAll_59 : decode cX12_nameAll 59 = .ok (.bipush 104, 2) := by decide +kernel
theorem dX12_nameAll_61 : decode cX12_nameAll 61 = .ok (.aload_n 0, 1) := by decide +kernel
theorem dX12_nameAll_62 : decode cX12_nameAll 62 = .ok (.iload_n 1, 1) := by decide +kernel
theorem dX12_nameAll_63 : decode cX12_nameAll 63 = .ok (.iconst 3, 1) := by decide +kernel
theorem dX12_nameAll_64 : decode cX12_nameAll 64 = .ok (.invokevirtual 136, 3) := by decide +kernel
theorem dX12_nameAll_67 : decode cX12_nameAll 67 = .ok (.iastore, 1) := by decide +kernel
theorem dX12_nameAll_68 : decode cX12_nameAll 68 = .ok (.aload_n 0, 1) := by decide +kernel
theorem dX12_nameAll_69 : decode cX12_nameAll 69 = .ok (.getfield 34, 3) := by decide +kernel
theorem dX12_nameAll_72 : decode cX12_nameAll 72 = .ok (.bipush 114, 2) := by decide +kernel
theorem dX12_nameAll_74 : decode cX12_nameAll 74 = .ok (.aload_n 0, 1) := by decide +kernel
theorem dX12_nameAll_75 : decode cX12_nameAll 75 = .ok (.iload_n 1, 1) := by decide +kernel
theorem dX12_nameAll_76 : decode cX12_nameAll 76 = .ok (.invokevirtual 148, 3) := by decide +kernel
theorem dX12_nameAll_79 : decode cX12_nameAll 79 = .ok (.iastore, 1) := by decide +kernel
theorem dX12_nameAll_80 : decode cX12_nameAll 80 = .ok (.aload_n 0, 1) := by decide +kernel
theorem dX12_nameAll_81 : decode cX12_nameAll 81 = .ok (.getfield 34, 3) := by decide +kernel
theorem dX12_nameAll_84 : decode cX12_nameAll 84 = .ok (.bipush 108, 2) := by decide +kernel
theorem dX12_nameAll_86 : decode cX12_nameAll 86 = .ok (.aload_n 0, 1) := by decide +kernel
theorem dX12_nameAll_87 : decode cX12_nameAll 87 = .ok (.iload_n 2, 1) := by decide +kernel
theorem dX12_nameAll_88 : decode cX12_nameAll 88 = .ok (.invokevirtual 120, 3) := by decide +kernel
theorem dX12_nameAll_91 : decode cX12_nameAll 91 = .ok (.ifCond .eq 11, 3) := by decide +kernel
theorem dX12_nameAll_94 : decode cX12_nameAll 94 = .ok (.aload_n 0, 1) := by decide +kernel
theorem dX12_nameAll_95 : decode cX12_nameAll 95 = .ok (.iload_n 2, 1) := by decide +kernel
theorem dX12_nameAll_96 : decode cX12_nameAll 96 = .ok (.invokevirtual 105, 3) := by decide +kernel
theorem dX12_nameAll_99 : decode cX12_nameAll 99 = .ok (.goto 27, 3) := by decide +kernel
theorem dX12_nameAll_102 : decode cX12_nameAll 102 = .ok (.aload_n 0, 1) := by decide +kernel
theorem dX12_nameAll_103 : decode cX12_nameAll 103 = .ok (.iload_n 1, 1) := by decide +kernel
theorem dX12_nameAll_104 : decode cX12_nameAll 104 = .ok (.iload_n 2, 1) := by decide +kernel
theorem dX12_nameAll_105 : decode cX12_nameAll 105 = .ok (.invokevirtual 194, 3) := by decide +kernel
theorem dX12_nameAll_108 : decode cX12_nameAll 108 = .ok (.ifCond .eq 17, 3) := by decide +kernel
theorem dX12_nameAll_111 : decode cX12_nameAll 111 = .ok (.aload_n 0, 1) := by decide +kernel
theorem dX12_nameAll_112 : decode cX12_nameAll 112 = .ok (.iload_n 2, 1) := by decide +kernel
theorem dX12_nameAll_113 : decode cX12_nameAll 113 = .ok (.aload_n 0, 1) := by decide +kernel
theorem dX12_nameAll_114 : decode cX12_nameAll 114 = .ok (.getfield 25, 3) := by decide +kernel
theorem dX12_nameAll_117 : decode cX12_nameAll 117 = .ok (.iconst 0, 1) := by decide +kernel
theorem dX12_nameAll_118 : decode cX12_nameAll 118 = .ok (.iaload, 1) := by decide +kernel
theorem dX12_nameAll_119 : decode cX12_nameAll 119 = .ok (.invokevirtual 102, 3) := by decide +kernel
theorem dX12_nameAll_122 : decode cX12_nameAll 122 = .ok (.goto 4, 3) := by decide +kernel
theorem dX12_nameAll_125 : decode cX12_nameAll 125 = .ok (.iconst 0, 1) := by decide +kernel
theorem dX12_nameAll_126 : decode cX12_nameAll 126 = .ok (.iastore, 1) := by decide +kernel
theorem dX12_nameAll_127 : decode cX12_nameAll 127 = .ok (.aload_n 0, 1) := by decide +kernel
theorem dX12_nameAll_128 : decode cX12_nameAll 128 = .ok (.getfield 34, 3) := by decide +kernel
theorem dX12_nameAll_131 : decode cX12_nameAll 131 = .ok (.bipush 110, 2) := by decide +kernel
theorem dX12_nameAll_133 : decode cX12_nameAll 133 = .ok (.iload_n 1, 1) := by decide +kernel
theorem dX12_nameAll_134 : decode cX12_nameAll 134 = .ok (.iastore, 1) := by decide +kernel
theorem dX12_nameAll_135 : decode cX12_nameAll 135 = .ok (.return_, 1) := by decide +kernel
theorem dX12_force_0 : decode cX12_force 0 = .ok (.iload_n 1, 1) := by decide +kernel
theorem dX12_force_1 : decode cX12_force 1 = .ok (.iconst 0, 1) := by decide +kernel
theorem dX12_force_2 : decode cX12_force 2 = .ok (.iconst 1, 1) := by decide +kernel
theorem dX12_force_3 : decode cX12_force 3 = .ok (.invokestatic 65, 3) := by decide +kernel
theorem dX12_force_6 : decode cX12_force 6 = .ok (.ifCond .eq 27, 3) := by decide +kernel
theorem dX12_force_9 : decode cX12_force 9 = .ok (.iload_n 2, 1) := by decide +kernel
theorem dX12_force_10 : decode cX12_force 10 = .ok (.iconst (-1), 1) := by decide +kernel
theorem dX12_force_11 : decode cX12_force 11 = .ok (.if_icmp .eq 11, 3) := by decide +kernel
theorem dX12_force_14 : decode cX12_force 14 = .ok (.aload_n 0, 1) := by decide +kernel
theorem dX12_force_15 : decode cX12_force 15 = .ok (.iload_n 2, 1) := by decide +kernel
theorem dX12_force_16 : decode cX12_force 16 = .ok (.invokevirtual 296, 3) := by decide +kernel
theorem dX12_force_19 : decode cX12_force 19 = .ok (.ifCond .eq 14, 3) := by decide +kernel
theorem dX12_force_22 : decode cX12_force 22 = .ok (.aload_n 0, 1) := by decide +kernel
theorem dX12_force_23 : decode cX12_force 23 = .ok (.iconst 5, 1) := by decide +kernel
theorem dX12_force_24 : decode cX12_force 24 = .ok (.iload_n 1, 1) := by decide +kernel
theorem dX12_force_25 : decode cX12_force 25 = .ok (.iadd, 1) := by decide +kernel
theorem dX12_force_26 : decode cX12_force 26 = .ok (.iload_n 2, 1) := by decide +kernel
theorem dX12_force_27 : decode cX12_force 27 = .ok (.invokevirtual 81, 3) := by decide +kernel
theorem dX12_force_30 : decode cX12_force 30 = .ok (.goto 8, 3) := by decide +kernel
theorem dX12_force_33 : decode cX12_force 33 = .ok (.aload_n 0, 1) := by decide +kernel
theorem dX12_force_34 : decode cX12_force 34 = .ok (.iconst 0, 1) := by decide +kernel
theorem dX12_force_35 : decode cX12_force 35 = .ok (.invokevirtual 73, 3) := by decide +kernel
theorem dX12_force_38 : decode cX12_force 38 = .ok (.ireturn, 1) := by decide +kernel
theorem dX12_says_0 : decode cX12_says 0 = .ok (.aload_n 0, 1) := by decide +kernel
theorem dX12_says_1 : decode cX12_says 1 = .ok (.iload_n 1, 1) := by decide +kernel
theorem dX12_says_2 : decode cX12_says 2 = .ok (.invokevirtual 296, 3) := by decide +kernel
theorem dX12_says_5 : decode cX12_says 5 = .ok (.ifCond .eq 19, 3) := by decide +kernel
theorem dX12_says_8 : decode cX12_says 8 = .ok (.aload_n 0, 1) := by decide +kernel
theorem dX12_says_9 : decode cX12_says 9 = .ok (.iload_n 2, 1) := by decide +kernel
theorem dX12_says_10 : decode cX12_says 10 = .ok (.invokevirtual 139, 3) := by decide +kernel
theorem dX12_says_13 : decode cX12_says 13 = .ok (.ifCond .eq 11, 3) := by decide +kernel
theorem dX12_says_16 : decode cX12_says 16 = .ok (.aload_n 0, 1) := by decide +kernel
theorem dX12_says_17 : decode cX12_says 17 = .ok (.iload_n 3, 1) := by decide +kernel
theorem dX12_says_18 : decode cX12_says 18 = .ok (.invokevirtual 117, 3) := by decide +kernel
theorem dX12_says_21 : decode cX12_says 21 = .ok (.ifCond .ne 9, 3) := by decide +kernel
theorem dX12_says_24 : decode cX12_says 24 = .ok (.aload_n 0, 1) := by decide +kernel
theorem dX12_says_25 : decode cX12_says 25 = .ok (.iconst 0, 1) := by decide +kernel
theorem dX12_says_26 : decode cX12_says 26 = .ok (.invokevirtual 73, 3) := by decide +kernel
theorem dX12_says_29 : decode cX12_says 29 = .ok (.ireturn, 1) := by decide +kernel
theorem dX12_says_30 : decode cX12_says 30 = .ok (.aload_n 0, 1) := by decide +kernel
theorem dX12_says_31 : decode cX12_says 31 = .ok (.iload_n 2, 1) := by decide +kernel
theorem dX12_says_32 : decode cX12_says 32 = .ok (.iload_n 3, 1) := by decide +kernel
theorem dX12_says_33 : decode cX12_says 33 = .ok (.invokevirtual 299, 3) := by decide +kernel
theorem dX12_says_36 : decode cX12_says 36 = .ok (.aload_n 0, 1) := by decide +kernel
theorem dX12_says_37 : decode cX12_says 37 = .ok (.iload_n 1, 1) := by decide +kernel
theorem dX12_says_38 : decode cX12_says 38 = .ok (.invokevirtual 218, 3) := by decide +kernel
theorem dX12_says_41 : decode cX12_says 41 = .ok (.ireturn, 1) := by decide +kernel
theorem dX12_offeredTo_0 : decode cX12_offeredTo 0 = .ok (.iconst (-1), 1) := by decide +kernel
theorem dX12_offeredTo_1 : decode cX12_offeredTo 1 = .ok (.istore_n 2, 1) := by decide +kernel
theorem dX12_offeredTo_2 : decode cX12_offeredTo 2 = .ok (.iconst 0, 1) := by decide +kernel
theorem dX12_offeredTo_3 : decode cX12_offeredTo 3 = .ok (.istore_n 3, 1) := by decide +kernel
theorem dX12_offeredTo_4 : decode cX12_offeredTo 4 = .ok (.iconst 0, 1) := by decide +kernel
theorem dX12_offeredTo_5 : decode cX12_offeredTo 5 = .ok (.istore 4, 2) := by decide +kernel
theorem dX12_offeredTo_7 : decode cX12_offeredTo 7 = .ok (.iload 4, 2) := by decide +kernel
theorem dX12_offeredTo_9 : decode cX12_offeredTo 9 = .ok (.aload_n 0, 1) := by decide +kernel
theorem dX12_offeredTo_10 : decode cX12_offeredTo 10 = .ok (.getfield 7, 3) := by decide +kernel
theorem dX12_offeredTo_13 : decode cX12_offeredTo 13 = .ok (.iconst 3, 1) := by decide +kernel
theorem dX12_offeredTo_14 : decode cX12_offeredTo 14 = .ok (.iaload, 1) := by decide +kernel
theorem dX12_offeredTo_15 : decode cX12_offeredTo 15 = .ok (.if_icmp .ge 103, 3) := by decide +kernel
theorem dX12_offeredTo_18 : decode cX12_offeredTo 18 = .ok (.aload_n 0, 1) := by decide +kernel
theorem dX12_offeredTo_19 : decode cX12_offeredTo 19 = .ok (.iload 4, 2) := by decide +kernel
theorem dX12_offeredTo_21 : decode cX12_offeredTo 21 = .ok (.iconst 2, 1) := by decide +kernel
theorem dX12_offeredTo_22 : decode cX12_offeredTo 22 = .ok (.invokevirtual 136, 3) := by decide +kernel
theorem dX12_offeredTo_25 : decode cX12_offeredTo 25 = .ok (.aload_n 0, 1) := by decide +kernel
theorem dX12_offeredTo_26 : decode cX12_offeredTo 26 = .ok (.getfield 7, 3) := by decide +kernel
theorem dX12_offeredTo_29 : decode cX12_offeredTo 29 = .ok (.iconst 0, 1) := by decide +kernel
theorem dX12_offeredTo_30 : decode cX12_offeredTo 30 = .ok (.iaload, 1) := by decide +kernel
theorem dX12_offeredTo_31 : decode cX12_offeredTo 31 = .ok (.if_icmp .gt 25, 3) := by decide +kernel
theorem dX12_offeredTo_34 : decode cX12_offeredTo 34 = .ok (.aload_n 0, 1) := by decide +kernel
theorem dX12_offeredTo_35 : decode cX12_offeredTo 35 = .ok (.getfield 7, 3) := by decide +kernel
theorem dX12_offeredTo_38 : decode cX12_offeredTo 38 = .ok (.sipush 696, 3) := by decide +kernel
theorem dX12_offeredTo_41 : decode cX12_offeredTo 41 = .ok (.iload 4, 2) := by decide +kernel
theorem dX12_offeredTo_43 : decode cX12_offeredTo 43 = .ok (.iadd, 1) := by decide +kernel
theorem dX12_offeredTo_44 : decode cX12_offeredTo 44 = .ok (.iaload, 1) := by decide +kernel
theorem dX12_offeredTo_45 : decode cX12_offeredTo 45 = .ok (.iload_n 1, 1) := by decide +kernel
theorem dX12_offeredTo_46 : decode cX12_offeredTo 46 = .ok (.ishr, 1) := by decide +kernel
theorem dX12_offeredTo_47 : decode cX12_offeredTo 47 = .ok (.iconst 1, 1) := by decide +kernel
theorem dX12_offeredTo_48 : decode cX12_offeredTo 48 = .ok (.iand, 1) := by decide +kernel
theorem dX12_offeredTo_49 : decode cX12_offeredTo 49 = .ok (.ifCond .ne 7, 3) := by decide +kernel
theorem dX12_offeredTo_52 : decode cX12_offeredTo 52 = .ok (.iconst 1, 1) := by decide +kernel
theorem dX12_offeredTo_53 : decode cX12_offeredTo 53 = .ok (.goto 4, 3) := by decide +kernel
theorem dX12_offeredTo_56 : decode cX12_offeredTo 56 = .ok (.iconst 0, 1) := by decide +kernel
theorem dX12_offeredTo_57 : decode cX12_offeredTo 57 = .ok (.istore 5, 2) := by decide +kernel
theorem dX12_offeredTo_59 : decode cX12_offeredTo 59 = .ok (.iload 5, 2) := by decide +kernel
theorem dX12_offeredTo_61 : decode cX12_offeredTo 61 = .ok (.ifCond .eq 51, 3) := by decide +kernel
theorem dX12_offeredTo_64 : decode cX12_offeredTo 64 = .ok (.aload_n 0, 1) := by decide +kernel
theorem dX12_offeredTo_65 : decode cX12_offeredTo 65 = .ok (.iload 4, 2) := by decide +kernel
theorem dX12_offeredTo_67 : decode cX12_offeredTo 67 = .ok (.iload_n 1, 1) := by decide +kernel
theorem dX12_offeredTo_68 : decode cX12_offeredTo 68 = .ok (.invokevirtual 194, 3) := by decide +kernel
theorem dX12_offeredTo_71 : decode cX12_offeredTo 71 = .ok (.ifCond .ne 6, 3) := by decide +kernel
theorem dX12_offeredTo_74 : decode cX12_offeredTo 74 = .ok (.goto 38, 3) := by decide +kernel
theorem dX12_offeredTo_77 : decode cX12_offeredTo 77 = .ok (.aload_n 0, 1) := by decide +kernel
theorem dX12_offeredTo_78 : decode cX12_offeredTo 78 = .ok (.iload 4, 2) := by decide +kernel
theorem dX12_offeredTo_80 : decode cX12_offeredTo 80 = .ok (.iload_n 1, 1) := by decide +kernel
theorem dX12_offeredTo_81 : decode cX12_offeredTo 81 = .ok (.invokevirtual 299, 3) := by decide +kernel
theorem dX12_offeredTo_84 : decode cX12_offeredTo 84 = .ok (.aload_n 0, 1) := by decide +kernel
theorem dX12_offeredTo_85 : decode cX12_offeredTo 85 = .ok (.aload_n 0, 1) := by decide +kernel
theorem dX12_offeredTo_86 : decode cX12_offeredTo 86 = .ok (.getfield 7, 3) := by decide +kernel
theorem dX12_offeredTo_89 : decode cX12_offeredTo 89 = .ok (.iconst 5, 1) := by decide +kernel
theorem dX12_offeredTo_90 : decode cX12_offeredTo 90 = .ok (.iaload, 1) := by decide +kernel
theorem dX12_offeredTo_91 : decode cX12_offeredTo 91 = .ok (.invokevirtual 218, 3) := by decide +kernel
theorem dX12_offeredTo_94 : decode cX12_offeredTo 94 = .ok (.istore 6, 2) := by decide +kernel
theorem dX12_offeredTo_96 : decode cX12_offeredTo 96 = .ok (.iload_n 2, 1) := by decide +kernel
theorem dX12_offeredTo_97 : decode cX12_offeredTo 97 = .ok (.ifCond .lt 9, 3) := by decide +kernel
theorem dX12_offeredTo_100 : decode cX12_offeredTo 100 = .ok (.iload 6, 2) := by decide +kernel
theorem dX12_offeredTo_102 : decode cX12_offeredTo 102 = .ok (.iload_n 3, 1) := by decide +kernel
theorem dX12_offeredTo_103 : decode cX12_offeredTo 103 = .ok (.if_icmp .le 9, 3) := by decide +kernel
theorem dX12_offeredTo_106 : decode cX12_offeredTo 106 = .ok (.iload 4, 2) := by decide +kernel
theorem dX12_offeredTo_108 : decode cX12_offeredTo 108 = .ok (.istore_n 2, 1) := by decide +kernel
theorem dX12_offeredTo_109 : decode cX12_offeredTo 109 = .ok (.iload 6, 2) := by decide +kernel
theorem dX12_offeredTo_111 : decode cX12_offeredTo 111 = .ok (.istore_n 3, 1) := by decide +kernel
theorem dX12_offeredTo_112 : decode cX12_offeredTo 112 = .ok (.iinc 4 1, 3) := by decide +kernel
theorem dX12_offeredTo_115 : decode cX12_offeredTo 115 = .ok (.goto (-108), 3) := by decide +kernel
theorem dX12_offeredTo_118 : decode cX12_offeredTo 118 = .ok (.iload_n 2, 1) := by decide +kernel
theorem dX12_offeredTo_119 : decode cX12_offeredTo 119 = .ok (.ireturn, 1) := by decide +kernel
theorem dX12_offered_0 : decode cX12_offered 0 = .ok (.aload_n 0, 1) := by decide +kernel
theorem dX12_offered_1 : decode cX12_offered 1 = .ok (.iload_n 1, 1) := by decide +kernel
theorem dX12_offered_2 : decode cX12_offered 2 = .ok (.invokevirtual 117, 3) := by decide +kernel
theorem dX12_offered_5 : decode cX12_offered 5 = .ok (.ifCond .ne 9, 3) := by decide +kernel
theorem dX12_offered_8 : decode cX12_offered 8 = .ok (.aload_n 0, 1) := by decide +kernel
theorem dX12_offered_9 : decode cX12_offered 9 = .ok (.iconst 0, 1) := by decide +kernel
theorem dX12_offered_10 : decode cX12_offered 10 = .ok (.invokevirtual 73, 3) := by decide +kernel
theorem dX12_offered_13 : decode cX12_offered 13 = .ok (.ireturn, 1) := by decide +kernel
theorem dX12_offered_14 : decode cX12_offered 14 = .ok (.aload_n 0, 1) := by decide +kernel
theorem dX12_offered_15 : decode cX12_offered 15 = .ok (.iload_n 1, 1) := by decide +kernel
theorem dX12_offered_16 : decode cX12_offered 16 = .ok (.invokevirtual 129, 3) := by decide +kernel
theorem dX12_offered_19 : decode cX12_offered 19 = .ok (.ifCond .eq 12, 3) := by decide +kernel
theorem dX12_offered_22 : decode cX12_offered 22 = .ok (.aload_n 0, 1) := by decide +kernel
theorem dX12_offered_23 : decode cX12_offered 23 = .ok (.getfield 7, 3) := by decide +kernel
theorem dX12_offered_26 : decode cX12_offered 26 = .ok (.iconst 5, 1) := by decide +kernel
theorem dX12_offered_27 : decode cX12_offered 27 = .ok (.iaload, 1) := by decide +kernel
theorem dX12_offered_28 : decode cX12_offered 28 = .ok (.ifCond .ge 9, 3) := by decide +kernel
theorem dX12_offered_31 : decode cX12_offered 31 = .ok (.aload_n 0, 1) := by decide +kernel
theorem dX12_offered_32 : decode cX12_offered 32 = .ok (.iconst 4, 1) := by decide +kernel
theorem dX12_offered_33 : decode cX12_offered 33 = .ok (.invokevirtual 73, 3) := by decide +kernel
theorem dX12_offered_36 : decode cX12_offered 36 = .ok (.ireturn, 1) := by decide +kernel
theorem dX12_offered_37 : decode cX12_offered 37 = .ok (.aload_n 0, 1) := by decide +kernel
theorem dX12_offered_38 : decode cX12_offered 38 = .ok (.iload_n 1, 1) := by decide +kernel
theorem dX12_offered_39 : decode cX12_offered 39 = .ok (.invokevirtual 302, 3) := by decide +kernel
theorem dX12_offered_42 : decode cX12_offered 42 = .ok (.istore_n 2, 1) := by decide +kernel
theorem dX12_offered_43 : decode cX12_offered 43 = .ok (.iload_n 2, 1) := by decide +kernel
theorem dX12_offered_44 : decode cX12_offered 44 = .ok (.ifCond .ge 11, 3) := by decide +kernel
theorem dX12_offered_47 : decode cX12_offered 47 = .ok (.aload_n 0, 1) := by decide +kernel
theorem dX12_offered_48 : decode cX12_offered 48 = .ok (.iconst 3, 1) := by decide +kernel
theorem dX12_offered_49 : decode cX12_offered 49 = .ok (.invokevirtual 73, 3) := by decide +kernel
theorem dX12_offered_52 : decode cX12_offered 52 = .ok (.goto 4, 3) := by decide +kernel
theorem dX12_offered_55 : decode cX12_offered 55 = .ok (.iload_n 2, 1) := by decide +kernel
theorem dX12_offered_56 : decode cX12_offered 56 = .ok (.ireturn, 1) := by decide +kernel
theorem dX12_refuse_0 : decode cX12_refuse 0 = .ok (.aload_n 0, 1) := by decide +kernel
theorem dX12_refuse_1 : decode cX12_refuse 1 = .ok (.iload_n 1, 1) := by decide +kernel
theorem dX12_refuse_2 : decode cX12_refuse 2 = .ok (.invokevirtual 139, 3) := by decide +kernel
theorem dX12_refuse_5 : decode cX12_refuse 5 = .ok (.ifCond .eq 11, 3) := by decide +kernel
theorem dX12_refuse_8 : decode cX12_refuse 8 = .ok (.aload_n 0, 1) := by decide +kernel
theorem dX12_refuse_9 : decode cX12_refuse 9 = .ok (.iload_n 2, 1) := by decide +kernel
theorem dX12_refuse_10 : decode cX12_refuse 10 = .ok (.invokevirtual 117, 3) := by decide +kernel
theorem dX12_refuse_13 : decode cX12_refuse 13 = .ok (.ifCond .ne 9, 3) := by decide +kernel
theorem dX12_refuse_16 : decode cX12_refuse 16 = .ok (.aload_n 0, 1) := by decide +kernel
theorem dX12_refuse_17 : decode cX12_refuse 17 = .ok (.iconst 0, 1) := by decide +kernel
theorem dX12_refuse_18 : decode cX12_refuse 18 = .ok (.invokevirtual 73, 3) := by decide +kernel
theorem dX12_refuse_21 : decode cX12_refuse 21 = .ok (.ireturn, 1) := by decide +kernel
theorem dX12_refuse_22 : decode cX12_refuse 22 = .ok (.aload_n 0, 1) := by decide +kernel
theorem dX12_refuse_23 : decode cX12_refuse 23 = .ok (.iload_n 2, 1) := by decide +kernel
theorem dX12_refuse_24 : decode cX12_refuse 24 = .ok (.invokevirtual 129, 3) := by decide +kernel
theorem dX12_refuse_27 : decode cX12_refuse 27 = .ok (.ifCond .eq 21, 3) := by decide +kernel
theorem dX12_refuse_30 : decode cX12_refuse 30 = .ok (.aload_n 0, 1) := by decide +kernel
theorem dX12_refuse_31 : decode cX12_refuse 31 = .ok (.getfield 7, 3) := by decide +kernel
theorem dX12_refuse_34 : decode cX12_refuse 34 = .ok (.sipush 696, 3) := by decide +kernel
theorem dX12_refuse_37 : decode cX12_refuse 37 = .ok (.iload_n 1, 1) := by decide +kernel
theorem dX12_refuse_38 : decode cX12_refuse 38 = .ok (.iadd, 1) := by decide +kernel
theorem dX12_refuse_39 : decode cX12_refuse 39 = .ok (.iaload, 1) := by decide +kernel
theorem dX12_refuse_40 : decode cX12_refuse 40 = .ok (.iload_n 2, 1) := by decide +kernel
theorem dX12_refuse_41 : decode cX12_refuse 41 = .ok (.ishr, 1) := by decide +kernel
theorem dX12_refuse_42 : decode cX12_refuse 42 = .ok (.iconst 1, 1) := by decide +kernel
theorem dX12_refuse_43 : decode cX12_refuse 43 = .ok (.iand, 1) := by decide +kernel
theorem dX12_refuse_44 : decode cX12_refuse 44 = .ok (.iconst 1, 1) := by decide +kernel
theorem dX12_refuse_45 : decode cX12_refuse 45 = .ok (.if_icmp .ne 9, 3) := by decide +kernel
theorem dX12_refuse_48 : decode cX12_refuse 48 = .ok (.aload_n 0, 1) := by decide +kernel
theorem dX12_refuse_49 : decode cX12_refuse 49 = .ok (.iconst 4, 1) := by decide +kernel
theorem dX12_refuse_50 : decode cX12_refuse 50 = .ok (.invokevirtual 73, 3) := by decide +kernel
theorem dX12_refuse_53 : decode cX12_refuse 53 = .ok (.ireturn, 1) := by decide +kernel
theorem dX12_refuse_54 : decode cX12_refuse 54 = .ok (.aload_n 0, 1) := by decide +kernel
theorem dX12_refuse_55 : decode cX12_refuse 55 = .ok (.getfield 7, 3) := by decide +kernel
theorem dX12_refuse_58 : decode cX12_refuse 58 = .ok (.sipush 696, 3) := by decide +kernel
theorem dX12_refuse_61 : decode cX12_refuse 61 = .ok (.iload_n 1, 1) := by decide +kernel
theorem dX12_refuse_62 : decode cX12_refuse 62 = .ok (.iadd, 1) := by decide +kernel
theorem dX12_refuse_63 : decode cX12_refuse 63 = .ok (.dup2, 1) := by decide +kernel
theorem dX12_refuse_64 : decode cX12_refuse 64 = .ok (.iaload, 1) := by decide +kernel
theorem dX12_refuse_65 : decode cX12_refuse 65 = .ok (.iconst 1, 1) := by decide +kernel
theorem dX12_refuse_66 : decode cX12_refuse 66 = .ok (.iload_n 2, 1) := by decide +kernel
theorem dX12_refuse_67 : decode cX12_refuse 67 = .ok (.ishl, 1) := by decide +kernel
theorem dX12_refuse_68 : decode cX12_refuse 68 = .ok (.ior, 1) := by decide +kernel
theorem dX12_refuse_69 : decode cX12_refuse 69 = .ok (.iastore, 1) := by decide +kernel
theorem dX12_refuse_70 : decode cX12_refuse 70 = .ok (.aload_n 0, 1) := by decide +kernel
theorem dX12_refuse_71 : decode cX12_refuse 71 = .ok (.iload_n 1, 1) := by decide +kernel
theorem dX12_refuse_72 : decode cX12_refuse 72 = .ok (.invokevirtual 151, 3) := by decide +kernel
theorem dX12_refuse_75 : decode cX12_refuse 75 = .ok (.ireturn, 1) := by decide +kernel
theorem dX12_offerAll_0 : decode cX12_offerAll 0 = .ok (.aload_n 0, 1) := by decide +kernel
theorem dX12_offerAll_1 : decode cX12_offerAll 1 = .ok (.getfield 7, 3) := by decide +kernel
theorem dX12_offerAll_4 : decode cX12_offerAll 4 = .ok (.iconst 5, 1) := by decide +kernel
theorem dX12_offerAll_5 : decode cX12_offerAll 5 = .ok (.iaload, 1) := by decide +kernel
theorem dX12_offerAll_6 : decode cX12_offerAll 6 = .ok (.ifCond .ge 9, 3) := by decide +kernel
theorem dX12_offerAll_9 : decode cX12_offerAll 9 = .ok (.aload_n 0, 1) := by decide +kernel
theorem dX12_offerAll_10 : decode cX12_offerAll 10 = .ok (.iconst 4, 1) := by decide +kernel
theorem dX12_offerAll_11 : decode cX12_offerAll 11 = .ok (.invokevirtual 73, 3) := by decide +kernel
theorem dX12_offerAll_14 : decode cX12_offerAll 14 = .ok (.ireturn, 1) := by decide +kernel
theorem dX12_offerAll_15 : decode cX12_offerAll 15 = .ok (.iconst 0, 1) := by decide +kernel
theorem dX12_offerAll_16 : decode cX12_offerAll 16 = .ok (.istore_n 1, 1) := by decide +kernel
theorem dX12_offerAll_17 : decode cX12_offerAll 17 = .ok (.iconst 0, 1) := by decide +kernel
theorem dX12_offerAll_18 : decode cX12_offerAll 18 = .ok (.istore_n 2, 1) := by decide +kernel
theorem dX12_offerAll_19 : decode cX12_offerAll 19 = .ok (.iload_n 2, 1) := by decide +kernel
theorem dX12_offerAll_20 : decode cX12_offerAll 20 = .ok (.aload_n 0, 1) := by decide +kernel
theorem dX12_offerAll_21 : decode cX12_offerAll 21 = .ok (.getfield 7, 3) := by decide +kernel
theorem dX12_offerAll_24 : decode cX12_offerAll 24 = .ok (.iconst 2, 1) := by decide +kernel
theorem dX12_offerAll_25 : decode cX12_offerAll 25 = .ok (.iaload, 1) := by decide +kernel
theorem dX12_offerAll_26 : decode cX12_offerAll 26 = .ok (.if_icmp .ge 51, 3) := by decide +kernel
theorem dX12_offerAll_29 : decode cX12_offerAll 29 = .ok (.aload_n 0, 1) := by decide +kernel
theorem dX12_offerAll_30 : decode cX12_offerAll 30 = .ok (.iload_n 2, 1) := by decide +kernel
theorem dX12_offerAll_31 : decode cX12_offerAll 31 = .ok (.invokevirtual 129, 3) := by decide +kernel
theorem dX12_offerAll_34 : decode cX12_offerAll 34 = .ok (.ifCond .eq 11, 3) := by decide +kernel
theorem dX12_offerAll_37 : decode cX12_offerAll 37 = .ok (.aload_n 0, 1) := by decide +kernel
theorem dX12_offerAll_38 : decode cX12_offerAll 38 = .ok (.iload_n 2, 1) := by decide +kernel
theorem dX12_offerAll_39 : decode cX12_offerAll 39 = .ok (.invokevirtual 302, 3) := by decide +kernel
theorem dX12_offerAll_42 : decode cX12_offerAll 42 = .ok (.goto 4, 3) := by decide +kernel
theorem dX12_offerAll_45 : decode cX12_offerAll 45 = .ok (.iconst (-1), 1) := by decide +kernel
theorem dX12_offerAll_46 : decode cX12_offerAll 46 = .ok (.istore_n 3, 1) := by decide +kernel
theorem dX12_offerAll_47 : decode cX12_offerAll 47 = .ok (.iload_n 3, 1) := by decide +kernel
theorem dX12_offerAll_48 : decode cX12_offerAll 48 = .ok (.ifCond .lt 23, 3) := by decide +kernel
theorem dX12_offerAll_51 : decode cX12_offerAll 51 = .ok (.aload_n 0, 1) := by decide +kernel
theorem dX12_offerAll_52 : decode cX12_offerAll 52 = .ok (.iload_n 3, 1) := by decide +kernel
theorem dX12_offerAll_53 : decode cX12_offerAll 53 = .ok (.iload_n 2, 1) := by decide +kernel
theorem dX12_offerAll_54 : decode cX12_offerAll 54 = .ok (.invokevirtual 194, 3) := by decide +kernel
theorem dX12_offerAll_57 : decode cX12_offerAll 57 = .ok (.ifCond .eq 14, 3) := by decide +kernel
theorem dX12_offerAll_60 : decode cX12_offerAll 60 = .ok (.aload_n 0, 1) := by decide +kernel
theorem dX12_offerAll_61 : decode cX12_offerAll 61 = .ok (.iload_n 3, 1) := by decide +kernel
theorem dX12_offerAll_62 : decode cX12_offerAll 62 = .ok (.iload_n 2, 1) := by decide +kernel
theorem dX12_offerAll_63 : decode cX12_offerAll 63 = .ok (.invokevirtual 232, 3) := by decide +kernel
theorem dX12_offerAll_66 : decode cX12_offerAll 66 = .ok (.istore 4, 2) := by decide +kernel
theorem dX12_offerAll_68 : decode cX12_offerAll 68 = .ok (.iinc 1 1, 3) := by decide +kernel
theorem dX12_offerAll_71 : decode cX12_offerAll 71 = .ok (.iinc 2 1, 3) := by decide +kernel
theorem dX12_offerAll_74 : decode cX12_offerAll 74 = .ok (.goto (-55), 3) := by decide +kernel
theorem dX12_offerAll_77 : decode cX12_offerAll 77 = .ok (.iload_n 1, 1) := by decide +kernel
theorem dX12_offerAll_78 : decode cX12_offerAll 78 = .ok (.ireturn, 1) := by decide +kernel
theorem dX12_rain_0 : decode cX12_rain 0 = .ok (.iload_n 1, 1) := by decide +kernel
theorem dX12_rain_1 : decode cX12_rain 1 = .ok (.invokestatic 305, 3) := by decide +kernel
theorem dX12_rain_4 : decode cX12_rain 4 = .ok (.ifCond .eq 25, 3) := by decide +kernel
theorem dX12_rain_7 : decode cX12_rain 7 = .ok (.iload_n 2, 1) := by decide +kernel
theorem dX12_rain_8 : decode cX12_rain 8 = .ok (.invokestatic 305, 3) := by decide +kernel
theorem dX12_rain_11 : decode cX12_rain 11 = .ok (.ifCond .eq 18, 3) := by decide +kernel
theorem dX12_rain_14 : decode cX12_rain 14 = .ok (.iload_n 2, 1) := by decide +kernel
theorem dX12_rain_15 : decode cX12_rain 15 = .ok (.iload_n 1, 1) := by decide +kernel
theorem dX12_rain_16 : decode cX12_rain 16 = .ok (.if_icmp .lt 13, 3) := by decide +kernel
theorem dX12_rain_19 : decode cX12_rain 19 = .ok (.iload_n 3, 1) := by decide +kernel
theorem dX12_rain_20 : decode cX12_rain 20 = .ok (.iconst 1, 1) := by decide +kernel
theorem dX12_rain_21 : decode cX12_rain 21 = .ok (.bipush 99, 2) := by decide +kernel
theorem dX12_rain_23 : decode cX12_rain 23 = .ok (.invokestatic 65, 3) := by decide +kernel
theorem dX12_rain_26 : decode cX12_rain 26 = .ok (.ifCond .ne 9, 3) := by decide +kernel
theorem dX12_rain_29 : decode cX12_rain 29 = .ok (.aload_n 0, 1) := by decide +kernel
theorem dX12_rain_30 : decode cX12_rain 30 = .ok (.iconst 0, 1) := by decide +kernel
theorem dX12_rain_31 : decode cX12_rain 31 = .ok (.invokevirtual 73, 3) := by decide +kernel
theorem dX12_rain_34 : decode cX12_rain 34 = .ok (.ireturn, 1) := by decide +kernel
theorem dX12_rain_35 : decode cX12_rain 35 = .ok (.aload_n 0, 1) := by decide +kernel
theorem dX12_rain_36 : decode cX12_rain 36 = .ok (.getfield 7, 3) := by decide +kernel
theorem dX12_rain_39 : decode cX12_rain 39 = .ok (.bipush 7, 2) := by decide +kernel
theorem dX12_rain_41 : decode cX12_rain 41 = .ok (.iaload, 1) := by decide +kernel
theorem dX12_rain_42 : decode cX12_rain 42 = .ok (.bipush 6, 2) := by decide +kernel
theorem dX12_rain_44 : decode cX12_rain 44 = .ok (.if_icmp .ne 9, 3) := by decide +kernel
theorem dX12_rain_47 : decode cX12_rain 47 = .ok (.aload_n 0, 1) := by decide +kernel
theorem dX12_rain_48 : decode cX12_rain 48 = .ok (.iconst 1, 1) := by decide +kernel
theorem dX12_rain_49 : decode cX12_rain 49 = .ok (.invokevirtual 73, 3) := by decide +kernel
theorem dX12_rain_52 : decode cX12_rain 52 = .ok (.ireturn, 1) := by decide +kernel
theorem dX12_rain_53 : decode cX12_rain 53 = .ok (.sipush 708, 3) := by decide +kernel
theorem dX12_rain_56 : decode cX12_rain 56 = .ok (.iconst 3, 1) := by decide +kernel
theorem dX12_rain_57 : decode cX12_rain 57 = .ok (.aload_n 0, 1) := by decide +kernel
theorem dX12_rain_58 : decode cX12_rain 58 = .ok (.getfield 7, 3) := by decide +kernel
theorem dX12_rain_61 : decode cX12_rain 61 = .ok (.bipush 7, 2) := by decide +kernel
theorem dX12_rain_63 : decode cX12_rain 63 = .ok (.iaload, 1) := by decide +kernel
theorem dX12_rain_64 : decode cX12_rain 64 = .ok (.imul, 1) := by decide +kernel
theorem dX12_rain_65 : decode cX12_rain 65 = .ok (.iadd, 1) := by decide +kernel
theorem dX12_rain_66 : decode cX12_rain 66 = .ok (.istore 4, 2) := by decide +kernel
theorem dX12_rain_68 : decode cX12_rain 68 = .ok (.aload_n 0, 1) := by decide +kernel
theorem dX12_rain_69 : decode cX12_rain 69 = .ok (.getfield 7, 3) := by decide +kernel
theorem dX12_rain_72 : decode cX12_rain 72 = .ok (.iload 4, 2) := by decide +kernel
theorem dX12_rain_74 : decode cX12_rain 74 = .ok (.iload_n 1, 1) := by decide +kernel
theorem dX12_rain_75 : decode cX12_rain 75 = .ok (.iastore, 1) := by decide +kernel
theorem dX12_rain_76 : decode cX12_rain 76 = .ok (.aload_n 0, 1) := by decide +kernel
theorem dX12_rain_77 : decode cX12_rain 77 = .ok (.getfield 7, 3) := by decide +kernel
theorem dX12_rain_80 : decode cX12_rain 80 = .ok (.iload 4, 2) := by decide +kernel
theorem dX12_rain_82 : decode cX12_rain 82 = .ok (.iconst 1, 1) := by decide +kernel
theorem dX12_rain_83 : decode cX12_rain 83 = .ok (.iadd, 1) := by decide +kernel
theorem dX12_rain_84 : decode cX12_rain 84 = .ok (.iload_n 2, 1) := by decide +kernel
theorem dX12_rain_85 : decode cX12_rain 85 = .ok (.iastore, 1) := by decide +kernel
theorem dX12_rain_86 : decode cX12_rain 86 = .ok (.aload_n 0, 1) := by decide +kernel
theorem dX12_rain_87 : decode cX12_rain 87 = .ok (.getfield 7, 3) := by decide +kernel
theorem dX12_rain_90 : decode cX12_rain 90 = .ok (.iload 4, 2) := by decide +kernel
theorem dX12_rain_92 : decode cX12_rain 92 = .ok (.iconst 2, 1) := by decide +kernel
theorem dX12_rain_93 : decode cX12_rain 93 = .ok (.iadd, 1) := by decide +kernel
theorem dX12_rain_94 : decode cX12_rain 94 = .ok (.iload_n 3, 1) := by decide +kernel
theorem dX12_rain_95 : decode cX12_rain 95 = .ok (.iastore, 1) := by decide +kernel
theorem dX12_rain_96 : decode cX12_rain 96 = .ok (.aload_n 0, 1) := by decide +kernel
theorem dX12_rain_97 : decode cX12_rain 97 = .ok (.getfield 7, 3) := by decide +kernel
theorem dX12_rain_100 : decode cX12_rain 100 = .ok (.bipush 7, 2) := by decide +kernel
theorem dX12_rain_102 : decode cX12_rain 102 = .ok (.dup2, 1) := by decide +kernel
theorem dX12_rain_103 : decode cX12_rain 103 = .ok (.iaload, 1) := by decide +kernel
theorem dX12_rain_104 : decode cX12_rain 104 = .ok (.iconst 1, 1) := by decide +kernel
theorem dX12_rain_105 : decode cX12_rain 105 = .ok (.iadd, 1) := by decide +kernel
theorem dX12_rain_106 : decode cX12_rain 106 = .ok (.iastore, 1) := by decide +kernel
theorem dX12_rain_107 : decode cX12_rain 107 = .ok (.aload_n 0, 1) := by decide +kernel
theorem dX12_rain_108 : decode cX12_rain 108 = .ok (.getfield 7, 3) := by decide +kernel
theorem dX12_rain_111 : decode cX12_rain 111 = .ok (.bipush 7, 2) := by decide +kernel
theorem dX12_rain_113 : decode cX12_rain 113 = .ok (.iaload, 1) := by decide +kernel
theorem dX12_rain_114 : decode cX12_rain 114 = .ok (.ireturn, 1) := by decide +kernel
theorem dX12_law_0 : decode cX12_law 0 = .ok (.iload_n 1, 1) := by decide +kernel
theorem dX12_law_1 : decode cX12_law 1 = .ok (.iconst 0, 1) := by decide +kernel
theorem dX12_law_2 : decode cX12_law 2 = .ok (.sipush 999, 3) := by decide +kernel
theorem dX12_law_5 : decode cX12_law 5 = .ok (.invokestatic 65, 3) := by decide +kernel
theorem dX12_law_8 : decode cX12_law 8 = .ok (.ifCond .eq 13, 3) := by decide +kernel
theorem dX12_law_11 : decode cX12_law 11 = .ok (.aload_n 0, 1) := by decide +kernel
theorem dX12_law_12 : decode cX12_law 12 = .ok (.bipush 8, 2) := by decide +kernel
theorem dX12_law_14 : decode cX12_law 14 = .ok (.iload_n 1, 1) := by decide +kernel
theorem dX12_law_15 : decode cX12_law 15 = .ok (.invokevirtual 81, 3) := by decide +kernel
theorem dX12_law_18 : decode cX12_law 18 = .ok (.goto 8, 3) := by decide +kernel
theorem dX12_law_21 : decode cX12_law 21 = .ok (.aload_n 0, 1) := by decide +kernel
theorem dX12_law_22 : decode cX12_law 22 = .ok (.iconst 0, 1) := by decide +kernel
theorem dX12_law_23 : decode cX12_law 23 = .ok (.invokevirtual 73, 3) := by decide +kernel
theorem dX12_law_26 : decode cX12_law 26 = .ok (.ireturn, 1) := by decide +kernel
theorem dX12_app_0 : decode cX12_app 0 = .ok (.aload_n 0, 1) := by decide +kernel
theorem dX12_app_1 : decode cX12_app 1 = .ok (.iload_n 1, 1) := by decide +kernel
theorem dX12_app_2 : decode cX12_app 2 = .ok (.invokevirtual 139, 3) := by decide +kernel
theorem dX12_app_5 : decode cX12_app 5 = .ok (.ifCond .eq 22, 3) := by decide +kernel
theorem dX12_app_8 : decode cX12_app 8 = .ok (.iload_n 2, 1) := by decide +kernel
theorem dX12_app_9 : decode cX12_app 9 = .ok (.invokestatic 305, 3) := by decide +kernel
theorem dX12_app_12 : decode cX12_app 12 = .ok (.ifCond .eq 15, 3) := by decide +kernel
theorem dX12_app_15 : decode cX12_app 15 = .ok (.iload_n 3, 1) := by decide +kernel
theorem dX12_app_16 : decode cX12_app 16 = .ok (.invokestatic 305, 3) := by decide +kernel
theorem dX12_app_19 : decode cX12_app 19 = .ok (.ifCond .eq 8, 3) := by decide +kernel
theorem dX12_app_22 : decode cX12_app 22 = .ok (.iload_n 3, 1) := by decide +kernel
theorem dX12_app_23 : decode cX12_app 23 = .ok (.iload_n 2, 1) := by decide +kernel
theorem dX12_app_24 : decode cX12_app 24 = .ok (.if_icmp .gt 9, 3) := by decide +kernel
theorem dX12_app_27 : decode cX12_app 27 = .ok (.aload_n 0, 1) := by decide +kernel
theorem dX12_app_28 : decode cX12_app 28 = .ok (.iconst 0, 1) := by decide +kernel
theorem dX12_app_29 : decode cX12_app 29 = .ok (.invokevirtual 73, 3) := by decide +kernel
theorem dX12_app_32 : decode cX12_app 32 = .ok (.ireturn, 1) := by decide +kernel
theorem dX12_app_33 : decode cX12_app 33 = .ok (.sipush 726, 3) := by decide +kernel
theorem dX12_app_36 : decode cX12_app 36 = .ok (.bipush 9, 2) := by decide +kernel
theorem dX12_app_38 : decode cX12_app 38 = .ok (.iload_n 1, 1) := by decide +kernel
theorem dX12_app_39 : decode cX12_app 39 = .ok (.imul, 1) := by decide +kernel
theorem dX12_app_40 : decode cX12_app 40 = .ok (.iadd, 1) := by decide +kernel
theorem dX12_app_41 : decode cX12_app 41 = .ok (.istore 4, 2) := by decide +kernel
theorem dX12_app_43 : decode cX12_app 43 = .ok (.aload_n 0, 1) := by decide +kernel
theorem dX12_app_44 : decode cX12_app 44 = .ok (.getfield 7, 3) := by decide +kernel
theorem dX12_app_47 : decode cX12_app 47 = .ok (.iload 4, 2) := by decide +kernel
theorem dX12_app_49 : decode cX12_app 49 = .ok (.iaload, 1) := by decide +kernel
theorem dX12_app_50 : decode cX12_app 50 = .ok (.iconst 4, 1) := by decide +kernel
theorem dX12_app_51 : decode cX12_app 51 = .ok (.if_icmp .ne 9, 3) := by decide +kernel
theorem dX12_app_54 : decode cX12_app 54 = .ok (.aload_n 0, 1) := by decide +kernel
theorem dX12_app_55 : decode cX12_app 55 = .ok (.iconst 1, 1) := by decide +kernel
theorem dX12_app_56 : decode cX12_app 56 = .ok (.invokevirtual 73, 3) := by decide +kernel
theorem dX12_app_59 : decode cX12_app 59 = .ok (.ireturn, 1) := by decide +kernel
theorem dX12_app_60 : decode cX12_app 60 = .ok (.aload_n 0, 1) := by decide +kernel
theorem dX12_app_61 : decode cX12_app 61 = .ok (.getfield 7, 3) := by decide +kernel
theorem dX12_app_64 : decode cX12_app 64 = .ok (.iload 4, 2) := by decide +kernel
theorem dX12_app_66 : decode cX12_app 66 = .ok (.iconst 1, 1) := by decide +kernel
theorem dX12_app_67 : decode cX12_app 67 = .ok (.iadd, 1) := by decide +kernel
theorem dX12_app_68 : decode cX12_app 68 = .ok (.iconst 2, 1) := by decide +kernel
theorem dX12_app_69 : decode cX12_app 69 = .ok (.aload_n 0, 1) := by decide +kernel
theorem dX12_app_70 : decode cX12_app 70 = .ok (.getfield 7, 3) := by decide +kernel
theorem dX12_app_73 : decode cX12_app 73 = .ok (.iload 4, 2) := by decide +kernel
theorem dX12_app_75 : decode cX12_app 75 = .ok (.iaload, 1) := by decide +kernel
theorem dX12_app_76 : decode cX12_app 76 = .ok (.imul, 1) := by decide +kernel
theorem dX12_app_77 : decode cX12_app 77 = .ok (.iadd, 1) := by decide +kernel
theorem dX12_app_78 : decode cX12_app 78 = .ok (.iload_n 2, 1) := by decide +kernel
theorem dX12_app_79 : decode cX12_app 79 = .ok (.iastore, 1) := by decide +kernel
theorem dX12_app_80 : decode cX12_app 80 = .ok (.aload_n 0, 1) := by decide +kernel
theorem dX12_app_81 : decode cX12_app 81 = .ok (.getfield 7, 3) := by decide +kernel
theorem dX12_app_84 : decode cX12_app 84 = .ok (.iload 4, 2) := by decide +kernel
theorem dX12_app_86 : decode cX12_app 86 = .ok (.iconst 2, 1) := by decide +kernel
theorem dX12_app_87 : decode cX12_app 87 = .ok (.iadd, 1) := by decide +kernel
theorem dX12_app_88 : decode cX12_app 88 = .ok (.iconst 2, 1) := by decide +kernel
theorem dX12_app_89 : decode cX12_app 89 = .ok (.aload_n 0, 1) := by decide +kernel
theorem dX12_app_90 : decode cX12_app 90 = .ok (.getfield 7, 3) := by decide +kernel
theorem dX12_app_93 : decode cX12_app 93 = .ok (.iload 4, 2) := by decide +kernel
theorem dX12_app_95 : decode cX12_app 95 = .ok (.iaload, 1) := by decide +kernel
theorem dX12_app_96 : decode cX12_app 96 = .ok (.imul, 1) := by decide +kernel
theorem dX12_app_97 : decode cX12_app 97 = .ok (.iadd, 1) := by decide +kernel
theorem dX12_app_98 : decode cX12_app 98 = .ok (.iload_n 3, 1) := by decide +kernel
theorem dX12_app_99 : decode cX12_app 99 = .ok (.iastore, 1) := by decide +kernel
theorem dX12_app_100 : decode cX12_app 100 = .ok (.aload_n 0, 1) := by decide +kernel
theorem dX12_app_101 : decode cX12_app 101 = .ok (.getfield 7, 3) := by decide +kernel
theorem dX12_app_104 : decode cX12_app 104 = .ok (.iload 4, 2) := by decide +kernel
theorem dX12_app_106 : decode cX12_app 106 = .ok (.dup2, 1) := by decide +kernel
theorem dX12_app_107 : decode cX12_app 107 = .ok (.iaload, 1) := by decide +kernel
theorem dX12_app_108 : decode cX12_app 108 = .ok (.iconst 1, 1) := by decide +kernel
theorem dX12_app_109 : decode cX12_app 109 = .ok (.iadd, 1) := by decide +kernel
theorem dX12_app_110 : decode cX12_app 110 = .ok (.iastore, 1) := by decide +kernel
theorem dX12_app_111 : decode cX12_app 111 = .ok (.aload_n 0, 1) := by decide +kernel
theorem dX12_app_112 : decode cX12_app 112 = .ok (.getfield 7, 3) := by decide +kernel
theorem dX12_app_115 : decode cX12_app 115 = .ok (.iload 4, 2) := by decide +kernel
theorem dX12_app_117 : decode cX12_app 117 = .ok (.iaload, 1) := by decide +kernel
theorem dX12_app_118 : decode cX12_app 118 = .ok (.ireturn, 1) := by decide +kernel
theorem dX12_isElsewhere_0 : decode cX12_isElsewhere 0 = .ok (.sipush 726, 3) := by decide +kernel
theorem dX12_isElsewhere_3 : decode cX12_isElsewhere 3 = .ok (.bipush 9, 2) := by decide +kernel
theorem dX12_isElsewhere_5 : decode cX12_isElsewhere 5 = .ok (.iload_n 1, 1) := by decide +kernel
theorem dX12_isElsewhere_6 : decode cX12_isElsewhere 6 = .ok (.imul, 1) := by decide +kernel
theorem dX12_isElsewhere_7 : decode cX12_isElsewhere 7 = .ok (.iadd, 1) := by decide +kernel
theorem dX12_isElsewhere_8 : decode cX12_isElsewhere 8 = .ok (.istore_n 3, 1) := by decide +kernel
theorem dX12_isElsewhere_9 : decode cX12_isElsewhere 9 = .ok (.iconst 0, 1) := by decide +kernel
theorem dX12_isElsewhere_10 : decode cX12_isElsewhere 10 = .ok (.istore 4, 2) := by decide +kernel
theorem dX12_isElsewhere_12 : decode cX12_isElsewhere 12 = .ok (.iconst 0, 1) := by decide +kernel
theorem dX12_isElsewhere_13 : decode cX12_isElsewhere 13 = .ok (.istore 5, 2) := by decide +kernel
theorem dX12_isElsewhere_15 : decode cX12_isElsewhere 15 = .ok (.iload 5, 2) := by decide +kernel
theorem dX12_isElsewhere_17 : decode cX12_isElsewhere 17 = .ok (.aload_n 0, 1) := by decide +kernel
theorem dX12_isElsewhere_18 : decode cX12_isElsewhere 18 = .ok (.getfield 7, 3) := by decide +kernel
theorem dX12_isElsewhere_21 : decode cX12_isElsewhere 21 = .ok (.iload_n 3, 1) := by decide +kernel
theorem dX12_isElsewhere_22 : decode cX12_isElsewhere 22 = .ok (.iaload, 1) := by decide +kernel
theorem dX12_isElsewhere_23 : decode cX12_isElsewhere 23 = .ok (.if_icmp .ge 48, 3) := by decide +kernel
theorem dX12_isElsewhere_26 : decode cX12_isElsewhere 26 = .ok (.iload 4, 2) := by decide +kernel
theorem dX12_isElsewhere_28 : decode cX12_isElsewhere 28 = .ok (.ifCond .ne 43, 3) := by decide +kernel
theorem dX12_isElsewhere_31 : decode cX12_isElsewhere 31 = .ok (.iload_n 2, 1) := by decide +kernel
theorem dX12_isElsewhere_32 : decode cX12_isElsewhere 32 = .ok (.aload_n 0, 1) := by decide +kernel
theorem dX12_isElsewhere_33 : decode cX12_isElsewhere 33 = .ok (.getfield 7, 3) := by decide +kernel
theorem dX12_isElsewhere_36 : decode cX12_isElsewhere 36 = .ok (.iload_n 3, 1) := by decide +kernel
theorem dX12_isElsewhere_37 : decode cX12_isElsewhere 37 = .ok (.iconst 1, 1) := by decide +kernel
theorem dX12_isElsewhere_38 : decode cX12_isElsewhere 38 = .ok (.iadd, 1) := by decide +kernel
theorem dX12_isElsewhere_39 : decode cX12_isElsewhere 39 = .ok (.iconst 2, 1) := by decide +kernel
theorem dX12_isElsewhere_40 : decode cX12_isElsewhere 40 = .ok (.iload 5, 2) := by decide +kernel
theorem dX12_isElsewhere_42 : decode cX12_isElsewhere 42 = .ok (.imul, 1) := by decide +kernel
theorem dX12_isElsewhere_43 : decode cX12_isElsewhere 43 = .ok (.iadd, 1) := by decide +kernel
theorem dX12_isElsewhere_44 : decode cX12_isElsewhere 44 = .ok (.iaload, 1) := by decide +kernel
theorem dX12_isElsewhere_45 : decode cX12_isElsewhere 45 = .ok (.aload_n 0, 1) := by decide +kernel
theorem dX12_isElsewhere_46 : decode cX12_isElsewhere 46 = .ok (.getfield 7, 3) := by decide +kernel
theorem dX12_isElsewhere_49 : decode cX12_isElsewhere 49 = .ok (.iload_n 3, 1) := by decide +kernel
theorem dX12_isElsewhere_50 : decode cX12_isElsewhere 50 = .ok (.iconst 2, 1) := by decide +kernel
theorem dX12_isElsewhere_51 : decode cX12_isElsewhere 51 = .ok (.iadd, 1) := by decide +kernel
theorem dX12_isElsewhere_52 : decode cX12_isElsewhere 52 = .ok (.iconst 2, 1) := by decide +kernel
theorem dX12_isElsewhere_53 : decode cX12_isElsewhere 53 = .ok (.iload 5, 2) := by decide +kernel
theorem dX12_isElsewhere_55 : decode cX12_isElsewhere 55 = .ok (.imul, 1) := by decide +kernel
theorem dX12_isElsewhere_56 : decode cX12_isElsewhere 56 = .ok (.iadd, 1) := by decide +kernel
theorem dX12_isElsewhere_57 : decode cX12_isElsewhere 57 = .ok (.iaload, 1) := by decide +kernel
theorem dX12_isElsewhere_58 : decode cX12_isElsewhere 58 = .ok (.iconst 1, 1) := by decide +kernel
theorem dX12_isElsewhere_59 : decode cX12_isElsewhere 59 = .ok (.isub, 1) := by decide +kernel
theorem dX12_isElsewhere_60 : decode cX12_isElsewhere 60 = .ok (.invokestatic 65, 3) := by decide +kernel
theorem dX12_isElsewhere_63 : decode cX12_isElsewhere 63 = .ok (.istore 4, 2) := by decide +kernel
theorem dX12_isElsewhere_65 : decode cX12_isElsewhere 65 = .ok (.iinc 5 1, 3) := by decide +kernel
theorem dX12_isElsewhere_68 : decode cX12_isElsewhere 68 = .ok (.goto (-53), 3) := by decide +kernel
theorem dX12_isElsewhere_71 : decode cX12_isElsewhere 71 = .ok (.iload 4, 2) := by decide +kernel
theorem dX12_isElsewhere_73 : decode cX12_isElsewhere 73 = .ok (.ireturn, 1) := by decide +kernel
theorem dX12_counting_0 : decode cX12_counting 0 = .ok (.iconst 0, 1) := by decide +kernel
theorem dX12_counting_1 : decode cX12_counting 1 = .ok (.istore_n 2, 1) := by decide +kernel
theorem dX12_counting_2 : decode cX12_counting 2 = .ok (.iconst 0, 1) := by decide +kernel
theorem dX12_counting_3 : decode cX12_counting 3 = .ok (.istore_n 3, 1) := by decide +kernel
theorem dX12_counting_4 : decode cX12_counting 4 = .ok (.iload_n 3, 1) := by decide +kernel
theorem dX12_counting_5 : decode cX12_counting 5 = .ok (.aload_n 0, 1) := by decide +kernel
theorem dX12_counting_6 : decode cX12_counting 6 = .ok (.getfield 7, 3) := by decide +kernel
theorem dX12_counting_9 : decode cX12_counting 9 = .ok (.bipush 10, 2) := by decide +kernel
theorem dX12_counting_11 : decode cX12_counting 11 = .ok (.iaload, 1) := by decide +kernel
theorem dX12_counting_12 : decode cX12_counting 12 = .ok (.if_icmp .ge 84, 3) := by decide +kernel
theorem dX12_counting_15 : decode cX12_counting 15 = .ok (.aload_n 0, 1) := by decide +kernel
theorem dX12_counting_16 : decode cX12_counting 16 = .ok (.getfield 7, 3) := by decide +kernel
theorem dX12_counting_19 : decode cX12_counting 19 = .ok (.sipush 894, 3) := by decide +kernel
theorem dX12_counting_22 : decode cX12_counting 22 = .ok (.iconst 3, 1) := by decide +kernel
theorem dX12_counting_23 : decode cX12_counting 23 = .ok (.iload_n 3, 1) := by decide +kernel
theorem dX12_counting_24 : decode cX12_counting 24 = .ok (.imul, 1) := by decide +kernel
theorem dX12_counting_25 : decode cX12_counting 25 = .ok (.iadd, 1) := by decide +kernel
theorem dX12_counting_26 : decode cX12_counting 26 = .ok (.iconst 1, 1) := by decide +kernel
theorem dX12_counting_27 : decode cX12_counting 27 = .ok (.iadd, 1) := by decide +kernel
theorem dX12_counting_28 : decode cX12_counting 28 = .ok (.iaload, 1) := by decide +kernel
theorem dX12_counting_29 : decode cX12_counting 29 = .ok (.istore 4, 2) := by decide +kernel
theorem dX12_counting_31 : decode cX12_counting 31 = .ok (.iload 4, 2) := by decide +kernel
theorem dX12_counting_33 : decode cX12_counting 33 = .ok (.aload_n 0, 1) := by decide +kernel
theorem dX12_counting_34 : decode cX12_counting 34 = .ok (.getfield 7, 3) := by decide +kernel
theorem dX12_counting_37 : decode cX12_counting 37 = .ok (.sipush 894, 3) := by decide +kernel
theorem dX12_counting_40 : decode cX12_counting 40 = .ok (.iconst 3, 1) := by decide +kernel
theorem dX12_counting_41 : decode cX12_counting 41 = .ok (.iload_n 3, 1) := by decide +kernel
theorem dX12_counting_42 : decode cX12_counting 42 = .ok (.imul, 1) := by decide +kernel
theorem dX12_counting_43 : decode cX12_counting 43 = .ok (.iadd, 1) := by decide +kernel
theorem dX12_counting_44 : decode cX12_counting 44 = .ok (.iconst 2, 1) := by decide +kernel
theorem dX12_counting_45 : decode cX12_counting 45 = .ok (.iadd, 1) := by decide +kernel
theorem dX12_counting_46 : decode cX12_counting 46 = .ok (.iaload, 1) := by decide +kernel
theorem dX12_counting_47 : decode cX12_counting 47 = .ok (.if_icmp .ge 43, 3) := by decide +kernel
theorem dX12_counting_50 : decode cX12_counting 50 = .ok (.aload_n 0, 1) := by decide +kernel
theorem dX12_counting_51 : decode cX12_counting 51 = .ok (.getfield 7, 3) := by decide +kernel
theorem dX12_counting_54 : decode cX12_counting 54 = .ok (.sipush 894, 3) := by decide +kernel
theorem dX12_counting_57 : decode cX12_counting 57 = .ok (.iconst 3, 1) := by decide +kernel
theorem dX12_counting_58 : decode cX12_counting 58 = .ok (.iload_n 3, 1) := by decide +kernel
theorem dX12_counting_59 : decode cX12_counting 59 = .ok (.imul, 1) := by decide +kernel
theorem dX12_counting_60 : decode cX12_counting 60 = .ok (.iadd, 1) := by decide +kernel
theorem dX12_counting_61 : decode cX12_counting 61 = .ok (.iaload, 1) := by decide +kernel
theorem dX12_counting_62 : decode cX12_counting 62 = .ok (.iload_n 1, 1) := by decide +kernel
theorem dX12_counting_63 : decode cX12_counting 63 = .ok (.if_icmp .ne 27, 3) := by decide +kernel
theorem dX12_counting_66 : decode cX12_counting 66 = .ok (.iload_n 2, 1) := by decide +kernel
theorem dX12_counting_67 : decode cX12_counting 67 = .ok (.aload_n 0, 1) := by decide +kernel
theorem dX12_counting_68 : decode cX12_counting 68 = .ok (.iload_n 1, 1) := by decide +kernel
theorem dX12_counting_69 : decode cX12_counting 69 = .ok (.iload 4, 2) := by decide +kernel
theorem dX12_counting_71 : decode cX12_counting 71 = .ok (.invokevirtual 308, 3) := by decide +kernel
theorem dX12_counting_74 : decode cX12_counting 74 = .ok (.ifCond .eq 7, 3) := by decide +kernel
theorem dX12_counting_77 : decode cX12_counting 77 = .ok (.iconst 1, 1) := by decide +kernel
theorem dX12_counting_78 : decode cX12_counting 78 = .ok (.goto 4, 3) := by decide +kernel
theorem dX12_counting_81 : decode cX12_counting 81 = .ok (.iconst 0, 1) := by decide +kernel
theorem dX12_counting_82 : decode cX12_counting 82 = .ok (.iadd, 1) := by decide +kernel
theorem dX12_counting_83 : decode cX12_counting 83 = .ok (.istore_n 2, 1) := by decide +kernel
theorem dX12_counting_84 : decode cX12_counting 84 = .ok (.iinc 4 1, 3) := by decide +kernel
theorem dX12_counting_87 : decode cX12_counting 87 = .ok (.goto (-56), 3) := by decide +kernel
theorem dX12_counting_90 : decode cX12_counting 90 = .ok (.iinc 3 1, 3) := by decide +kernel
theorem dX12_counting_93 : decode cX12_counting 93 = .ok (.goto (-89), 3) := by decide +kernel
theorem dX12_counting_96 : decode cX12_counting 96 = .ok (.aload_n 0, 1) := by decide +kernel
theorem dX12_counting_97 : decode cX12_counting 97 = .ok (.iload_n 1, 1) := by decide +kernel
theorem dX12_counting_98 : decode cX12_counting 98 = .ok (.invokevirtual 142, 3) := by decide +kernel
theorem dX12_counting_101 : decode cX12_counting 101 = .ok (.iload_n 2, 1) := by decide +kernel
theorem dX12_counting_102 : decode cX12_counting 102 = .ok (.isub, 1) := by decide +kernel
theorem dX12_counting_103 : decode cX12_counting 103 = .ok (.iload_n 2, 1) := by decide +kernel
theorem dX12_counting_104 : decode cX12_counting 104 = .ok (.iconst 2, 1) := by decide +kernel
theorem dX12_counting_105 : decode cX12_counting 105 = .ok (.idiv, 1) := by decide +kernel
theorem dX12_counting_106 : decode cX12_counting 106 = .ok (.iadd, 1) := by decide +kernel
theorem dX12_counting_107 : decode cX12_counting 107 = .ok (.ireturn, 1) := by decide +kernel
theorem dX12_least_0 : decode cX12_least 0 = .ok (.aload_n 0, 1) := by decide +kernel
theorem dX12_least_1 : decode cX12_least 1 = .ok (.iload_n 1, 1) := by decide +kernel
theorem dX12_least_2 : decode cX12_least 2 = .ok (.invokevirtual 139, 3) := by decide +kernel
theorem dX12_least_5 : decode cX12_least 5 = .ok (.ifCond .eq 12, 3) := by decide +kernel
theorem dX12_least_8 : decode cX12_least 8 = .ok (.iload_n 2, 1) := by decide +kernel
theorem dX12_least_9 : decode cX12_least 9 = .ok (.iconst 0, 1) := by decide +kernel
theorem dX12_least_10 : decode cX12_least 10 = .ok (.iconst 1, 1) := by decide +kernel
theorem dX12_least_11 : decode cX12_least 11 = .ok (.invokestatic 65, 3) := by decide +kernel
theorem dX12_least_14 : decode cX12_least 14 = .ok (.ifCond .ne 9, 3) := by decide +kernel
theorem dX12_least_17 : decode cX12_least 17 = .ok (.aload_n 0, 1) := by decide +kernel
theorem dX12_least_18 : decode cX12_least 18 = .ok (.iconst 0, 1) := by decide +kernel
theorem dX12_least_19 : decode cX12_least 19 = .ok (.invokevirtual 73, 3) := by decide +kernel
theorem dX12_least_22 : decode cX12_least 22 = .ok (.ireturn, 1) := by decide +kernel
theorem dX12_least_23 : decode cX12_least 23 = .ok (.aload_n 0, 1) := by decide +kernel
theorem dX12_least_24 : decode cX12_least 24 = .ok (.iload_n 1, 1) := by decide +kernel
theorem dX12_least_25 : decode cX12_least 25 = .ok (.invokevirtual 311, 3) := by decide +kernel
theorem dX12_least_28 : decode cX12_least 28 = .ok (.istore_n 3, 1) := by decide +kernel
theorem dX12_least_29 : decode cX12_least 29 = .ok (.aload_n 0, 1) := by decide +kernel
theorem dX12_least_30 : decode cX12_least 30 = .ok (.getfield 7, 3) := by decide +kernel
theorem dX12_least_33 : decode cX12_least 33 = .ok (.bipush 8, 2) := by decide +kernel
theorem dX12_least_35 : decode cX12_least 35 = .ok (.iaload, 1) := by decide +kernel
theorem dX12_least_36 : decode cX12_least 36 = .ok (.iload_n 3, 1) := by decide +kernel
theorem dX12_least_37 : decode cX12_least 37 = .ok (.imul, 1) := by decide +kernel
theorem dX12_least_38 : decode cX12_least 38 = .ok (.bipush 59, 2) := by decide +kernel
theorem dX12_least_40 : decode cX12_least 40 = .ok (.iadd, 1) := by decide +kernel
theorem dX12_least_41 : decode cX12_least 41 = .ok (.bipush 60, 2) := by decide +kernel
theorem dX12_least_43 : decode cX12_least 43 = .ok (.idiv, 1) := by decide +kernel
theorem dX12_least_44 : decode cX12_least 44 = .ok (.aload_n 0, 1) := by decide +kernel
theorem dX12_least_45 : decode cX12_least 45 = .ok (.iload_n 1, 1) := by decide +kernel
theorem dX12_least_46 : decode cX12_least 46 = .ok (.invokevirtual 145, 3) := by decide +kernel
theorem dX12_least_49 : decode cX12_least 49 = .ok (.isub, 1) := by decide +kernel
theorem dX12_least_50 : decode cX12_least 50 = .ok (.istore 4, 2) := by decide +kernel
theorem dX12_least_52 : decode cX12_least 52 = .ok (.iload_n 2, 1) := by decide +kernel
theorem dX12_least_53 : decode cX12_least 53 = .ok (.ifCond .ne 7, 3) := by decide +kernel
theorem dX12_least_56 : decode cX12_least 56 = .ok (.iload_n 3, 1) := by decide +kernel
theorem dX12_least_57 : decode cX12_least 57 = .ok (.goto 8, 3) := by decide +kernel
theorem dX12_least_60 : decode cX12_least 60 = .ok (.iload 4, 2) := by decide +kernel
theorem dX12_least_62 : decode cX12_least 62 = .ok (.invokestatic 293, 3) := by decide +kernel
theorem dX12_least_65 : decode cX12_least 65 = .ok (.ireturn, 1) := by decide +kernel
theorem dX12_lacks_0 : decode cX12_lacks 0 = .ok (.aload_n 0, 1) := by decide +kernel
theorem dX12_lacks_1 : decode cX12_lacks 1 = .ok (.iload_n 1, 1) := by decide +kernel
theorem dX12_lacks_2 : decode cX12_lacks 2 = .ok (.invokevirtual 117, 3) := by decide +kernel
theorem dX12_lacks_5 : decode cX12_lacks 5 = .ok (.ifCond .eq 12, 3) := by decide +kernel
theorem dX12_lacks_8 : decode cX12_lacks 8 = .ok (.iload_n 2, 1) := by decide +kernel
theorem dX12_lacks_9 : decode cX12_lacks 9 = .ok (.iconst 0, 1) := by decide +kernel
theorem dX12_lacks_10 : decode cX12_lacks 10 = .ok (.iconst 2, 1) := by decide +kernel
theorem dX12_lacks_11 : decode cX12_lacks 11 = .ok (.invokestatic 65, 3) := by decide +kernel
theorem dX12_lacks_14 : decode cX12_lacks 14 = .ok (.ifCond .ne 9, 3) := by decide +kernel
theorem dX12_lacks_17 : decode cX12_lacks 17 = .ok (.aload_n 0, 1) := by decide +kernel
theorem dX12_lacks_18 : decode cX12_lacks 18 = .ok (.iconst 0, 1) := by decide +kernel
theorem dX12_lacks_19 : decode cX12_lacks 19 = .ok (.invokevirtual 73, 3) := by decide +kernel
theorem dX12_lacks_22 : decode cX12_lacks 22 = .ok (.ireturn, 1) := by decide +kernel
theorem dX12_lacks_23 : decode cX12_lacks 23 = .ok (.aload_n 0, 1) := by decide +kernel
theorem dX12_lacks_24 : decode cX12_lacks 24 = .ok (.iload_n 1, 1) := by decide +kernel
theorem dX12_lacks_25 : decode cX12_lacks 25 = .ok (.invokevirtual 120, 3) := by decide +kernel
theorem dX12_lacks_28 : decode cX12_lacks 28 = .ok (.ifCond .eq 12, 3) := by decide +kernel
theorem dX12_lacks_31 : decode cX12_lacks 31 = .ok (.aload_n 0, 1) := by decide +kernel
theorem dX12_lacks_32 : decode cX12_lacks 32 = .ok (.iload_n 1, 1) := by decide +kernel
theorem dX12_lacks_33 : decode cX12_lacks 33 = .ok (.iload_n 2, 1) := by decide +kernel
theorem dX12_lacks_34 : decode cX12_lacks 34 = .ok (.invokevirtual 111, 3) := by decide +kernel
theorem dX12_lacks_37 : decode cX12_lacks 37 = .ok (.goto 8, 3) := by decide +kernel
theorem dX12_lacks_40 : decode cX12_lacks 40 = .ok (.aload_n 0, 1) := by decide +kernel
theorem dX12_lacks_41 : decode cX12_lacks 41 = .ok (.iconst 3, 1) := by decide +kernel
theorem dX12_lacks_42 : decode cX12_lacks 42 = .ok (.invokevirtual 73, 3) := by decide +kernel
theorem dX12_lacks_45 : decode cX12_lacks 45 = .ok (.ireturn, 1) := by decide +kernel
theorem dX12_ban_0 : decode cX12_ban 0 = .ok (.aload_n 0, 1) := by decide +kernel
theorem dX12_ban_1 : decode cX12_ban 1 = .ok (.iload_n 1, 1) := by decide +kernel
theorem dX12_ban_2 : decode cX12_ban 2 = .ok (.invokevirtual 139, 3) := by decide +kernel
theorem dX12_ban_5 : decode cX12_ban 5 = .ok (.ifCond .eq 23, 3) := by decide +kernel
theorem dX12_ban_8 : decode cX12_ban 8 = .ok (.iload_n 2, 1) := by decide +kernel
theorem dX12_ban_9 : decode cX12_ban 9 = .ok (.iconst 0, 1) := by decide +kernel
theorem dX12_ban_10 : decode cX12_ban 10 = .ok (.bipush 50, 2) := by decide +kernel
theorem dX12_ban_12 : decode cX12_ban 12 = .ok (.invokestatic 65, 3) := by decide +kernel
theorem dX12_ban_15 : decode cX12_ban 15 = .ok (.ifCond .eq 13, 3) := by decide +kernel
theorem dX12_ban_18 : decode cX12_ban 18 = .ok (.iload_n 3, 1) := by decide +kernel
theorem dX12_ban_19 : decode cX12_ban 19 = .ok (.iconst 1, 1) := by decide +kernel
theorem dX12_ban_20 : decode cX12_ban 20 = .ok (.bipush 9, 2) := by decide +kernel
theorem dX12_ban_22 : decode cX12_ban 22 = .ok (.invokestatic 65, 3) := by decide +kernel
theorem dX12_ban_25 : decode cX12_ban 25 = .ok (.ifCond .ne 9, 3) := by decide +kernel
theorem dX12_ban_28 : decode cX12_ban 28 = .ok (.aload_n 0, 1) := by decide +kernel
theorem dX12_ban_29 : decode cX12_ban 29 = .ok (.iconst 0, 1) := by decide +kernel
theorem dX12_ban_30 : decode cX12_ban 30 = .ok (.invokevirtual 73, 3) := by decide +kernel
theorem dX12_ban_33 : decode cX12_ban 33 = .ok (.ireturn, 1) := by decide +kernel
theorem dX12_ban_34 : decode cX12_ban 34 = .ok (.iconst 0, 1) := by decide +kernel
theorem dX12_ban_35 : decode cX12_ban 35 = .ok (.istore 4, 2) := by decide +kernel
theorem dX12_ban_37 : decode cX12_ban 37 = .ok (.iconst 0, 1) := by decide +kernel
theorem dX12_ban_38 : decode cX12_ban 38 = .ok (.istore 5, 2) := by decide +kernel
theorem dX12_ban_40 : decode cX12_ban 40 = .ok (.iload 5, 2) := by decide +kernel
theorem dX12_ban_42 : decode cX12_ban 42 = .ok (.aload_n 0, 1) := by decide +kernel
theorem dX12_ban_43 : decode cX12_ban 43 = .ok (.getfield 7, 3) := by decide +kernel
theorem dX12_ban_46 : decode cX12_ban 46 = .ok (.iconst 2, 1) := by decide +kernel
theorem dX12_ban_47 : decode cX12_ban 47 = .ok (.iaload, 1) := by decide +kernel
theorem dX12_ban_48 : decode cX12_ban 48 = .ok (.if_icmp .ge 38, 3) := by decide +kernel
theorem dX12_ban_51 : decode cX12_ban 51 = .ok (.iload 4, 2) := by decide +kernel
theorem dX12_ban_53 : decode cX12_ban 53 = .ok (.aload_n 0, 1) := by decide +kernel
theorem dX12_ban_54 : decode cX12_ban 54 = .ok (.iload_n 1, 1) := by decide +kernel
theorem dX12_ban_55 : decode cX12_ban 55 = .ok (.iload 5, 2) := by decide +kernel
theorem dX12_ban_57 : decode cX12_ban 57 = .ok (.invokevirtual 132, 3) := by decide +kernel
theorem dX12_ban_60 : decode cX12_ban 60 = .ok (.ifCond .eq 16, 3) := by decide +kernel
theorem dX12_ban_63 : decode cX12_ban 63 = .ok (.aload_n 0, 1) := by decide +kernel
theorem dX12_ban_64 : decode cX12_ban 64 = .ok (.iload 5, 2) := by decide +kernel
theorem dX12_ban_66 : decode cX12_ban 66 = .ok (.iconst 2, 1) := by decide +kernel
theorem dX12_ban_67 : decode cX12_ban 67 = .ok (.invokevirtual 111, 3) := by decide +kernel
theorem dX12_ban_70 : decode cX12_ban 70 = .ok (.invokestatic 114, 3) := by decide +kernel
theorem dX12_ban_73 : decode cX12_ban 73 = .ok (.goto 4, 3) := by decide +kernel
theorem dX12_ban_76 : decode cX12_ban 76 = .ok (.iconst 0, 1) := by decide +kernel
theorem dX12_ban_77 : decode cX12_ban 77 = .ok (.iadd, 1) := by decide +kernel
theorem dX12_ban_78 : decode cX12_ban 78 = .ok (.istore 4, 2) := by decide +kernel
theorem dX12_ban_80 : decode cX12_ban 80 = .ok (.iinc 5 1, 3) := by decide +kernel
theorem dX12_ban_83 : decode cX12_ban 83 = .ok (.goto (-43), 3) := by decide +kernel
theorem dX12_ban_86 : decode cX12_ban 86 = .ok (.aload_n 0, 1) := by decide +kernel
theorem dX12_ban_87 : decode cX12_ban 87 = .ok (.iload_n 1, 1) := by decide +kernel
theorem dX12_ban_88 : decode cX12_ban 88 = .ok (.iconst 3, 1) := by decide +kernel
theorem dX12_ban_89 : decode cX12_ban 89 = .ok (.invokevirtual 136, 3) := by decide +kernel
theorem dX12_ban_92 : decode cX12_ban 92 = .ok (.istore 5, 2) := by decide +kernel
theorem dX12_ban_94 : decode cX12_ban 94 = .ok (.iload 5, 2) := by decide +kernel
theorem dX12_ban_96 : decode cX12_ban 96 = .ok (.iload_n 3, 1) := by decide +kernel
theorem dX12_ban_97 : decode cX12_ban 97 = .ok (.if_icmp .lt 16, 3) := by decide +kernel
theorem dX12_ban_100 : decode cX12_ban 100 = .ok (.iload 4, 2) := by decide +kernel
theorem dX12_ban_102 : decode cX12_ban 102 = .ok (.iload 5, 2) := by decide +kernel
theorem dX12_ban_104 : decode cX12_ban 104 = .ok (.idiv, 1) := by decide +kernel
theorem dX12_ban_105 : decode cX12_ban 105 = .ok (.iload_n 2, 1) := by decide +kernel
theorem dX12_ban_106 : decode cX12_ban 106 = .ok (.if_icmp .ge 7, 3) := by decide +kernel
theorem dX12_ban_109 : decode cX12_ban 109 = .ok (.iconst 1, 1) := by decide +kernel
theorem dX12_ban_110 : decode cX12_ban 110 = .ok (.goto 4, 3) := by decide +kernel
theorem dX12_ban_113 : decode cX12_ban 113 = .ok (.iconst 0, 1) := by decide +kernel
theorem dX12_ban_114 : decode cX12_ban 114 = .ok (.ireturn, 1) := by decide +kernel
theorem dX12_seen_0 : decode cX12_seen 0 = .ok (.aload_n 0, 1) := by decide +kernel
theorem dX12_seen_1 : decode cX12_seen 1 = .ok (.iload_n 1, 1) := by decide +kernel
theorem dX12_seen_2 : decode cX12_seen 2 = .ok (.invokevirtual 139, 3) := by decide +kernel
theorem dX12_seen_5 : decode cX12_seen 5 = .ok (.ifCond .eq 17, 3) := by decide +kernel
theorem dX12_seen_8 : decode cX12_seen 8 = .ok (.iload_n 2, 1) := by decide +kernel
theorem dX12_seen_9 : decode cX12_seen 9 = .ok (.invokestatic 69, 3) := by decide +kernel
theorem dX12_seen_12 : decode cX12_seen 12 = .ok (.ifCond .eq 10, 3) := by decide +kernel
theorem dX12_seen_15 : decode cX12_seen 15 = .ok (.iload_n 3, 1) := by decide +kernel
theorem dX12_seen_16 : decode cX12_seen 16 = .ok (.invokestatic 305, 3) := by decide +kernel
theorem dX12_seen_19 : decode cX12_seen 19 = .ok (.ifCond .ne 9, 3) := by decide +kernel
theorem dX12_seen_22 : decode cX12_seen 22 = .ok (.aload_n 0, 1) := by decide +kernel
theorem dX12_seen_23 : decode cX12_seen 23 = .ok (.iconst 0, 1) := by decide +kernel
theorem dX12_seen_24 : decode cX12_seen 24 = .ok (.invokevirtual 73, 3) := by decide +kernel
theorem dX12_seen_27 : decode cX12_seen 27 = .ok (.ireturn, 1) := by decide +kernel
theorem dX12_seen_28 : decode cX12_seen 28 = .ok (.aload_n 0, 1) := by decide +kernel
theorem dX12_seen_29 : decode cX12_seen 29 = .ok (.getfield 7, 3) := by decide +kernel
theorem dX12_seen_32 : decode cX12_seen 32 = .ok (.bipush 9, 2) := by decide +kernel
theorem dX12_seen_34 : decode cX12_seen 34 = .ok (.iaload, 1) := by decide +kernel
theorem dX12_seen_35 : decode cX12_seen 35 = .ok (.bipush 20, 2) := by decide +kernel
theorem dX12_seen_37 : decode cX12_seen 37 = .ok (.if_icmp .ne 9, 3) := by decide +kernel
theorem dX12_seen_40 : decode cX12_seen 40 = .ok (.aload_n 0, 1) := by decide +kernel
theorem dX12_seen_41 : decode cX12_seen 41 = .ok (.iconst 1, 1) := by decide +kernel
theorem dX12_seen_42 : decode cX12_seen 42 = .ok (.invokevirtual 73, 3) := by decide +kernel
theorem dX12_seen_45 : decode cX12_seen 45 = .ok (.ireturn, 1) := by decide +kernel
theorem dX12_seen_46 : decode cX12_seen 46 = .ok (.sipush 834, 3) := by decide +kernel
theorem dX12_seen_49 : decode cX12_seen 49 = .ok (.iconst 3, 1) := by decide +kernel
theorem dX12_seen_50 : decode cX12_seen 50 = .ok (.aload_n 0, 1) := by decide +kernel
theorem dX12_seen_51 : decode cX12_seen 51 = .ok (.getfield 7, 3) := by decide +kernel
theorem dX12_seen_54 : decode cX12_seen 54 = .ok (.bipush 9, 2) := by decide +kernel
theorem dX12_seen_56 : decode cX12_seen 56 = .ok (.iaload, 1) := by decide +kernel
theorem dX12_seen_57 : decode cX12_seen 57 = .ok (.imul, 1) := by decide +kernel
theorem dX12_seen_58 : decode cX12_seen 58 = .ok (.iadd, 1) := by decide +kernel
theorem dX12_seen_59 : decode cX12_seen 59 = .ok (.istore 4, 2) := by decide +kernel
theorem dX12_seen_61 : decode cX12_seen 61 = .ok (.aload_n 0, 1) := by decide +kernel
theorem dX12_seen_62 : decode cX12_seen 62 = .ok (.getfield 7, 3) := by decide +kernel
theorem dX12_seen_65 : decode cX12_seen 65 = .ok (.iload 4, 2) := by decide +kernel
theorem dX12_seen_67 : decode cX12_seen 67 = .ok (.iload_n 1, 1) := by decide +kernel
theorem dX12_seen_68 : decode cX12_seen 68 = .ok (.iastore, 1) := by decide +kernel
theorem dX12_seen_69 : decode cX12_seen 69 = .ok (.aload_n 0, 1) := by decide +kernel
theorem dX12_seen_70 : decode cX12_seen 70 = .ok (.getfield 7, 3) := by decide +kernel
theorem dX12_seen_73 : decode cX12_seen 73 = .ok (.iload 4, 2) := by decide +kernel
theorem dX12_seen_75 : decode cX12_seen 75 = .ok (.iconst 1, 1) := by decide +kernel
theorem dX12_seen_76 : decode cX12_seen 76 = .ok (.iadd, 1) := by decide +kernel
theorem dX12_seen_77 : decode cX12_seen 77 = .ok (.iload_n 2, 1) := by decide +kernel
theorem dX12_seen_78 : decode cX12_seen 78 = .ok (.iastore, 1) := by decide +kernel
theorem dX12_seen_79 : decode cX12_seen 79 = .ok (.aload_n 0, 1) := by decide +kernel
theorem dX12_seen_80 : decode cX12_seen 80 = .ok (.getfield 7, 3) := by decide +kernel
theorem dX12_seen_83 : decode cX12_seen 83 = .ok (.iload 4, 2) := by decide +kernel
theorem dX12_seen_85 : decode cX12_seen 85 = .ok (.iconst 2, 1) := by decide +kernel
theorem dX12_seen_86 : decode cX12_seen 86 = .ok (.iadd, 1) := by decide +kernel
theorem dX12_seen_87 : decode cX12_seen 87 = .ok (.iload_n 3, 1) := by decide +kernel
theorem dX12_seen_88 : decode cX12_seen 88 = .ok (.iastore, 1) := by decide +kernel
theorem dX12_seen_89 : decode cX12_seen 89 = .ok (.aload_n 0, 1) := by decide +kernel
theorem dX12_seen_90 : decode cX12_seen 90 = .ok (.getfield 7, 3) := by decide +kernel
theorem dX12_seen_93 : decode cX12_seen 93 = .ok (.bipush 9, 2) := by decide +kernel
theorem dX12_seen_95 : decode cX12_seen 95 = .ok (.dup2, 1) := by decide +kernel
theorem dX12_seen_96 : decode cX12_seen 96 = .ok (.iaload, 1) := by decide +kernel
theorem dX12_seen_97 : decode cX12_seen 97 = .ok (.iconst 1, 1) := by decide +kernel
theorem dX12_seen_98 : decode cX12_seen 98 = .ok (.iadd, 1) := by decide +kernel
theorem dX12_seen_99 : decode cX12_seen 99 = .ok (.iastore, 1) := by decide +kernel
theorem dX12_seen_100 : decode cX12_seen 100 = .ok (.aload_n 0, 1) := by decide +kernel
theorem dX12_seen_101 : decode cX12_seen 101 = .ok (.getfield 7, 3) := by decide +kernel
theorem dX12_seen_104 : decode cX12_seen 104 = .ok (.bipush 9, 2) := by decide +kernel
theorem dX12_seen_106 : decode cX12_seen 106 = .ok (.iaload, 1) := by decide +kernel
theorem dX12_seen_107 : decode cX12_seen 107 = .ok (.ireturn, 1) := by decide +kernel
theorem dX12_isDouble_0 : decode cX12_isDouble 0 = .ok (.sipush 834, 3) := by decide +kernel
theorem dX12_isDouble_3 : decode cX12_isDouble 3 = .ok (.iconst 3, 1) := by decide +kernel
theorem dX12_isDouble_4 : decode cX12_isDouble 4 = .ok (.iload_n 1, 1) := by decide +kernel
theorem dX12_isDouble_5 : decode cX12_isDouble 5 = .ok (.imul, 1) := by decide +kernel
theorem dX12_isDouble_6 : decode cX12_isDouble 6 = .ok (.iadd, 1) := by decide +kernel
theorem dX12_isDouble_7 : decode cX12_isDouble 7 = .ok (.istore_n 3, 1) := by decide +kernel
theorem dX12_isDouble_8 : decode cX12_isDouble 8 = .ok (.sipush 834, 3) := by decide +kernel
theorem dX12_isDouble_11 : decode cX12_isDouble 11 = .ok (.iconst 3, 1) := by decide +kernel
theorem dX12_isDouble_12 : decode cX12_isDouble 12 = .ok (.iload_n 2, 1) := by decide +kernel
theorem dX12_isDouble_13 : decode cX12_isDouble 13 = .ok (.imul, 1) := by decide +kernel
theorem dX12_isDouble_14 : decode cX12_isDouble 14 = .ok (.iadd, 1) := by decide +kernel
theorem dX12_isDouble_15 : decode cX12_isDouble 15 = .ok (.istore 4, 2) := by decide +kernel
theorem dX12_isDouble_17 : decode cX12_isDouble 17 = .ok (.aload_n 0, 1) := by decide +kernel
theorem dX12_isDouble_18 : decode cX12_isDouble 18 = .ok (.getfield 7, 3) := by decide +kernel
theorem dX12_isDouble_21 : decode cX12_isDouble 21 = .ok (.iload 4, 2) := by decide +kernel
theorem dX12_isDouble_23 : decode cX12_isDouble 23 = .ok (.iconst 2, 1) := by decide +kernel
theorem dX12_isDouble_24 : decode cX12_isDouble 24 = .ok (.iadd, 1) := by decide +kernel
theorem dX12_isDouble_25 : decode cX12_isDouble 25 = .ok (.iaload, 1) := by decide +kernel
theorem dX12_isDouble_26 : decode cX12_isDouble 26 = .ok (.aload_n 0, 1) := by decide +kernel
theorem dX12_isDouble_27 : decode cX12_isDouble 27 = .ok (.getfield 7, 3) := by decide +kernel
theorem dX12_isDouble_30 : decode cX12_isDouble 30 = .ok (.iload_n 3, 1) := by decide +kernel
theorem dX12_isDouble_31 : decode cX12_isDouble 31 = .ok (.iconst 2, 1) := by decide +kernel
theorem dX12_isDouble_32 : decode cX12_isDouble 32 = .ok (.iadd, 1) := by decide +kernel
theorem dX12_isDouble_33 : decode cX12_isDouble 33 = .ok (.iaload, 1) := by decide +kernel
theorem dX12_isDouble_34 : decode cX12_isDouble 34 = .ok (.if_icmp .ge 7, 3) := by decide +kernel
theorem dX12_isDouble_37 : decode cX12_isDouble 37 = .ok (.iconst 1, 1) := by decide +kernel
theorem dX12_isDouble_38 : decode cX12_isDouble 38 = .ok (.goto 4, 3) := by decide +kernel
theorem dX12_isDouble_41 : decode cX12_isDouble 41 = .ok (.iconst 0, 1) := by decide +kernel
theorem dX12_isDouble_42 : decode cX12_isDouble 42 = .ok (.istore 5, 2) := by decide +kernel
theorem dX12_isDouble_44 : decode cX12_isDouble 44 = .ok (.iload 5, 2) := by decide +kernel
theorem dX12_isDouble_46 : decode cX12_isDouble 46 = .ok (.ifCond .eq 27, 3) := by decide +kernel
theorem dX12_isDouble_49 : decode cX12_isDouble 49 = .ok (.aload_n 0, 1) := by decide +kernel
theorem dX12_isDouble_50 : decode cX12_isDouble 50 = .ok (.aload_n 0, 1) := by decide +kernel
theorem dX12_isDouble_51 : decode cX12_isDouble 51 = .ok (.getfield 7, 3) := by decide +kernel
theorem dX12_isDouble_54 : decode cX12_isDouble 54 = .ok (.iload 4, 2) := by decide +kernel
theorem dX12_isDouble_56 : decode cX12_isDouble 56 = .ok (.iconst 1, 1) := by decide +kernel
theorem dX12_isDouble_57 : decode cX12_isDouble 57 = .ok (.iadd, 1) := by decide +kernel
theorem dX12_isDouble_58 : decode cX12_isDouble 58 = .ok (.iaload, 1) := by decide +kernel
theorem dX12_isDouble_59 : decode cX12_isDouble 59 = .ok (.aload_n 0, 1) := by decide +kernel
theorem dX12_isDouble_60 : decode cX12_isDouble 60 = .ok (.getfield 7, 3) := by decide +kernel
theorem dX12_isDouble_63 : decode cX12_isDouble 63 = .ok (.iload_n 3, 1) := by decide +kernel
theorem dX12_isDouble_64 : decode cX12_isDouble 64 = .ok (.iconst 1, 1) := by decide +kernel
theorem dX12_isDouble_65 : decode cX12_isDouble 65 = .ok (.iadd, 1) := by decide +kernel
theorem dX12_isDouble_66 : decode cX12_isDouble 66 = .ok (.iaload, 1) := by decide +kernel
theorem dX12_isDouble_67 : decode cX12_isDouble 67 = .ok (.invokevirtual 96, 3) := by decide +kernel
theorem dX12_isDouble_70 : decode cX12_isDouble 70 = .ok (.goto 24, 3) := by decide +kernel
theorem dX12_isDouble_73 : decode cX12_isDouble 73 = .ok (.aload_n 0, 1) := by decide +kernel
theorem dX12_isDouble_74 : decode cX12_isDouble 74 = .ok (.aload_n 0, 1) := by decide +kernel
theorem dX12_isDouble_75 : decode cX12_isDouble 75 = .ok (.getfield 7, 3) := by decide +kernel
theorem dX12_isDouble_78 : decode cX12_isDouble 78 = .ok (.iload_n 3, 1) := by decide +kernel
theorem dX12_isDouble_79 : decode cX12_isDouble 79 = .ok (.iconst 1, 1) := by decide +kernel
theorem dX12_isDouble_80 : decode cX12_isDouble 80 = .ok (.iadd, 1) := by decide +kernel
theorem dX12_isDouble_81 : decode cX12_isDouble 81 = .ok (.iaload, 1) := by decide +kernel
theorem dX12_isDouble_82 : decode cX12_isDouble 82 = .ok (.aload_n 0, 1) := by decide +kernel
theorem dX12_isDouble_83 : decode cX12_isDouble 83 = .ok (.getfield 7, 3) := by decide +kernel
theorem dX12_isDouble_86 : decode cX12_isDouble 86 = .ok (.iload 4, 2) := by decide +kernel
theorem dX12_isDouble_88 : decode cX12_isDouble 88 = .ok (.iconst 1, 1) := by decide +kernel
theorem dX12_isDouble_89 : decode cX12_isDouble 89 = .ok (.iadd, 1) := by decide +kernel
theorem dX12_isDouble_90 : decode cX12_isDouble 90 = .ok (.iaload, 1) := by decide +kernel
theorem dX12_isDouble_91 : decode cX12_isDouble 91 = .ok (.invokevirtual 96, 3) := by decide +kernel
theorem dX12_isDouble_94 : decode cX12_isDouble 94 = .ok (.istore 6, 2) := by decide +kernel
theorem dX12_isDouble_96 : decode cX12_isDouble 96 = .ok (.iload 5, 2) := by decide +kernel
theorem dX12_isDouble_98 : decode cX12_isDouble 98 = .ok (.ifCond .eq 24, 3) := by decide +kernel
theorem dX12_isDouble_101 : decode cX12_isDouble 101 = .ok (.aload_n 0, 1) := by decide +kernel
theorem dX12_isDouble_102 : decode cX12_isDouble 102 = .ok (.getfield 7, 3) := by decide +kernel
theorem dX12_isDouble_105 : decode cX12_isDouble 105 = .ok (.iload_n 3, 1) := by decide +kernel
theorem dX12_isDouble_106 : decode cX12_isDouble 106 = .ok (.iconst 2, 1) := by decide +kernel
theorem dX12_isDouble_107 : decode cX12_isDouble 107 = .ok (.iadd, 1) := by decide +kernel
theorem dX12_isDouble_108 : decode cX12_isDouble 108 = .ok (.iaload, 1) := by decide +kernel
theorem dX12_isDouble_109 : decode cX12_isDouble 109 = .ok (.aload_n 0, 1) := by decide +kernel
theorem dX12_isDouble_110 : decode cX12_isDouble 110 = .ok (.getfield 7, 3) := by decide +kernel
theorem dX12_isDouble_113 : decode cX12_isDouble 113 = .ok (.iload 4, 2) := by decide +kernel
theorem dX12_isDouble_115 : decode cX12_isDouble 115 = .ok (.iconst 2, 1) := by decide +kernel
theorem dX12_isDouble_116 : decode cX12_isDouble 116 = .ok (.iadd, 1) := by decide +kernel
theorem dX12_isDouble_117 : decode cX12_isDouble 117 = .ok (.iaload, 1) := by decide +kernel
theorem dX12_isDouble_118 : decode cX12_isDouble 118 = .ok (.isub, 1) := by decide +kernel
theorem dX12_isDouble_119 : decode cX12_isDouble 119 = .ok (.goto 21, 3) := by decide +kernel
theorem dX12_isDouble_122 : decode cX12_isDouble 122 = .ok (.aload_n 0, 1) := by decide +kernel
theorem dX12_isDouble_123 : decode cX12_isDouble 123 = .ok (.getfield 7, 3) := by decide +kernel
theorem dX12_isDouble_126 : decode cX12_isDouble 126 = .ok (.iload 4, 2) := by decide +kernel
theorem dX12_isDouble_128 : decode cX12_isDouble 128 = .ok (.iconst 2, 1) := by decide +kernel
theorem dX12_isDouble_129 : decode cX12_isDouble 129 = .ok (.iadd, 1) := by decide +kernel
theorem dX12_isDouble_130 : decode cX12_isDouble 130 = .ok (.iaload, 1) := by decide +kernel
theorem dX12_isDouble_131 : decode cX12_isDouble 131 = .ok (.aload_n 0, 1) := by decide +kernel
theorem dX12_isDouble_132 : decode cX12_isDouble 132 = .ok (.getfield 7, 3) := by decide +kernel
theorem dX12_isDouble_135 : decode cX12_isDouble 135 = .ok (.iload_n 3, 1) := by decide +kernel
theorem dX12_isDouble_136 : decode cX12_isDouble 136 = .ok (.iconst 2, 1) := by decide +kernel
theorem dX12_isDouble_137 : decode cX12_isDouble 137 = .ok (.iadd, 1) := by decide +kernel
theorem dX12_isDouble_138 : decode cX12_isDouble 138 = .ok (.iaload, 1) := by decide +kernel
theorem dX12_isDouble_139 : decode cX12_isDouble 139 = .ok (.isub, 1) := by decide +kernel
theorem dX12_isDouble_140 : decode cX12_isDouble 140 = .ok (.istore 7, 2) := by decide +kernel
theorem dX12_isDouble_142 : decode cX12_isDouble 142 = .ok (.iload 6, 2) := by decide +kernel
theorem dX12_isDouble_144 : decode cX12_isDouble 144 = .ok (.ifCond .lt 10, 3) := by decide +kernel
theorem dX12_isDouble_147 : decode cX12_isDouble 147 = .ok (.iload 6, 2) := by decide +kernel
theorem dX12_isDouble_149 : decode cX12_isDouble 149 = .ok (.iload 7, 2) := by decide +kernel
theorem dX12_isDouble_151 : decode cX12_isDouble 151 = .ok (.if_icmp .le 7, 3) := by decide +kernel
theorem dX12_isDouble_154 : decode cX12_isDouble 154 = .ok (.iconst 1, 1) := by decide +kernel
theorem dX12_isDouble_155 : decode cX12_isDouble 155 = .ok (.goto 4, 3) := by decide +kernel
theorem dX12_isDouble_158 : decode cX12_isDouble 158 = .ok (.iconst 0, 1) := by decide +kernel
theorem dX12_isDouble_159 : decode cX12_isDouble 159 = .ok (.ireturn, 1) := by decide +kernel
theorem dX12_doubles_0 : decode cX12_doubles 0 = .ok (.aload_n 0, 1) := by decide +kernel
theorem dX12_doubles_1 : decode cX12_doubles 1 = .ok (.iload_n 1, 1) := by decide +kernel
theorem dX12_doubles_2 : decode cX12_doubles 2 = .ok (.invokevirtual 139, 3) := by decide +kernel
theorem dX12_doubles_5 : decode cX12_doubles 5 = .ok (.ifCond .eq 12, 3) := by decide +kernel
theorem dX12_doubles_8 : decode cX12_doubles 8 = .ok (.iload_n 2, 1) := by decide +kernel
theorem dX12_doubles_9 : decode cX12_doubles 9 = .ok (.iconst 0, 1) := by decide +kernel
theorem dX12_doubles_10 : decode cX12_doubles 10 = .ok (.iconst 2, 1) := by decide +kernel
theorem dX12_doubles_11 : decode cX12_doubles 11 = .ok (.invokestatic 65, 3) := by decide +kernel
theorem dX12_doubles_14 : decode cX12_doubles 14 = .ok (.ifCond .ne 9, 3) := by decide +kernel
theorem dX12_doubles_17 : decode cX12_doubles 17 = .ok (.aload_n 0, 1) := by decide +kernel
theorem dX12_doubles_18 : decode cX12_doubles 18 = .ok (.iconst 0, 1) := by decide +kernel
theorem dX12_doubles_19 : decode cX12_doubles 19 = .ok (.invokevirtual 73, 3) := by decide +kernel
theorem dX12_doubles_22 : decode cX12_doubles 22 = .ok (.ireturn, 1) := by decide +kernel
theorem dX12_doubles_23 : decode cX12_doubles 23 = .ok (.iconst 0, 1) := by decide +kernel
theorem dX12_doubles_24 : decode cX12_doubles 24 = .ok (.istore_n 3, 1) := by decide +kernel
theorem dX12_doubles_25 : decode cX12_doubles 25 = .ok (.iconst (-1), 1) := by decide +kernel
theorem dX12_doubles_26 : decode cX12_doubles 26 = .ok (.istore 4, 2) := by decide +kernel
theorem dX12_doubles_28 : decode cX12_doubles 28 = .ok (.iconst (-1), 1) := by decide +kernel
theorem dX12_doubles_29 : decode cX12_doubles 29 = .ok (.istore 5, 2) := by decide +kernel
theorem dX12_doubles_31 : decode cX12_doubles 31 = .ok (.iconst 0, 1) := by decide +kernel
theorem dX12_doubles_32 : decode cX12_doubles 32 = .ok (.istore 6, 2) := by decide +kernel
theorem dX12_doubles_34 : decode cX12_doubles 34 = .ok (.iload 6, 2) := by decide +kernel
theorem dX12_doubles_36 : decode cX12_doubles 36 = .ok (.aload_n 0, 1) := by decide +kernel
theorem dX12_doubles_37 : decode cX12_doubles 37 = .ok (.getfield 7, 3) := by decide +kernel
theorem dX12_doubles_40 : decode cX12_doubles 40 = .ok (.bipush 9, 2) := by decide +kernel
theorem dX12_doubles_42 : decode cX12_doubles 42 = .ok (.iaload, 1) := by decide +kernel
theorem dX12_doubles_43 : decode cX12_doubles 43 = .ok (.if_icmp .ge 110, 3) := by decide +kernel
theorem dX12_doubles_46 : decode cX12_doubles 46 = .ok (.iload 6, 2) := by decide +kernel
theorem dX12_doubles_48 : decode cX12_doubles 48 = .ok (.iconst 1, 1) := by decide +kernel
theorem dX12_doubles_49 : decode cX12_doubles 49 = .ok (.iadd, 1) := by decide +kernel
theorem dX12_doubles_50 : decode cX12_doubles 50 = .ok (.istore 7, 2) := by decide +kernel
theorem dX12_doubles_52 : decode cX12_doubles 52 = .ok (.iload 7, 2) := by decide +kernel
theorem dX12_doubles_54 : decode cX12_doubles 54 = .ok (.aload_n 0, 1) := by decide +kernel
theorem dX12_doubles_55 : decode cX12_doubles 55 = .ok (.getfield 7, 3) := by decide +kernel
theorem dX12_doubles_58 : decode cX12_doubles 58 = .ok (.bipush 9, 2) := by decide +kernel
theorem dX12_doubles_60 : decode cX12_doubles 60 = .ok (.iaload, 1) := by decide +kernel
theorem dX12_doubles_61 : decode cX12_doubles 61 = .ok (.if_icmp .ge 86, 3) := by decide +kernel
theorem dX12_doubles_64 : decode cX12_doubles 64 = .ok (.aload_n 0, 1) := by decide +kernel
theorem dX12_doubles_65 : decode cX12_doubles 65 = .ok (.getfield 7, 3) := by decide +kernel
theorem dX12_doubles_68 : decode cX12_doubles 68 = .ok (.sipush 834, 3) := by decide +kernel
theorem dX12_doubles_71 : decode cX12_doubles 71 = .ok (.iconst 3, 1) := by decide +kernel
theorem dX12_doubles_72 : decode cX12_doubles 72 = .ok (.iload 6, 2) := by decide +kernel
theorem dX12_doubles_74 : decode cX12_doubles 74 = .ok (.imul, 1) := by decide +kernel
theorem dX12_doubles_75 : decode cX12_doubles 75 = .ok (.iadd, 1) := by decide +kernel
theorem dX12_doubles_76 : decode cX12_doubles 76 = .ok (.iaload, 1) := by decide +kernel
theorem dX12_doubles_77 : decode cX12_doubles 77 = .ok (.iload_n 1, 1) := by decide +kernel
theorem dX12_doubles_78 : decode cX12_doubles 78 = .ok (.if_icmp .ne 63, 3) := by decide +kernel
theorem dX12_doubles_81 : decode cX12_doubles 81 = .ok (.aload_n 0, 1) := by decide +kernel
theorem dX12_doubles_82 : decode cX12_doubles 82 = .ok (.getfield 7, 3) := by decide +kernel
theorem dX12_doubles_85 : decode cX12_doubles 85 = .ok (.sipush 834, 3) := by decide +kernel
theorem dX12_doubles_88 : decode cX12_doubles 88 = .ok (.iconst 3, 1) := by decide +kernel
theorem dX12_doubles_89 : decode cX12_doubles 89 = .ok (.iload 7, 2) := by decide +kernel
theorem dX12_doubles_91 : decode cX12_doubles 91 = .ok (.imul, 1) := by decide +kernel
theorem dX12_doubles_92 : decode cX12_doubles 92 = .ok (.iadd, 1) := by decide +kernel
theorem dX12_doubles_93 : decode cX12_doubles 93 = .ok (.iaload, 1) := by decide +kernel
theorem dX12_doubles_94 : decode cX12_doubles 94 = .ok (.iload_n 1, 1) := by decide +kernel
theorem dX12_doubles_95 : decode cX12_doubles 95 = .ok (.if_icmp .ne 46, 3) := by decide +kernel
theorem dX12_doubles_98 : decode cX12_doubles 98 = .ok (.aload_n 0, 1) := by decide +kernel
theorem dX12_doubles_99 : decode cX12_doubles 99 = .ok (.iload 6, 2) := by decide +kernel
theorem dX12_doubles_101 : decode cX12_doubles 101 = .ok (.iload 7, 2) := by decide +kernel
theorem dX12_doubles_103 : decode cX12_doubles 103 = .ok (.invokevirtual 314, 3) := by decide +kernel
theorem dX12_doubles_106 : decode cX12_doubles 106 = .ok (.ifCond .ne 6, 3) := by decide +kernel
theorem dX12_doubles_109 : decode cX12_doubles 109 = .ok (.goto 32, 3) := by decide +kernel
theorem dX12_doubles_112 : decode cX12_doubles 112 = .ok (.iload_n 3, 1) := by decide +kernel
theorem dX12_doubles_113 : decode cX12_doubles 113 = .ok (.ifCond .ne 8, 3) := by decide +kernel
theorem dX12_doubles_116 : decode cX12_doubles 116 = .ok (.iload 6, 2) := by decide +kernel
theorem dX12_doubles_118 : decode cX12_doubles 118 = .ok (.goto 5, 3) := by decide +kernel
theorem dX12_doubles_121 : decode cX12_doubles 121 = .ok (.iload 4, 2) := by decide +kernel
theorem dX12_doubles_123 : decode cX12_doubles 123 = .ok (.istore 4, 2) := by decide +kernel
theorem dX12_doubles_125 : decode cX12_doubles 125 = .ok (.iload_n 3, 1) := by decide +kernel
theorem dX12_doubles_126 : decode cX12_doubles 126 = .ok (.ifCond .ne 8, 3) := by decide +kernel
theorem dX12_doubles_129 : decode cX12_doubles 129 = .ok (.iload 7, 2) := by decide +kernel
theorem dX12_doubles_131 : decode cX12_doubles 131 = .ok (.goto 5, 3) := by decide +kernel
theorem dX12_doubles_134 : decode cX12_doubles 134 = .ok (.iload 5, 2) := by decide +kernel
theorem dX12_doubles_136 : decode cX12_doubles 136 = .ok (.istore 5, 2) := by decide +kernel
theorem dX12_doubles_138 : decode cX12_doubles 138 = .ok (.iinc 3 1, 3) := by decide +kernel
theorem dX12_doubles_141 : decode cX12_doubles 141 = .ok (.iinc 7 1, 3) := by decide +kernel
theorem dX12_doubles_144 : decode cX12_doubles 144 = .ok (.goto (-92), 3) := by decide +kernel
theorem dX12_doubles_147 : decode cX12_doubles 147 = .ok (.iinc 6 1, 3) := by decide +kernel
theorem dX12_doubles_150 : decode cX12_doubles 150 = .ok (.goto (-116), 3) := by decide +kernel
theorem dX12_doubles_153 : decode cX12_doubles 153 = .ok (.iload_n 2, 1) := by decide +kernel
theorem dX12_doubles_154 : decode cX12_doubles 154 = .ok (.ifCond .ne 7, 3) := by decide +kernel
theorem dX12_doubles_157 : decode cX12_doubles 157 = .ok (.iload_n 3, 1) := by decide +kernel
theorem dX12_doubles_158 : decode cX12_doubles 158 = .ok (.goto 27, 3) := by decide +kernel
theorem dX12_doubles_161 : decode cX12_doubles 161 = .ok (.iload_n 3, 1) := by decide +kernel
theorem dX12_doubles_162 : decode cX12_doubles 162 = .ok (.ifCond .ne 11, 3) := by decide +kernel
theorem dX12_doubles_165 : decode cX12_doubles 165 = .ok (.aload_n 0, 1) := by decide +kernel
theorem dX12_doubles_166 : decode cX12_doubles 166 = .ok (.iconst 3, 1) := by decide +kernel
theorem dX12_doubles_167 : decode cX12_doubles 167 = .ok (.invokevirtual 73, 3) := by decide +kernel
theorem dX12_doubles_170 : decode cX12_doubles 170 = .ok (.goto 15, 3) := by decide +kernel
theorem dX12_doubles_173 : decode cX12_doubles 173 = .ok (.iload_n 2, 1) := by decide +kernel
theorem dX12_doubles_174 : decode cX12_doubles 174 = .ok (.iconst 1, 1) := by decide +kernel
theorem dX12_doubles_175 : decode cX12_doubles 175 = .ok (.if_icmp .ne 8, 3) := by decide +kernel
theorem dX12_doubles_178 : decode cX12_doubles 178 = .ok (.iload 4, 2) := by decide +kernel
theorem dX12_doubles_180 : decode cX12_doubles 180 = .ok (.goto 5, 3) := by decide +kernel
theorem dX12_doubles_183 : decode cX12_doubles 183 = .ok (.iload 5, 2) := by decide +kernel
theorem dX12_doubles_185 : decode cX12_doubles 185 = .ok (.ireturn, 1) := by decide +kernel
theorem dX12_zoneOf_0 : decode cX12_zoneOf 0 = .ok (.aload_n 0, 1) := by decide +kernel
theorem dX12_zoneOf_1 : decode cX12_zoneOf 1 = .ok (.getfield 7, 3) := by decide +kernel
theorem dX12_zoneOf_4 : decode cX12_zoneOf 4 = .ok (.bipush 28, 2) := by decide +kernel
theorem dX12_zoneOf_6 : decode cX12_zoneOf 6 = .ok (.aload_n 0, 1) := by decide +kernel
theorem dX12_zoneOf_7 : decode cX12_zoneOf 7 = .ok (.iload_n 1, 1) := by decide +kernel
theorem dX12_zoneOf_8 : decode cX12_zoneOf 8 = .ok (.iconst 1, 1) := by decide +kernel
theorem dX12_zoneOf_9 : decode cX12_zoneOf 9 = .ok (.invokevirtual 99, 3) := by decide +kernel
theorem dX12_zoneOf_12 : decode cX12_zoneOf 12 = .ok (.iadd, 1) := by decide +kernel
theorem dX12_zoneOf_13 : decode cX12_zoneOf 13 = .ok (.iaload, 1) := by decide +kernel
theorem dX12_zoneOf_14 : decode cX12_zoneOf 14 = .ok (.ireturn, 1) := by decide +kernel
theorem dX12_zone_0 : decode cX12_zone 0 = .ok (.iload_n 1, 1) := by decide +kernel
theorem dX12_zone_1 : decode cX12_zone 1 = .ok (.iconst 0, 1) := by decide +kernel
theorem dX12_zone_2 : decode cX12_zone 2 = .ok (.iconst 3, 1) := by decide +kernel
theorem dX12_zone_3 : decode cX12_zone 3 = .ok (.invokestatic 65, 3) := by decide +kernel
theorem dX12_zone_6 : decode cX12_zone 6 = .ok (.ifCond .eq 12, 3) := by decide +kernel
theorem dX12_zone_9 : decode cX12_zone 9 = .ok (.iload_n 2, 1) := by decide +kernel
theorem dX12_zone_10 : decode cX12_zone 10 = .ok (.iconst 0, 1) := by decide +kernel
theorem dX12_zone_11 : decode cX12_zone 11 = .ok (.iconst 3, 1) := by decide +kernel
theorem dX12_zone_12 : decode cX12_zone 12 = .ok (.invokestatic 65, 3) := by decide +kernel
theorem dX12_zone_15 : decode cX12_zone 15 = .ok (.ifCond .ne 9, 3) := by decide +kernel
theorem dX12_zone_18 : decode cX12_zone 18 = .ok (.aload_n 0, 1) := by decide +kernel
theorem dX12_zone_19 : decode cX12_zone 19 = .ok (.iconst 0, 1) := by decide +kernel
theorem dX12_zone_20 : decode cX12_zone 20 = .ok (.invokevirtual 73, 3) := by decide +kernel
theorem dX12_zone_23 : decode cX12_zone 23 = .ok (.ireturn, 1) := by decide +kernel
theorem dX12_zone_24 : decode cX12_zone 24 = .ok (.iconst 0, 1) := by decide +kernel
theorem dX12_zone_25 : decode cX12_zone 25 = .ok (.istore_n 3, 1) := by decide +kernel
theorem dX12_zone_26 : decode cX12_zone 26 = .ok (.iconst 0, 1) := by decide +kernel
theorem dX12_zone_27 : decode cX12_zone 27 = .ok (.istore 4, 2) := by decide +kernel
theorem dX12_zone_29 : decode cX12_zone 29 = .ok (.iload 4, 2) := by decide +kernel
theorem dX12_zone_31 : decode cX12_zone 31 = .ok (.aload_n 0, 1) := by decide +kernel
theorem dX12_zone_32 : decode cX12_zone 32 = .ok (.getfield 7, 3) := by decide +kernel
theorem dX12_zone_35 : decode cX12_zone 35 = .ok (.iconst 2, 1) := by decide +kernel
theorem dX12_zone_36 : decode cX12_zone 36 = .ok (.iaload, 1) := by decide +kernel
theorem dX12_zone_37 : decode cX12_zone 37 = .ok (.if_icmp .ge 92, 3) := by decide +kernel
theorem dX12_zone_40 : decode cX12_zone 40 = .ok (.aload_n 0, 1) := by decide +kernel
theorem dX12_zone_41 : decode cX12_zone 41 = .ok (.iload 4, 2) := by decide +kernel
theorem dX12_zone_43 : decode cX12_zone 43 = .ok (.invokevirtual 317, 3) := by decide +kernel
theorem dX12_zone_46 : decode cX12_zone 46 = .ok (.iload_n 1, 1) := by decide +kernel
theorem dX12_zone_47 : decode cX12_zone 47 = .ok (.if_icmp .eq 6, 3) := by decide +kernel
theorem dX12_zone_50 : decode cX12_zone 50 = .ok (.goto 73, 3) := by decide +kernel
theorem dX12_zone_53 : decode cX12_zone 53 = .ok (.aload_n 0, 1) := by decide +kernel
theorem dX12_zone_54 : decode cX12_zone 54 = .ok (.iload 4, 2) := by decide +kernel
theorem dX12_zone_56 : decode cX12_zone 56 = .ok (.invokevirtual 120, 3) := by decide +kernel
theorem dX12_zone_59 : decode cX12_zone 59 = .ok (.istore 5, 2) := by decide +kernel
theorem dX12_zone_61 : decode cX12_zone 61 = .ok (.iload_n 3, 1) := by decide +kernel
theorem dX12_zone_62 : decode cX12_zone 62 = .ok (.iload_n 2, 1) := by decide +kernel
theorem dX12_zone_63 : decode cX12_zone 63 = .ok (.ifCond .ne 20, 3) := by decide +kernel
theorem dX12_zone_66 : decode cX12_zone 66 = .ok (.aload_n 0, 1) := by decide +kernel
theorem dX12_zone_67 : decode cX12_zone 67 = .ok (.iload 4, 2) := by decide +kernel
theorem dX12_zone_69 : decode cX12_zone 69 = .ok (.invokevirtual 129, 3) := by decide +kernel
theorem dX12_zone_72 : decode cX12_zone 72 = .ok (.ifCond .eq 7, 3) := by decide +kernel
theorem dX12_zone_75 : decode cX12_zone 75 = .ok (.iconst 1, 1) := by decide +kernel
theorem dX12_zone_76 : decode cX12_zone 76 = .ok (.goto 45, 3) := by decide +kernel
theorem dX12_zone_79 : decode cX12_zone 79 = .ok (.iconst 0, 1) := by decide +kernel
theorem dX12_zone_80 : decode cX12_zone 80 = .ok (.goto 41, 3) := by decide +kernel
theorem dX12_zone_83 : decode cX12_zone 83 = .ok (.iload 5, 2) := by decide +kernel
theorem dX12_zone_85 : decode cX12_zone 85 = .ok (.ifCond .ne 7, 3) := by decide +kernel
theorem dX12_zone_88 : decode cX12_zone 88 = .ok (.iconst 0, 1) := by decide +kernel
theorem dX12_zone_89 : decode cX12_zone 89 = .ok (.goto 32, 3) := by decide +kernel
theorem dX12_zone_92 : decode cX12_zone 92 = .ok (.iload_n 2, 1) := by decide +kernel
theorem dX12_zone_93 : decode cX12_zone 93 = .ok (.iconst 1, 1) := by decide +kernel
theorem dX12_zone_94 : decode cX12_zone 94 = .ok (.if_icmp .ne 7, 3) := by decide +kernel
theorem dX12_zone_97 : decode cX12_zone 97 = .ok (.iconst 1, 1) := by decide +kernel
theorem dX12_zone_98 : decode cX12_zone 98 = .ok (.goto 23, 3) := by decide +kernel
theorem dX12_zone_101 : decode cX12_zone 101 = .ok (.iload_n 2, 1) := by decide +kernel
theorem dX12_zone_102 : decode cX12_zone 102 = .ok (.iconst 2, 1) := by decide +kernel
theorem dX12_zone_103 : decode cX12_zone 103 = .ok (.if_icmp .ne 12, 3) := by decide +kernel
theorem dX12_zone_106 : decode cX12_zone 106 = .ok (.aload_n 0, 1) := by decide +kernel
theorem dX12_zone_107 : decode cX12_zone 107 = .ok (.iload 4, 2) := by decide +kernel
theorem dX12_zone_109 : decode cX12_zone 109 = .ok (.invokevirtual 105, 3) := by decide +kernel
theorem dX12_zone_112 : decode cX12_zone 112 = .ok (.goto 9, 3) := by decide +kernel
theorem dX12_zone_115 : decode cX12_zone 115 = .ok (.aload_n 0, 1) := by decide +kernel
theorem dX12_zone_116 : decode cX12_zone 116 = .ok (.iload 4, 2) := by decide +kernel
theorem dX12_zone_118 : decode cX12_zone 118 = .ok (.invokevirtual 123, 3) := by decide +kernel
theorem dX12_zone_121 : decode cX12_zone 121 = .ok (.iadd, 1) := by decide +kernel
theorem dX12_zone_122 : decode cX12_zone 122 = .ok (.istore_n 3, 1) := by decide +kernel
theorem dX12_zone_123 : decode cX12_zone 123 = .ok (.iinc 4 1, 3) := by decide +kernel
theorem dX12_zone_126 : decode cX12_zone 126 = .ok (.goto (-97), 3) := by decide +kernel
theorem dX12_zone_129 : decode cX12_zone 129 = .ok (.iload_n 3, 1) := by decide +kernel
theorem dX12_zone_130 : decode cX12_zone 130 = .ok (.ireturn, 1) := by decide +kernel
theorem dX12_starves_0 : decode cX12_starves 0 = .ok (.iload_n 1, 1) := by decide +kernel
theorem dX12_starves_1 : decode cX12_starves 1 = .ok (.invokestatic 305, 3) := by decide +kernel
theorem dX12_starves_4 : decode cX12_starves 4 = .ok (.ifCond .ne 9, 3) := by decide +kernel
theorem dX12_starves_7 : decode cX12_starves 7 = .ok (.aload_n 0, 1) := by decide +kernel
theorem dX12_starves_8 : decode cX12_starves 8 = .ok (.iconst 0, 1) := by decide +kernel
theorem dX12_starves_9 : decode cX12_starves 9 = .ok (.invokevirtual 73, 3) := by decide +kernel
theorem dX12_starves_12 : decode cX12_starves 12 = .ok (.ireturn, 1) := by decide +kernel
theorem dX12_starves_13 : decode cX12_starves 13 = .ok (.iconst (-1), 1) := by decide +kernel
theorem dX12_starves_14 : decode cX12_starves 14 = .ok (.istore_n 2, 1) := by decide +kernel
theorem dX12_starves_15 : decode cX12_starves 15 = .ok (.iconst 0, 1) := by decide +kernel
theorem dX12_starves_16 : decode cX12_starves 16 = .ok (.istore_n 3, 1) := by decide +kernel
theorem dX12_starves_17 : decode cX12_starves 17 = .ok (.iconst 0, 1) := by decide +kernel
theorem dX12_starves_18 : decode cX12_starves 18 = .ok (.istore 4, 2) := by decide +kernel
theorem dX12_starves_20 : decode cX12_starves 20 = .ok (.iload 4, 2) := by decide +kernel
theorem dX12_starves_22 : decode cX12_starves 22 = .ok (.iconst 4, 1) := by decide +kernel
theorem dX12_starves_23 : decode cX12_starves 23 = .ok (.if_icmp .ge 106, 3) := by decide +kernel
theorem dX12_starves_26 : decode cX12_starves 26 = .ok (.iconst 0, 1) := by decide +kernel
theorem dX12_starves_27 : decode cX12_starves 27 = .ok (.istore 5, 2) := by decide +kernel
theorem dX12_starves_29 : decode cX12_starves 29 = .ok (.iconst 0, 1) := by decide +kernel
theorem dX12_starves_30 : decode cX12_starves 30 = .ok (.istore 6, 2) := by decide +kernel
theorem dX12_starves_32 : decode cX12_starves 32 = .ok (.iload 6, 2) := by decide +kernel
theorem dX12_starves_34 : decode cX12_starves 34 = .ok (.aload_n 0, 1) := by decide +kernel
theorem dX12_starves_35 : decode cX12_starves 35 = .ok (.getfield 7, 3) := by decide +kernel
theorem dX12_starves_38 : decode cX12_starves 38 = .ok (.iconst 2, 1) := by decide +kernel
theorem dX12_starves_39 : decode cX12_starves 39 = .ok (.iaload, 1) := by decide +kernel
theorem dX12_starves_40 : decode cX12_starves 40 = .ok (.if_icmp .ge 57, 3) := by decide +kernel
theorem dX12_starves_43 : decode cX12_starves 43 = .ok (.iload 5, 2) := by decide +kernel
theorem dX12_starves_45 : decode cX12_starves 45 = .ok (.aload_n 0, 1) := by decide +kernel
theorem dX12_starves_46 : decode cX12_starves 46 = .ok (.iload 6, 2) := by decide +kernel
theorem dX12_starves_48 : decode cX12_starves 48 = .ok (.invokevirtual 317, 3) := by decide +kernel
theorem dX12_starves_51 : decode cX12_starves 51 = .ok (.iload 4, 2) := by decide +kernel
theorem dX12_starves_53 : decode cX12_starves 53 = .ok (.if_icmp .ne 34, 3) := by decide +kernel
theorem dX12_starves_56 : decode cX12_starves 56 = .ok (.aload_n 0, 1) := by decide +kernel
theorem dX12_starves_57 : decode cX12_starves 57 = .ok (.iload 6, 2) := by decide +kernel
theorem dX12_starves_59 : decode cX12_starves 59 = .ok (.invokevirtual 129, 3) := by decide +kernel
theorem dX12_starves_62 : decode cX12_starves 62 = .ok (.ifCond .eq 25, 3) := by decide +kernel
theorem dX12_starves_65 : decode cX12_starves 65 = .ok (.aload_n 0, 1) := by decide +kernel
theorem dX12_starves_66 : decode cX12_starves 66 = .ok (.getfield 7, 3) := by decide +kernel
theorem dX12_starves_69 : decode cX12_starves 69 = .ok (.iconst 0, 1) := by decide +kernel
theorem dX12_starves_70 : decode cX12_starves 70 = .ok (.iaload, 1) := by decide +kernel
theorem dX12_starves_71 : decode cX12_starves 71 = .ok (.aload_n 0, 1) := by decide +kernel
theorem dX12_starves_72 : decode cX12_starves 72 = .ok (.iload 6, 2) := by decide +kernel
theorem dX12_starves_74 : decode cX12_starves 74 = .ok (.iconst 2, 1) := by decide +kernel
theorem dX12_starves_75 : decode cX12_starves 75 = .ok (.invokevirtual 99, 3) := by decide +kernel
theorem dX12_starves_78 : decode cX12_starves 78 = .ok (.isub, 1) := by decide +kernel
theorem dX12_starves_79 : decode cX12_starves 79 = .ok (.iload_n 1, 1) := by decide +kernel
theorem dX12_starves_80 : decode cX12_starves 80 = .ok (.if_icmp .le 7, 3) := by decide +kernel
theorem dX12_starves_83 : decode cX12_starves 83 = .ok (.iconst 1, 1) := by decide +kernel
theorem dX12_starves_84 : decode cX12_starves 84 = .ok (.goto 4, 3) := by decide +kernel
theorem dX12_starves_87 : decode cX12_starves 87 = .ok (.iconst 0, 1) := by decide +kernel
theorem dX12_starves_88 : decode cX12_starves 88 = .ok (.iadd, 1) := by decide +kernel
theorem dX12_starves_89 : decode cX12_starves 89 = .ok (.istore 5, 2) := by decide +kernel
theorem dX12_starves_91 : decode cX12_starves 91 = .ok (.iinc 6 1, 3) := by decide +kernel
theorem dX12_starves_94 : decode cX12_starves 94 = .ok (.goto (-62), 3) := by decide +kernel
theorem dX12_starves_97 : decode cX12_starves 97 = .ok (.iload 5, 2) := by decide +kernel
theorem dX12_starves_99 : decode cX12_starves 99 = .ok (.iload_n 3, 1) := by decide +kernel
theorem dX12_starves_100 : decode cX12_starves 100 = .ok (.if_icmp .le 8, 3) := by decide +kernel
theorem dX12_starves_103 : decode cX12_starves 103 = .ok (.iload 4, 2) := by decide +kernel
theorem dX12_starves_105 : decode cX12_starves 105 = .ok (.goto 4, 3) := by decide +kernel
theorem dX12_starves_108 : decode cX12_starves 108 = .ok (.iload_n 2, 1) := by decide +kernel
theorem dX12_starves_109 : decode cX12_starves 109 = .ok (.istore_n 2, 1) := by decide +kernel
theorem dX12_starves_110 : decode cX12_starves 110 = .ok (.iload 5, 2) := by decide +kernel
theorem dX12_starves_112 : decode cX12_starves 112 = .ok (.iload_n 3, 1) := by decide +kernel
theorem dX12_starves_113 : decode cX12_starves 113 = .ok (.if_icmp .le 8, 3) := by decide +kernel
theorem dX12_starves_116 : decode cX12_starves 116 = .ok (.iload 5, 2) := by decide +kernel
theorem dX12_starves_118 : decode cX12_starves 118 = .ok (.goto 4, 3) := by decide +kernel
theorem dX12_starves_121 : decode cX12_starves 121 = .ok (.iload_n 3, 1) := by decide +kernel
theorem dX12_starves_122 : decode cX12_starves 122 = .ok (.istore_n 3, 1) := by decide +kernel
theorem dX12_starves_123 : decode cX12_starves 123 = .ok (.iinc 4 1, 3) := by decide +kernel
theorem dX12_starves_126 : decode cX12_starves 126 = .ok (.goto (-106), 3) := by decide +kernel
theorem dX12_starves_129 : decode cX12_starves 129 = .ok (.iload_n 2, 1) := by decide +kernel
theorem dX12_starves_130 : decode cX12_starves 130 = .ok (.ifCond .ge 11, 3) := by decide +kernel
theorem dX12_starves_133 : decode cX12_starves 133 = .ok (.aload_n 0, 1) := by decide +kernel
theorem dX12_starves_134 : decode cX12_starves 134 = .ok (.iconst 3, 1) := by decide +kernel
theorem dX12_starves_135 : decode cX12_starves 135 = .ok (.invokevirtual 73, 3) := by decide +kernel
theorem dX12_starves_138 : decode cX12_starves 138 = .ok (.goto 4, 3) := by decide +kernel
theorem dX12_starves_141 : decode cX12_starves 141 = .ok (.iload_n 2, 1) := by decide +kernel
theorem dX12_starves_142 : decode cX12_starves 142 = .ok (.ireturn, 1) := by decide +kernel
theorem dX12_nightRider_0 : decode cX12_nightRider 0 = .ok (.iconst (-1), 1) := by decide +kernel
theorem dX12_nightRider_1 : decode cX12_nightRider 1 = .ok (.istore_n 3, 1) := by decide +kernel
theorem dX12_nightRider_2 : decode cX12_nightRider 2 = .ok (.iconst 0, 1) := by decide +kernel
theorem dX12_nightRider_3 : decode cX12_nightRider 3 = .ok (.istore 4, 2) := by decide +kernel
theorem dX12_nightRider_5 : decode cX12_nightRider 5 = .ok (.iconst 0, 1) := by decide +kernel
theorem dX12_nightRider_6 : decode cX12_nightRider 6 = .ok (.istore 5, 2) := by decide +kernel
theorem dX12_nightRider_8 : decode cX12_nightRider 8 = .ok (.iload 5, 2) := by decide +kernel
theorem dX12_nightRider_10 : decode cX12_nightRider 10 = .ok (.aload_n 0, 1) := by decide +kernel
theorem dX12_nightRider_11 : decode cX12_nightRider 11 = .ok (.getfield 7, 3) := by decide +kernel
theorem dX12_nightRider_14 : decode cX12_nightRider 14 = .ok (.iconst 3, 1) := by decide +kernel
theorem dX12_nightRider_15 : decode cX12_nightRider 15 = .ok (.iaload, 1) := by decide +kernel
theorem dX12_nightRider_16 : decode cX12_nightRider 16 = .ok (.if_icmp .ge 144, 3) := by decide +kernel
theorem dX12_nightRider_19 : decode cX12_nightRider 19 = .ok (.aload_n 0, 1) := by decide +kernel
theorem dX12_nightRider_20 : decode cX12_nightRider 20 = .ok (.iload 5, 2) := by decide +kernel
theorem dX12_nightRider_22 : decode cX12_nightRider 22 = .ok (.iconst 0, 1) := by decide +kernel
theorem dX12_nightRider_23 : decode cX12_nightRider 23 = .ok (.invokevirtual 136, 3) := by decide +kernel
theorem dX12_nightRider_26 : decode cX12_nightRider 26 = .ok (.istore 6, 2) := by decide +kernel
theorem dX12_nightRider_28 : decode cX12_nightRider 28 = .ok (.aload_n 0, 1) := by decide +kernel
theorem dX12_nightRider_29 : decode cX12_nightRider 29 = .ok (.iload 5, 2) := by decide +kernel
theorem dX12_nightRider_31 : decode cX12_nightRider 31 = .ok (.iconst 5, 1) := by decide +kernel
theorem dX12_nightRider_32 : decode cX12_nightRider 32 = .ok (.invokevirtual 136, 3) := by decide +kernel
theorem dX12_nightRider_35 : decode cX12_nightRider 35 = .ok (.aload_n 0, 1) := by decide +kernel
theorem dX12_nightRider_36 : decode cX12_nightRider 36 = .ok (.iload_n 2, 1) := by decide +kernel
theorem dX12_nightRider_37 : decode cX12_nightRider 37 = .ok (.iconst 2, 1) := by decide +kernel
theorem dX12_nightRider_38 : decode cX12_nightRider 38 = .ok (.invokevirtual 99, 3) := by decide +kernel
theorem dX12_nightRider_41 : decode cX12_nightRider 41 = .ok (.if_icmp .gt 113, 3) := by decide +kernel
theorem dX12_nightRider_44 : decode cX12_nightRider 44 = .ok (.aload_n 0, 1) := by decide +kernel
theorem dX12_nightRider_45 : decode cX12_nightRider 45 = .ok (.iload 5, 2) := by decide +kernel
theorem dX12_nightRider_47 : decode cX12_nightRider 47 = .ok (.iload_n 2, 1) := by decide +kernel
theorem dX12_nightRider_48 : decode cX12_nightRider 48 = .ok (.invokevirtual 320, 3) := by decide +kernel
theorem dX12_nightRider_51 : decode cX12_nightRider 51 = .ok (.ifCond .ne 6, 3) := by decide +kernel
theorem dX12_nightRider_54 : decode cX12_nightRider 54 = .ok (.goto 100, 3) := by decide +kernel
theorem dX12_nightRider_57 : decode cX12_nightRider 57 = .ok (.aload_n 0, 1) := by decide +kernel
theorem dX12_nightRider_58 : decode cX12_nightRider 58 = .ok (.iload 6, 2) := by decide +kernel
theorem dX12_nightRider_60 : decode cX12_nightRider 60 = .ok (.aload_n 0, 1) := by decide +kernel
theorem dX12_nightRider_61 : decode cX12_nightRider 61 = .ok (.getfield 40, 3) := by decide +kernel
theorem dX12_nightRider_64 : decode cX12_nightRider 64 = .ok (.iload 5, 2) := by decide +kernel
theorem dX12_nightRider_66 : decode cX12_nightRider 66 = .ok (.iaload, 1) := by decide +kernel
theorem dX12_nightRider_67 : decode cX12_nightRider 67 = .ok (.iload_n 2, 1) := by decide +kernel
theorem dX12_nightRider_68 : decode cX12_nightRider 68 = .ok (.invokevirtual 215, 3) := by decide +kernel
theorem dX12_nightRider_71 : decode cX12_nightRider 71 = .ok (.aload_n 0, 1) := by decide +kernel
theorem dX12_nightRider_72 : decode cX12_nightRider 72 = .ok (.getfield 34, 3) := by decide +kernel
theorem dX12_nightRider_75 : decode cX12_nightRider 75 = .ok (.bipush 119, 2) := by decide +kernel
theorem dX12_nightRider_77 : decode cX12_nightRider 77 = .ok (.iconst 0, 1) := by decide +kernel
theorem dX12_nightRider_78 : decode cX12_nightRider 78 = .ok (.iastore, 1) := by decide +kernel
theorem dX12_nightRider_79 : decode cX12_nightRider 79 = .ok (.aload_n 0, 1) := by decide +kernel
theorem dX12_nightRider_80 : decode cX12_nightRider 80 = .ok (.getfield 34, 3) := by decide +kernel
theorem dX12_nightRider_83 : decode cX12_nightRider 83 = .ok (.bipush 104, 2) := by decide +kernel
theorem dX12_nightRider_85 : decode cX12_nightRider 85 = .ok (.aload_n 0, 1) := by decide +kernel
theorem dX12_nightRider_86 : decode cX12_nightRider 86 = .ok (.getfield 46, 3) := by decide +kernel
theorem dX12_nightRider_89 : decode cX12_nightRider 89 = .ok (.iload 5, 2) := by decide +kernel
theorem dX12_nightRider_91 : decode cX12_nightRider 91 = .ok (.iaload, 1) := by decide +kernel
theorem dX12_nightRider_92 : decode cX12_nightRider 92 = .ok (.iastore, 1) := by decide +kernel
theorem dX12_nightRider_93 : decode cX12_nightRider 93 = .ok (.aload_n 0, 1) := by decide +kernel
theorem dX12_nightRider_94 : decode cX12_nightRider 94 = .ok (.getfield 34, 3) := by decide +kernel
theorem dX12_nightRider_97 : decode cX12_nightRider 97 = .ok (.bipush 114, 2) := by decide +kernel
theorem dX12_nightRider_99 : decode cX12_nightRider 99 = .ok (.bipush 25, 2) := by decide +kernel
theorem dX12_nightRider_101 : decode cX12_nightRider 101 = .ok (.iastore, 1) := by decide +kernel
theorem dX12_nightRider_102 : decode cX12_nightRider 102 = .ok (.aload_n 0, 1) := by decide +kernel
theorem dX12_nightRider_103 : decode cX12_nightRider 103 = .ok (.getfield 34, 3) := by decide +kernel
theorem dX12_nightRider_106 : decode cX12_nightRider 106 = .ok (.bipush 108, 2) := by decide +kernel
theorem dX12_nightRider_108 : decode cX12_nightRider 108 = .ok (.aload_n 0, 1) := by decide +kernel
theorem dX12_nightRider_109 : decode cX12_nightRider 109 = .ok (.iload_n 2, 1) := by decide +kernel
theorem dX12_nightRider_110 : decode cX12_nightRider 110 = .ok (.aload_n 0, 1) := by decide +kernel
theorem dX12_nightRider_111 : decode cX12_nightRider 111 = .ok (.getfield 25, 3) := by decide +kernel
theorem dX12_nightRider_114 : decode cX12_nightRider 114 = .ok (.iconst 0, 1) := by decide +kernel
theorem dX12_nightRider_115 : decode cX12_nightRider 115 = .ok (.iaload, 1) := by decide +kernel
theorem dX12_nightRider_116 : decode cX12_nightRider 116 = .ok (.invokevirtual 102, 3) := by decide +kernel
theorem dX12_nightRider_119 : decode cX12_nightRider 119 = .ok (.iastore, 1) := by decide +kernel
theorem dX12_nightRider_120 : decode cX12_nightRider 120 = .ok (.aload_n 0, 1) := by decide +kernel
theorem dX12_nightRider_121 : decode cX12_nightRider 121 = .ok (.getfield 34, 3) := by decide +kernel
theorem dX12_nightRider_124 : decode cX12_nightRider 124 = .ok (.bipush 110, 2) := by decide +kernel
theorem dX12_nightRider_126 : decode cX12_nightRider 126 = .ok (.iload 5, 2) := by decide +kernel
theorem dX12_nightRider_128 : decode cX12_nightRider 128 = .ok (.iastore, 1) := by decide +kernel
theorem dX12_nightRider_129 : decode cX12_nightRider 129 = .ok (.aload_n 0, 1) := by decide +kernel
theorem dX12_nightRider_130 : decode cX12_nightRider 130 = .ok (.iload_n 1, 1) := by decide +kernel
theorem dX12_nightRider_131 : decode cX12_nightRider 131 = .ok (.invokevirtual 218, 3) := by decide +kernel
theorem dX12_nightRider_134 : decode cX12_nightRider 134 = .ok (.istore 7, 2) := by decide +kernel
theorem dX12_nightRider_136 : decode cX12_nightRider 136 = .ok (.iload_n 3, 1) := by decide +kernel
theorem dX12_nightRider_137 : decode cX12_nightRider 137 = .ok (.ifCond .lt 10, 3) := by decide +kernel
theorem dX12_nightRider_140 : decode cX12_nightRider 140 = .ok (.iload 7, 2) := by decide +kernel
theorem dX12_nightRider_142 : decode cX12_nightRider 142 = .ok (.iload 4, 2) := by decide +kernel
theorem dX12_nightRider_144 : decode cX12_nightRider 144 = .ok (.if_icmp .le 10, 3) := by decide +kernel
theorem dX12_nightRider_147 : decode cX12_nightRider 147 = .ok (.iload 5, 2) := by decide +kernel
theorem dX12_nightRider_149 : decode cX12_nightRider 149 = .ok (.istore_n 3, 1) := by decide +kernel
theorem dX12_nightRider_150 : decode cX12_nightRider 150 = .ok (.iload 7, 2) := by decide +kernel
theorem dX12_nightRider_152 : decode cX12_nightRider 152 = .ok (.istore 4, 2) := by decide +kernel
theorem dX12_nightRider_154 : decode cX12_nightRider 154 = .ok (.iinc 5 1, 3) := by decide +kernel
theorem dX12_nightRider_157 : decode cX12_nightRider 157 = .ok (.goto (-149), 3) := by decide +kernel
theorem dX12_nightRider_160 : decode cX12_nightRider 160 = .ok (.iload_n 3, 1) := by decide +kernel
theorem dX12_nightRider_161 : decode cX12_nightRider 161 = .ok (.ireturn, 1) := by decide +kernel
theorem dX12_nightTrip_0 : decode cX12_nightTrip 0 = .ok (.aload_n 0, 1) := by decide +kernel
theorem dX12_nightTrip_1 : decode cX12_nightTrip 1 = .ok (.iload_n 2, 1) := by decide +kernel
theorem dX12_nightTrip_2 : decode cX12_nightTrip 2 = .ok (.iconst 2, 1) := by decide +kernel
theorem dX12_nightTrip_3 : decode cX12_nightTrip 3 = .ok (.invokevirtual 99, 3) := by decide +kernel
theorem dX12_nightTrip_6 : decode cX12_nightTrip 6 = .ok (.istore_n 3, 1) := by decide +kernel
theorem dX12_nightTrip_7 : decode cX12_nightTrip 7 = .ok (.aload_n 0, 1) := by decide +kernel
theorem dX12_nightTrip_8 : decode cX12_nightTrip 8 = .ok (.aload_n 0, 1) := by decide +kernel
theorem dX12_nightTrip_9 : decode cX12_nightTrip 9 = .ok (.iload_n 1, 1) := by decide +kernel
theorem dX12_nightTrip_10 : decode cX12_nightTrip 10 = .ok (.iconst 0, 1) := by decide +kernel
theorem dX12_nightTrip_11 : decode cX12_nightTrip 11 = .ok (.invokevirtual 136, 3) := by decide +kernel
theorem dX12_nightTrip_14 : decode cX12_nightTrip 14 = .ok (.aload_n 0, 1) := by decide +kernel
theorem dX12_nightTrip_15 : decode cX12_nightTrip 15 = .ok (.getfield 40, 3) := by decide +kernel
theorem dX12_nightTrip_18 : decode cX12_nightTrip 18 = .ok (.iload_n 1, 1) := by decide +kernel
theorem dX12_nightTrip_19 : decode cX12_nightTrip 19 = .ok (.iaload, 1) := by decide +kernel
theorem dX12_nightTrip_20 : decode cX12_nightTrip 20 = .ok (.aload_n 0, 1) := by decide +kernel
theorem dX12_nightTrip_21 : decode cX12_nightTrip 21 = .ok (.getfield 43, 3) := by decide +kernel
theorem dX12_nightTrip_24 : decode cX12_nightTrip 24 = .ok (.iload_n 1, 1) := by decide +kernel
theorem dX12_nightTrip_25 : decode cX12_nightTrip 25 = .ok (.iaload, 1) := by decide +kernel
theorem dX12_nightTrip_26 : decode cX12_nightTrip 26 = .ok (.iload_n 3, 1) := by decide +kernel
theorem dX12_nightTrip_27 : decode cX12_nightTrip 27 = .ok (.if_icmp .le 12, 3) := by decide +kernel
theorem dX12_nightTrip_30 : decode cX12_nightTrip 30 = .ok (.aload_n 0, 1) := by decide +kernel
theorem dX12_nightTrip_31 : decode cX12_nightTrip 31 = .ok (.getfield 43, 3) := by decide +kernel
theorem dX12_nightTrip_34 : decode cX12_nightTrip 34 = .ok (.iload_n 1, 1) := by decide +kernel
theorem dX12_nightTrip_35 : decode cX12_nightTrip 35 = .ok (.iaload, 1) := by decide +kernel
theorem dX12_nightTrip_36 : decode cX12_nightTrip 36 = .ok (.goto 4, 3) := by decide +kernel
theorem dX12_nightTrip_39 : decode cX12_nightTrip 39 = .ok (.iload_n 3, 1) := by decide +kernel
theorem dX12_nightTrip_40 : decode cX12_nightTrip 40 = .ok (.iload_n 2, 1) := by decide +kernel
theorem dX12_nightTrip_41 : decode cX12_nightTrip 41 = .ok (.invokevirtual 190, 3) := by decide +kernel
theorem dX12_nightTrip_44 : decode cX12_nightTrip 44 = .ok (.ireturn, 1) := by decide +kernel
theorem dX12_goesNight_0 : decode cX12_goesNight 0 = .ok (.iconst 0, 1) := by decide +kernel
theorem dX12_goesNight_1 : decode cX12_goesNight 1 = .ok (.istore_n 2, 1) := by decide +kernel
theorem dX12_goesNight_2 : decode cX12_goesNight 2 = .ok (.iload_n 2, 1) := by decide +kernel
theorem dX12_goesNight_3 : decode cX12_goesNight 3 = .ok (.aload_n 0, 1) := by decide +kernel
theorem dX12_goesNight_4 : decode cX12_goesNight 4 = .ok (.getfield 7, 3) := by decide +kernel
theorem dX12_goesNight_7 : decode cX12_goesNight 7 = .ok (.iconst 3, 1) := by decide +kernel
theorem dX12_goesNight_8 : decode cX12_goesNight 8 = .ok (.iaload, 1) := by decide +kernel
theorem dX12_goesNight_9 : decode cX12_goesNight 9 = .ok (.if_icmp .ge 40, 3) := by decide +kernel
theorem dX12_goesNight_12 : decode cX12_goesNight 12 = .ok (.aload_n 0, 1) := by decide +kernel
theorem dX12_goesNight_13 : decode cX12_goesNight 13 = .ok (.getfield 40, 3) := by decide +kernel
theorem dX12_goesNight_16 : decode cX12_goesNight 16 = .ok (.iload_n 2, 1) := by decide +kernel
theorem dX12_goesNight_17 : decode cX12_goesNight 17 = .ok (.aload_n 0, 1) := by decide +kernel
theorem dX12_goesNight_18 : decode cX12_goesNight 18 = .ok (.iload_n 2, 1) := by decide +kernel
theorem dX12_goesNight_19 : decode cX12_goesNight 19 = .ok (.iconst 4, 1) := by decide +kernel
theorem dX12_goesNight_20 : decode cX12_goesNight 20 = .ok (.invokevirtual 136, 3) := by decide +kernel
theorem dX12_goesNight_23 : decode cX12_goesNight 23 = .ok (.iastore, 1) := by decide +kernel
theorem dX12_goesNight_24 : decode cX12_goesNight 24 = .ok (.aload_n 0, 1) := by decide +kernel
theorem dX12_goesNight_25 : decode cX12_goesNight 25 = .ok (.getfield 43, 3) := by decide +kernel
theorem dX12_goesNight_28 : decode cX12_goesNight 28 = .ok (.iload_n 2, 1) := by decide +kernel
theorem dX12_goesNight_29 : decode cX12_goesNight 29 = .ok (.aload_n 0, 1) := by decide +kernel
theorem dX12_goesNight_30 : decode cX12_goesNight 30 = .ok (.iload_n 2, 1) := by decide +kernel
theorem dX12_goesNight_31 : decode cX12_goesNight 31 = .ok (.iconst 5, 1) := by decide +kernel
theorem dX12_goesNight_32 : decode cX12_goesNight 32 = .ok (.invokevirtual 136, 3) := by decide +kernel
theorem dX12_goesNight_35 : decode cX12_goesNight 35 = .ok (.iastore, 1) := by decide +kernel
theorem dX12_goesNight_36 : decode cX12_goesNight 36 = .ok (.aload_n 0, 1) := by decide +kernel
theorem dX12_goesNight_37 : decode cX12_goesNight 37 = .ok (.getfield 46, 3) := by decide +kernel
theorem dX12_goesNight_40 : decode cX12_goesNight 40 = .ok (.iload_n 2, 1) := by decide +kernel
theorem dX12_goesNight_41 : decode cX12_goesNight 41 = .ok (.iconst 0, 1) := by decide +kernel
theorem dX12_goesNight_42 : decode cX12_goesNight 42 = .ok (.iastore, 1) := by decide +kernel
theorem dX12_goesNight_43 : decode cX12_goesNight 43 = .ok (.iinc 2 1, 3) := by decide +kernel
theorem dX12_goesNight_46 : decode cX12_goesNight 46 = .ok (.goto (-44), 3) := by decide +kernel
theorem dX12_goesNight_49 : decode cX12_goesNight 49 = .ok (.aload_n 0, 1) := by decide +kernel
theorem dX12_goesNight_50 : decode cX12_goesNight 50 = .ok (.iconst 0, 1) := by decide +kernel
theorem dX12_goesNight_51 : decode cX12_goesNight 51 = .ok (.putfield 323, 3) := by decide +kernel
theorem dX12_goesNight_54 : decode cX12_goesNight 54 = .ok (.aload_n 0, 1) := by decide +kernel
theorem dX12_goesNight_55 : decode cX12_goesNight 55 = .ok (.iconst 0, 1) := by decide +kernel
theorem dX12_goesNight_56 : decode cX12_goesNight 56 = .ok (.putfield 326, 3) := by decide +kernel
theorem dX12_goesNight_59 : decode cX12_goesNight 59 = .ok (.iconst 0, 1) := by decide +kernel
theorem dX12_goesNight_60 : decode cX12_goesNight 60 = .ok (.istore_n 2, 1) := by decide +kernel
theorem dX12_goesNight_61 : decode cX12_goesNight 61 = .ok (.iload_n 2, 1) := by decide +kernel
theorem dX12_goesNight_62 : decode cX12_goesNight 62 = .ok (.aload_n 0, 1) := by decide +kernel
theorem dX12_goesNight_63 : decode cX12_goesNight 63 = .ok (.getfield 7, 3) := by decide +kernel
theorem dX12_goesNight_66 : decode cX12_goesNight 66 = .ok (.iconst 2, 1) := by decide +kernel
theorem dX12_goesNight_67 : decode cX12_goesNight 67 = .ok (.iaload, 1) := by decide +kernel
theorem dX12_goesNight_68 : decode cX12_goesNight 68 = .ok (.if_icmp .ge 141, 3) := by decide +kernel
theorem dX12_goesNight_71 : decode cX12_goesNight 71 = .ok (.aload_n 0, 1) := by decide +kernel
theorem dX12_goesNight_72 : decode cX12_goesNight 72 = .ok (.getfield 49, 3) := by decide +kernel
theorem dX12_goesNight_75 : decode cX12_goesNight 75 = .ok (.iload_n 2, 1) := by decide +kernel
theorem dX12_goesNight_76 : decode cX12_goesNight 76 = .ok (.aload_n 0, 1) := by decide +kernel
theorem dX12_goesNight_77 : decode cX12_goesNight 77 = .ok (.iload_n 2, 1) := by decide +kernel
theorem dX12_goesNight_78 : decode cX12_goesNight 78 = .ok (.iconst 5, 1) := by decide +kernel
theorem dX12_goesNight_79 : decode cX12_goesNight 79 = .ok (.invokevirtual 99, 3) := by decide +kernel
theorem dX12_goesNight_82 : decode cX12_goesNight 82 = .ok (.iconst 2, 1) := by decide +kernel
theorem dX12_goesNight_83 : decode cX12_goesNight 83 = .ok (.if_icmp .ne 7, 3) := by decide +kernel
theorem dX12_goesNight_86 : decode cX12_goesNight 86 = .ok (.iconst (-1), 1) := by decide +kernel
theorem dX12_goesNight_87 : decode cX12_goesNight 87 = .ok (.goto 9, 3) := by decide +kernel
theorem dX12_goesNight_90 : decode cX12_goesNight 90 = .ok (.aload_n 0, 1) := by decide +kernel
theorem dX12_goesNight_91 : decode cX12_goesNight 91 = .ok (.iload_n 1, 1) := by decide +kernel
theorem dX12_goesNight_92 : decode cX12_goesNight 92 = .ok (.iload_n 2, 1) := by decide +kernel
theorem dX12_goesNight_93 : decode cX12_goesNight 93 = .ok (.invokevirtual 329, 3) := by decide +kernel
theorem dX12_goesNight_96 : decode cX12_goesNight 96 = .ok (.iastore, 1) := by decide +kernel
theorem dX12_goesNight_97 : decode cX12_goesNight 97 = .ok (.aload_n 0, 1) := by decide +kernel
theorem dX12_goesNight_98 : decode cX12_goesNight 98 = .ok (.getfield 49, 3) := by decide +kernel
theorem dX12_goesNight_101 : decode cX12_goesNight 101 = .ok (.iload_n 2, 1) := by decide +kernel
theorem dX12_goesNight_102 : decode cX12_goesNight 102 = .ok (.iaload, 1) := by decide +kernel
theorem dX12_goesNight_103 : decode cX12_goesNight 103 = .ok (.ifCond .lt 100, 3) := by decide +kernel
theorem dX12_goesNight_106 : decode cX12_goesNight 106 = .ok (.aload_n 0, 1) := by decide +kernel
theorem dX12_goesNight_107 : decode cX12_goesNight 107 = .ok (.aload_n 0, 1) := by decide +kernel
theorem dX12_goesNight_108 : decode cX12_goesNight 108 = .ok (.getfield 49, 3) := by decide +kernel
theorem dX12_goesNight_111 : decode cX12_goesNight 111 = .ok (.iload_n 2, 1) := by decide +kernel
theorem dX12_goesNight_112 : decode cX12_goesNight 112 = .ok (.iaload, 1) := by decide +kernel
theorem dX12_goesNight_113 : decode cX12_goesNight 113 = .ok (.iload_n 2, 1) := by decide +kernel
theorem dX12_goesNight_114 : decode cX12_goesNight 114 = .ok (.invokevirtual 320, 3) := by decide +kernel
theorem dX12_goesNight_117 : decode cX12_goesNight 117 = .ok (.ifCond .eq 86, 3) := by decide +kernel
theorem dX12_goesNight_120 : decode cX12_goesNight 120 = .ok (.aload_n 0, 1) := by decide +kernel
theorem dX12_goesNight_121 : decode cX12_goesNight 121 = .ok (.getfield 49, 3) := by decide +kernel
theorem dX12_goesNight_124 : decode cX12_goesNight 124 = .ok (.iload_n 2, 1) := by decide +kernel
theorem dX12_goesNight_125 : decode cX12_goesNight 125 = .ok (.iaload, 1) := by decide +kernel
theorem dX12_goesNight_126 : decode cX12_goesNight 126 = .ok (.istore_n 3, 1) := by decide +kernel
theorem dX12_goesNight_127 : decode cX12_goesNight 127 = .ok (.aload_n 0, 1) := by decide +kernel
theorem dX12_goesNight_128 : decode cX12_goesNight 128 = .ok (.getfield 40, 3) := by decide +kernel
theorem dX12_goesNight_131 : decode cX12_goesNight 131 = .ok (.iload_n 3, 1) := by decide +kernel
theorem dX12_goesNight_132 : decode cX12_goesNight 132 = .ok (.aload_n 0, 1) := by decide +kernel
theorem dX12_goesNight_133 : decode cX12_goesNight 133 = .ok (.getfield 163, 3) := by decide +kernel
theorem dX12_goesNight_136 : decode cX12_goesNight 136 = .ok (.iastore, 1) := by decide +kernel
theorem dX12_goesNight_137 : decode cX12_goesNight 137 = .ok (.aload_n 0, 1) := by decide +kernel
theorem dX12_goesNight_138 : decode cX12_goesNight 138 = .ok (.getfield 43, 3) := by decide +kernel
theorem dX12_goesNight_141 : decode cX12_goesNight 141 = .ok (.iload_n 3, 1) := by decide +kernel
theorem dX12_goesNight_142 : decode cX12_goesNight 142 = .ok (.aload_n 0, 1) := by decide +kernel
theorem dX12_goesNight_143 : decode cX12_goesNight 143 = .ok (.getfield 167, 3) := by decide +kernel
theorem dX12_goesNight_146 : decode cX12_goesNight 146 = .ok (.iastore, 1) := by decide +kernel
theorem dX12_goesNight_147 : decode cX12_goesNight 147 = .ok (.aload_n 0, 1) := by decide +kernel
theorem dX12_goesNight_148 : decode cX12_goesNight 148 = .ok (.getfield 46, 3) := by decide +kernel
theorem dX12_goesNight_151 : decode cX12_goesNight 151 = .ok (.iload_n 3, 1) := by decide +kernel
theorem dX12_goesNight_152 : decode cX12_goesNight 152 = .ok (.dup2, 1) := by decide +kernel
theorem dX12_goesNight_153 : decode cX12_goesNight 153 = .ok (.iaload, 1) := by decide +kernel
theorem dX12_goesNight_154 : decode cX12_goesNight 154 = .ok (.iconst 1, 1) := by decide +kernel
theorem dX12_goesNight_155 : decode cX12_goesNight 155 = .ok (.iadd, 1) := by decide +kernel
theorem dX12_goesNight_156 : decode cX12_goesNight 156 = .ok (.iastore, 1) := by decide +kernel
theorem dX12_goesNight_157 : decode cX12_goesNight 157 = .ok (.aload_n 0, 1) := by decide +kernel
theorem dX12_goesNight_158 : decode cX12_goesNight 158 = .ok (.dup, 1) := by decide +kernel
theorem dX12_goesNight_159 : decode cX12_goesNight 159 = .ok (.getfield 323, 3) := by decide +kernel
theorem dX12_goesNight_162 : decode cX12_goesNight 162 = .ok (.aload_n 0, 1) := by decide +kernel
theorem dX12_goesNight_163 : decode cX12_goesNight 163 = .ok (.iload_n 2, 1) := by decide +kernel
theorem dX12_goesNight_164 : decode cX12_goesNight 164 = .ok (.aload_n 0, 1) := by decide +kernel
theorem dX12_goesNight_165 : decode cX12_goesNight 165 = .ok (.getfield 25, 3) := by decide +kernel
theorem dX12_goesNight_168 : decode cX12_goesNight 168 = .ok (.iconst 0, 1) := by decide +kernel
theorem dX12_goesNight_169 : decode cX12_goesNight 169 = .ok (.iaload, 1) := by decide +kernel
theorem dX12_goesNight_170 : decode cX12_goesNight 170 = .ok (.invokevirtual 102, 3) := by decide +kernel
theorem dX12_goesNight_173 : decode cX12_goesNight 173 = .ok (.iadd, 1) := by decide +kernel
theorem dX12_goesNight_174 : decode cX12_goesNight 174 = .ok (.putfield 323, 3) := by decide +kernel
theorem dX12_goesNight_177 : decode cX12_goesNight 177 = .ok (.aload_n 0, 1) := by decide +kernel
theorem dX12_goesNight_178 : decode cX12_goesNight 178 = .ok (.aload_n 0, 1) := by decide +kernel
theorem dX12_goesNight_179 : decode cX12_goesNight 179 = .ok (.getfield 167, 3) := by decide +kernel
theorem dX12_goesNight_182 : decode cX12_goesNight 182 = .ok (.aload_n 0, 1) := by decide +kernel
theorem dX12_goesNight_183 : decode cX12_goesNight 183 = .ok (.getfield 326, 3) := by decide +kernel
theorem dX12_goesNight_186 : decode cX12_goesNight 186 = .ok (.if_icmp .le 10, 3) := by decide +kernel
theorem dX12_goesNight_189 : decode cX12_goesNight 189 = .ok (.aload_n 0, 1) := by decide +kernel
theorem dX12_goesNight_190 : decode cX12_goesNight 190 = .ok (.getfield 167, 3) := by decide +kernel
theorem dX12_goesNight_193 : decode cX12_goesNight 193 = .ok (.goto 7, 3) := by decide +kernel
theorem dX12_goesNight_196 : decode cX12_goesNight 196 = .ok (.aload_n 0, 1) := by decide +kernel
theorem dX12_goesNight_197 : decode cX12_goesNight 197 = .ok (.getfield 326, 3) := by decide +kernel
theorem dX12_goesNight_200 : decode cX12_goesNight 200 = .ok (.putfield 326, 3) := by decide +kernel
theorem dX12_goesNight_203 : decode cX12_goesNight 203 = .ok (.iinc 2 1, 3) := by decide +kernel
theorem dX12_goesNight_206 : decode cX12_goesNight 206 = .ok (.goto (-145), 3) := by decide +kernel
theorem dX12_goesNight_209 : decode cX12_goesNight 209 = .ok (.return_, 1) := by decide +kernel
theorem dX12_night_0 : decode cX12_night 0 = .ok (.aload_n 0, 1) := by decide +kernel
theorem dX12_night_1 : decode cX12_night 1 = .ok (.iload_n 1, 1) := by decide +kernel
theorem dX12_night_2 : decode cX12_night 2 = .ok (.invokevirtual 296, 3) := by decide +kernel
theorem dX12_night_5 : decode cX12_night 5 = .ok (.ifCond .eq 12, 3) := by decide +kernel
theorem dX12_night_8 : decode cX12_night 8 = .ok (.iload_n 2, 1) := by decide +kernel
theorem dX12_night_9 : decode cX12_night 9 = .ok (.iconst 0, 1) := by decide +kernel
theorem dX12_night_10 : decode cX12_night 10 = .ok (.iconst 4, 1) := by decide +kernel
theorem dX12_night_11 : decode cX12_night 11 = .ok (.invokestatic 65, 3) := by decide +kernel
theorem dX12_night_14 : decode cX12_night 14 = .ok (.ifCond .ne 9, 3) := by decide +kernel
theorem dX12_night_17 : decode cX12_night 17 = .ok (.aload_n 0, 1) := by decide +kernel
theorem dX12_night_18 : decode cX12_night 18 = .ok (.iconst 0, 1) := by decide +kernel
theorem dX12_night_19 : decode cX12_night 19 = .ok (.invokevirtual 73, 3) := by decide +kernel
theorem dX12_night_22 : decode cX12_night 22 = .ok (.ireturn, 1) := by decide +kernel
theorem dX12_night_23 : decode cX12_night 23 = .ok (.aload_n 0, 1) := by decide +kernel
theorem dX12_night_24 : decode cX12_night 24 = .ok (.iload_n 1, 1) := by decide +kernel
theorem dX12_night_25 : decode cX12_night 25 = .ok (.invokevirtual 332, 3) := by decide +kernel
theorem dX12_night_28 : decode cX12_night 28 = .ok (.iconst 0, 1) := by decide +kernel
theorem dX12_night_29 : decode cX12_night 29 = .ok (.istore_n 3, 1) := by decide +kernel
theorem dX12_night_30 : decode cX12_night 30 = .ok (.iconst 0, 1) := by decide +kernel
theorem dX12_night_31 : decode cX12_night 31 = .ok (.istore 4, 2) := by decide +kernel
theorem dX12_night_33 : decode cX12_night 33 = .ok (.aload_n 0, 1) := by decide +kernel
theorem dX12_night_34 : decode cX12_night 34 = .ok (.getfield 7, 3) := by decide +kernel
theorem dX12_night_37 : decode cX12_night 37 = .ok (.iconst 3, 1) := by decide +kernel
theorem dX12_night_38 : decode cX12_night 38 = .ok (.iaload, 1) := by decide +kernel
theorem dX12_night_39 : decode cX12_night 39 = .ok (.ifCond .ne 7, 3) := by decide +kernel
theorem dX12_night_42 : decode cX12_night 42 = .ok (.iconst 0, 1) := by decide +kernel
theorem dX12_night_43 : decode cX12_night 43 = .ok (.goto 5, 3) := by decide +kernel
theorem dX12_night_46 : decode cX12_night 46 = .ok (.bipush 24, 2) := by decide +kernel
theorem dX12_night_48 : decode cX12_night 48 = .ok (.istore 5, 2) := by decide +kernel
theorem dX12_night_50 : decode cX12_night 50 = .ok (.iconst 0, 1) := by decide +kernel
theorem dX12_night_51 : decode cX12_night 51 = .ok (.istore 6, 2) := by decide +kernel
theorem dX12_night_53 : decode cX12_night 53 = .ok (.iload 6, 2) := by decide +kernel
theorem dX12_night_55 : decode cX12_night 55 = .ok (.aload_n 0, 1) := by decide +kernel
theorem dX12_night_56 : decode cX12_night 56 = .ok (.getfield 7, 3) := by decide +kernel
theorem dX12_night_59 : decode cX12_night 59 = .ok (.iconst 3, 1) := by decide +kernel
theorem dX12_night_60 : decode cX12_night 60 = .ok (.iaload, 1) := by decide +kernel
theorem dX12_night_61 : decode cX12_night 61 = .ok (.if_icmp .ge 71, 3) := by decide +kernel
theorem dX12_night_64 : decode cX12_night 64 = .ok (.iload_n 3, 1) := by decide +kernel
theorem dX12_night_65 : decode cX12_night 65 = .ok (.aload_n 0, 1) := by decide +kernel
theorem dX12_night_66 : decode cX12_night 66 = .ok (.getfield 46, 3) := by decide +kernel
theorem dX12_night_69 : decode cX12_night 69 = .ok (.iload 6, 2) := by decide +kernel
theorem dX12_night_71 : decode cX12_night 71 = .ok (.iaload, 1) := by decide +kernel
theorem dX12_night_72 : decode cX12_night 72 = .ok (.iadd, 1) := by decide +kernel
theorem dX12_night_73 : decode cX12_night 73 = .ok (.istore_n 3, 1) := by decide +kernel
theorem dX12_night_74 : decode cX12_night 74 = .ok (.aload_n 0, 1) := by decide +kernel
theorem dX12_night_75 : decode cX12_night 75 = .ok (.getfield 46, 3) := by decide +kernel
theorem dX12_night_78 : decode cX12_night 78 = .ok (.iload 6, 2) := by decide +kernel
theorem dX12_night_80 : decode cX12_night 80 = .ok (.iaload, 1) := by decide +kernel
theorem dX12_night_81 : decode cX12_night 81 = .ok (.iload 4, 2) := by decide +kernel
theorem dX12_night_83 : decode cX12_night 83 = .ok (.if_icmp .le 13, 3) := by decide +kernel
theorem dX12_night_86 : decode cX12_night 86 = .ok (.aload_n 0, 1) := by decide +kernel
theorem dX12_night_87 : decode cX12_night 87 = .ok (.getfield 46, 3) := by decide +kernel
theorem dX12_night_90 : decode cX12_night 90 = .ok (.iload 6, 2) := by decide +kernel
theorem dX12_night_92 : decode cX12_night 92 = .ok (.iaload, 1) := by decide +kernel
theorem dX12_night_93 : decode cX12_night 93 = .ok (.goto 5, 3) := by decide +kernel
theorem dX12_night_96 : decode cX12_night 96 = .ok (.iload 4, 2) := by decide +kernel
theorem dX12_night_98 : decode cX12_night 98 = .ok (.istore 4, 2) := by decide +kernel
theorem dX12_night_100 : decode cX12_night 100 = .ok (.aload_n 0, 1) := by decide +kernel
theorem dX12_night_101 : decode cX12_night 101 = .ok (.getfield 46, 3) := by decide +kernel
theorem dX12_night_104 : decode cX12_night 104 = .ok (.iload 6, 2) := by decide +kernel
theorem dX12_night_106 : decode cX12_night 106 = .ok (.iaload, 1) := by decide +kernel
theorem dX12_night_107 : decode cX12_night 107 = .ok (.iload 5, 2) := by decide +kernel
theorem dX12_night_109 : decode cX12_night 109 = .ok (.if_icmp .ge 13, 3) := by decide +kernel
theorem dX12_night_112 : decode cX12_night 112 = .ok (.aload_n 0, 1) := by decide +kernel
theorem dX12_night_113 : decode cX12_night 113 = .ok (.getfield 46, 3) := by decide +kernel
theorem dX12_night_116 : decode cX12_night 116 = .ok (.iload 6, 2) := by decide +kernel
theorem dX12_night_118 : decode cX12_night 118 = .ok (.iaload, 1) := by decide +kernel
theorem dX12_night_119 : decode cX12_night 119 = .ok (.goto 5, 3) := by decide +kernel
theorem dX12_night_122 : decode cX12_night 122 = .ok (.iload 5, 2) := by decide +kernel
theorem dX12_night_124 : decode cX12_night 124 = .ok (.istore 5, 2) := by decide +kernel
theorem dX12_night_126 : decode cX12_night 126 = .ok (.iinc 6 1, 3) := by decide +kernel
theorem dX12_night_129 : decode cX12_night 129 = .ok (.goto (-76), 3) := by decide +kernel
theorem dX12_night_132 : decode cX12_night 132 = .ok (.iload_n 2, 1) := by decide +kernel
theorem dX12_night_133 : decode cX12_night 133 = .ok (.ifCond .ne 7, 3) := by decide +kernel
theorem dX12_night_136 : decode cX12_night 136 = .ok (.iload_n 3, 1) := by decide +kernel
theorem dX12_night_137 : decode cX12_night 137 = .ok (.goto 39, 3) := by decide +kernel
theorem dX12_night_140 : decode cX12_night 140 = .ok (.iload_n 2, 1) := by decide +kernel
theorem dX12_night_141 : decode cX12_night 141 = .ok (.iconst 1, 1) := by decide +kernel
theorem dX12_night_142 : decode cX12_night 142 = .ok (.if_icmp .ne 10, 3) := by decide +kernel
theorem dX12_night_145 : decode cX12_night 145 = .ok (.aload_n 0, 1) := by decide +kernel
theorem dX12_night_146 : decode cX12_night 146 = .ok (.getfield 323, 3) := by decide +kernel
theorem dX12_night_149 : decode cX12_night 149 = .ok (.goto 27, 3) := by decide +kernel
theorem dX12_night_152 : decode cX12_night 152 = .ok (.iload_n 2, 1) := by decide +kernel
theorem dX12_night_153 : decode cX12_night 153 = .ok (.iconst 2, 1) := by decide +kernel
theorem dX12_night_154 : decode cX12_night 154 = .ok (.if_icmp .ne 8, 3) := by decide +kernel
theorem dX12_night_157 : decode cX12_night 157 = .ok (.iload 4, 2) := by decide +kernel
theorem dX12_night_159 : decode cX12_night 159 = .ok (.goto 17, 3) := by decide +kernel
theorem dX12_night_162 : decode cX12_night 162 = .ok (.iload_n 2, 1) := by decide +kernel
theorem dX12_night_163 : decode cX12_night 163 = .ok (.iconst 3, 1) := by decide +kernel
theorem dX12_night_164 : decode cX12_night 164 = .ok (.if_icmp .ne 8, 3) := by decide +kernel
theorem dX12_night_167 : decode cX12_night 167 = .ok (.iload 5, 2) := by decide +kernel
theorem dX12_night_169 : decode cX12_night 169 = .ok (.goto 7, 3) := by decide +kernel
theorem dX12_night_172 : decode cX12_night 172 = .ok (.aload_n 0, 1) := by decide +kernel
theorem dX12_night_173 : decode cX12_night 173 = .ok (.getfield 326, 3) := by decide +kernel
theorem dX12_night_176 : decode cX12_night 176 = .ok (.ireturn, 1) := by decide +kernel
theorem dX12_whom_0 : decode cX12_whom 0 = .ok (.aload_n 0, 1) := by decide +kernel
theorem dX12_whom_1 : decode cX12_whom 1 = .ok (.iload_n 1, 1) := by decide +kernel
theorem dX12_whom_2 : decode cX12_whom 2 = .ok (.invokevirtual 296, 3) := by decide +kernel
theorem dX12_whom_5 : decode cX12_whom 5 = .ok (.ifCond .eq 11, 3) := by decide +kernel
theorem dX12_whom_8 : decode cX12_whom 8 = .ok (.aload_n 0, 1) := by decide +kernel
theorem dX12_whom_9 : decode cX12_whom 9 = .ok (.iload_n 2, 1) := by decide +kernel
theorem dX12_whom_10 : decode cX12_whom 10 = .ok (.invokevirtual 117, 3) := by decide +kernel
theorem dX12_whom_13 : decode cX12_whom 13 = .ok (.ifCond .ne 9, 3) := by decide +kernel
theorem dX12_whom_16 : decode cX12_whom 16 = .ok (.aload_n 0, 1) := by decide +kernel
theorem dX12_whom_17 : decode cX12_whom 17 = .ok (.iconst 0, 1) := by decide +kernel
theorem dX12_whom_18 : decode cX12_whom 18 = .ok (.invokevirtual 73, 3) := by decide +kernel
theorem dX12_whom_21 : decode cX12_whom 21 = .ok (.ireturn, 1) := by decide +kernel
theorem dX12_whom_22 : decode cX12_whom 22 = .ok (.aload_n 0, 1) := by decide +kernel
theorem dX12_whom_23 : decode cX12_whom 23 = .ok (.iload_n 1, 1) := by decide +kernel
theorem dX12_whom_24 : decode cX12_whom 24 = .ok (.invokevirtual 332, 3) := by decide +kernel
theorem dX12_whom_27 : decode cX12_whom 27 = .ok (.aload_n 0, 1) := by decide +kernel
theorem dX12_whom_28 : decode cX12_whom 28 = .ok (.getfield 49, 3) := by decide +kernel
theorem dX12_whom_31 : decode cX12_whom 31 = .ok (.iload_n 2, 1) := by decide +kernel
theorem dX12_whom_32 : decode cX12_whom 32 = .ok (.iaload, 1) := by decide +kernel
theorem dX12_whom_33 : decode cX12_whom 33 = .ok (.ifCond .ge 11, 3) := by decide +kernel
theorem dX12_whom_36 : decode cX12_whom 36 = .ok (.aload_n 0, 1) := by decide +kernel
theorem dX12_whom_37 : decode cX12_whom 37 = .ok (.iconst 3, 1) := by decide +kernel
theorem dX12_whom_38 : decode cX12_whom 38 = .ok (.invokevirtual 73, 3) := by decide +kernel
theorem dX12_whom_41 : decode cX12_whom 41 = .ok (.goto 9, 3) := by decide +kernel
theorem dX12_whom_44 : decode cX12_whom 44 = .ok (.aload_n 0, 1) := by decide +kernel
theorem dX12_whom_45 : decode cX12_whom 45 = .ok (.getfield 49, 3) := by decide +kernel
theorem dX12_whom_48 : decode cX12_whom 48 = .ok (.iload_n 2, 1) := by decide +kernel
theorem dX12_whom_49 : decode cX12_whom 49 = .ok (.iaload, 1) := by decide +kernel
theorem dX12_whom_50 : decode cX12_whom 50 = .ok (.ireturn, 1) := by decide +kernel
theorem dX12_isSpot_0 : decode cX12_isSpot 0 = .ok (.iload_n 0, 1) := by decide +kernel
theorem dX12_isSpot_1 : decode cX12_isSpot 1 = .ok (.iconst 0, 1) := by decide +kernel
theorem dX12_isSpot_2 : decode cX12_isSpot 2 = .ok (.bipush 9, 2) := by decide +kernel
theorem dX12_isSpot_4 : decode cX12_isSpot 4 = .ok (.invokestatic 65, 3) := by decide +kernel
theorem dX12_isSpot_7 : decode cX12_isSpot 7 = .ok (.ireturn, 1) := by decide +kernel
theorem dX12_hold_0 : decode cX12_hold 0 = .ok (.iload_n 1, 1) := by decide +kernel
theorem dX12_hold_1 : decode cX12_hold 1 = .ok (.invokestatic 335, 3) := by decide +kernel
theorem dX12_hold_4 : decode cX12_hold 4 = .ok (.ifCond .eq 16, 3) := by decide +kernel
theorem dX12_hold_7 : decode cX12_hold 7 = .ok (.iload_n 2, 1) := by decide +kernel
theorem dX12_hold_8 : decode cX12_hold 8 = .ok (.iconst (-1), 1) := by decide +kernel
theorem dX12_hold_9 : decode cX12_hold 9 = .ok (.if_icmp .eq 17, 3) := by decide +kernel
theorem dX12_hold_12 : decode cX12_hold 12 = .ok (.aload_n 0, 1) := by decide +kernel
theorem dX12_hold_13 : decode cX12_hold 13 = .ok (.iload_n 2, 1) := by decide +kernel
theorem dX12_hold_14 : decode cX12_hold 14 = .ok (.invokevirtual 139, 3) := by decide +kernel
theorem dX12_hold_17 : decode cX12_hold 17 = .ok (.ifCond .ne 9, 3) := by decide +kernel
theorem dX12_hold_20 : decode cX12_hold 20 = .ok (.aload_n 0, 1) := by decide +kernel
theorem dX12_hold_21 : decode cX12_hold 21 = .ok (.iconst 0, 1) := by decide +kernel
theorem dX12_hold_22 : decode cX12_hold 22 = .ok (.invokevirtual 73, 3) := by decide +kernel
theorem dX12_hold_25 : decode cX12_hold 25 = .ok (.ireturn, 1) := by decide +kernel
theorem dX12_hold_26 : decode cX12_hold 26 = .ok (.aload_n 0, 1) := by decide +kernel
theorem dX12_hold_27 : decode cX12_hold 27 = .ok (.getfield 7, 3) := by decide +kernel
theorem dX12_hold_30 : decode cX12_hold 30 = .ok (.sipush 966, 3) := by decide +kernel
theorem dX12_hold_33 : decode cX12_hold 33 = .ok (.iload_n 1, 1) := by decide +kernel
theorem dX12_hold_34 : decode cX12_hold 34 = .ok (.iadd, 1) := by decide +kernel
theorem dX12_hold_35 : decode cX12_hold 35 = .ok (.iload_n 2, 1) := by decide +kernel
theorem dX12_hold_36 : decode cX12_hold 36 = .ok (.iastore, 1) := by decide +kernel
theorem dX12_hold_37 : decode cX12_hold 37 = .ok (.iconst 1, 1) := by decide +kernel
theorem dX12_hold_38 : decode cX12_hold 38 = .ok (.ireturn, 1) := by decide +kernel
theorem dX12_isOf_0 : decode cX12_isOf 0 = .ok (.iload_n 1, 1) := by decide +kernel
theorem dX12_isOf_1 : decode cX12_isOf 1 = .ok (.ifCond .eq 34, 3) := by decide +kernel
theorem dX12_isOf_4 : decode cX12_isOf 4 = .ok (.iload_n 0, 1) := by decide +kernel
theorem dX12_isOf_5 : decode cX12_isOf 5 = .ok (.iload_n 1, 1) := by decide +kernel
theorem dX12_isOf_6 : decode cX12_isOf 6 = .ok (.if_icmp .eq 29, 3) := by decide +kernel
theorem dX12_isOf_9 : decode cX12_isOf 9 = .ok (.iload_n 1, 1) := by decide +kernel
theorem dX12_isOf_10 : decode cX12_isOf 10 = .ok (.iconst 1, 1) := by decide +kernel
theorem dX12_isOf_11 : decode cX12_isOf 11 = .ok (.if_icmp .ne 13, 3) := by decide +kernel
theorem dX12_isOf_14 : decode cX12_isOf 14 = .ok (.iload_n 0, 1) := by decide +kernel
theorem dX12_isOf_15 : decode cX12_isOf 15 = .ok (.iconst 4, 1) := by decide +kernel
theorem dX12_isOf_16 : decode cX12_isOf 16 = .ok (.if_icmp .eq 19, 3) := by decide +kernel
theorem dX12_isOf_19 : decode cX12_isOf 19 = .ok (.iload_n 0, 1) := by decide +kernel
theorem dX12_isOf_20 : decode cX12_isOf 20 = .ok (.iconst 5, 1) := by decide +kernel
theorem dX12_isOf_21 : decode cX12_isOf 21 = .ok (.if_icmp .eq 14, 3) := by decide +kernel
theorem dX12_isOf_24 : decode cX12_isOf 24 = .ok (.iload_n 1, 1) := by decide +kernel
theorem dX12_isOf_25 : decode cX12_isOf 25 = .ok (.iconst 3, 1) := by decide +kernel
theorem dX12_isOf_26 : decode cX12_isOf 26 = .ok (.if_icmp .ne 13, 3) := by decide +kernel
theorem dX12_isOf_29 : decode cX12_isOf 29 = .ok (.iload_n 0, 1) := by decide +kernel
theorem dX12_isOf_30 : decode cX12_isOf 30 = .ok (.bipush 6, 2) := by decide +kernel
theorem dX12_isOf_32 : decode cX12_isOf 32 = .ok (.if_icmp .ne 7, 3) := by decide +kernel
theorem dX12_isOf_35 : decode cX12_isOf 35 = .ok (.iconst 1, 1) := by decide +kernel
theorem dX12_isOf_36 : decode cX12_isOf 36 = .ok (.goto 4, 3) := by decide +kernel
theorem dX12_isOf_39 : decode cX12_isOf 39 = .ok (.iconst 0, 1) := by decide +kernel
theorem dX12_isOf_40 : decode cX12_isOf 40 = .ok (.ireturn, 1) := by decide +kernel
theorem dX12_as_0 : decode cX12_as 0 = .ok (.iload_n 1, 1) := by decide +kernel
theorem dX12_as_1 : decode cX12_as 1 = .ok (.invokestatic 335, 3) := by decide +kernel
theorem dX12_as_4 : decode cX12_as 4 = .ok (.ifCond .eq 13, 3) := by decide +kernel
theorem dX12_as_7 : decode cX12_as 7 = .ok (.iload_n 2, 1) := by decide +kernel
theorem dX12_as_8 : decode cX12_as 8 = .ok (.iconst 0, 1) := by decide +kernel
theorem dX12_as_9 : decode cX12_as 9 = .ok (.bipush 6, 2) := by decide +kernel
theorem dX12_as_11 : decode cX12_as 11 = .ok (.invokestatic 65, 3) := by decide +kernel
theorem dX12_as_14 : decode cX12_as 14 = .ok (.ifCond .ne 9, 3) := by decide +kernel
theorem dX12_as_17 : decode cX12_as 17 = .ok (.aload_n 0, 1) := by decide +kernel
theorem dX12_as_18 : decode cX12_as 18 = .ok (.iconst 0, 1) := by decide +kernel
theorem dX12_as_19 : decode cX12_as 19 = .ok (.invokevirtual 73, 3) := by decide +kernel
theorem dX12_as_22 : decode cX12_as 22 = .ok (.ireturn, 1) := by decide +kernel
theorem dX12_as_23 : decode cX12_as 23 = .ok (.aload_n 0, 1) := by decide +kernel
theorem dX12_as_24 : decode cX12_as 24 = .ok (.getfield 7, 3) := by decide +kernel
theorem dX12_as_27 : decode cX12_as 27 = .ok (.sipush 966, 3) := by decide +kernel
theorem dX12_as_30 : decode cX12_as 30 = .ok (.iload_n 1, 1) := by decide +kernel
theorem dX12_as_31 : decode cX12_as 31 = .ok (.iadd, 1) := by decide +kernel
theorem dX12_as_32 : decode cX12_as 32 = .ok (.iaload, 1) := by decide +kernel
theorem dX12_as_33 : decode cX12_as 33 = .ok (.istore_n 3, 1) := by decide +kernel
theorem dX12_as_34 : decode cX12_as 34 = .ok (.iload_n 3, 1) := by decide +kernel
theorem dX12_as_35 : decode cX12_as 35 = .ok (.ifCond .ge 9, 3) := by decide +kernel
theorem dX12_as_38 : decode cX12_as 38 = .ok (.aload_n 0, 1) := by decide +kernel
theorem dX12_as_39 : decode cX12_as 39 = .ok (.iconst 5, 1) := by decide +kernel
theorem dX12_as_40 : decode cX12_as 40 = .ok (.invokevirtual 73, 3) := by decide +kernel
theorem dX12_as_43 : decode cX12_as 43 = .ok (.ireturn, 1) := by decide +kernel
theorem dX12_as_44 : decode cX12_as 44 = .ok (.aload_n 0, 1) := by decide +kernel
theorem dX12_as_45 : decode cX12_as 45 = .ok (.iload_n 3, 1) := by decide +kernel
theorem dX12_as_46 : decode cX12_as 46 = .ok (.iconst 0, 1) := by decide +kernel
theorem dX12_as_47 : decode cX12_as 47 = .ok (.invokevirtual 136, 3) := by decide +kernel
theorem dX12_as_50 : decode cX12_as 50 = .ok (.iload_n 2, 1) := by decide +kernel
theorem dX12_as_51 : decode cX12_as 51 = .ok (.invokestatic 338, 3) := by decide +kernel
theorem dX12_as_54 : decode cX12_as 54 = .ok (.ifCond .eq 7, 3) := by decide +kernel
theorem dX12_as_57 : decode cX12_as 57 = .ok (.iload_n 3, 1) := by decide +kernel
theorem dX12_as_58 : decode cX12_as 58 = .ok (.goto 8, 3) := by decide +kernel
theorem dX12_as_61 : decode cX12_as 61 = .ok (.aload_n 0, 1) := by decide +kernel
theorem dX12_as_62 : decode cX12_as 62 = .ok (.iconst 2, 1) := by decide +kernel
theorem dX12_as_63 : decode cX12_as 63 = .ok (.invokevirtual 73, 3) := by decide +kernel
theorem dX12_as_66 : decode cX12_as 66 = .ok (.ireturn, 1) := by decide +kernel
theorem dX12_isSheet_0 : decode cX12_isSheet 0 = .ok (.iload_n 0, 1) := by decide +kernel
theorem dX12_isSheet_1 : decode cX12_isSheet 1 = .ok (.iconst 0, 1) := by decide +kernel
theorem dX12_isSheet_2 : decode cX12_isSheet 2 = .ok (.iconst 3, 1) := by decide +kernel
theorem dX12_isSheet_3 : decode cX12_isSheet 3 = .ok (.invokestatic 65, 3) := by decide +kernel
theorem dX12_isSheet_6 : decode cX12_isSheet 6 = .ok (.ireturn, 1) := by decide +kernel
theorem dX12_sheet_0 : decode cX12_sheet 0 = .ok (.iload_n 1, 1) := by decide +kernel
theorem dX12_sheet_1 : decode cX12_sheet 1 = .ok (.invokestatic 341, 3) := by decide +kernel
theorem dX12_sheet_4 : decode cX12_sheet 4 = .ok (.ifCond .eq 25, 3) := by decide +kernel
theorem dX12_sheet_7 : decode cX12_sheet 7 = .ok (.iload_n 2, 1) := by decide +kernel
theorem dX12_sheet_8 : decode cX12_sheet 8 = .ok (.ifCond .eq 27, 3) := by decide +kernel
theorem dX12_sheet_11 : decode cX12_sheet 11 = .ok (.iload_n 2, 1) := by decide +kernel
theorem dX12_sheet_12 : decode cX12_sheet 12 = .ok (.bipush 8, 2) := by decide +kernel
theorem dX12_sheet_14 : decode cX12_sheet 14 = .ok (.if_icmp .eq 21, 3) := by decide +kernel
theorem dX12_sheet_17 : decode cX12_sheet 17 = .ok (.iload_n 2, 1) := by decide +kernel
theorem dX12_sheet_18 : decode cX12_sheet 18 = .ok (.bipush 16, 2) := by decide +kernel
theorem dX12_sheet_20 : decode cX12_sheet 20 = .ok (.if_icmp .eq 15, 3) := by decide +kernel
theorem dX12_sheet_23 : decode cX12_sheet 23 = .ok (.iload_n 2, 1) := by decide +kernel
theorem dX12_sheet_24 : decode cX12_sheet 24 = .ok (.bipush 32, 2) := by decide +kernel
theorem dX12_sheet_26 : decode cX12_sheet 26 = .ok (.if_icmp .eq 9, 3) := by decide +kernel
theorem dX12_sheet_29 : decode cX12_sheet 29 = .ok (.aload_n 0, 1) := by decide +kernel
theorem dX12_sheet_30 : decode cX12_sheet 30 = .ok (.iconst 0, 1) := by decide +kernel
theorem dX12_sheet_31 : decode cX12_sheet 31 = .ok (.invokevirtual 73, 3) := by decide +kernel
theorem dX12_sheet_34 : decode cX12_sheet 34 = .ok (.ireturn, 1) := by decide +kernel
theorem dX12_sheet_35 : decode cX12_sheet 35 = .ok (.iload_n 3, 1) := by decide +kernel
theorem dX12_sheet_36 : decode cX12_sheet 36 = .ok (.ifCond .ge 10, 3) := by decide +kernel
theorem dX12_sheet_39 : decode cX12_sheet 39 = .ok (.aload_n 0, 1) := by decide +kernel
theorem dX12_sheet_40 : decode cX12_sheet 40 = .ok (.bipush 6, 2) := by decide +kernel
theorem dX12_sheet_42 : decode cX12_sheet 42 = .ok (.invokevirtual 73, 3) := by decide +kernel
theorem dX12_sheet_45 : decode cX12_sheet 45 = .ok (.ireturn, 1) := by decide +kernel
theorem dX12_sheet_46 : decode cX12_sheet 46 = .ok (.iload_n 3, 1) := by decide +kernel
theorem dX12_sheet_47 : decode cX12_sheet 47 = .ok (.bipush 60, 2) := by decide +kernel
theorem dX12_sheet_49 : decode cX12_sheet 49 = .ok (.if_icmp .le 9, 3) := by decide +kernel
theorem dX12_sheet_52 : decode cX12_sheet 52 = .ok (.aload_n 0, 1) := by decide +kernel
theorem dX12_sheet_53 : decode cX12_sheet 53 = .ok (.iconst 0, 1) := by decide +kernel
theorem dX12_sheet_54 : decode cX12_sheet 54 = .ok (.invokevirtual 73, 3) := by decide +kernel
theorem dX12_sheet_57 : decode cX12_sheet 57 = .ok (.ireturn, 1) := by decide +kernel
theorem dX12_sheet_58 : decode cX12_sheet 58 = .ok (.aload_n 0, 1) := by decide +kernel
theorem dX12_sheet_59 : decode cX12_sheet 59 = .ok (.getfield 52, 3) := by decide +kernel
theorem dX12_sheet_62 : decode cX12_sheet 62 = .ok (.iload_n 1, 1) := by decide +kernel
theorem dX12_sheet_63 : decode cX12_sheet 63 = .ok (.iload_n 2, 1) := by decide +kernel
theorem dX12_sheet_64 : decode cX12_sheet 64 = .ok (.iastore, 1) := by decide +kernel
theorem dX12_sheet_65 : decode cX12_sheet 65 = .ok (.aload_n 0, 1) := by decide +kernel
theorem dX12_sheet_66 : decode cX12_sheet 66 = .ok (.getfield 55, 3) := by decide +kernel
theorem dX12_sheet_69 : decode cX12_sheet 69 = .ok (.iload_n 1, 1) := by decide +kernel
theorem dX12_sheet_70 : decode cX12_sheet 70 = .ok (.iload_n 2, 1) := by decide +kernel
theorem dX12_sheet_71 : decode cX12_sheet 71 = .ok (.ifCond .ne 7, 3) := by decide +kernel
theorem dX12_sheet_74 : decode cX12_sheet 74 = .ok (.iconst 0, 1) := by decide +kernel
theorem dX12_sheet_75 : decode cX12_sheet 75 = .ok (.goto 4, 3) := by decide +kernel
theorem dX12_sheet_78 : decode cX12_sheet 78 = .ok (.iload_n 3, 1) := by decide +kernel
theorem dX12_sheet_79 : decode cX12_sheet 79 = .ok (.iastore, 1) := by decide +kernel
theorem dX12_sheet_80 : decode cX12_sheet 80 = .ok (.iconst 0, 1) := by decide +kernel
theorem dX12_sheet_81 : decode cX12_sheet 81 = .ok (.istore 4, 2) := by decide +kernel
theorem dX12_sheet_83 : decode cX12_sheet 83 = .ok (.iload 4, 2) := by decide +kernel
theorem dX12_sheet_85 : decode cX12_sheet 85 = .ok (.bipush 60, 2) := by decide +kernel
theorem dX12_sheet_87 : decode cX12_sheet 87 = .ok (.if_icmp .ge 22, 3) := by decide +kernel
theorem dX12_sheet_90 : decode cX12_sheet 90 = .ok (.aload_n 0, 1) := by decide +kernel
theorem dX12_sheet_91 : decode cX12_sheet 91 = .ok (.getfield 58, 3) := by decide +kernel
theorem dX12_sheet_94 : decode cX12_sheet 94 = .ok (.bipush 60, 2) := by decide +kernel
theorem dX12_sheet_96 : decode cX12_sheet 96 = .ok (.iload_n 1, 1) := by decide +kernel
theorem dX12_sheet_97 : decode cX12_sheet 97 = .ok (.imul, 1) := by decide +kernel
theorem dX12_sheet_98 : decode cX12_sheet 98 = .ok (.iload 4, 2) := by decide +kernel
theorem dX12_sheet_100 : decode cX12_sheet 100 = .ok (.iadd, 1) := by decide +kernel
theorem dX12_sheet_101 : decode cX12_sheet 101 = .ok (.iconst 0, 1) := by decide +kernel
theorem dX12_sheet_102 : decode cX12_sheet 102 = .ok (.iastore, 1) := by decide +kernel
theorem dX12_sheet_103 : decode cX12_sheet 103 = .ok (.iinc 4 1, 3) := by decide +kernel
theorem dX12_sheet_106 : decode cX12_sheet 106 = .ok (.goto (-23), 3) := by decide +kernel
theorem dX12_sheet_109 : decode cX12_sheet 109 = .ok (.aload_n 0, 1) := by decide +kernel
theorem dX12_sheet_110 : decode cX12_sheet 110 = .ok (.getfield 55, 3) := by decide +kernel
theorem dX12_sheet_113 : decode cX12_sheet 113 = .ok (.iload_n 1, 1) := by decide +kernel
theorem dX12_sheet_114 : decode cX12_sheet 114 = .ok (.iaload, 1) := by decide +kernel
theorem dX12_sheet_115 : decode cX12_sheet 115 = .ok (.ireturn, 1) := by decide +kernel
theorem dX12_write_0 : decode cX12_write 0 = .ok (.iload_n 1, 1) := by decide +kernel
theorem dX12_write_1 : decode cX12_write 1 = .ok (.invokestatic 341, 3) := by decide +kernel
theorem dX12_write_4 : decode cX12_write 4 = .ok (.ifCond .ne 9, 3) := by decide +kernel
theorem dX12_write_7 : decode cX12_write 7 = .ok (.aload_n 0, 1) := by decide +kernel
theorem dX12_write_8 : decode cX12_write 8 = .ok (.iconst 0, 1) := by decide +kernel
theorem dX12_write_9 : decode cX12_write 9 = .ok (.invokevirtual 73, 3) := by decide +kernel
theorem dX12_write_12 : decode cX12_write 12 = .ok (.ireturn, 1) := by decide +kernel
theorem dX12_write_13 : decode cX12_write 13 = .ok (.aload_n 0, 1) := by decide +kernel
theorem dX12_write_14 : decode cX12_write 14 = .ok (.getfield 52, 3) := by decide +kernel
theorem dX12_write_17 : decode cX12_write 17 = .ok (.iload_n 1, 1) := by decide +kernel
theorem dX12_write_18 : decode cX12_write 18 = .ok (.iaload, 1) := by decide +kernel
theorem dX12_write_19 : decode cX12_write 19 = .ok (.ifCond .ne 9, 3) := by decide +kernel
theorem dX12_write_22 : decode cX12_write 22 = .ok (.aload_n 0, 1) := by decide +kernel
theorem dX12_write_23 : decode cX12_write 23 = .ok (.iconst 5, 1) := by decide +kernel
theorem dX12_write_24 : decode cX12_write 24 = .ok (.invokevirtual 73, 3) := by decide +kernel
theorem dX12_write_27 : decode cX12_write 27 = .ok (.ireturn, 1) := by decide +kernel
theorem dX12_write_28 : decode cX12_write 28 = .ok (.iload_n 2, 1) := by decide +kernel
theorem dX12_write_29 : decode cX12_write 29 = .ok (.iconst 0, 1) := by decide +kernel
theorem dX12_write_30 : decode cX12_write 30 = .ok (.aload_n 0, 1) := by decide +kernel
theorem dX12_write_31 : decode cX12_write 31 = .ok (.getfield 55, 3) := by decide +kernel
theorem dX12_write_34 : decode cX12_write 34 = .ok (.iload_n 1, 1) := by decide +kernel
theorem dX12_write_35 : decode cX12_write 35 = .ok (.iaload, 1) := by decide +kernel
theorem dX12_write_36 : decode cX12_write 36 = .ok (.iconst 1, 1) := by decide +kernel
theorem dX12_write_37 : decode cX12_write 37 = .ok (.isub, 1) := by decide +kernel
theorem dX12_write_38 : decode cX12_write 38 = .ok (.invokestatic 65, 3) := by decide +kernel
theorem dX12_write_41 : decode cX12_write 41 = .ok (.ifCond .ne 9, 3) := by decide +kernel
theorem dX12_write_44 : decode cX12_write 44 = .ok (.aload_n 0, 1) := by decide +kernel
theorem dX12_write_45 : decode cX12_write 45 = .ok (.iconst 0, 1) := by decide +kernel
theorem dX12_write_46 : decode cX12_write 46 = .ok (.invokevirtual 73, 3) := by decide +kernel
theorem dX12_write_49 : decode cX12_write 49 = .ok (.ireturn, 1) := by decide +kernel
theorem dX12_write_50 : decode cX12_write 50 = .ok (.bipush 32, 2) := by decide +kernel
theorem dX12_write_52 : decode cX12_write 52 = .ok (.aload_n 0, 1) := by decide +kernel
theorem dX12_write_53 : decode cX12_write 53 = .ok (.getfield 52, 3) := by decide +kernel
theorem dX12_write_56 : decode cX12_write 56 = .ok (.iload_n 1, 1) := by decide +kernel
theorem dX12_write_57 : decode cX12_write 57 = .ok (.iaload, 1) := by decide +kernel
theorem dX12_write_58 : decode cX12_write 58 = .ok (.isub, 1) := by decide +kernel
theorem dX12_write_59 : decode cX12_write 59 = .ok (.istore 4, 2) := by decide +kernel
theorem dX12_write_61 : decode cX12_write 61 = .ok (.aload_n 0, 1) := by decide +kernel
theorem dX12_write_62 : decode cX12_write 62 = .ok (.getfield 58, 3) := by decide +kernel
theorem dX12_write_65 : decode cX12_write 65 = .ok (.bipush 60, 2) := by decide +kernel
theorem dX12_write_67 : decode cX12_write 67 = .ok (.iload_n 1, 1) := by decide +kernel
theorem dX12_write_68 : decode cX12_write 68 = .ok (.imul, 1) := by decide +kernel
theorem dX12_write_69 : decode cX12_write 69 = .ok (.iload_n 2, 1) := by decide +kernel
theorem dX12_write_70 : decode cX12_write 70 = .ok (.iadd, 1) := by decide +kernel
theorem dX12_write_71 : decode cX12_write 71 = .ok (.iload_n 3, 1) := by decide +kernel
theorem dX12_write_72 : decode cX12_write 72 = .ok (.iload 4, 2) := by decide +kernel
theorem dX12_write_74 : decode cX12_write 74 = .ok (.ishl, 1) := by decide +kernel
theorem dX12_write_75 : decode cX12_write 75 = .ok (.iload 4, 2) := by decide +kernel
theorem dX12_write_77 : decode cX12_write 77 = .ok (.ishr, 1) := by decide +kernel
theorem dX12_write_78 : decode cX12_write 78 = .ok (.iastore, 1) := by decide +kernel
theorem dX12_write_79 : decode cX12_write 79 = .ok (.iconst 1, 1) := by decide +kernel
theorem dX12_write_80 : decode cX12_write 80 = .ok (.ireturn, 1) := by decide +kernel
theorem dX12_copy_0 : decode cX12_copy 0 = .ok (.iload_n 1, 1) := by decide +kernel
theorem dX12_copy_1 : decode cX12_copy 1 = .ok (.invokestatic 341, 3) := by decide +kernel
theorem dX12_copy_4 : decode cX12_copy 4 = .ok (.ifCond .eq 10, 3) := by decide +kernel
theorem dX12_copy_7 : decode cX12_copy 7 = .ok (.iload_n 3, 1) := by decide +kernel
theorem dX12_copy_8 : decode cX12_copy 8 = .ok (.invokestatic 341, 3) := by decide +kernel
theorem dX12_copy_11 : decode cX12_copy 11 = .ok (.ifCond .ne 9, 3) := by decide +kernel
theorem dX12_copy_14 : decode cX12_copy 14 = .ok (.aload_n 0, 1) := by decide +kernel
theorem dX12_copy_15 : decode cX12_copy 15 = .ok (.iconst 0, 1) := by decide +kernel
theorem dX12_copy_16 : decode cX12_copy 16 = .ok (.invokevirtual 73, 3) := by decide +kernel
theorem dX12_copy_19 : decode cX12_copy 19 = .ok (.ireturn, 1) := by decide +kernel
theorem dX12_copy_20 : decode cX12_copy 20 = .ok (.aload_n 0, 1) := by decide +kernel
theorem dX12_copy_21 : decode cX12_copy 21 = .ok (.getfield 52, 3) := by decide +kernel
theorem dX12_copy_24 : decode cX12_copy 24 = .ok (.iload_n 1, 1) := by decide +kernel
theorem dX12_copy_25 : decode cX12_copy 25 = .ok (.iaload, 1) := by decide +kernel
theorem dX12_copy_26 : decode cX12_copy 26 = .ok (.ifCond .eq 12, 3) := by decide +kernel
theorem dX12_copy_29 : decode cX12_copy 29 = .ok (.aload_n 0, 1) := by decide +kernel
theorem dX12_copy_30 : decode cX12_copy 30 = .ok (.getfield 52, 3) := by decide +kernel
theorem dX12_copy_33 : decode cX12_copy 33 = .ok (.iload_n 3, 1) := by decide +kernel
theorem dX12_copy_34 : decode cX12_copy 34 = .ok (.iaload, 1) := by decide +kernel
theorem dX12_copy_35 : decode cX12_copy 35 = .ok (.ifCond .ne 9, 3) := by decide +kernel
theorem dX12_copy_38 : decode cX12_copy 38 = .ok (.aload_n 0, 1) := by decide +kernel
theorem dX12_copy_39 : decode cX12_copy 39 = .ok (.iconst 5, 1) := by decide +kernel
theorem dX12_copy_40 : decode cX12_copy 40 = .ok (.invokevirtual 73, 3) := by decide +kernel
theorem dX12_copy_43 : decode cX12_copy 43 = .ok (.ireturn, 1) := by decide +kernel
theorem dX12_copy_44 : decode cX12_copy 44 = .ok (.aload_n 0, 1) := by decide +kernel
theorem dX12_copy_45 : decode cX12_copy 45 = .ok (.getfield 52, 3) := by decide +kernel
theorem dX12_copy_48 : decode cX12_copy 48 = .ok (.iload_n 1, 1) := by decide +kernel
theorem dX12_copy_49 : decode cX12_copy 49 = .ok (.iaload, 1) := by decide +kernel
theorem dX12_copy_50 : decode cX12_copy 50 = .ok (.aload_n 0, 1) := by decide +kernel
theorem dX12_copy_51 : decode cX12_copy 51 = .ok (.getfield 52, 3) := by decide +kernel
theorem dX12_copy_54 : decode cX12_copy 54 = .ok (.iload_n 3, 1) := by decide +kernel
theorem dX12_copy_55 : decode cX12_copy 55 = .ok (.iaload, 1) := by decide +kernel
theorem dX12_copy_56 : decode cX12_copy 56 = .ok (.if_icmp .eq 9, 3) := by decide +kernel
theorem dX12_copy_59 : decode cX12_copy 59 = .ok (.aload_n 0, 1) := by decide +kernel
theorem dX12_copy_60 : decode cX12_copy 60 = .ok (.iconst 2, 1) := by decide +kernel
theorem dX12_copy_61 : decode cX12_copy 61 = .ok (.invokevirtual 73, 3) := by decide +kernel
theorem dX12_copy_64 : decode cX12_copy 64 = .ok (.ireturn, 1) := by decide +kernel
theorem dX12_copy_65 : decode cX12_copy 65 = .ok (.iload_n 2, 1) := by decide +kernel
theorem dX12_copy_66 : decode cX12_copy 66 = .ok (.ifCond .lt 40, 3) := by decide +kernel
theorem dX12_copy_69 : decode cX12_copy 69 = .ok (.iload 4, 2) := by decide +kernel
theorem dX12_copy_71 : decode cX12_copy 71 = .ok (.ifCond .lt 35, 3) := by decide +kernel
theorem dX12_copy_74 : decode cX12_copy 74 = .ok (.iload 5, 2) := by decide +kernel
theorem dX12_copy_76 : decode cX12_copy 76 = .ok (.ifCond .lt 30, 3) := by decide +kernel
theorem dX12_copy_79 : decode cX12_copy 79 = .ok (.iload_n 2, 1) := by decide +kernel
theorem dX12_copy_80 : decode cX12_copy 80 = .ok (.aload_n 0, 1) := by decide +kernel
theorem dX12_copy_81 : decode cX12_copy 81 = .ok (.getfield 55, 3) := by decide +kernel
theorem dX12_copy_84 : decode cX12_copy 84 = .ok (.iload_n 1, 1) := by decide +kernel
theorem dX12_copy_85 : decode cX12_copy 85 = .ok (.iaload, 1) := by decide +kernel
theorem dX12_copy_86 : decode cX12_copy 86 = .ok (.iload 5, 2) := by decide +kernel
theorem dX12_copy_88 : decode cX12_copy 88 = .ok (.isub, 1) := by decide +kernel
theorem dX12_copy_89 : decode cX12_copy 89 = .ok (.if_icmp .gt 17, 3) := by decide +kernel
theorem dX12_copy_92 : decode cX12_copy 92 = .ok (.iload 4, 2) := by decide +kernel
theorem dX12_copy_94 : decode cX12_copy 94 = .ok (.aload_n 0, 1) := by decide +kernel
theorem dX12_copy_95 : decode cX12_copy 95 = .ok (.getfield 55, 3) := by decide +kernel
theorem dX12_copy_98 : decode cX12_copy 98 = .ok (.iload_n 3, 1) := by decide +kernel
theorem dX12_copy_99 : decode cX12_copy 99 = .ok (.iaload, 1) := by decide +kernel
theorem dX12_copy_100 : decode cX12_copy 100 = .ok (.iload 5, 2) := by decide +kernel
theorem dX12_copy_102 : decode cX12_copy 102 = .ok (.isub, 1) := by decide +kernel
theorem dX12_copy_103 : decode cX12_copy 103 = .ok (.if_icmp .le 9, 3) := by decide +kernel
theorem dX12_copy_106 : decode cX12_copy 106 = .ok (.aload_n 0, 1) := by decide +kernel
theorem dX12_copy_107 : decode cX12_copy 107 = .ok (.iconst 0, 1) := by decide +kernel
theorem dX12_copy_108 : decode cX12_copy 108 = .ok (.invokevirtual 73, 3) := by decide +kernel
theorem dX12_copy_111 : decode cX12_copy 111 = .ok (.ireturn, 1) := by decide +kernel
theorem dX12_copy_112 : decode cX12_copy 112 = .ok (.iconst 0, 1) := by decide +kernel
theorem dX12_copy_113 : decode cX12_copy 113 = .ok (.istore 6, 2) := by decide +kernel
theorem dX12_copy_115 : decode cX12_copy 115 = .ok (.iload 6, 2) := by decide +kernel
theorem dX12_copy_117 : decode cX12_copy 117 = .ok (.iload 5, 2) := by decide +kernel
theorem dX12_copy_119 : decode cX12_copy 119 = .ok (.if_icmp .ge 30, 3) := by decide +kernel
theorem dX12_copy_122 : decode cX12_copy 122 = .ok (.aload_n 0, 1) := by decide +kernel
theorem dX12_copy_123 : decode cX12_copy 123 = .ok (.getfield 61, 3) := by decide +kernel
theorem dX12_copy_126 : decode cX12_copy 126 = .ok (.iload 6, 2) := by decide +kernel
theorem dX12_copy_128 : decode cX12_copy 128 = .ok (.aload_n 0, 1) := by decide +kernel
theorem dX12_copy_129 : decode cX12_copy 129 = .ok (.getfield 58, 3) := by decide +kernel
theorem dX12_copy_132 : decode cX12_copy 132 = .ok (.bipush 60, 2) := by decide +kernel
theorem dX12_copy_134 : decode cX12_copy 134 = .ok (.iload_n 1, 1) := by decide +kernel
theorem dX12_copy_135 : decode cX12_copy 135 = .ok (.imul, 1) := by decide +kernel
theorem dX12_copy_136 : decode cX12_copy 136 = .ok (.iload_n 2, 1) := by decide +kernel
theorem dX12_copy_137 : decode cX12_copy 137 = .ok (.iadd, 1) := by decide +kernel
theorem dX12_copy_138 : decode cX12_copy 138 = .ok (.iload 6, 2) := by decide +kernel
theorem dX12_copy_140 : decode cX12_copy 140 = .ok (.iadd, 1) := by decide +kernel
theorem dX12_copy_141 : decode cX12_copy 141 = .ok (.iaload, 1) := by decide +kernel
theorem dX12_copy_142 : decode cX12_copy 142 = .ok (.iastore, 1) := by decide +kernel
theorem dX12_copy_143 : decode cX12_copy 143 = .ok (.iinc 6 1, 3) := by decide +kernel
theorem dX12_copy_146 : decode cX12_copy 146 = .ok (.goto (-31), 3) := by decide +kernel
theorem dX12_copy_149 : decode cX12_copy 149 = .ok (.iconst 0, 1) := by decide +kernel
theorem dX12_copy_150 : decode cX12_copy 150 = .ok (.istore 6, 2) := by decide +kernel
theorem dX12_copy_152 : decode cX12_copy 152 = .ok (.iload 6, 2) := by decide +kernel
theorem dX12_copy_154 : decode cX12_copy 154 = .ok (.iload 5, 2) := by decide +kernel
theorem dX12_copy_156 : decode cX12_copy 156 = .ok (.if_icmp .ge 31, 3) := by decide +kernel
theorem dX12_copy_159 : decode cX12_copy 159 = .ok (.aload_n 0, 1) := by decide +kernel
theorem dX12_copy_160 : decode cX12_copy 160 = .ok (.getfield 58, 3) := by decide +kernel
theorem dX12_copy_163 : decode cX12_copy 163 = .ok (.bipush 60, 2) := by decide +kernel
theorem dX12_copy_165 : decode cX12_copy 165 = .ok (.iload_n 3, 1) := by decide +kernel
theorem dX12_copy_166 : decode cX12_copy 166 = .ok (.imul, 1) := by decide +kernel
theorem dX12_copy_167 : decode cX12_copy 167 = .ok (.iload 4, 2) := by decide +kernel
theorem dX12_copy_169 : decode cX12_copy 169 = .ok (.iadd, 1) := by decide +kernel
theorem dX12_copy_170 : decode cX12_copy 170 = .ok (.iload 6, 2) := by decide +kernel
theorem dX12_copy_172 : decode cX12_copy 172 = .ok (.iadd, 1) := by decide +kernel
theorem dX12_copy_173 : decode cX12_copy 173 = .ok (.aload_n 0, 1) := by decide +kernel
theorem dX12_copy_174 : decode cX12_copy 174 = .ok (.getfield 61, 3) := by decide +kernel
theorem dX12_copy_177 : decode cX12_copy 177 = .ok (.iload 6, 2) := by decide +kernel
theorem dX12_copy_179 : decode cX12_copy 179 = .ok (.iaload, 1) := by decide +kernel
theorem dX12_copy_180 : decode cX12_copy 180 = .ok (.iastore, 1) := by decide +kernel
theorem dX12_copy_181 : decode cX12_copy 181 = .ok (.iinc 6 1, 3) := by decide +kernel
theorem dX12_copy_184 : decode cX12_copy 184 = .ok (.goto (-32), 3) := by decide +kernel
theorem dX12_copy_187 : decode cX12_copy 187 = .ok (.iload 5, 2) := by decide +kernel
theorem dX12_copy_189 : decode cX12_copy 189 = .ok (.ireturn, 1) := by decide +kernel
theorem dX12_roads_0 : decode cX12_roads 0 = .ok (.iload_n 1, 1) := by decide +kernel
theorem dX12_roads_1 : decode cX12_roads 1 = .ok (.invokestatic 341, 3) := by decide +kernel
theorem dX12_roads_4 : decode cX12_roads 4 = .ok (.ifCond .ne 9, 3) := by decide +kernel
theorem dX12_roads_7 : decode cX12_roads 7 = .ok (.aload_n 0, 1) := by decide +kernel
theorem dX12_roads_8 : decode cX12_roads 8 = .ok (.iconst 0, 1) := by decide +kernel
theorem dX12_roads_9 : decode cX12_roads 9 = .ok (.invokevirtual 73, 3) := by decide +kernel
theorem dX12_roads_12 : decode cX12_roads 12 = .ok (.ireturn, 1) := by decide +kernel
theorem dX12_roads_13 : decode cX12_roads 13 = .ok (.aload_n 0, 1) := by decide +kernel
theorem dX12_roads_14 : decode cX12_roads 14 = .ok (.getfield 52, 3) := by decide +kernel
theorem dX12_roads_17 : decode cX12_roads 17 = .ok (.iload_n 1, 1) := by decide +kernel
theorem dX12_roads_18 : decode cX12_roads 18 = .ok (.iaload, 1) := by decide +kernel
theorem dX12_roads_19 : decode cX12_roads 19 = .ok (.ifCond .ne 9, 3) := by decide +kernel
theorem dX12_roads_22 : decode cX12_roads 22 = .ok (.aload_n 0, 1) := by decide +kernel
theorem dX12_roads_23 : decode cX12_roads 23 = .ok (.iconst 5, 1) := by decide +kernel
theorem dX12_roads_24 : decode cX12_roads 24 = .ok (.invokevirtual 73, 3) := by decide +kernel
theorem dX12_roads_27 : decode cX12_roads 27 = .ok (.ireturn, 1) := by decide +kernel
theorem dX12_roads_28 : decode cX12_roads 28 = .ok (.iconst 0, 1) := by decide +kernel
theorem dX12_roads_29 : decode cX12_roads 29 = .ok (.istore_n 2, 1) := by decide +kernel
theorem dX12_roads_30 : decode cX12_roads 30 = .ok (.iconst 1, 1) := by decide +kernel
theorem dX12_roads_31 : decode cX12_roads 31 = .ok (.istore_n 3, 1) := by decide +kernel
theorem dX12_roads_32 : decode cX12_roads 32 = .ok (.iconst 0, 1) := by decide +kernel
theorem dX12_roads_33 : decode cX12_roads 33 = .ok (.istore 4, 2) := by decide +kernel
theorem dX12_roads_35 : decode cX12_roads 35 = .ok (.iload 4, 2) := by decide +kernel
theorem dX12_roads_37 : decode cX12_roads 37 = .ok (.iconst 2, 1) := by decide +kernel
theorem dX12_roads_38 : decode cX12_roads 38 = .ok (.iadd, 1) := by decide +kernel
theorem dX12_roads_39 : decode cX12_roads 39 = .ok (.aload_n 0, 1) := by decide +kernel
theorem dX12_roads_40 : decode cX12_roads 40 = .ok (.getfield 55, 3) := by decide +kernel
theorem dX12_roads_43 : decode cX12_roads 43 = .ok (.iload_n 1, 1) := by decide +kernel
theorem dX12_roads_44 : decode cX12_roads 44 = .ok (.iaload, 1) := by decide +kernel
theorem dX12_roads_45 : decode cX12_roads 45 = .ok (.if_icmp .ge 88, 3) := by decide +kernel
theorem dX12_roads_48 : decode cX12_roads 48 = .ok (.iload_n 3, 1) := by decide +kernel
theorem dX12_roads_49 : decode cX12_roads 49 = .ok (.ifCond .eq 84, 3) := by decide +kernel
theorem dX12_roads_52 : decode cX12_roads 52 = .ok (.aload_n 0, 1) := by decide +kernel
theorem dX12_roads_53 : decode cX12_roads 53 = .ok (.getfield 58, 3) := by decide +kernel
theorem dX12_roads_56 : decode cX12_roads 56 = .ok (.bipush 60, 2) := by decide +kernel
theorem dX12_roads_58 : decode cX12_roads 58 = .ok (.iload_n 1, 1) := by decide +kernel
theorem dX12_roads_59 : decode cX12_roads 59 = .ok (.imul, 1) := by decide +kernel
theorem dX12_roads_60 : decode cX12_roads 60 = .ok (.iload 4, 2) := by decide +kernel
theorem dX12_roads_62 : decode cX12_roads 62 = .ok (.iadd, 1) := by decide +kernel
theorem dX12_roads_63 : decode cX12_roads 63 = .ok (.iaload, 1) := by decide +kernel
theorem dX12_roads_64 : decode cX12_roads 64 = .ok (.istore 5, 2) := by decide +kernel
theorem dX12_roads_66 : decode cX12_roads 66 = .ok (.aload_n 0, 1) := by decide +kernel
theorem dX12_roads_67 : decode cX12_roads 67 = .ok (.getfield 58, 3) := by decide +kernel
theorem dX12_roads_70 : decode cX12_roads 70 = .ok (.bipush 60, 2) := by decide +kernel
theorem dX12_roads_72 : decode cX12_roads 72 = .ok (.iload_n 1, 1) := by decide +kernel
theorem dX12_roads_73 : decode cX12_roads 73 = .ok (.imul, 1) := by decide +kernel
theorem dX12_roads_74 : decode cX12_roads 74 = .ok (.iload 4, 2) := by decide +kernel
theorem dX12_roads_76 : decode cX12_roads 76 = .ok (.iadd, 1) := by decide +kernel
theorem dX12_roads_77 : decode cX12_roads 77 = .ok (.iconst 1, 1) := by decide +kernel
theorem dX12_roads_78 : decode cX12_roads 78 = .ok (.iadd, 1) := by decide +kernel
theorem dX12_roads_79 : decode cX12_roads 79 = .ok (.iaload, 1) := by decide +kernel
theorem dX12_roads_80 : decode cX12_roads 80 = .ok (.istore 6, 2) := by decide +kernel
theorem dX12_roads_82 : decode cX12_roads 82 = .ok (.aload_n 0, 1) := by decide +kernel
theorem dX12_roads_83 : decode cX12_roads 83 = .ok (.getfield 58, 3) := by decide +kernel
theorem dX12_roads_86 : decode cX12_roads 86 = .ok (.bipush 60, 2) := by decide +kernel
theorem dX12_roads_88 : decode cX12_roads 88 = .ok (.iload_n 1, 1) := by decide +kernel
theorem dX12_roads_89 : decode cX12_roads 89 = .ok (.imul, 1) := by decide +kernel
theorem dX12_roads_90 : decode cX12_roads 90 = .ok (.iload 4, 2) := by decide +kernel
theorem dX12_roads_92 : decode cX12_roads 92 = .ok (.iadd, 1) := by decide +kernel
theorem dX12_roads_93 : decode cX12_roads 93 = .ok (.iconst 2, 1) := by decide +kernel
theorem dX12_roads_94 : decode cX12_roads 94 = .ok (.iadd, 1) := by decide +kernel
theorem dX12_roads_95 : decode cX12_roads 95 = .ok (.iaload, 1) := by decide +kernel
theorem dX12_roads_96 : decode cX12_roads 96 = .ok (.istore 7, 2) := by decide +kernel
theorem dX12_roads_98 : decode cX12_roads 98 = .ok (.iload 5, 2) := by decide +kernel
theorem dX12_roads_100 : decode cX12_roads 100 = .ok (.iload 6, 2) := by decide +kernel
theorem dX12_roads_102 : decode cX12_roads 102 = .ok (.iload 7, 2) := by decide +kernel
theorem dX12_roads_104 : decode cX12_roads 104 = .ok (.invokestatic 85, 3) := by decide +kernel
theorem dX12_roads_107 : decode cX12_roads 107 = .ok (.istore_n 3, 1) := by decide +kernel
theorem dX12_roads_108 : decode cX12_roads 108 = .ok (.iload_n 3, 1) := by decide +kernel
theorem dX12_roads_109 : decode cX12_roads 109 = .ok (.ifCond .eq 18, 3) := by decide +kernel
theorem dX12_roads_112 : decode cX12_roads 112 = .ok (.aload_n 0, 1) := by decide +kernel
theorem dX12_roads_113 : decode cX12_roads 113 = .ok (.iload 5, 2) := by decide +kernel
theorem dX12_roads_115 : decode cX12_roads 115 = .ok (.iload 6, 2) := by decide +kernel
theorem dX12_roads_117 : decode cX12_roads 117 = .ok (.iload 7, 2) := by decide +kernel
theorem dX12_roads_119 : decode cX12_roads 119 = .ok (.invokevirtual 88, 3) := by decide +kernel
theorem dX12_roads_122 : decode cX12_roads 122 = .ok (.istore 8, 2) := by decide +kernel
theorem dX12_roads_124 : decode cX12_roads 124 = .ok (.iinc 2 1, 3) := by decide +kernel
theorem dX12_roads_127 : decode cX12_roads 127 = .ok (.iinc 4 3, 3) := by decide +kernel
theorem dX12_roads_130 : decode cX12_roads 130 = .ok (.goto (-95), 3) := by decide +kernel
theorem dX12_roads_133 : decode cX12_roads 133 = .ok (.iload_n 2, 1) := by decide +kernel
theorem dX12_roads_134 : decode cX12_roads 134 = .ok (.ireturn, 1) := by decide +kernel
theorem dX12_judge_0 : decode cX12_judge 0 = .ok (.iload_n 1, 1) := by decide +kernel
theorem dX12_judge_1 : decode cX12_judge 1 = .ok (.invokestatic 341, 3) := by decide +kernel
theorem dX12_judge_4 : decode cX12_judge 4 = .ok (.ifCond .ne 9, 3) := by decide +kernel
theorem dX12_judge_7 : decode cX12_judge 7 = .ok (.aload_n 0, 1) := by decide +kernel
theorem dX12_judge_8 : decode cX12_judge 8 = .ok (.iconst 0, 1) := by decide +kernel
theorem dX12_judge_9 : decode cX12_judge 9 = .ok (.invokevirtual 73, 3) := by decide +kernel
theorem dX12_judge_12 : decode cX12_judge 12 = .ok (.ireturn, 1) := by decide +kernel
theorem dX12_judge_13 : decode cX12_judge 13 = .ok (.aload_n 0, 1) := by decide +kernel
theorem dX12_judge_14 : decode cX12_judge 14 = .ok (.getfield 52, 3) := by decide +kernel
theorem dX12_judge_17 : decode cX12_judge 17 = .ok (.iload_n 1, 1) := by decide +kernel
theorem dX12_judge_18 : decode cX12_judge 18 = .ok (.iaload, 1) := by decide +kernel
theorem dX12_judge_19 : decode cX12_judge 19 = .ok (.ifCond .ne 9, 3) := by decide +kernel
theorem dX12_judge_22 : decode cX12_judge 22 = .ok (.aload_n 0, 1) := by decide +kernel
theorem dX12_judge_23 : decode cX12_judge 23 = .ok (.iconst 5, 1) := by decide +kernel
theorem dX12_judge_24 : decode cX12_judge 24 = .ok (.invokevirtual 73, 3) := by decide +kernel
theorem dX12_judge_27 : decode cX12_judge 27 = .ok (.ireturn, 1) := by decide +kernel
theorem dX12_judge_28 : decode cX12_judge 28 = .ok (.aload_n 0, 1) := by decide +kernel
theorem dX12_judge_29 : decode cX12_judge 29 = .ok (.iload_n 2, 1) := by decide +kernel
theorem dX12_judge_30 : decode cX12_judge 30 = .ok (.invokevirtual 296, 3) := by decide +kernel
theorem dX12_judge_33 : decode cX12_judge 33 = .ok (.ifCond .ne 9, 3) := by decide +kernel
theorem dX12_judge_36 : decode cX12_judge 36 = .ok (.aload_n 0, 1) := by decide +kernel
theorem dX12_judge_37 : decode cX12_judge 37 = .ok (.iconst 0, 1) := by decide +kernel
theorem dX12_judge_38 : decode cX12_judge 38 = .ok (.invokevirtual 73, 3) := by decide +kernel
theorem dX12_judge_41 : decode cX12_judge 41 = .ok (.ireturn, 1) := by decide +kernel
theorem dX12_judge_42 : decode cX12_judge 42 = .ok (.aload_n 0, 1) := by decide +kernel
theorem dX12_judge_43 : decode cX12_judge 43 = .ok (.iload_n 2, 1) := by decide +kernel
theorem dX12_judge_44 : decode cX12_judge 44 = .ok (.invokevirtual 332, 3) := by decide +kernel
theorem dX12_judge_47 : decode cX12_judge 47 = .ok (.iconst 0, 1) := by decide +kernel
theorem dX12_judge_48 : decode cX12_judge 48 = .ok (.istore_n 3, 1) := by decide +kernel
theorem dX12_judge_49 : decode cX12_judge 49 = .ok (.iload_n 3, 1) := by decide +kernel
theorem dX12_judge_50 : decode cX12_judge 50 = .ok (.aload_n 0, 1) := by decide +kernel
theorem dX12_judge_51 : decode cX12_judge 51 = .ok (.getfield 55, 3) := by decide +kernel
theorem dX12_judge_54 : decode cX12_judge 54 = .ok (.iload_n 1, 1) := by decide +kernel
theorem dX12_judge_55 : decode cX12_judge 55 = .ok (.iaload, 1) := by decide +kernel
theorem dX12_judge_56 : decode cX12_judge 56 = .ok (.if_icmp .ge 39, 3) := by decide +kernel
theorem dX12_judge_59 : decode cX12_judge 59 = .ok (.iload_n 3, 1) := by decide +kernel
theorem dX12_judge_60 : decode cX12_judge 60 = .ok (.aload_n 0, 1) := by decide +kernel
theorem dX12_judge_61 : decode cX12_judge 61 = .ok (.getfield 7, 3) := by decide +kernel
theorem dX12_judge_64 : decode cX12_judge 64 = .ok (.iconst 2, 1) := by decide +kernel
theorem dX12_judge_65 : decode cX12_judge 65 = .ok (.iaload, 1) := by decide +kernel
theorem dX12_judge_66 : decode cX12_judge 66 = .ok (.if_icmp .ge 29, 3) := by decide +kernel
theorem dX12_judge_69 : decode cX12_judge 69 = .ok (.aload_n 0, 1) := by decide +kernel
theorem dX12_judge_70 : decode cX12_judge 70 = .ok (.getfield 58, 3) := by decide +kernel
theorem dX12_judge_73 : decode cX12_judge 73 = .ok (.bipush 60, 2) := by decide +kernel
theorem dX12_judge_75 : decode cX12_judge 75 = .ok (.iload_n 1, 1) := by decide +kernel
theorem dX12_judge_76 : decode cX12_judge 76 = .ok (.imul, 1) := by decide +kernel
theorem dX12_judge_77 : decode cX12_judge 77 = .ok (.iload_n 3, 1) := by decide +kernel
theorem dX12_judge_78 : decode cX12_judge 78 = .ok (.iadd, 1) := by decide +kernel
theorem dX12_judge_79 : decode cX12_judge 79 = .ok (.iaload, 1) := by decide +kernel
theorem dX12_judge_80 : decode cX12_judge 80 = .ok (.aload_n 0, 1) := by decide +kernel
theorem dX12_judge_81 : decode cX12_judge 81 = .ok (.getfield 49, 3) := by decide +kernel
theorem dX12_judge_84 : decode cX12_judge 84 = .ok (.iload_n 3, 1) := by decide +kernel
theorem dX12_judge_85 : decode cX12_judge 85 = .ok (.iaload, 1) := by decide +kernel
theorem dX12_judge_86 : decode cX12_judge 86 = .ok (.if_icmp .ne 9, 3) := by decide +kernel
theorem dX12_judge_89 : decode cX12_judge 89 = .ok (.iinc 3 1, 3) := by decide +kernel
theorem dX12_judge_92 : decode cX12_judge 92 = .ok (.goto (-43), 3) := by decide +kernel
theorem dX12_judge_95 : decode cX12_judge 95 = .ok (.iload_n 3, 1) := by decide +kernel
theorem dX12_judge_96 : decode cX12_judge 96 = .ok (.aload_n 0, 1) := by decide +kernel
theorem dX12_judge_97 : decode cX12_judge 97 = .ok (.getfield 55, 3) := by decide +kernel
theorem dX12_judge_100 : decode cX12_judge 100 = .ok (.iload_n 1, 1) := by decide +kernel
theorem dX12_judge_101 : decode cX12_judge 101 = .ok (.iaload, 1) := by decide +kernel
theorem dX12_judge_102 : decode cX12_judge 102 = .ok (.if_icmp .ne 17, 3) := by decide +kernel
theorem dX12_judge_105 : decode cX12_judge 105 = .ok (.iload_n 3, 1) := by decide +kernel
theorem dX12_judge_106 : decode cX12_judge 106 = .ok (.aload_n 0, 1) := by decide +kernel
theorem dX12_judge_107 : decode cX12_judge 107 = .ok (.getfield 7, 3) := by decide +kernel
theorem dX12_judge_110 : decode cX12_judge 110 = .ok (.iconst 2, 1) := by decide +kernel
theorem dX12_judge_111 : decode cX12_judge 111 = .ok (.iaload, 1) := by decide +kernel
theorem dX12_judge_112 : decode cX12_judge 112 = .ok (.if_icmp .ne 7, 3) := by decide +kernel
theorem dX12_judge_115 : decode cX12_judge 115 = .ok (.iconst 0, 1) := by decide +kernel
theorem dX12_judge_116 : decode cX12_judge 116 = .ok (.goto 6, 3) := by decide +kernel
theorem dX12_judge_119 : decode cX12_judge 119 = .ok (.iconst 1, 1) := by decide +kernel
theorem dX12_judge_120 : decode cX12_judge 120 = .ok (.iload_n 3, 1) := by decide +kernel
theorem dX12_judge_121 : decode cX12_judge 121 = .ok (.iadd, 1) := by decide +kernel
theorem dX12_judge_122 : decode cX12_judge 122 = .ok (.ireturn, 1) := by decide +kernel
theorem dX12_image_0 : decode cX12_image 0 = .ok (.iconst 0, 1) := by decide +kernel
theorem dX12_image_1 : decode cX12_image 1 = .ok (.istore_n 1, 1) := by decide +kernel
theorem dX12_image_2 : decode cX12_image 2 = .ok (.iload_n 1, 1) := by decide +kernel
theorem dX12_image_3 : decode cX12_image 3 = .ok (.sipush 2296, 3) := by decide +kernel
theorem dX12_image_6 : decode cX12_image 6 = .ok (.if_icmp .ge 21, 3) := by decide +kernel
theorem dX12_image_9 : decode cX12_image 9 = .ok (.aload_n 0, 1) := by decide +kernel
theorem dX12_image_10 : decode cX12_image 10 = .ok (.getfield 13, 3) := by decide +kernel
theorem dX12_image_13 : decode cX12_image 13 = .ok (.iload_n 1, 1) := by decide +kernel
theorem dX12_image_14 : decode cX12_image 14 = .ok (.aload_n 0, 1) := by decide +kernel
theorem dX12_image_15 : decode cX12_image 15 = .ok (.getfield 7, 3) := by decide +kernel
theorem dX12_image_18 : decode cX12_image 18 = .ok (.iload_n 1, 1) := by decide +kernel
theorem dX12_image_19 : decode cX12_image 19 = .ok (.iaload, 1) := by decide +kernel
theorem dX12_image_20 : decode cX12_image 20 = .ok (.iastore, 1) := by decide +kernel
theorem dX12_image_21 : decode cX12_image 21 = .ok (.iinc 1 1, 3) := by decide +kernel
theorem dX12_image_24 : decode cX12_image 24 = .ok (.goto (-22), 3) := by decide +kernel
theorem dX12_image_27 : decode cX12_image 27 = .ok (.aload_n 0, 1) := by decide +kernel
theorem dX12_image_28 : decode cX12_image 28 = .ok (.iconst 1, 1) := by decide +kernel
theorem dX12_image_29 : decode cX12_image 29 = .ok (.putfield 344, 3) := by decide +kernel
theorem dX12_image_32 : decode cX12_image 32 = .ok (.iconst 1, 1) := by decide +kernel
theorem dX12_image_33 : decode cX12_image 33 = .ok (.ireturn, 1) := by decide +kernel
theorem dX12_undo_0 : decode cX12_undo 0 = .ok (.aload_n 0, 1) := by decide +kernel
theorem dX12_undo_1 : decode cX12_undo 1 = .ok (.getfield 344, 3) := by decide +kernel
theorem dX12_undo_4 : decode cX12_undo 4 = .ok (.ifCond .ne 9, 3) := by decide +kernel
theorem dX12_undo_7 : decode cX12_undo 7 = .ok (.aload_n 0, 1) := by decide +kernel
theorem dX12_undo_8 : decode cX12_undo 8 = .ok (.iconst 3, 1) := by decide +kernel
theorem dX12_undo_9 : decode cX12_undo 9 = .ok (.invokevirtual 73, 3) := by decide +kernel
theorem dX12_undo_12 : decode cX12_undo 12 = .ok (.ireturn, 1) := by decide +kernel
theorem dX12_undo_13 : decode cX12_undo 13 = .ok (.iconst 0, 1) := by decide +kernel
theorem dX12_undo_14 : decode cX12_undo 14 = .ok (.istore_n 1, 1) := by decide +kernel
theorem dX12_undo_15 : decode cX12_undo 15 = .ok (.iload_n 1, 1) := by decide +kernel
theorem dX12_undo_16 : decode cX12_undo 16 = .ok (.sipush 2296, 3) := by decide +kernel
theorem dX12_undo_19 : decode cX12_undo 19 = .ok (.if_icmp .ge 21, 3) := by decide +kernel
theorem dX12_undo_22 : decode cX12_undo 22 = .ok (.aload_n 0, 1) := by decide +kernel
theorem dX12_undo_23 : decode cX12_undo 23 = .ok (.getfield 7, 3) := by decide +kernel
theorem dX12_undo_26 : decode cX12_undo 26 = .ok (.iload_n 1, 1) := by decide +kernel
theorem dX12_undo_27 : decode cX12_undo 27 = .ok (.aload_n 0, 1) := by decide +kernel
theorem dX12_undo_28 : decode cX12_undo 28 = .ok (.getfield 13, 3) := by decide +kernel
theorem dX12_undo_31 : decode cX12_undo 31 = .ok (.iload_n 1, 1) := by decide +kernel
theorem dX12_undo_32 : decode cX12_undo 32 = .ok (.iaload, 1) := by decide +kernel
theorem dX12_undo_33 : decode cX12_undo 33 = .ok (.iastore, 1) := by decide +kernel
theorem dX12_undo_34 : decode cX12_undo 34 = .ok (.iinc 1 1, 3) := by decide +kernel
theorem dX12_undo_37 : decode cX12_undo 37 = .ok (.goto (-22), 3) := by decide +kernel
theorem dX12_undo_40 : decode cX12_undo 40 = .ok (.aload_n 0, 1) := by decide +kernel
theorem dX12_undo_41 : decode cX12_undo 41 = .ok (.iconst 0, 1) := by decide +kernel
theorem dX12_undo_42 : decode cX12_undo 42 = .ok (.putfield 77, 3) := by decide +kernel
theorem dX12_undo_45 : decode cX12_undo 45 = .ok (.aload_n 0, 1) := by decide +kernel
theorem dX12_undo_46 : decode cX12_undo 46 = .ok (.getfield 7, 3) := by decide +kernel
theorem dX12_undo_49 : decode cX12_undo 49 = .ok (.iconst 0, 1) := by decide +kernel
theorem dX12_undo_50 : decode cX12_undo 50 = .ok (.iaload, 1) := by decide +kernel
theorem dX12_undo_51 : decode cX12_undo 51 = .ok (.ireturn, 1) := by decide +kernel
theorem dX12_tear_0 : decode cX12_tear 0 = .ok (.aload_n 0, 1) := by decide +kernel
theorem dX12_tear_1 : decode cX12_tear 1 = .ok (.getfield 344, 3) := by decide +kernel
theorem dX12_tear_4 : decode cX12_tear 4 = .ok (.ifCond .eq 7, 3) := by decide +kernel
theorem dX12_tear_7 : decode cX12_tear 7 = .ok (.iconst 1, 1) := by decide +kernel
theorem dX12_tear_8 : decode cX12_tear 8 = .ok (.goto 4, 3) := by decide +kernel
theorem dX12_tear_11 : decode cX12_tear 11 = .ok (.iconst 0, 1) := by decide +kernel
theorem dX12_tear_12 : decode cX12_tear 12 = .ok (.istore_n 1, 1) := by decide +kernel
theorem dX12_tear_13 : decode cX12_tear 13 = .ok (.aload_n 0, 1) := by decide +kernel
theorem dX12_tear_14 : decode cX12_tear 14 = .ok (.iconst 0, 1) := by decide +kernel
theorem dX12_tear_15 : decode cX12_tear 15 = .ok (.putfield 344, 3) := by decide +kernel
theorem dX12_tear_18 : decode cX12_tear 18 = .ok (.iload_n 1, 1) := by decide +kernel
theorem dX12_tear_19 : decode cX12_tear 19 = .ok (.ireturn, 1) := by decide +kernel
theorem dX12_count_0 : decode cX12_count 0 = .ok (.iload_n 1, 1) := by decide +kernel
theorem dX12_count_1 : decode cX12_count 1 = .ok (.tableswitch 121 0 6 #[43, 50, 57, 64, 102, 109, 116], 43) := by decide +kernel
theorem dX12_count_44 : decode cX12_count 44 = .ok (.aload_n 0, 1) := by decide +kernel
theorem dX12_count_45 : decode cX12_count 45 = .ok (.getfield 7, 3) := by decide +kernel
theorem dX12_count_48 : decode cX12_count 48 = .ok (.iconst 0, 1) := by decide +kernel
theorem dX12_count_49 : decode cX12_count 49 = .ok (.iaload, 1) := by decide +kernel
theorem dX12_count_50 : decode cX12_count 50 = .ok (.ireturn, 1) := by decide +kernel
theorem dX12_count_51 : decode cX12_count 51 = .ok (.aload_n 0, 1) := by decide +kernel
theorem dX12_count_52 : decode cX12_count 52 = .ok (.getfield 7, 3) := by decide +kernel
theorem dX12_count_55 : decode cX12_count 55 = .ok (.iconst 1, 1) := by decide +kernel
theorem dX12_count_56 : decode cX12_count 56 = .ok (.iaload, 1) := by decide +kernel
theorem dX12_count_57 : decode cX12_count 57 = .ok (.ireturn, 1) := by decide +kernel
theorem dX12_count_58 : decode cX12_count 58 = .ok (.aload_n 0, 1) := by decide +kernel
theorem dX12_count_59 : decode cX12_count 59 = .ok (.getfield 7, 3) := by decide +kernel
theorem dX12_count_62 : decode cX12_count 62 = .ok (.iconst 2, 1) := by decide +kernel
theorem dX12_count_63 : decode cX12_count 63 = .ok (.iaload, 1) := by decide +kernel
theorem dX12_count_64 : decode cX12_count 64 = .ok (.ireturn, 1) := by decide +kernel
theorem dX12_count_65 : decode cX12_count 65 = .ok (.iconst 0, 1) := by decide +kernel
theorem dX12_count_66 : decode cX12_count 66 = .ok (.istore_n 2, 1) := by decide +kernel
theorem dX12_count_67 : decode cX12_count 67 = .ok (.iconst 0, 1) := by decide +kernel
theorem dX12_count_68 : decode cX12_count 68 = .ok (.istore_n 3, 1) := by decide +kernel
theorem dX12_count_69 : decode cX12_count 69 = .ok (.iload_n 3, 1) := by decide +kernel
theorem dX12_count_70 : decode cX12_count 70 = .ok (.aload_n 0, 1) := by decide +kernel
theorem dX12_count_71 : decode cX12_count 71 = .ok (.getfield 7, 3) := by decide +kernel
theorem dX12_count_74 : decode cX12_count 74 = .ok (.iconst 2, 1) := by decide +kernel
theorem dX12_count_75 : decode cX12_count 75 = .ok (.iaload, 1) := by decide +kernel
theorem dX12_count_76 : decode cX12_count 76 = .ok (.if_icmp .ge 25, 3) := by decide +kernel
theorem dX12_count_79 : decode cX12_count 79 = .ok (.iload_n 2, 1) := by decide +kernel
theorem dX12_count_80 : decode cX12_count 80 = .ok (.aload_n 0, 1) := by decide +kernel
theorem dX12_count_81 : decode cX12_count 81 = .ok (.iload_n 3, 1) := by decide +kernel
theorem dX12_count_82 : decode cX12_count 82 = .ok (.invokevirtual 129, 3) := by decide +kernel
theorem dX12_count_85 : decode cX12_count 85 = .ok (.ifCond .eq 7, 3) := by decide +kernel
theorem dX12_count_88 : decode cX12_count 88 = .ok (.iconst 1, 1) := by decide +kernel
theorem dX12_count_89 : decode cX12_count 89 = .ok (.goto 4, 3) := by decide +kernel
theorem dX12_count_92 : decode cX12_count 92 = .ok (.iconst 0, 1) := by decide +kernel
theorem dX12_count_93 : decode cX12_count 93 = .ok (.iadd, 1) := by decide +kernel
theorem dX12_count_94 : decode cX12_count 94 = .ok (.istore_n 2, 1) := by decide +kernel
theorem dX12_count_95 : decode cX12_count 95 = .ok (.iinc 3 1, 3) := by decide +kernel
theorem dX12_count_98 : decode cX12_count 98 = .ok (.goto (-29), 3) := by decide +kernel
theorem dX12_count_101 : decode cX12_count 101 = .ok (.iload_n 2, 1) := by decide +kernel
theorem dX12_count_102 : decode cX12_count 102 = .ok (.ireturn, 1) := by decide +kernel
theorem dX12_count_103 : decode cX12_count 103 = .ok (.aload_n 0, 1) := by decide +kernel
theorem dX12_count_104 : decode cX12_count 104 = .ok (.getfield 7, 3) := by decide +kernel
theorem dX12_count_107 : decode cX12_count 107 = .ok (.iconst 3, 1) := by decide +kernel
theorem dX12_count_108 : decode cX12_count 108 = .ok (.iaload, 1) := by decide +kernel
theorem dX12_count_109 : decode cX12_count 109 = .ok (.ireturn, 1) := by decide +kernel
theorem dX12_count_110 : decode cX12_count 110 = .ok (.aload_n 0, 1) := by decide +kernel
theorem dX12_count_111 : decode cX12_count 111 = .ok (.getfield 7, 3) := by decide +kernel
theorem dX12_count_114 : decode cX12_count 114 = .ok (.iconst 4, 1) := by decide +kernel
theorem dX12_count_115 : decode cX12_count 115 = .ok (.iaload, 1) := by decide +kernel
theorem dX12_count_116 : decode cX12_count 116 = .ok (.ireturn, 1) := by decide +kernel
theorem dX12_count_117 : decode cX12_count 117 = .ok (.aload_n 0, 1) := by decide +kernel
theorem dX12_count_118 : decode cX12_count 118 = .ok (.getfield 235, 3) := by decide +kernel
theorem dX12_count_121 : decode cX12_count 121 = .ok (.ireturn, 1) := by decide +kernel
theorem dX12_count_122 : decode cX12_count 122 = .ok (.aload_n 0, 1) := by decide +kernel
theorem dX12_count_123 : decode cX12_count 123 = .ok (.iconst 0, 1) := by decide +kernel
theorem dX12_count_124 : decode cX12_count 124 = .ok (.invokevirtual 73, 3) := by decide +kernel
theorem dX12_count_127 : decode cX12_count 127 = .ok (.ireturn, 1) := by decide +kernel
theorem dX12_status_0 : decode cX12_status 0 = .ok (.iload_n 1, 1) := by decide +kernel
theorem dX12_status_1 : decode cX12_status 1 = .ok (.iconst (-1), 1) := by decide +kernel
theorem dX12_status_2 : decode cX12_status 2 = .ok (.bipush 6, 2) := by decide +kernel
theorem dX12_status_4 : decode cX12_status 4 = .ok (.invokestatic 65, 3) := by decide +kernel
theorem dX12_status_7 : decode cX12_status 7 = .ok (.ifCond .ne 9, 3) := by decide +kernel
theorem dX12_status_10 : decode cX12_status 10 = .ok (.aload_n 0, 1) := by decide +kernel
theorem dX12_status_11 : decode cX12_status 11 = .ok (.iconst 0, 1) := by decide +kernel
theorem dX12_status_12 : decode cX12_status 12 = .ok (.invokevirtual 73, 3) := by decide +kernel
theorem dX12_status_15 : decode cX12_status 15 = .ok (.ireturn, 1) := by decide +kernel
theorem dX12_status_16 : decode cX12_status 16 = .ok (.iconst 0, 1) := by decide +kernel
theorem dX12_status_17 : decode cX12_status 17 = .ok (.istore_n 2, 1) := by decide +kernel
theorem dX12_status_18 : decode cX12_status 18 = .ok (.iconst 0, 1) := by decide +kernel
theorem dX12_status_19 : decode cX12_status 19 = .ok (.istore_n 3, 1) := by decide +kernel
theorem dX12_status_20 : decode cX12_status 20 = .ok (.iload_n 3, 1) := by decide +kernel
theorem dX12_status_21 : decode cX12_status 21 = .ok (.bipush 7, 2) := by decide +kernel
theorem dX12_status_23 : decode cX12_status 23 = .ok (.if_icmp .ge 32, 3) := by decide +kernel
theorem dX12_status_26 : decode cX12_status 26 = .ok (.iload_n 2, 1) := by decide +kernel
theorem dX12_status_27 : decode cX12_status 27 = .ok (.iload_n 1, 1) := by decide +kernel
theorem dX12_status_28 : decode cX12_status 28 = .ok (.iconst (-1), 1) := by decide +kernel
theorem dX12_status_29 : decode cX12_status 29 = .ok (.if_icmp .eq 8, 3) := by decide +kernel
theorem dX12_status_32 : decode cX12_status 32 = .ok (.iload_n 1, 1) := by decide +kernel
theorem dX12_status_33 : decode cX12_status 33 = .ok (.iload_n 3, 1) := by decide +kernel
theorem dX12_status_34 : decode cX12_status 34 = .ok (.if_icmp .ne 12, 3) := by decide +kernel
theorem dX12_status_37 : decode cX12_status 37 = .ok (.aload_n 0, 1) := by decide +kernel
theorem dX12_status_38 : decode cX12_status 38 = .ok (.getfield 16, 3) := by decide +kernel
theorem dX12_status_41 : decode cX12_status 41 = .ok (.iload_n 3, 1) := by decide +kernel
theorem dX12_status_42 : decode cX12_status 42 = .ok (.iaload, 1) := by decide +kernel
theorem dX12_status_43 : decode cX12_status 43 = .ok (.goto 4, 3) := by decide +kernel
theorem dX12_status_46 : decode cX12_status 46 = .ok (.iconst 0, 1) := by decide +kernel
theorem dX12_status_47 : decode cX12_status 47 = .ok (.iadd, 1) := by decide +kernel
theorem dX12_status_48 : decode cX12_status 48 = .ok (.istore_n 2, 1) := by decide +kernel
theorem dX12_status_49 : decode cX12_status 49 = .ok (.iinc 3 1, 3) := by decide +kernel
theorem dX12_status_52 : decode cX12_status 52 = .ok (.goto (-32), 3) := by decide +kernel
theorem dX12_status_55 : decode cX12_status 55 = .ok (.iload_n 2, 1) := by decide +kernel
theorem dX12_status_56 : decode cX12_status 56 = .ok (.ireturn, 1) := by decide +kernel
theorem dJ11_isValidCodePoint_9a6ad_0 : decode cJ11_isValidCodePoint_9a6ad 0 = .ok (.iload_n 0, 1) := by decide +kernel
theorem dJ11_isValidCodePoint_9a6ad_1 : decode cJ11_isValidCodePoint_9a6ad 1 = .ok (.bipush 16, 2) := by decide +kernel
theorem dJ11_isValidCodePoint_9a6ad_3 : decode cJ11_isValidCodePoint_9a6ad 3 = .ok (.iushr, 1) := by decide +kernel
theorem dJ11_isValidCodePoint_9a6ad_4 : decode cJ11_isValidCodePoint_9a6ad 4 = .ok (.istore_n 1, 1) := by decide +kernel
theorem dJ11_isValidCodePoint_9a6ad_5 : decode cJ11_isValidCodePoint_9a6ad 5 = .ok (.iload_n 1, 1) := by decide +kernel
theorem dJ11_isValidCodePoint_9a6ad_6 : decode cJ11_isValidCodePoint_9a6ad 6 = .ok (.bipush 17, 2) := by decide +kernel
theorem dJ11_isValidCodePoint_9a6ad_8 : decode cJ11_isValidCodePoint_9a6ad 8 = .ok (.if_icmp .ge 7, 3) := by decide +kernel
theorem dJ11_isValidCodePoint_9a6ad_11 : decode cJ11_isValidCodePoint_9a6ad 11 = .ok (.iconst 1, 1) := by decide +kernel
theorem dJ11_isValidCodePoint_9a6ad_12 : decode cJ11_isValidCodePoint_9a6ad 12 = .ok (.goto 4, 3) := by decide +kernel
theorem dJ11_isValidCodePoint_9a6ad_15 : decode cJ11_isValidCodePoint_9a6ad 15 = .ok (.iconst 0, 1) := by decide +kernel
theorem dJ11_isValidCodePoint_9a6ad_16 : decode cJ11_isValidCodePoint_9a6ad 16 = .ok (.ireturn, 1) := by decide +kernel
theorem dJ11_highSurrogate_5068e_0 : decode cJ11_highSurrogate_5068e 0 = .ok (.iload_n 0, 1) := by decide +kernel
theorem dJ11_highSurrogate_5068e_1 : decode cJ11_highSurrogate_5068e 1 = .ok (.bipush 10, 2) := by decide +kernel
theorem dJ11_highSurrogate_5068e_3 : decode cJ11_highSurrogate_5068e 3 = .ok (.iushr, 1) := by decide +kernel
theorem dJ11_highSurrogate_5068e_4 : decode cJ11_highSurrogate_5068e 4 = .ok (.ldc 110, 2) := by decide +kernel
theorem dJ11_highSurrogate_5068e_6 : decode cJ11_highSurrogate_5068e 6 = .ok (.iadd, 1) := by decide +kernel
theorem dJ11_highSurrogate_5068e_7 : decode cJ11_highSurrogate_5068e 7 = .ok (.i2c, 1) := by decide +kernel
theorem dJ11_highSurrogate_5068e_8 : decode cJ11_highSurrogate_5068e 8 = .ok (.ireturn, 1) := by decide +kernel
theorem dJ11_lowSurrogate_5068e_0 : decode cJ11_lowSurrogate_5068e 0 = .ok (.iload_n 0, 1) := by decide +kernel
theorem dJ11_lowSurrogate_5068e_1 : decode cJ11_lowSurrogate_5068e 1 = .ok (.sipush 1023, 3) := by decide +kernel
theorem dJ11_lowSurrogate_5068e_4 : decode cJ11_lowSurrogate_5068e 4 = .ok (.iand, 1) := by decide +kernel
theorem dJ11_lowSurrogate_5068e_5 : decode cJ11_lowSurrogate_5068e 5 = .ok (.ldc 76, 2) := by decide +kernel
theorem dJ11_lowSurrogate_5068e_7 : decode cJ11_lowSurrogate_5068e 7 = .ok (.iadd, 1) := by decide +kernel
theorem dJ11_lowSurrogate_5068e_8 : decode cJ11_lowSurrogate_5068e 8 = .ok (.i2c, 1) := by decide +kernel
theorem dJ11_lowSurrogate_5068e_9 : decode cJ11_lowSurrogate_5068e 9 = .ok (.ireturn, 1) := by decide +kernel
theorem dJ9_abs_0f7a4_0 : decode cJ9_abs_0f7a4 0 = .ok (.iload_n 0, 1) := by decide +kernel
theorem dJ9_abs_0f7a4_1 : decode cJ9_abs_0f7a4 1 = .ok (.ifCond .ge 8, 3) := by decide +kernel
theorem dJ9_abs_0f7a4_4 : decode cJ9_abs_0f7a4 4 = .ok (.iload_n 0, 1) := by decide +kernel
theorem dJ9_abs_0f7a4_5 : decode cJ9_abs_0f7a4 5 = .ok (.ineg, 1) := by decide +kernel
theorem dJ9_abs_0f7a4_6 : decode cJ9_abs_0f7a4 6 = .ok (.goto 4, 3) := by decide +kernel
theorem dJ9_abs_0f7a4_9 : decode cJ9_abs_0f7a4 9 = .ok (.iload_n 0, 1) := by decide +kernel
theorem dJ9_abs_0f7a4_10 : decode cJ9_abs_0f7a4 10 = .ok (.ireturn, 1) := by decide +kernel
theorem dJ9_max_7cf53_0 : decode cJ9_max_7cf53 0 = .ok (.iload_n 0, 1) := by decide +kernel
theorem dJ9_max_7cf53_1 : decode cJ9_max_7cf53 1 = .ok (.iload_n 1, 1) := by decide +kernel
theorem dJ9_max_7cf53_2 : decode cJ9_max_7cf53 2 = .ok (.if_icmp .lt 7, 3) := by decide +kernel
theorem dJ9_max_7cf53_5 : decode cJ9_max_7cf53 5 = .ok (.iload_n 0, 1) := by decide +kernel
theorem dJ9_max_7cf53_6 : decode cJ9_max_7cf53 6 = .ok (.goto 4, 3) := by decide +kernel
theorem dJ9_max_7cf53_9 : decode cJ9_max_7cf53 9 = .ok (.iload_n 1, 1) := by decide +kernel
theorem dJ9_max_7cf53_10 : decode cJ9_max_7cf53 10 = .ok (.ireturn, 1) := by decide +kernel
theorem dJ9_min_7cf53_0 : decode cJ9_min_7cf53 0 = .ok (.iload_n 0, 1) := by decide +kernel
theorem dJ9_min_7cf53_1 : decode cJ9_min_7cf53 1 = .ok (.iload_n 1, 1) := by decide +kernel
theorem dJ9_min_7cf53_2 : decode cJ9_min_7cf53 2 = .ok (.if_icmp .gt 7, 3) := by decide +kernel
theorem dJ9_min_7cf53_5 : decode cJ9_min_7cf53 5 = .ok (.iload_n 0, 1) := by decide +kernel
theorem dJ9_min_7cf53_6 : decode cJ9_min_7cf53 6 = .ok (.goto 4, 3) := by decide +kernel
theorem dJ9_min_7cf53_9 : decode cJ9_min_7cf53 9 = .ok (.iload_n 1, 1) := by decide +kernel
theorem dJ9_min_7cf53_10 : decode cJ9_min_7cf53 10 = .ok (.ireturn, 1) := by decide +kernel
theorem dJ0_length_8abf5_0 : decode cJ0_length_8abf5 0 = .ok (.aload_n 0, 1) := by decide +kernel
theorem dJ0_length_8abf5_1 : decode cJ0_length_8abf5 1 = .ok (.getfield 9, 3) := by decide +kernel
theorem dJ0_length_8abf5_4 : decode cJ0_length_8abf5 4 = .ok (.arraylength, 1) := by decide +kernel
theorem dJ0_length_8abf5_5 : decode cJ0_length_8abf5 5 = .ok (.aload_n 0, 1) := by decide +kernel
theorem dJ0_length_8abf5_6 : decode cJ0_length_8abf5 6 = .ok (.invokevirtual 335, 3) := by decide +kernel
theorem dJ0_length_8abf5_9 : decode cJ0_length_8abf5 9 = .ok (.ishr, 1) := by decide +kernel
theorem dJ0_length_8abf5_10 : decode cJ0_length_8abf5 10 = .ok (.ireturn, 1) := by decide +kernel
theorem dJ0_indexOf_0f7a4_0 : decode cJ0_indexOf_0f7a4 0 = .ok (.aload_n 0, 1) := by decide +kernel
theorem dJ0_indexOf_0f7a4_1 : decode cJ0_indexOf_0f7a4 1 = .ok (.iload_n 1, 1) := by decide +kernel
theorem dJ0_indexOf_0f7a4_2 : decode cJ0_indexOf_0f7a4 2 = .ok (.iconst 0, 1) := by decide +kernel
theorem dJ0_indexOf_0f7a4_3 : decode cJ0_indexOf_0f7a4 3 = .ok (.invokevirtual 633, 3) := by decide +kernel
theorem dJ0_indexOf_0f7a4_6 : decode cJ0_indexOf_0f7a4 6 = .ok (.ireturn, 1) := by decide +kernel
theorem dJ0_indexOf_7cf53_0 : decode cJ0_indexOf_7cf53 0 = .ok (.aload_n 0, 1) := by decide +kernel
theorem dJ0_indexOf_7cf53_1 : decode cJ0_indexOf_7cf53 1 = .ok (.invokevirtual 492, 3) := by decide +kernel
theorem dJ0_indexOf_7cf53_4 : decode cJ0_indexOf_7cf53 4 = .ok (.ifCond .eq 19, 3) := by decide +kernel
theorem dJ0_indexOf_7cf53_7 : decode cJ0_indexOf_7cf53 7 = .ok (.aload_n 0, 1) := by decide +kernel
theorem dJ0_indexOf_7cf53_8 : decode cJ0_indexOf_7cf53 8 = .ok (.getfield 9, 3) := by decide +kernel
theorem dJ0_indexOf_7cf53_11 : decode cJ0_indexOf_7cf53 11 = .ok (.iload_n 1, 1) := by decide +kernel
theorem dJ0_indexOf_7cf53_12 : decode cJ0_indexOf_7cf53 12 = .ok (.iload_n 2, 1) := by decide +kernel
theorem dJ0_indexOf_7cf53_13 : decode cJ0_indexOf_7cf53 13 = .ok (.aload_n 0, 1) := by decide +kernel
theorem dJ0_indexOf_7cf53_14 : decode cJ0_indexOf_7cf53 14 = .ok (.invokevirtual 505, 3) := by decide +kernel
theorem dJ0_indexOf_7cf53_17 : decode cJ0_indexOf_7cf53 17 = .ok (.invokestatic 637, 3) := by decide +kernel
theorem dJ0_indexOf_7cf53_20 : decode cJ0_indexOf_7cf53 20 = .ok (.goto 16, 3) := by decide +kernel
theorem dJ0_indexOf_7cf53_23 : decode cJ0_indexOf_7cf53 23 = .ok (.aload_n 0, 1) := by decide +kernel
theorem dJ0_indexOf_7cf53_24 : decode cJ0_indexOf_7cf53 24 = .ok (.getfield 9, 3) := by decide +kernel
theorem dJ0_indexOf_7cf53_27 : decode cJ0_indexOf_7cf53 27 = .ok (.iload_n 1, 1) := by decide +kernel
theorem dJ0_indexOf_7cf53_28 : decode cJ0_indexOf_7cf53 28 = .ok (.iload_n 2, 1) := by decide +kernel
theorem dJ0_indexOf_7cf53_29 : decode cJ0_indexOf_7cf53 29 = .ok (.aload_n 0, 1) := by decide +kernel
theorem dJ0_indexOf_7cf53_30 : decode cJ0_indexOf_7cf53 30 = .ok (.invokevirtual 505, 3) := by decide +kernel
theorem dJ0_indexOf_7cf53_33 : decode cJ0_indexOf_7cf53 33 = .ok (.invokestatic 640, 3) := by decide +kernel
theorem dJ0_indexOf_7cf53_36 : decode cJ0_indexOf_7cf53 36 = .ok (.ireturn, 1) := by decide +kernel
theorem dJ0_coder_7d493_0 : decode cJ0_coder_7d493 0 = .ok (.getstatic 38, 3) := by decide +kernel
theorem dJ0_coder_7d493_3 : decode cJ0_coder_7d493 3 = .ok (.ifCond .eq 10, 3) := by decide +kernel
theorem dJ0_coder_7d493_6 : decode cJ0_coder_7d493 6 = .ok (.aload_n 0, 1) := by decide +kernel
theorem dJ0_coder_7d493_7 : decode cJ0_coder_7d493 7 = .ok (.getfield 15, 3) := by decide +kernel
theorem dJ0_coder_7d493_10 : decode cJ0_coder_7d493 10 = .ok (.goto 4, 3) := by decide +kernel
theorem dJ0_coder_7d493_13 : decode cJ0_coder_7d493 13 = .ok (.iconst 1, 1) := by decide +kernel
theorem dJ0_coder_7d493_14 : decode cJ0_coder_7d493 14 = .ok (.ireturn, 1) := by decide +kernel
theorem dJ0_isLatin1_aae02_0 : decode cJ0_isLatin1_aae02 0 = .ok (.getstatic 38, 3) := by decide +kernel
theorem dJ0_isLatin1_aae02_3 : decode cJ0_isLatin1_aae02 3 = .ok (.ifCond .eq 14, 3) := by decide +kernel
theorem dJ0_isLatin1_aae02_6 : decode cJ0_isLatin1_aae02 6 = .ok (.aload_n 0, 1) := by decide +kernel
theorem dJ0_isLatin1_aae02_7 : decode cJ0_isLatin1_aae02 7 = .ok (.getfield 15, 3) := by decide +kernel
theorem dJ0_isLatin1_aae02_10 : decode cJ0_isLatin1_aae02 10 = .ok (.ifCond .ne 7, 3) := by decide +kernel
theorem dJ0_isLatin1_aae02_13 : decode cJ0_isLatin1_aae02 13 = .ok (.iconst 1, 1) := by decide +kernel
theorem dJ0_isLatin1_aae02_14 : decode cJ0_isLatin1_aae02 14 = .ok (.goto 4, 3) := by decide +kernel
theorem dJ0_isLatin1_aae02_17 : decode cJ0_isLatin1_aae02 17 = .ok (.iconst 0, 1) := by decide +kernel
theorem dJ0_isLatin1_aae02_18 : decode cJ0_isLatin1_aae02 18 = .ok (.ireturn, 1) := by decide +kernel
theorem dJ0_checkBoundsBeginEnd_23922_0 : decode cJ0_checkBoundsBeginEnd_23922 0 = .ok (.iload_n 0, 1) := by decide +kernel
theorem dJ0_checkBoundsBeginEnd_23922_1 : decode cJ0_checkBoundsBeginEnd_23922 1 = .ok (.iload_n 1, 1) := by decide +kernel
theorem dJ0_checkBoundsBeginEnd_23922_2 : decode cJ0_checkBoundsBeginEnd_23922 2 = .ok (.iload_n 2, 1) := by decide +kernel
theorem dJ0_checkBoundsBeginEnd_23922_3 : decode cJ0_checkBoundsBeginEnd_23922 3 = .ok (.getstatic 1053, 3) := by decide +kernel
theorem dJ0_checkBoundsBeginEnd_23922_6 : decode cJ0_checkBoundsBeginEnd_23922 6 = .ok (.invokestatic 1062, 3) := by decide +kernel
theorem dJ0_checkBoundsBeginEnd_23922_9 : decode cJ0_checkBoundsBeginEnd_23922 9 = .ok (.pop, 1) := by decide +kernel
theorem dJ0_checkBoundsBeginEnd_23922_10 : decode cJ0_checkBoundsBeginEnd_23922 10 = .ok (.return_, 1) := by decide +kernel
theorem dJ1_canEncode_9a6ad_0 : decode cJ1_canEncode_9a6ad 0 = .ok (.iload_n 0, 1) := by decide +kernel
theorem dJ1_canEncode_9a6ad_1 : decode cJ1_canEncode_9a6ad 1 = .ok (.ifCond .lt 14, 3) := by decide +kernel
theorem dJ1_canEncode_9a6ad_4 : decode cJ1_canEncode_9a6ad 4 = .ok (.iload_n 0, 1) := by decide +kernel
theorem dJ1_canEncode_9a6ad_5 : decode cJ1_canEncode_9a6ad 5 = .ok (.sipush 255, 3) := by decide +kernel
theorem dJ1_canEncode_9a6ad_8 : decode cJ1_canEncode_9a6ad 8 = .ok (.if_icmp .gt 7, 3) := by decide +kernel
theorem dJ1_canEncode_9a6ad_11 : decode cJ1_canEncode_9a6ad 11 = .ok (.iconst 1, 1) := by decide +kernel
theorem dJ1_canEncode_9a6ad_12 : decode cJ1_canEncode_9a6ad 12 = .ok (.goto 4, 3) := by decide +kernel
theorem dJ1_canEncode_9a6ad_15 : decode cJ1_canEncode_9a6ad 15 = .ok (.iconst 0, 1) := by decide +kernel
theorem dJ1_canEncode_9a6ad_16 : decode cJ1_canEncode_9a6ad 16 = .ok (.ireturn, 1) := by decide +kernel
theorem dJ1_indexOf_4cfef_0 : decode cJ1_indexOf_4cfef 0 = .ok (.iload_n 1, 1) := by decide +kernel
theorem dJ1_indexOf_4cfef_1 : decode cJ1_indexOf_4cfef 1 = .ok (.invokestatic 88, 3) := by decide +kernel
theorem dJ1_indexOf_4cfef_4 : decode cJ1_indexOf_4cfef 4 = .ok (.ifCond .ne 5, 3) := by decide +kernel
theorem dJ1_indexOf_4cfef_7 : decode cJ1_indexOf_4cfef 7 = .ok (.iconst (-1), 1) := by decide +kernel
theorem dJ1_indexOf_4cfef_8 : decode cJ1_indexOf_4cfef 8 = .ok (.ireturn, 1) := by decide +kernel
theorem dJ1_indexOf_4cfef_9 : decode cJ1_indexOf_4cfef 9 = .ok (.iload_n 2, 1) := by decide +kernel
theorem dJ1_indexOf_4cfef_10 : decode cJ1_indexOf_4cfef 10 = .ok (.iconst 0, 1) := by decide +kernel
theorem dJ1_indexOf_4cfef_11 : decode cJ1_indexOf_4cfef 11 = .ok (.invokestatic 92, 3) := by decide +kernel
theorem dJ1_indexOf_4cfef_14 : decode cJ1_indexOf_4cfef 14 = .ok (.istore_n 2, 1) := by decide +kernel
theorem dJ1_indexOf_4cfef_15 : decode cJ1_indexOf_4cfef 15 = .ok (.iload_n 3, 1) := by decide +kernel
theorem dJ1_indexOf_4cfef_16 : decode cJ1_indexOf_4cfef 16 = .ok (.aload_n 0, 1) := by decide +kernel
theorem dJ1_indexOf_4cfef_17 : decode cJ1_indexOf_4cfef 17 = .ok (.arraylength, 1) := by decide +kernel
theorem dJ1_indexOf_4cfef_18 : decode cJ1_indexOf_4cfef 18 = .ok (.invokestatic 38, 3) := by decide +kernel
theorem dJ1_indexOf_4cfef_21 : decode cJ1_indexOf_4cfef 21 = .ok (.istore_n 3, 1) := by decide +kernel
theorem dJ1_indexOf_4cfef_22 : decode cJ1_indexOf_4cfef 22 = .ok (.iload_n 2, 1) := by decide +kernel
theorem dJ1_indexOf_4cfef_23 : decode cJ1_indexOf_4cfef 23 = .ok (.iload_n 3, 1) := by decide +kernel
theorem dJ1_indexOf_4cfef_24 : decode cJ1_indexOf_4cfef 24 = .ok (.if_icmp .lt 5, 3) := by decide +kernel
theorem dJ1_indexOf_4cfef_27 : decode cJ1_indexOf_4cfef 27 = .ok (.iconst (-1), 1) := by decide +kernel
theorem dJ1_indexOf_4cfef_28 : decode cJ1_indexOf_4cfef 28 = .ok (.ireturn, 1) := by decide +kernel
theorem dJ1_indexOf_4cfef_29 : decode cJ1_indexOf_4cfef 29 = .ok (.aload_n 0, 1) := by decide +kernel
theorem dJ1_indexOf_4cfef_30 : decode cJ1_indexOf_4cfef 30 = .ok (.iload_n 1, 1) := by decide +kernel
theorem dJ1_indexOf_4cfef_31 : decode cJ1_indexOf_4cfef 31 = .ok (.iload_n 2, 1) := by decide +kernel
theorem dJ1_indexOf_4cfef_32 : decode cJ1_indexOf_4cfef 32 = .ok (.iload_n 3, 1) := by decide +kernel
theorem dJ1_indexOf_4cfef_33 : decode cJ1_indexOf_4cfef 33 = .ok (.invokestatic 95, 3) := by decide +kernel
theorem dJ1_indexOf_4cfef_36 : decode cJ1_indexOf_4cfef 36 = .ok (.ireturn, 1) := by decide +kernel
theorem dJ1_indexOfChar_4cfef_0 : decode cJ1_indexOfChar_4cfef 0 = .ok (.iload_n 1, 1) := by decide +kernel
theorem dJ1_indexOfChar_4cfef_1 : decode cJ1_indexOfChar_4cfef 1 = .ok (.i2b, 1) := by decide +kernel
theorem dJ1_indexOfChar_4cfef_2 : decode cJ1_indexOfChar_4cfef 2 = .ok (.istore 4, 2) := by decide +kernel
theorem dJ1_indexOfChar_4cfef_4 : decode cJ1_indexOfChar_4cfef 4 = .ok (.iload_n 2, 1) := by decide +kernel
theorem dJ1_indexOfChar_4cfef_5 : decode cJ1_indexOfChar_4cfef 5 = .ok (.istore 5, 2) := by decide +kernel
theorem dJ1_indexOfChar_4cfef_7 : decode cJ1_indexOfChar_4cfef 7 = .ok (.iload 5, 2) := by decide +kernel
theorem dJ1_indexOfChar_4cfef_9 : decode cJ1_indexOfChar_4cfef 9 = .ok (.iload_n 3, 1) := by decide +kernel
theorem dJ1_indexOfChar_4cfef_10 : decode cJ1_indexOfChar_4cfef 10 = .ok (.if_icmp .ge 21, 3) := by decide +kernel
theorem dJ1_indexOfChar_4cfef_13 : decode cJ1_indexOfChar_4cfef 13 = .ok (.aload_n 0, 1) := by decide +kernel
theorem dJ1_indexOfChar_4cfef_14 : decode cJ1_indexOfChar_4cfef 14 = .ok (.iload 5, 2) := by decide +kernel
theorem dJ1_indexOfChar_4cfef_16 : decode cJ1_indexOfChar_4cfef 16 = .ok (.baload, 1) := by decide +kernel
theorem dJ1_indexOfChar_4cfef_17 : decode cJ1_indexOfChar_4cfef 17 = .ok (.iload 4, 2) := by decide +kernel
theorem dJ1_indexOfChar_4cfef_19 : decode cJ1_indexOfChar_4cfef 19 = .ok (.if_icmp .ne 6, 3) := by decide +kernel
theorem dJ1_indexOfChar_4cfef_22 : decode cJ1_indexOfChar_4cfef 22 = .ok (.iload 5, 2) := by decide +kernel
theorem dJ1_indexOfChar_4cfef_24 : decode cJ1_indexOfChar_4cfef 24 = .ok (.ireturn, 1) := by decide +kernel
theorem dJ1_indexOfChar_4cfef_25 : decode cJ1_indexOfChar_4cfef 25 = .ok (.iinc 5 1, 3) := by decide +kernel
theorem dJ1_indexOfChar_4cfef_28 : decode cJ1_indexOfChar_4cfef 28 = .ok (.goto (-21), 3) := by decide +kernel
theorem dJ1_indexOfChar_4cfef_31 : decode cJ1_indexOfChar_4cfef 31 = .ok (.iconst (-1), 1) := by decide +kernel
theorem dJ1_indexOfChar_4cfef_32 : decode cJ1_indexOfChar_4cfef 32 = .ok (.ireturn, 1) := by decide +kernel
theorem dJ2_getChar_3b067_0 : decode cJ2_getChar_3b067 0 = .ok (.getstatic 44, 3) := by decide +kernel
theorem dJ2_getChar_3b067_3 : decode cJ2_getChar_3b067 3 = .ok (.ifCond .ne 25, 3) := by decide +kernel
theorem dJ2_getChar_3b067_6 : decode cJ2_getChar_3b067 6 = .ok (.iload_n 1, 1) := by decide +kernel
theorem dJ2_getChar_3b067_7 : decode cJ2_getChar_3b067 7 = .ok (.ifCond .lt 11, 3) := by decide +kernel
theorem dJ2_getChar_3b067_10 : decode cJ2_getChar_3b067 10 = .ok (.iload_n 1, 1) := by decide +kernel
theorem dJ2_getChar_3b067_11 : decode cJ2_getChar_3b067 11 = .ok (.aload_n 0, 1) := by decide +kernel
theorem dJ2_getChar_3b067_12 : decode cJ2_getChar_3b067 12 = .ok (.invokestatic 48, 3) := by decide +kernel
theorem dJ2_getChar_3b067_15 : decode cJ2_getChar_3b067 15 = .ok (.if_icmp .lt 13, 3) := by decide +kernel
theorem dJ2_getChar_3b067_18 : decode cJ2_getChar_3b067 18 = .ok (.new 52, 3) := by decide +kernel
theorem dJ2_getChar_3b067_21 : decode cJ2_getChar_3b067 21 = .ok (.dup, 1) := by decide +kernel
theorem dJ2_getChar_3b067_22 : decode cJ2_getChar_3b067 22 = .ok (.ldc 54, 2) := by decide +kernel
theorem dJ2_getChar_3b067_24 : decode cJ2_getChar_3b067 24 = .ok (.invokespecial 56, 3) := by decide +kernel
theorem dJ2_getChar_3b067_27 : decode cJ2_getChar_3b067 27 = .ok (.athrow, 1) := by decide +kernel
theorem dJ2_getChar_3b067_28 : decode cJ2_getChar_3b067 28 = .ok (.iload_n 1, 1) := by decide +kernel
theorem dJ2_getChar_3b067_29 : decode cJ2_getChar_3b067 29 = .ok (.iconst 1, 1) := by decide +kernel
theorem dJ2_getChar_3b067_30 : decode cJ2_getChar_3b067 30 = .ok (.ishl, 1) := by decide +kernel
theorem dJ2_getChar_3b067_31 : decode cJ2_getChar_3b067 31 = .ok (.istore_n 1, 1) := by decide +kernel
theorem dJ2_getChar_3b067_32 : decode cJ2_getChar_3b067 32 = .ok (.aload_n 0, 1) := by decide +kernel
theorem dJ2_getChar_3b067_33 : decode cJ2_getChar_3b067 33 = .ok (.iload_n 1, 1) := by decide +kernel
theorem dJ2_getChar_3b067_34 : decode cJ2_getChar_3b067 34 = .ok (.iinc 1 1, 3) := by decide +kernel
theorem dJ2_getChar_3b067_37 : decode cJ2_getChar_3b067 37 = .ok (.baload, 1) := by decide +kernel
theorem dJ2_getChar_3b067_38 : decode cJ2_getChar_3b067 38 = .ok (.sipush 255, 3) := by decide +kernel
theorem dJ2_getChar_3b067_41 : decode cJ2_getChar_3b067 41 = .ok (.iand, 1) := by decide +kernel
theorem dJ2_getChar_3b067_42 : decode cJ2_getChar_3b067 42 = .ok (.getstatic 59, 3) := by decide +kernel
theorem dJ2_getChar_3b067_45 : decode cJ2_getChar_3b067 45 = .ok (.ishl, 1) := by decide +kernel
theorem dJ2_getChar_3b067_46 : decode cJ2_getChar_3b067 46 = .ok (.aload_n 0, 1) := by decide +kernel
theorem dJ2_getChar_3b067_47 : decode cJ2_getChar_3b067 47 = .ok (.iload_n 1, 1) := by decide +kernel
theorem dJ2_getChar_3b067_48 : decode cJ2_getChar_3b067 48 = .ok (.baload, 1) := by decide +kernel
theorem dJ2_getChar_3b067_49 : decode cJ2_getChar_3b067 49 = .ok (.sipush 255, 3) := by decide +kernel
theorem dJ2_getChar_3b067_52 : decode cJ2_getChar_3b067 52 = .ok (.iand, 1) := by decide +kernel
theorem dJ2_getChar_3b067_53 : decode cJ2_getChar_3b067 53 = .ok (.getstatic 63, 3) := by decide +kernel
theorem dJ2_getChar_3b067_56 : decode cJ2_getChar_3b067 56 = .ok (.ishl, 1) := by decide +kernel
theorem dJ2_getChar_3b067_57 : decode cJ2_getChar_3b067 57 = .ok (.ior, 1) := by decide +kernel
theorem dJ2_getChar_3b067_58 : decode cJ2_getChar_3b067 58 = .ok (.i2c, 1) := by decide +kernel
theorem dJ2_getChar_3b067_59 : decode cJ2_getChar_3b067 59 = .ok (.ireturn, 1) := by decide +kernel
theorem dJ2_length_9d52b_0 : decode cJ2_length_9d52b 0 = .ok (.aload_n 0, 1) := by decide +kernel
theorem dJ2_length_9d52b_1 : decode cJ2_length_9d52b 1 = .ok (.arraylength, 1) := by decide +kernel
theorem dJ2_length_9d52b_2 : decode cJ2_length_9d52b 2 = .ok (.iconst 1, 1) := by decide +kernel
theorem dJ2_length_9d52b_3 : decode cJ2_length_9d52b 3 = .ok (.ishr, 1) := by decide +kernel
theorem dJ2_length_9d52b_4 : decode cJ2_length_9d52b 4 = .ok (.ireturn, 1) := by decide +kernel
theorem dJ2_indexOf_4cfef_0 : decode cJ2_indexOf_4cfef 0 = .ok (.iload_n 2, 1) := by decide +kernel
theorem dJ2_indexOf_4cfef_1 : decode cJ2_indexOf_4cfef 1 = .ok (.iconst 0, 1) := by decide +kernel
theorem dJ2_indexOf_4cfef_2 : decode cJ2_indexOf_4cfef 2 = .ok (.invokestatic 224, 3) := by decide +kernel
theorem dJ2_indexOf_4cfef_5 : decode cJ2_indexOf_4cfef 5 = .ok (.istore_n 2, 1) := by decide +kernel
theorem dJ2_indexOf_4cfef_6 : decode cJ2_indexOf_4cfef 6 = .ok (.iload_n 3, 1) := by decide +kernel
theorem dJ2_indexOf_4cfef_7 : decode cJ2_indexOf_4cfef 7 = .ok (.aload_n 0, 1) := by decide +kernel
theorem dJ2_indexOf_4cfef_8 : decode cJ2_indexOf_4cfef 8 = .ok (.arraylength, 1) := by decide +kernel
theorem dJ2_indexOf_4cfef_9 : decode cJ2_indexOf_4cfef 9 = .ok (.iconst 1, 1) := by decide +kernel
theorem dJ2_indexOf_4cfef_10 : decode cJ2_indexOf_4cfef 10 = .ok (.ishr, 1) := by decide +kernel
theorem dJ2_indexOf_4cfef_11 : decode cJ2_indexOf_4cfef 11 = .ok (.invokestatic 183, 3) := by decide +kernel
theorem dJ2_indexOf_4cfef_14 : decode cJ2_indexOf_4cfef 14 = .ok (.istore_n 3, 1) := by decide +kernel
theorem dJ2_indexOf_4cfef_15 : decode cJ2_indexOf_4cfef 15 = .ok (.iload_n 2, 1) := by decide +kernel
theorem dJ2_indexOf_4cfef_16 : decode cJ2_indexOf_4cfef 16 = .ok (.iload_n 3, 1) := by decide +kernel
theorem dJ2_indexOf_4cfef_17 : decode cJ2_indexOf_4cfef 17 = .ok (.if_icmp .lt 5, 3) := by decide +kernel
theorem dJ2_indexOf_4cfef_20 : decode cJ2_indexOf_4cfef 20 = .ok (.iconst (-1), 1) := by decide +kernel
theorem dJ2_indexOf_4cfef_21 : decode cJ2_indexOf_4cfef 21 = .ok (.ireturn, 1) := by decide +kernel
theorem dJ2_indexOf_4cfef_22 : decode cJ2_indexOf_4cfef 22 = .ok (.iload_n 1, 1) := by decide +kernel
theorem dJ2_indexOf_4cfef_23 : decode cJ2_indexOf_4cfef 23 = .ok (.ldc 227, 2) := by decide +kernel
theorem dJ2_indexOf_4cfef_25 : decode cJ2_indexOf_4cfef 25 = .ok (.if_icmp .ge 11, 3) := by decide +kernel
theorem dJ2_indexOf_4cfef_28 : decode cJ2_indexOf_4cfef 28 = .ok (.aload_n 0, 1) := by decide +kernel
theorem dJ2_indexOf_4cfef_29 : decode cJ2_indexOf_4cfef 29 = .ok (.iload_n 1, 1) := by decide +kernel
theorem dJ2_indexOf_4cfef_30 : decode cJ2_indexOf_4cfef 30 = .ok (.iload_n 2, 1) := by decide +kernel
theorem dJ2_indexOf_4cfef_31 : decode cJ2_indexOf_4cfef 31 = .ok (.iload_n 3, 1) := by decide +kernel
theorem dJ2_indexOf_4cfef_32 : decode cJ2_indexOf_4cfef 32 = .ok (.invokestatic 228, 3) := by decide +kernel
theorem dJ2_indexOf_4cfef_35 : decode cJ2_indexOf_4cfef 35 = .ok (.ireturn, 1) := by decide +kernel
theorem dJ2_indexOf_4cfef_36 : decode cJ2_indexOf_4cfef 36 = .ok (.aload_n 0, 1) := by decide +kernel
theorem dJ2_indexOf_4cfef_37 : decode cJ2_indexOf_4cfef 37 = .ok (.iload_n 1, 1) := by decide +kernel
theorem dJ2_indexOf_4cfef_38 : decode cJ2_indexOf_4cfef 38 = .ok (.iload_n 2, 1) := by decide +kernel
theorem dJ2_indexOf_4cfef_39 : decode cJ2_indexOf_4cfef 39 = .ok (.iload_n 3, 1) := by decide +kernel
theorem dJ2_indexOf_4cfef_40 : decode cJ2_indexOf_4cfef 40 = .ok (.invokestatic 232, 3) := by decide +kernel
theorem dJ2_indexOf_4cfef_43 : decode cJ2_indexOf_4cfef 43 = .ok (.ireturn, 1) := by decide +kernel
theorem dJ2_indexOfChar_4cfef_0 : decode cJ2_indexOfChar_4cfef 0 = .ok (.iload_n 2, 1) := by decide +kernel
theorem dJ2_indexOfChar_4cfef_1 : decode cJ2_indexOfChar_4cfef 1 = .ok (.iload_n 3, 1) := by decide +kernel
theorem dJ2_indexOfChar_4cfef_2 : decode cJ2_indexOfChar_4cfef 2 = .ok (.aload_n 0, 1) := by decide +kernel
theorem dJ2_indexOfChar_4cfef_3 : decode cJ2_indexOfChar_4cfef 3 = .ok (.invokestatic 96, 3) := by decide +kernel
theorem dJ2_indexOfChar_4cfef_6 : decode cJ2_indexOfChar_4cfef 6 = .ok (.aload_n 0, 1) := by decide +kernel
theorem dJ2_indexOfChar_4cfef_7 : decode cJ2_indexOfChar_4cfef 7 = .ok (.iload_n 1, 1) := by decide +kernel
theorem dJ2_indexOfChar_4cfef_8 : decode cJ2_indexOfChar_4cfef 8 = .ok (.iload_n 2, 1) := by decide +kernel
theorem dJ2_indexOfChar_4cfef_9 : decode cJ2_indexOfChar_4cfef 9 = .ok (.iload_n 3, 1) := by decide +kernel
theorem dJ2_indexOfChar_4cfef_10 : decode cJ2_indexOfChar_4cfef 10 = .ok (.invokestatic 244, 3) := by decide +kernel
theorem dJ2_indexOfChar_4cfef_13 : decode cJ2_indexOfChar_4cfef 13 = .ok (.ireturn, 1) := by decide +kernel
theorem dJ2_indexOfCharUnsafe_4cfef_0 : decode cJ2_indexOfCharUnsafe_4cfef 0 = .ok (.iload_n 2, 1) := by decide +kernel
theorem dJ2_indexOfCharUnsafe_4cfef_1 : decode cJ2_indexOfCharUnsafe_4cfef 1 = .ok (.istore 4, 2) := by decide +kernel
theorem dJ2_indexOfCharUnsafe_4cfef_3 : decode cJ2_indexOfCharUnsafe_4cfef 3 = .ok (.iload 4, 2) := by decide +kernel
theorem dJ2_indexOfCharUnsafe_4cfef_5 : decode cJ2_indexOfCharUnsafe_4cfef 5 = .ok (.iload_n 3, 1) := by decide +kernel
theorem dJ2_indexOfCharUnsafe_4cfef_6 : decode cJ2_indexOfCharUnsafe_4cfef 6 = .ok (.if_icmp .ge 22, 3) := by decide +kernel
theorem dJ2_indexOfCharUnsafe_4cfef_9 : decode cJ2_indexOfCharUnsafe_4cfef 9 = .ok (.aload_n 0, 1) := by decide +kernel
theorem dJ2_indexOfCharUnsafe_4cfef_10 : decode cJ2_indexOfCharUnsafe_4cfef 10 = .ok (.iload 4, 2) := by decide +kernel
theorem dJ2_indexOfCharUnsafe_4cfef_12 : decode cJ2_indexOfCharUnsafe_4cfef 12 = .ok (.invokestatic 71, 3) := by decide +kernel
theorem dJ2_indexOfCharUnsafe_4cfef_15 : decode cJ2_indexOfCharUnsafe_4cfef 15 = .ok (.iload_n 1, 1) := by decide +kernel
theorem dJ2_indexOfCharUnsafe_4cfef_16 : decode cJ2_indexOfCharUnsafe_4cfef 16 = .ok (.if_icmp .ne 6, 3) := by decide +kernel
theorem dJ2_indexOfCharUnsafe_4cfef_19 : decode cJ2_indexOfCharUnsafe_4cfef 19 = .ok (.iload 4, 2) := by decide +kernel
theorem dJ2_indexOfCharUnsafe_4cfef_21 : decode cJ2_indexOfCharUnsafe_4cfef 21 = .ok (.ireturn, 1) := by decide +kernel
theorem dJ2_indexOfCharUnsafe_4cfef_22 : decode cJ2_indexOfCharUnsafe_4cfef 22 = .ok (.iinc 4 1, 3) := by decide +kernel
theorem dJ2_indexOfCharUnsafe_4cfef_25 : decode cJ2_indexOfCharUnsafe_4cfef 25 = .ok (.goto (-22), 3) := by decide +kernel
theorem dJ2_indexOfCharUnsafe_4cfef_28 : decode cJ2_indexOfCharUnsafe_4cfef 28 = .ok (.iconst (-1), 1) := by decide +kernel
theorem dJ2_indexOfCharUnsafe_4cfef_29 : decode cJ2_indexOfCharUnsafe_4cfef 29 = .ok (.ireturn, 1) := by decide +kernel
theorem dJ2_indexOfSupplementary_4cfef_0 : decode cJ2_indexOfSupplementary_4cfef 0 = .ok (.iload_n 1, 1) := by decide +kernel
theorem dJ2_indexOfSupplementary_4cfef_1 : decode cJ2_indexOfSupplementary_4cfef 1 = .ok (.invokestatic 164, 3) := by decide +kernel
theorem dJ2_indexOfSupplementary_4cfef_4 : decode cJ2_indexOfSupplementary_4cfef 4 = .ok (.ifCond .eq 65, 3) := by decide +kernel
theorem dJ2_indexOfSupplementary_4cfef_7 : decode cJ2_indexOfSupplementary_4cfef 7 = .ok (.iload_n 1, 1) := by decide +kernel
theorem dJ2_indexOfSupplementary_4cfef_8 : decode cJ2_indexOfSupplementary_4cfef 8 = .ok (.invokestatic 157, 3) := by decide +kernel
theorem dJ2_indexOfSupplementary_4cfef_11 : decode cJ2_indexOfSupplementary_4cfef 11 = .ok (.istore 4, 2) := by decide +kernel
theorem dJ2_indexOfSupplementary_4cfef_13 : decode cJ2_indexOfSupplementary_4cfef 13 = .ok (.iload_n 1, 1) := by decide +kernel
theorem dJ2_indexOfSupplementary_4cfef_14 : decode cJ2_indexOfSupplementary_4cfef 14 = .ok (.invokestatic 161, 3) := by decide +kernel
theorem dJ2_indexOfSupplementary_4cfef_17 : decode cJ2_indexOfSupplementary_4cfef 17 = .ok (.istore 5, 2) := by decide +kernel
theorem dJ2_indexOfSupplementary_4cfef_19 : decode cJ2_indexOfSupplementary_4cfef 19 = .ok (.iload_n 2, 1) := by decide +kernel
theorem dJ2_indexOfSupplementary_4cfef_20 : decode cJ2_indexOfSupplementary_4cfef 20 = .ok (.iload_n 3, 1) := by decide +kernel
theorem dJ2_indexOfSupplementary_4cfef_21 : decode cJ2_indexOfSupplementary_4cfef 21 = .ok (.aload_n 0, 1) := by decide +kernel
theorem dJ2_indexOfSupplementary_4cfef_22 : decode cJ2_indexOfSupplementary_4cfef 22 = .ok (.invokestatic 96, 3) := by decide +kernel
theorem dJ2_indexOfSupplementary_4cfef_25 : decode cJ2_indexOfSupplementary_4cfef 25 = .ok (.iload_n 2, 1) := by decide +kernel
theorem dJ2_indexOfSupplementary_4cfef_26 : decode cJ2_indexOfSupplementary_4cfef 26 = .ok (.istore 6, 2) := by decide +kernel
theorem dJ2_indexOfSupplementary_4cfef_28 : decode cJ2_indexOfSupplementary_4cfef 28 = .ok (.iload 6, 2) := by decide +kernel
theorem dJ2_indexOfSupplementary_4cfef_30 : decode cJ2_indexOfSupplementary_4cfef 30 = .ok (.iload_n 3, 1) := by decide +kernel
theorem dJ2_indexOfSupplementary_4cfef_31 : decode cJ2_indexOfSupplementary_4cfef 31 = .ok (.iconst 1, 1) := by decide +kernel
theorem dJ2_indexOfSupplementary_4cfef_32 : decode cJ2_indexOfSupplementary_4cfef 32 = .ok (.isub, 1) := by decide +kernel
theorem dJ2_indexOfSupplementary_4cfef_33 : decode cJ2_indexOfSupplementary_4cfef 33 = .ok (.if_icmp .ge 36, 3) := by decide +kernel
theorem dJ2_indexOfSupplementary_4cfef_36 : decode cJ2_indexOfSupplementary_4cfef 36 = .ok (.aload_n 0, 1) := by decide +kernel
theorem dJ2_indexOfSupplementary_4cfef_37 : decode cJ2_indexOfSupplementary_4cfef 37 = .ok (.iload 6, 2) := by decide +kernel
theorem dJ2_indexOfSupplementary_4cfef_39 : decode cJ2_indexOfSupplementary_4cfef 39 = .ok (.invokestatic 71, 3) := by decide +kernel
theorem dJ2_indexOfSupplementary_4cfef_42 : decode cJ2_indexOfSupplementary_4cfef 42 = .ok (.iload 4, 2) := by decide +kernel
theorem dJ2_indexOfSupplementary_4cfef_44 : decode cJ2_indexOfSupplementary_4cfef 44 = .ok (.if_icmp .ne 19, 3) := by decide +kernel
theorem dJ2_indexOfSupplementary_4cfef_47 : decode cJ2_indexOfSupplementary_4cfef 47 = .ok (.aload_n 0, 1) := by decide +kernel
theorem dJ2_indexOfSupplementary_4cfef_48 : decode cJ2_indexOfSupplementary_4cfef 48 = .ok (.iload 6, 2) := by decide +kernel
theorem dJ2_indexOfSupplementary_4cfef_50 : decode cJ2_indexOfSupplementary_4cfef 50 = .ok (.iconst 1, 1) := by decide +kernel
theorem dJ2_indexOfSupplementary_4cfef_51 : decode cJ2_indexOfSupplementary_4cfef 51 = .ok (.iadd, 1) := by decide +kernel
theorem dJ2_indexOfSupplementary_4cfef_52 : decode cJ2_indexOfSupplementary_4cfef 52 = .ok (.invokestatic 71, 3) := by decide +kernel
theorem dJ2_indexOfSupplementary_4cfef_55 : decode cJ2_indexOfSupplementary_4cfef 55 = .ok (.iload 5, 2) := by decide +kernel
theorem dJ2_indexOfSupplementary_4cfef_57 : decode cJ2_indexOfSupplementary_4cfef 57 = .ok (.if_icmp .ne 6, 3) := by decide +kernel
theorem dJ2_indexOfSupplementary_4cfef_60 : decode cJ2_indexOfSupplementary_4cfef 60 = .ok (.iload 6, 2) := by decide +kernel
theorem dJ2_indexOfSupplementary_4cfef_62 : decode cJ2_indexOfSupplementary_4cfef 62 = .ok (.ireturn, 1) := by decide +kernel
theorem dJ2_indexOfSupplementary_4cfef_63 : decode cJ2_indexOfSupplementary_4cfef 63 = .ok (.iinc 6 1, 3) := by decide +kernel
theorem dJ2_indexOfSupplementary_4cfef_66 : decode cJ2_indexOfSupplementary_4cfef 66 = .ok (.goto (-38), 3) := by decide +kernel
theorem dJ2_indexOfSupplementary_4cfef_69 : decode cJ2_indexOfSupplementary_4cfef 69 = .ok (.iconst (-1), 1) := by decide +kernel
theorem dJ2_indexOfSupplementary_4cfef_70 : decode cJ2_indexOfSupplementary_4cfef 70 = .ok (.ireturn, 1) := by decide +kernel
theorem dJ2_checkBoundsBeginEnd_d044e_0 : decode cJ2_checkBoundsBeginEnd_d044e 0 = .ok (.iload_n 0, 1) := by decide +kernel
theorem dJ2_checkBoundsBeginEnd_d044e_1 : decode cJ2_checkBoundsBeginEnd_d044e 1 = .ok (.iload_n 1, 1) := by decide +kernel
theorem dJ2_checkBoundsBeginEnd_d044e_2 : decode cJ2_checkBoundsBeginEnd_d044e 2 = .ok (.aload_n 2, 1) := by decide +kernel
theorem dJ2_checkBoundsBeginEnd_d044e_3 : decode cJ2_checkBoundsBeginEnd_d044e 3 = .ok (.invokestatic 48, 3) := by decide +kernel
theorem dJ2_checkBoundsBeginEnd_d044e_6 : decode cJ2_checkBoundsBeginEnd_d044e 6 = .ok (.invokestatic 241, 3) := by decide +kernel
theorem dJ2_checkBoundsBeginEnd_d044e_9 : decode cJ2_checkBoundsBeginEnd_d044e 9 = .ok (.return_, 1) := by decide +kernel
theorem dJ7_fill_53178_0 : decode cJ7_fill_53178 0 = .ok (.iconst 0, 1) := by decide +kernel
theorem dJ7_fill_53178_1 : decode cJ7_fill_53178 1 = .ok (.istore_n 2, 1) := by decide +kernel
theorem dJ7_fill_53178_2 : decode cJ7_fill_53178 2 = .ok (.aload_n 0, 1) := by decide +kernel
theorem dJ7_fill_53178_3 : decode cJ7_fill_53178 3 = .ok (.arraylength, 1) := by decide +kernel
theorem dJ7_fill_53178_4 : decode cJ7_fill_53178 4 = .ok (.istore_n 3, 1) := by decide +kernel
theorem dJ7_fill_53178_5 : decode cJ7_fill_53178 5 = .ok (.iload_n 2, 1) := by decide +kernel
theorem dJ7_fill_53178_6 : decode cJ7_fill_53178 6 = .ok (.iload_n 3, 1) := by decide +kernel
theorem dJ7_fill_53178_7 : decode cJ7_fill_53178 7 = .ok (.if_icmp .ge 13, 3) := by decide +kernel
theorem dJ7_fill_53178_10 : decode cJ7_fill_53178 10 = .ok (.aload_n 0, 1) := by decide +kernel
theorem dJ7_fill_53178_11 : decode cJ7_fill_53178 11 = .ok (.iload_n 2, 1) := by decide +kernel
theorem dJ7_fill_53178_12 : decode cJ7_fill_53178 12 = .ok (.iload_n 1, 1) := by decide +kernel
theorem dJ7_fill_53178_13 : decode cJ7_fill_53178 13 = .ok (.iastore, 1) := by decide +kernel
theorem dJ7_fill_53178_14 : decode cJ7_fill_53178 14 = .ok (.iinc 2 1, 3) := by decide +kernel
theorem dJ7_fill_53178_17 : decode cJ7_fill_53178 17 = .ok (.goto (-12), 3) := by decide +kernel
theorem dJ7_fill_53178_20 : decode cJ7_fill_53178 20 = .ok (.return_, 1) := by decide +kernel
theorem dJ7_copyOf_59c91_0 : decode cJ7_copyOf_59c91 0 = .ok (.iload_n 1, 1) := by decide +kernel
theorem dJ7_copyOf_59c91_1 : decode cJ7_copyOf_59c91 1 = .ok (.aload_n 0, 1) := by decide +kernel
theorem dJ7_copyOf_59c91_2 : decode cJ7_copyOf_59c91 2 = .ok (.arraylength, 1) := by decide +kernel
theorem dJ7_copyOf_59c91_3 : decode cJ7_copyOf_59c91 3 = .ok (.if_icmp .ne 11, 3) := by decide +kernel
theorem dJ7_copyOf_59c91_6 : decode cJ7_copyOf_59c91 6 = .ok (.aload_n 0, 1) := by decide +kernel
theorem dJ7_copyOf_59c91_7 : decode cJ7_copyOf_59c91 7 = .ok (.invokevirtual 316, 3) := by decide +kernel
theorem dJ7_copyOf_59c91_10 : decode cJ7_copyOf_59c91 10 = .ok (.checkcast 317, 3) := by decide +kernel
theorem dJ7_copyOf_59c91_13 : decode cJ7_copyOf_59c91 13 = .ok (.areturn, 1) := by decide +kernel
theorem dJ7_copyOf_59c91_14 : decode cJ7_copyOf_59c91 14 = .ok (.iload_n 1, 1) := by decide +kernel
theorem dJ7_copyOf_59c91_15 : decode cJ7_copyOf_59c91 15 = .ok (.newarray .int, 2) := by decide +kernel
theorem dJ7_copyOf_59c91_17 : decode cJ7_copyOf_59c91 17 = .ok (.astore_n 2, 1) := by decide +kernel
theorem dJ7_copyOf_59c91_18 : decode cJ7_copyOf_59c91 18 = .ok (.aload_n 0, 1) := by decide +kernel
theorem dJ7_copyOf_59c91_19 : decode cJ7_copyOf_59c91 19 = .ok (.iconst 0, 1) := by decide +kernel
theorem dJ7_copyOf_59c91_20 : decode cJ7_copyOf_59c91 20 = .ok (.aload_n 2, 1) := by decide +kernel
theorem dJ7_copyOf_59c91_21 : decode cJ7_copyOf_59c91 21 = .ok (.iconst 0, 1) := by decide +kernel
theorem dJ7_copyOf_59c91_22 : decode cJ7_copyOf_59c91 22 = .ok (.aload_n 0, 1) := by decide +kernel
theorem dJ7_copyOf_59c91_23 : decode cJ7_copyOf_59c91 23 = .ok (.arraylength, 1) := by decide +kernel
theorem dJ7_copyOf_59c91_24 : decode cJ7_copyOf_59c91 24 = .ok (.iload_n 1, 1) := by decide +kernel
theorem dJ7_copyOf_59c91_25 : decode cJ7_copyOf_59c91 25 = .ok (.invokestatic 304, 3) := by decide +kernel
theorem dJ7_copyOf_59c91_28 : decode cJ7_copyOf_59c91 28 = .ok (.invokestatic 150, 3) := by decide +kernel
theorem dJ7_copyOf_59c91_31 : decode cJ7_copyOf_59c91 31 = .ok (.aload_n 2, 1) := by decide +kernel
theorem dJ7_copyOf_59c91_32 : decode cJ7_copyOf_59c91 32 = .ok (.areturn, 1) := by decide +kernel
theorem dJ3_checkFromToIndex_8c36e_0 : decode cJ3_checkFromToIndex_8c36e 0 = .ok (.iload_n 0, 1) := by decide +kernel
theorem dJ3_checkFromToIndex_8c36e_1 : decode cJ3_checkFromToIndex_8c36e 1 = .ok (.ifCond .lt 13, 3) := by decide +kernel
theorem dJ3_checkFromToIndex_8c36e_4 : decode cJ3_checkFromToIndex_8c36e 4 = .ok (.iload_n 0, 1) := by decide +kernel
theorem dJ3_checkFromToIndex_8c36e_5 : decode cJ3_checkFromToIndex_8c36e 5 = .ok (.iload_n 1, 1) := by decide +kernel
theorem dJ3_checkFromToIndex_8c36e_6 : decode cJ3_checkFromToIndex_8c36e 6 = .ok (.if_icmp .gt 8, 3) := by decide +kernel
theorem dJ3_checkFromToIndex_8c36e_9 : decode cJ3_checkFromToIndex_8c36e 9 = .ok (.iload_n 1, 1) := by decide +kernel
theorem dJ3_checkFromToIndex_8c36e_10 : decode cJ3_checkFromToIndex_8c36e 10 = .ok (.iload_n 2, 1) := by decide +kernel
theorem dJ3_checkFromToIndex_8c36e_11 : decode cJ3_checkFromToIndex_8c36e 11 = .ok (.if_icmp .le 11, 3) := by decide +kernel
theorem dJ3_checkFromToIndex_8c36e_14 : decode cJ3_checkFromToIndex_8c36e 14 = .ok (.aload_n 3, 1) := by decide +kernel
theorem dJ3_checkFromToIndex_8c36e_15 : decode cJ3_checkFromToIndex_8c36e 15 = .ok (.iload_n 0, 1) := by decide +kernel
theorem dJ3_checkFromToIndex_8c36e_16 : decode cJ3_checkFromToIndex_8c36e 16 = .ok (.iload_n 1, 1) := by decide +kernel
theorem dJ3_checkFromToIndex_8c36e_17 : decode cJ3_checkFromToIndex_8c36e 17 = .ok (.iload_n 2, 1) := by decide +kernel
theorem dJ3_checkFromToIndex_8c36e_18 : decode cJ3_checkFromToIndex_8c36e 18 = .ok (.invokestatic 99, 3) := by decide +kernel
theorem dJ3_checkFromToIndex_8c36e_21 : decode cJ3_checkFromToIndex_8c36e 21 = .ok (.athrow, 1) := by decide +kernel
theorem dJ3_checkFromToIndex_8c36e_22 : decode cJ3_checkFromToIndex_8c36e 22 = .ok (.iload_n 0, 1) := by decide +kernel
theorem dJ3_checkFromToIndex_8c36e_23 : decode cJ3_checkFromToIndex_8c36e 23 = .ok (.ireturn, 1) := by decide +kernel
theorem dL_law_0 : decode cL_law 0 = .ok (.new 7, 3) := by decide +kernel
theorem dL_law_3 : decode cL_law 3 = .ok (.dup, 1) := by decide +kernel
theorem dL_law_4 : decode cL_law 4 = .ok (.invokespecial 9, 3) := by decide +kernel
theorem dL_law_7 : decode cL_law 7 = .ok (.astore_n 1, 1) := by decide +kernel
theorem dL_law_8 : decode cL_law 8 = .ok (.new 10, 3) := by decide +kernel
theorem dL_law_11 : decode cL_law 11 = .ok (.dup, 1) := by decide +kernel
theorem dL_law_12 : decode cL_law 12 = .ok (.invokespecial 12, 3) := by decide +kernel
theorem dL_law_15 : decode cL_law 15 = .ok (.astore_n 2, 1) := by decide +kernel
theorem dL_law_16 : decode cL_law 16 = .ok (.iconst 0, 1) := by decide +kernel
theorem dL_law_17 : decode cL_law 17 = .ok (.istore_n 3, 1) := by decide +kernel
theorem dL_law_18 : decode cL_law 18 = .ok (.iload_n 3, 1) := by decide +kernel
theorem dL_law_19 : decode cL_law 19 = .ok (.aload_n 0, 1) := by decide +kernel
theorem dL_law_20 : decode cL_law 20 = .ok (.arraylength, 1) := by decide +kernel
theorem dL_law_21 : decode cL_law 21 = .ok (.bipush 6, 2) := by decide +kernel
theorem dL_law_23 : decode cL_law 23 = .ok (.isub, 1) := by decide +kernel
theorem dL_law_24 : decode cL_law 24 = .ok (.if_icmp .gt 1759, 3) := by decide +kernel
theorem dL_law_27 : decode cL_law 27 = .ok (.aload_n 0, 1) := by decide +kernel
theorem dL_law_28 : decode cL_law 28 = .ok (.iload_n 3, 1) := by decide +kernel
