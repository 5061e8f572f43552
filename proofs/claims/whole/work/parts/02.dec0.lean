theorem dX0_init_0 : decode cX0_init 0 = .ok (.aload_n 0, 1) := by decide +kernel
theorem dX0_init_1 : decode cX0_init 1 = .ok (.invokespecial 3, 3) := by decide +kernel
theorem dX0_init_4 : decode cX0_init 4 = .ok (.aload_n 0, 1) := by decide +kernel
theorem dX0_init_5 : decode cX0_init 5 = .ok (.bipush 7, 2) := by decide +kernel
theorem dX0_init_7 : decode cX0_init 7 = .ok (.newarray .int, 2) := by decide +kernel
theorem dX0_init_9 : decode cX0_init 9 = .ok (.putfield 9, 3) := by decide +kernel
theorem dX0_init_12 : decode cX0_init 12 = .ok (.aload_n 0, 1) := by decide +kernel
theorem dX0_init_13 : decode cX0_init 13 = .ok (.bipush 80, 2) := by decide +kernel
theorem dX0_init_15 : decode cX0_init 15 = .ok (.newarray .int, 2) := by decide +kernel
theorem dX0_init_17 : decode cX0_init 17 = .ok (.putfield 15, 3) := by decide +kernel
theorem dX0_init_20 : decode cX0_init 20 = .ok (.return_, 1) := by decide +kernel
theorem dX0_putWays_0 : decode cX0_putWays 0 = .ok (.aload_n 0, 1) := by decide +kernel
theorem dX0_putWays_1 : decode cX0_putWays 1 = .ok (.getfield 9, 3) := by decide +kernel
theorem dX0_putWays_4 : decode cX0_putWays 4 = .ok (.iconst 0, 1) := by decide +kernel
theorem dX0_putWays_5 : decode cX0_putWays 5 = .ok (.iconst 0, 1) := by decide +kernel
theorem dX0_putWays_6 : decode cX0_putWays 6 = .ok (.iload_n 2, 1) := by decide +kernel
theorem dX0_putWays_7 : decode cX0_putWays 7 = .ok (.aload_n 1, 1) := by decide +kernel
theorem dX0_putWays_8 : decode cX0_putWays 8 = .ok (.iload_n 3, 1) := by decide +kernel
theorem dX0_putWays_9 : decode cX0_putWays 9 = .ok (.aload 4, 2) := by decide +kernel
theorem dX0_putWays_11 : decode cX0_putWays 11 = .ok (.getfield 18, 3) := by decide +kernel
theorem dX0_putWays_14 : decode cX0_putWays 14 = .ok (.invokevirtual 24, 3) := by decide +kernel
theorem dX0_putWays_17 : decode cX0_putWays 17 = .ok (.invokestatic 30, 3) := by decide +kernel
theorem dX0_putWays_20 : decode cX0_putWays 20 = .ok (.invokestatic 33, 3) := by decide +kernel
theorem dX0_putWays_23 : decode cX0_putWays 23 = .ok (.iastore, 1) := by decide +kernel
theorem dX0_putWays_24 : decode cX0_putWays 24 = .ok (.aload_n 0, 1) := by decide +kernel
theorem dX0_putWays_25 : decode cX0_putWays 25 = .ok (.getfield 9, 3) := by decide +kernel
theorem dX0_putWays_28 : decode cX0_putWays 28 = .ok (.iconst 5, 1) := by decide +kernel
theorem dX0_putWays_29 : decode cX0_putWays 29 = .ok (.iconst 0, 1) := by decide +kernel
theorem dX0_putWays_30 : decode cX0_putWays 30 = .ok (.iload_n 2, 1) := by decide +kernel
theorem dX0_putWays_31 : decode cX0_putWays 31 = .ok (.aload_n 1, 1) := by decide +kernel
theorem dX0_putWays_32 : decode cX0_putWays 32 = .ok (.aload 4, 2) := by decide +kernel
theorem dX0_putWays_34 : decode cX0_putWays 34 = .ok (.getfield 18, 3) := by decide +kernel
theorem dX0_putWays_37 : decode cX0_putWays 37 = .ok (.aload 4, 2) := by decide +kernel
theorem dX0_putWays_39 : decode cX0_putWays 39 = .ok (.getfield 38, 3) := by decide +kernel
theorem dX0_putWays_42 : decode cX0_putWays 42 = .ok (.invokevirtual 24, 3) := by decide +kernel
theorem dX0_putWays_45 : decode cX0_putWays 45 = .ok (.invokestatic 30, 3) := by decide +kernel
theorem dX0_putWays_48 : decode cX0_putWays 48 = .ok (.invokestatic 33, 3) := by decide +kernel
theorem dX0_putWays_51 : decode cX0_putWays 51 = .ok (.iastore, 1) := by decide +kernel
theorem dX0_putWays_52 : decode cX0_putWays 52 = .ok (.return_, 1) := by decide +kernel
theorem dX0_putRider_0 : decode cX0_putRider 0 = .ok (.aload_n 0, 1) := by decide +kernel
theorem dX0_putRider_1 : decode cX0_putRider 1 = .ok (.getfield 9, 3) := by decide +kernel
theorem dX0_putRider_4 : decode cX0_putRider 4 = .ok (.bipush 6, 2) := by decide +kernel
theorem dX0_putRider_6 : decode cX0_putRider 6 = .ok (.iload_n 1, 1) := by decide +kernel
theorem dX0_putRider_7 : decode cX0_putRider 7 = .ok (.iastore, 1) := by decide +kernel
theorem dX0_putRider_8 : decode cX0_putRider 8 = .ok (.aload_n 0, 1) := by decide +kernel
theorem dX0_putRider_9 : decode cX0_putRider 9 = .ok (.getfield 9, 3) := by decide +kernel
theorem dX0_putRider_12 : decode cX0_putRider 12 = .ok (.iconst 2, 1) := by decide +kernel
theorem dX0_putRider_13 : decode cX0_putRider 13 = .ok (.iload_n 2, 1) := by decide +kernel
theorem dX0_putRider_14 : decode cX0_putRider 14 = .ok (.iastore, 1) := by decide +kernel
theorem dX0_putRider_15 : decode cX0_putRider 15 = .ok (.aload_n 0, 1) := by decide +kernel
theorem dX0_putRider_16 : decode cX0_putRider 16 = .ok (.getfield 9, 3) := by decide +kernel
theorem dX0_putRider_19 : decode cX0_putRider 19 = .ok (.iconst 3, 1) := by decide +kernel
theorem dX0_putRider_20 : decode cX0_putRider 20 = .ok (.iload_n 3, 1) := by decide +kernel
theorem dX0_putRider_21 : decode cX0_putRider 21 = .ok (.iastore, 1) := by decide +kernel
theorem dX0_putRider_22 : decode cX0_putRider 22 = .ok (.return_, 1) := by decide +kernel
theorem dX0_putTimes_0 : decode cX0_putTimes 0 = .ok (.aload_n 0, 1) := by decide +kernel
theorem dX0_putTimes_1 : decode cX0_putTimes 1 = .ok (.getfield 9, 3) := by decide +kernel
theorem dX0_putTimes_4 : decode cX0_putTimes 4 = .ok (.iconst 1, 1) := by decide +kernel
theorem dX0_putTimes_5 : decode cX0_putTimes 5 = .ok (.iload_n 1, 1) := by decide +kernel
theorem dX0_putTimes_6 : decode cX0_putTimes 6 = .ok (.iastore, 1) := by decide +kernel
theorem dX0_putTimes_7 : decode cX0_putTimes 7 = .ok (.aload_n 0, 1) := by decide +kernel
theorem dX0_putTimes_8 : decode cX0_putTimes 8 = .ok (.getfield 9, 3) := by decide +kernel
theorem dX0_putTimes_11 : decode cX0_putTimes 11 = .ok (.iconst 4, 1) := by decide +kernel
theorem dX0_putTimes_12 : decode cX0_putTimes 12 = .ok (.iload_n 2, 1) := by decide +kernel
theorem dX0_putTimes_13 : decode cX0_putTimes 13 = .ok (.iastore, 1) := by decide +kernel
theorem dX0_putTimes_14 : decode cX0_putTimes 14 = .ok (.return_, 1) := by decide +kernel
theorem dX0_worthOf_0 : decode cX0_worthOf 0 = .ok (.iconst 0, 1) := by decide +kernel
theorem dX0_worthOf_1 : decode cX0_worthOf 1 = .ok (.istore_n 2, 1) := by decide +kernel
theorem dX0_worthOf_2 : decode cX0_worthOf 2 = .ok (.iconst 0, 1) := by decide +kernel
theorem dX0_worthOf_3 : decode cX0_worthOf 3 = .ok (.istore_n 3, 1) := by decide +kernel
theorem dX0_worthOf_4 : decode cX0_worthOf 4 = .ok (.iload_n 3, 1) := by decide +kernel
theorem dX0_worthOf_5 : decode cX0_worthOf 5 = .ok (.aload_n 1, 1) := by decide +kernel
theorem dX0_worthOf_6 : decode cX0_worthOf 6 = .ok (.getfield 41, 3) := by decide +kernel
theorem dX0_worthOf_9 : decode cX0_worthOf 9 = .ok (.arraylength, 1) := by decide +kernel
theorem dX0_worthOf_10 : decode cX0_worthOf 10 = .ok (.if_icmp .ge 124, 3) := by decide +kernel
theorem dX0_worthOf_13 : decode cX0_worthOf 13 = .ok (.aload_n 1, 1) := by decide +kernel
theorem dX0_worthOf_14 : decode cX0_worthOf 14 = .ok (.getfield 41, 3) := by decide +kernel
theorem dX0_worthOf_17 : decode cX0_worthOf 17 = .ok (.iload_n 3, 1) := by decide +kernel
theorem dX0_worthOf_18 : decode cX0_worthOf 18 = .ok (.iaload, 1) := by decide +kernel
theorem dX0_worthOf_19 : decode cX0_worthOf 19 = .ok (.istore 4, 2) := by decide +kernel
theorem dX0_worthOf_21 : decode cX0_worthOf 21 = .ok (.iload 4, 2) := by decide +kernel
theorem dX0_worthOf_23 : decode cX0_worthOf 23 = .ok (.sipush 10007, 3) := by decide +kernel
theorem dX0_worthOf_26 : decode cX0_worthOf 26 = .ok (.if_icmp .ge 30, 3) := by decide +kernel
theorem dX0_worthOf_29 : decode cX0_worthOf 29 = .ok (.iload_n 2, 1) := by decide +kernel
theorem dX0_worthOf_30 : decode cX0_worthOf 30 = .ok (.aload_n 0, 1) := by decide +kernel
theorem dX0_worthOf_31 : decode cX0_worthOf 31 = .ok (.getfield 15, 3) := by decide +kernel
theorem dX0_worthOf_34 : decode cX0_worthOf 34 = .ok (.arraylength, 1) := by decide +kernel
theorem dX0_worthOf_35 : decode cX0_worthOf 35 = .ok (.if_icmp .ge 93, 3) := by decide +kernel
theorem dX0_worthOf_38 : decode cX0_worthOf 38 = .ok (.aload_n 0, 1) := by decide +kernel
theorem dX0_worthOf_39 : decode cX0_worthOf 39 = .ok (.getfield 15, 3) := by decide +kernel
theorem dX0_worthOf_42 : decode cX0_worthOf 42 = .ok (.iload_n 2, 1) := by decide +kernel
theorem dX0_worthOf_43 : decode cX0_worthOf 43 = .ok (.aload_n 0, 1) := by decide +kernel
theorem dX0_worthOf_44 : decode cX0_worthOf 44 = .ok (.iload 4, 2) := by decide +kernel
theorem dX0_worthOf_46 : decode cX0_worthOf 46 = .ok (.invokevirtual 46, 3) := by decide +kernel
theorem dX0_worthOf_49 : decode cX0_worthOf 49 = .ok (.iastore, 1) := by decide +kernel
theorem dX0_worthOf_50 : decode cX0_worthOf 50 = .ok (.iinc 2 1, 3) := by decide +kernel
theorem dX0_worthOf_53 : decode cX0_worthOf 53 = .ok (.goto 75, 3) := by decide +kernel
theorem dX0_worthOf_56 : decode cX0_worthOf 56 = .ok (.iload 4, 2) := by decide +kernel
theorem dX0_worthOf_58 : decode cX0_worthOf 58 = .ok (.sipush 10263, 3) := by decide +kernel
theorem dX0_worthOf_61 : decode cX0_worthOf 61 = .ok (.if_icmp .ne 28, 3) := by decide +kernel
theorem dX0_worthOf_64 : decode cX0_worthOf 64 = .ok (.iload_n 2, 1) := by decide +kernel
theorem dX0_worthOf_65 : decode cX0_worthOf 65 = .ok (.iconst 1, 1) := by decide +kernel
theorem dX0_worthOf_66 : decode cX0_worthOf 66 = .ok (.if_icmp .lt 62, 3) := by decide +kernel
theorem dX0_worthOf_69 : decode cX0_worthOf 69 = .ok (.aload_n 0, 1) := by decide +kernel
theorem dX0_worthOf_70 : decode cX0_worthOf 70 = .ok (.getfield 15, 3) := by decide +kernel
theorem dX0_worthOf_73 : decode cX0_worthOf 73 = .ok (.iload_n 2, 1) := by decide +kernel
theorem dX0_worthOf_74 : decode cX0_worthOf 74 = .ok (.iconst 1, 1) := by decide +kernel
theorem dX0_worthOf_75 : decode cX0_worthOf 75 = .ok (.isub, 1) := by decide +kernel
theorem dX0_worthOf_76 : decode cX0_worthOf 76 = .ok (.aload_n 0, 1) := by decide +kernel
theorem dX0_worthOf_77 : decode cX0_worthOf 77 = .ok (.getfield 15, 3) := by decide +kernel
theorem dX0_worthOf_80 : decode cX0_worthOf 80 = .ok (.iload_n 2, 1) := by decide +kernel
theorem dX0_worthOf_81 : decode cX0_worthOf 81 = .ok (.iconst 1, 1) := by decide +kernel
theorem dX0_worthOf_82 : decode cX0_worthOf 82 = .ok (.isub, 1) := by decide +kernel
theorem dX0_worthOf_83 : decode cX0_worthOf 83 = .ok (.iaload, 1) := by decide +kernel
theorem dX0_worthOf_84 : decode cX0_worthOf 84 = .ok (.ineg, 1) := by decide +kernel
theorem dX0_worthOf_85 : decode cX0_worthOf 85 = .ok (.iastore, 1) := by decide +kernel
theorem dX0_worthOf_86 : decode cX0_worthOf 86 = .ok (.goto 42, 3) := by decide +kernel
theorem dX0_worthOf_89 : decode cX0_worthOf 89 = .ok (.iload_n 2, 1) := by decide +kernel
theorem dX0_worthOf_90 : decode cX0_worthOf 90 = .ok (.iconst 2, 1) := by decide +kernel
theorem dX0_worthOf_91 : decode cX0_worthOf 91 = .ok (.if_icmp .lt 37, 3) := by decide +kernel
theorem dX0_worthOf_94 : decode cX0_worthOf 94 = .ok (.iinc 2 (-1), 3) := by decide +kernel
theorem dX0_worthOf_97 : decode cX0_worthOf 97 = .ok (.aload_n 0, 1) := by decide +kernel
theorem dX0_worthOf_98 : decode cX0_worthOf 98 = .ok (.getfield 15, 3) := by decide +kernel
theorem dX0_worthOf_101 : decode cX0_worthOf 101 = .ok (.iload_n 2, 1) := by decide +kernel
theorem dX0_worthOf_102 : decode cX0_worthOf 102 = .ok (.iconst 1, 1) := by decide +kernel
theorem dX0_worthOf_103 : decode cX0_worthOf 103 = .ok (.isub, 1) := by decide +kernel
theorem dX0_worthOf_104 : decode cX0_worthOf 104 = .ok (.iload 4, 2) := by decide +kernel
theorem dX0_worthOf_106 : decode cX0_worthOf 106 = .ok (.sipush 10007, 3) := by decide +kernel
theorem dX0_worthOf_109 : decode cX0_worthOf 109 = .ok (.isub, 1) := by decide +kernel
theorem dX0_worthOf_110 : decode cX0_worthOf 110 = .ok (.aload_n 0, 1) := by decide +kernel
theorem dX0_worthOf_111 : decode cX0_worthOf 111 = .ok (.getfield 15, 3) := by decide +kernel
theorem dX0_worthOf_114 : decode cX0_worthOf 114 = .ok (.iload_n 2, 1) := by decide +kernel
theorem dX0_worthOf_115 : decode cX0_worthOf 115 = .ok (.iconst 1, 1) := by decide +kernel
theorem dX0_worthOf_116 : decode cX0_worthOf 116 = .ok (.isub, 1) := by decide +kernel
theorem dX0_worthOf_117 : decode cX0_worthOf 117 = .ok (.iaload, 1) := by decide +kernel
theorem dX0_worthOf_118 : decode cX0_worthOf 118 = .ok (.aload_n 0, 1) := by decide +kernel
theorem dX0_worthOf_119 : decode cX0_worthOf 119 = .ok (.getfield 15, 3) := by decide +kernel
theorem dX0_worthOf_122 : decode cX0_worthOf 122 = .ok (.iload_n 2, 1) := by decide +kernel
theorem dX0_worthOf_123 : decode cX0_worthOf 123 = .ok (.iaload, 1) := by decide +kernel
theorem dX0_worthOf_124 : decode cX0_worthOf 124 = .ok (.invokestatic 50, 3) := by decide +kernel
theorem dX0_worthOf_127 : decode cX0_worthOf 127 = .ok (.iastore, 1) := by decide +kernel
theorem dX0_worthOf_128 : decode cX0_worthOf 128 = .ok (.iinc 3 1, 3) := by decide +kernel
theorem dX0_worthOf_131 : decode cX0_worthOf 131 = .ok (.goto (-127), 3) := by decide +kernel
theorem dX0_worthOf_134 : decode cX0_worthOf 134 = .ok (.aload_n 0, 1) := by decide +kernel
theorem dX0_worthOf_135 : decode cX0_worthOf 135 = .ok (.getfield 15, 3) := by decide +kernel
theorem dX0_worthOf_138 : decode cX0_worthOf 138 = .ok (.iconst 0, 1) := by decide +kernel
theorem dX0_worthOf_139 : decode cX0_worthOf 139 = .ok (.iaload, 1) := by decide +kernel
theorem dX0_worthOf_140 : decode cX0_worthOf 140 = .ok (.ireturn, 1) := by decide +kernel
theorem dX0_valueOf_0 : decode cX0_valueOf 0 = .ok (.iload_n 1, 1) := by decide +kernel
theorem dX0_valueOf_1 : decode cX0_valueOf 1 = .ok (.sipush 10000, 3) := by decide +kernel
theorem dX0_valueOf_4 : decode cX0_valueOf 4 = .ok (.isub, 1) := by decide +kernel
theorem dX0_valueOf_5 : decode cX0_valueOf 5 = .ok (.istore_n 2, 1) := by decide +kernel
theorem dX0_valueOf_6 : decode cX0_valueOf 6 = .ok (.iload_n 2, 1) := by decide +kernel
theorem dX0_valueOf_7 : decode cX0_valueOf 7 = .ok (.iconst 0, 1) := by decide +kernel
theorem dX0_valueOf_8 : decode cX0_valueOf 8 = .ok (.bipush 6, 2) := by decide +kernel
theorem dX0_valueOf_10 : decode cX0_valueOf 10 = .ok (.invokestatic 54, 3) := by decide +kernel
theorem dX0_valueOf_13 : decode cX0_valueOf 13 = .ok (.ifCond .eq 12, 3) := by decide +kernel
theorem dX0_valueOf_16 : decode cX0_valueOf 16 = .ok (.aload_n 0, 1) := by decide +kernel
theorem dX0_valueOf_17 : decode cX0_valueOf 17 = .ok (.getfield 9, 3) := by decide +kernel
theorem dX0_valueOf_20 : decode cX0_valueOf 20 = .ok (.iload_n 2, 1) := by decide +kernel
theorem dX0_valueOf_21 : decode cX0_valueOf 21 = .ok (.iaload, 1) := by decide +kernel
theorem dX0_valueOf_22 : decode cX0_valueOf 22 = .ok (.goto 4, 3) := by decide +kernel
theorem dX0_valueOf_25 : decode cX0_valueOf 25 = .ok (.iload_n 1, 1) := by decide +kernel
theorem dX0_valueOf_26 : decode cX0_valueOf 26 = .ok (.ireturn, 1) := by decide +kernel
theorem dX0_joined_0 : decode cX0_joined 0 = .ok (.iload_n 0, 1) := by decide +kernel
theorem dX0_joined_1 : decode cX0_joined 1 = .ok (.lookupswitch 86 #[(42, 59), (43, 51), (45, 55), (47, 63), (60, 75)], 51) := by decide +kernel
theorem dX0_joined_52 : decode cX0_joined 52 = .ok (.iload_n 1, 1) := by decide +kernel
theorem dX0_joined_53 : decode cX0_joined 53 = .ok (.iload_n 2, 1) := by decide +kernel
theorem dX0_joined_54 : decode cX0_joined 54 = .ok (.iadd, 1) := by decide +kernel
theorem dX0_joined_55 : decode cX0_joined 55 = .ok (.ireturn, 1) := by decide +kernel
theorem dX0_joined_56 : decode cX0_joined 56 = .ok (.iload_n 1, 1) := by decide +kernel
theorem dX0_joined_57 : decode cX0_joined 57 = .ok (.iload_n 2, 1) := by decide +kernel
theorem dX0_joined_58 : decode cX0_joined 58 = .ok (.isub, 1) := by decide +kernel
theorem dX0_joined_59 : decode cX0_joined 59 = .ok (.ireturn, 1) := by decide +kernel
theorem dX0_joined_60 : decode cX0_joined 60 = .ok (.iload_n 1, 1) := by decide +kernel
theorem dX0_joined_61 : decode cX0_joined 61 = .ok (.iload_n 2, 1) := by decide +kernel
theorem dX0_joined_62 : decode cX0_joined 62 = .ok (.imul, 1) := by decide +kernel
theorem dX0_joined_63 : decode cX0_joined 63 = .ok (.ireturn, 1) := by decide +kernel
theorem dX0_joined_64 : decode cX0_joined 64 = .ok (.iload_n 2, 1) := by decide +kernel
theorem dX0_joined_65 : decode cX0_joined 65 = .ok (.ifCond .ne 7, 3) := by decide +kernel
theorem dX0_joined_68 : decode cX0_joined 68 = .ok (.iconst 0, 1) := by decide +kernel
theorem dX0_joined_69 : decode cX0_joined 69 = .ok (.goto 6, 3) := by decide +kernel
theorem dX0_joined_72 : decode cX0_joined 72 = .ok (.iload_n 1, 1) := by decide +kernel
theorem dX0_joined_73 : decode cX0_joined 73 = .ok (.iload_n 2, 1) := by decide +kernel
theorem dX0_joined_74 : decode cX0_joined 74 = .ok (.idiv, 1) := by decide +kernel
theorem dX0_joined_75 : decode cX0_joined 75 = .ok (.ireturn, 1) := by decide +kernel
theorem dX0_joined_76 : decode cX0_joined 76 = .ok (.iload_n 1, 1) := by decide +kernel
theorem dX0_joined_77 : decode cX0_joined 77 = .ok (.iload_n 2, 1) := by decide +kernel
theorem dX0_joined_78 : decode cX0_joined 78 = .ok (.if_icmp .ge 7, 3) := by decide +kernel
theorem dX0_joined_81 : decode cX0_joined 81 = .ok (.iconst 1, 1) := by decide +kernel
theorem dX0_joined_82 : decode cX0_joined 82 = .ok (.goto 4, 3) := by decide +kernel
theorem dX0_joined_85 : decode cX0_joined 85 = .ok (.iconst 0, 1) := by decide +kernel
theorem dX0_joined_86 : decode cX0_joined 86 = .ok (.ireturn, 1) := by decide +kernel
theorem dX0_joined_87 : decode cX0_joined 87 = .ok (.iload_n 1, 1) := by decide +kernel
theorem dX0_joined_88 : decode cX0_joined 88 = .ok (.iload_n 2, 1) := by decide +kernel
theorem dX0_joined_89 : decode cX0_joined 89 = .ok (.if_icmp .ne 7, 3) := by decide +kernel
theorem dX0_joined_92 : decode cX0_joined 92 = .ok (.iconst 1, 1) := by decide +kernel
theorem dX0_joined_93 : decode cX0_joined 93 = .ok (.goto 4, 3) := by decide +kernel
theorem dX0_joined_96 : decode cX0_joined 96 = .ok (.iconst 0, 1) := by decide +kernel
theorem dX0_joined_97 : decode cX0_joined 97 = .ok (.ireturn, 1) := by decide +kernel
theorem dX1_init_0 : decode cX1_init 0 = .ok (.aload_n 0, 1) := by decide +kernel
theorem dX1_init_1 : decode cX1_init 1 = .ok (.invokespecial 3, 3) := by decide +kernel
theorem dX1_init_4 : decode cX1_init 4 = .ok (.aload_n 0, 1) := by decide +kernel
theorem dX1_init_5 : decode cX1_init 5 = .ok (.bipush 12, 2) := by decide +kernel
theorem dX1_init_7 : decode cX1_init 7 = .ok (.newarray .int, 2) := by decide +kernel
theorem dX1_init_9 : decode cX1_init 9 = .ok (.putfield 9, 3) := by decide +kernel
theorem dX1_init_12 : decode cX1_init 12 = .ok (.aload_n 0, 1) := by decide +kernel
theorem dX1_init_13 : decode cX1_init 13 = .ok (.bipush 12, 2) := by decide +kernel
theorem dX1_init_15 : decode cX1_init 15 = .ok (.newarray .int, 2) := by decide +kernel
theorem dX1_init_17 : decode cX1_init 17 = .ok (.putfield 15, 3) := by decide +kernel
theorem dX1_init_20 : decode cX1_init 20 = .ok (.aload_n 0, 1) := by decide +kernel
theorem dX1_init_21 : decode cX1_init 21 = .ok (.bipush 12, 2) := by decide +kernel
theorem dX1_init_23 : decode cX1_init 23 = .ok (.newarray .int, 2) := by decide +kernel
theorem dX1_init_25 : decode cX1_init 25 = .ok (.putfield 18, 3) := by decide +kernel
theorem dX1_init_28 : decode cX1_init 28 = .ok (.aload_n 0, 1) := by decide +kernel
theorem dX1_init_29 : decode cX1_init 29 = .ok (.bipush 24, 2) := by decide +kernel
theorem dX1_init_31 : decode cX1_init 31 = .ok (.newarray .int, 2) := by decide +kernel
theorem dX1_init_33 : decode cX1_init 33 = .ok (.putfield 21, 3) := by decide +kernel
theorem dX1_init_36 : decode cX1_init 36 = .ok (.aload_n 0, 1) := by decide +kernel
theorem dX1_init_37 : decode cX1_init 37 = .ok (.aload_n 1, 1) := by decide +kernel
theorem dX1_init_38 : decode cX1_init 38 = .ok (.putfield 24, 3) := by decide +kernel
theorem dX1_init_41 : decode cX1_init 41 = .ok (.aload_n 0, 1) := by decide +kernel
theorem dX1_init_42 : decode cX1_init 42 = .ok (.aload_n 2, 1) := by decide +kernel
theorem dX1_init_43 : decode cX1_init 43 = .ok (.putfield 28, 3) := by decide +kernel
theorem dX1_init_46 : decode cX1_init 46 = .ok (.aload_n 0, 1) := by decide +kernel
theorem dX1_init_47 : decode cX1_init 47 = .ok (.aload_n 3, 1) := by decide +kernel
theorem dX1_init_48 : decode cX1_init 48 = .ok (.putfield 32, 3) := by decide +kernel
theorem dX1_init_51 : decode cX1_init 51 = .ok (.return_, 1) := by decide +kernel
theorem dX1_passBy_0 : decode cX1_passBy 0 = .ok (.aload_n 0, 1) := by decide +kernel
theorem dX1_passBy_1 : decode cX1_passBy 1 = .ok (.invokevirtual 36, 3) := by decide +kernel
theorem dX1_passBy_4 : decode cX1_passBy 4 = .ok (.iconst 0, 1) := by decide +kernel
theorem dX1_passBy_5 : decode cX1_passBy 5 = .ok (.istore_n 2, 1) := by decide +kernel
theorem dX1_passBy_6 : decode cX1_passBy 6 = .ok (.iload_n 2, 1) := by decide +kernel
theorem dX1_passBy_7 : decode cX1_passBy 7 = .ok (.aload_n 0, 1) := by decide +kernel
theorem dX1_passBy_8 : decode cX1_passBy 8 = .ok (.getfield 24, 3) := by decide +kernel
theorem dX1_passBy_11 : decode cX1_passBy 11 = .ok (.getfield 39, 3) := by decide +kernel
theorem dX1_passBy_14 : decode cX1_passBy 14 = .ok (.if_icmp .ge 69, 3) := by decide +kernel
theorem dX1_passBy_17 : decode cX1_passBy 17 = .ok (.aload_n 0, 1) := by decide +kernel
theorem dX1_passBy_18 : decode cX1_passBy 18 = .ok (.getfield 24, 3) := by decide +kernel
theorem dX1_passBy_21 : decode cX1_passBy 21 = .ok (.getfield 45, 3) := by decide +kernel
theorem dX1_passBy_24 : decode cX1_passBy 24 = .ok (.iload_n 2, 1) := by decide +kernel
theorem dX1_passBy_25 : decode cX1_passBy 25 = .ok (.aaload, 1) := by decide +kernel
theorem dX1_passBy_26 : decode cX1_passBy 26 = .ok (.astore_n 3, 1) := by decide +kernel
theorem dX1_passBy_27 : decode cX1_passBy 27 = .ok (.aload_n 3, 1) := by decide +kernel
theorem dX1_passBy_28 : decode cX1_passBy 28 = .ok (.getfield 49, 3) := by decide +kernel
theorem dX1_passBy_31 : decode cX1_passBy 31 = .ok (.iconst 2, 1) := by decide +kernel
theorem dX1_passBy_32 : decode cX1_passBy 32 = .ok (.if_icmp .ne 7, 3) := by decide +kernel
theorem dX1_passBy_35 : decode cX1_passBy 35 = .ok (.iconst (-1), 1) := by decide +kernel
theorem dX1_passBy_36 : decode cX1_passBy 36 = .ok (.goto 9, 3) := by decide +kernel
theorem dX1_passBy_39 : decode cX1_passBy 39 = .ok (.aload_n 0, 1) := by decide +kernel
theorem dX1_passBy_40 : decode cX1_passBy 40 = .ok (.aload_n 3, 1) := by decide +kernel
theorem dX1_passBy_41 : decode cX1_passBy 41 = .ok (.aload_n 1, 1) := by decide +kernel
theorem dX1_passBy_42 : decode cX1_passBy 42 = .ok (.invokevirtual 54, 3) := by decide +kernel
theorem dX1_passBy_45 : decode cX1_passBy 45 = .ok (.istore 4, 2) := by decide +kernel
theorem dX1_passBy_47 : decode cX1_passBy 47 = .ok (.aload_n 0, 1) := by decide +kernel
theorem dX1_passBy_48 : decode cX1_passBy 48 = .ok (.getfield 21, 3) := by decide +kernel
theorem dX1_passBy_51 : decode cX1_passBy 51 = .ok (.iload_n 2, 1) := by decide +kernel
theorem dX1_passBy_52 : decode cX1_passBy 52 = .ok (.iload 4, 2) := by decide +kernel
theorem dX1_passBy_54 : decode cX1_passBy 54 = .ok (.iastore, 1) := by decide +kernel
theorem dX1_passBy_55 : decode cX1_passBy 55 = .ok (.iload 4, 2) := by decide +kernel
theorem dX1_passBy_57 : decode cX1_passBy 57 = .ok (.iconst (-1), 1) := by decide +kernel
theorem dX1_passBy_58 : decode cX1_passBy 58 = .ok (.if_icmp .eq 19, 3) := by decide +kernel
theorem dX1_passBy_61 : decode cX1_passBy 61 = .ok (.aload_n 0, 1) := by decide +kernel
theorem dX1_passBy_62 : decode cX1_passBy 62 = .ok (.iload 4, 2) := by decide +kernel
theorem dX1_passBy_64 : decode cX1_passBy 64 = .ok (.aload_n 3, 1) := by decide +kernel
theorem dX1_passBy_65 : decode cX1_passBy 65 = .ok (.invokevirtual 58, 3) := by decide +kernel
theorem dX1_passBy_68 : decode cX1_passBy 68 = .ok (.ifCond .eq 9, 3) := by decide +kernel
theorem dX1_passBy_71 : decode cX1_passBy 71 = .ok (.aload_n 0, 1) := by decide +kernel
theorem dX1_passBy_72 : decode cX1_passBy 72 = .ok (.iload 4, 2) := by decide +kernel
theorem dX1_passBy_74 : decode cX1_passBy 74 = .ok (.invokevirtual 62, 3) := by decide +kernel
theorem dX1_passBy_77 : decode cX1_passBy 77 = .ok (.iinc 2 1, 3) := by decide +kernel
theorem dX1_passBy_80 : decode cX1_passBy 80 = .ok (.goto (-74), 3) := by decide +kernel
theorem dX1_passBy_83 : decode cX1_passBy 83 = .ok (.return_, 1) := by decide +kernel
theorem dX1_startAgain_0 : decode cX1_startAgain 0 = .ok (.iconst 0, 1) := by decide +kernel
theorem dX1_startAgain_1 : decode cX1_startAgain 1 = .ok (.istore_n 1, 1) := by decide +kernel
theorem dX1_startAgain_2 : decode cX1_startAgain 2 = .ok (.iload_n 1, 1) := by decide +kernel
theorem dX1_startAgain_3 : decode cX1_startAgain 3 = .ok (.aload_n 0, 1) := by decide +kernel
theorem dX1_startAgain_4 : decode cX1_startAgain 4 = .ok (.getfield 24, 3) := by decide +kernel
theorem dX1_startAgain_7 : decode cX1_startAgain 7 = .ok (.getfield 66, 3) := by decide +kernel
theorem dX1_startAgain_10 : decode cX1_startAgain 10 = .ok (.if_icmp .ge 52, 3) := by decide +kernel
theorem dX1_startAgain_13 : decode cX1_startAgain 13 = .ok (.aload_n 0, 1) := by decide +kernel
theorem dX1_startAgain_14 : decode cX1_startAgain 14 = .ok (.getfield 9, 3) := by decide +kernel
theorem dX1_startAgain_17 : decode cX1_startAgain 17 = .ok (.iload_n 1, 1) := by decide +kernel
theorem dX1_startAgain_18 : decode cX1_startAgain 18 = .ok (.aload_n 0, 1) := by decide +kernel
theorem dX1_startAgain_19 : decode cX1_startAgain 19 = .ok (.getfield 24, 3) := by decide +kernel
theorem dX1_startAgain_22 : decode cX1_startAgain 22 = .ok (.getfield 69, 3) := by decide +kernel
theorem dX1_startAgain_25 : decode cX1_startAgain 25 = .ok (.iload_n 1, 1) := by decide +kernel
theorem dX1_startAgain_26 : decode cX1_startAgain 26 = .ok (.aaload, 1) := by decide +kernel
theorem dX1_startAgain_27 : decode cX1_startAgain 27 = .ok (.getfield 73, 3) := by decide +kernel
theorem dX1_startAgain_30 : decode cX1_startAgain 30 = .ok (.iastore, 1) := by decide +kernel
theorem dX1_startAgain_31 : decode cX1_startAgain 31 = .ok (.aload_n 0, 1) := by decide +kernel
theorem dX1_startAgain_32 : decode cX1_startAgain 32 = .ok (.getfield 15, 3) := by decide +kernel
theorem dX1_startAgain_35 : decode cX1_startAgain 35 = .ok (.iload_n 1, 1) := by decide +kernel
theorem dX1_startAgain_36 : decode cX1_startAgain 36 = .ok (.aload_n 0, 1) := by decide +kernel
theorem dX1_startAgain_37 : decode cX1_startAgain 37 = .ok (.getfield 24, 3) := by decide +kernel
theorem dX1_startAgain_40 : decode cX1_startAgain 40 = .ok (.getfield 69, 3) := by decide +kernel
theorem dX1_startAgain_43 : decode cX1_startAgain 43 = .ok (.iload_n 1, 1) := by decide +kernel
theorem dX1_startAgain_44 : decode cX1_startAgain 44 = .ok (.aaload, 1) := by decide +kernel
theorem dX1_startAgain_45 : decode cX1_startAgain 45 = .ok (.getfield 78, 3) := by decide +kernel
theorem dX1_startAgain_48 : decode cX1_startAgain 48 = .ok (.iastore, 1) := by decide +kernel
theorem dX1_startAgain_49 : decode cX1_startAgain 49 = .ok (.aload_n 0, 1) := by decide +kernel
theorem dX1_startAgain_50 : decode cX1_startAgain 50 = .ok (.getfield 18, 3) := by decide +kernel
theorem dX1_startAgain_53 : decode cX1_startAgain 53 = .ok (.iload_n 1, 1) := by decide +kernel
theorem dX1_startAgain_54 : decode cX1_startAgain 54 = .ok (.iconst 0, 1) := by decide +kernel
theorem dX1_startAgain_55 : decode cX1_startAgain 55 = .ok (.iastore, 1) := by decide +kernel
theorem dX1_startAgain_56 : decode cX1_startAgain 56 = .ok (.iinc 1 1, 3) := by decide +kernel
theorem dX1_startAgain_59 : decode cX1_startAgain 59 = .ok (.goto (-57), 3) := by decide +kernel
theorem dX1_startAgain_62 : decode cX1_startAgain 62 = .ok (.aload_n 0, 1) := by decide +kernel
theorem dX1_startAgain_63 : decode cX1_startAgain 63 = .ok (.iconst 0, 1) := by decide +kernel
theorem dX1_startAgain_64 : decode cX1_startAgain 64 = .ok (.putfield 81, 3) := by decide +kernel
theorem dX1_startAgain_67 : decode cX1_startAgain 67 = .ok (.aload_n 0, 1) := by decide +kernel
theorem dX1_startAgain_68 : decode cX1_startAgain 68 = .ok (.iconst 0, 1) := by decide +kernel
theorem dX1_startAgain_69 : decode cX1_startAgain 69 = .ok (.putfield 84, 3) := by decide +kernel
theorem dX1_startAgain_72 : decode cX1_startAgain 72 = .ok (.aload_n 0, 1) := by decide +kernel
theorem dX1_startAgain_73 : decode cX1_startAgain 73 = .ok (.iconst 0, 1) := by decide +kernel
theorem dX1_startAgain_74 : decode cX1_startAgain 74 = .ok (.putfield 87, 3) := by decide +kernel
theorem dX1_startAgain_77 : decode cX1_startAgain 77 = .ok (.return_, 1) := by decide +kernel
theorem dX1_bestTaker_0 : decode cX1_bestTaker 0 = .ok (.iconst (-1), 1) := by decide +kernel
theorem dX1_bestTaker_1 : decode cX1_bestTaker 1 = .ok (.istore_n 3, 1) := by decide +kernel
theorem dX1_bestTaker_2 : decode cX1_bestTaker 2 = .ok (.iconst 0, 1) := by decide +kernel
theorem dX1_bestTaker_3 : decode cX1_bestTaker 3 = .ok (.istore 4, 2) := by decide +kernel
theorem dX1_bestTaker_5 : decode cX1_bestTaker 5 = .ok (.iconst 0, 1) := by decide +kernel
theorem dX1_bestTaker_6 : decode cX1_bestTaker 6 = .ok (.istore 5, 2) := by decide +kernel
theorem dX1_bestTaker_8 : decode cX1_bestTaker 8 = .ok (.iload 5, 2) := by decide +kernel
theorem dX1_bestTaker_10 : decode cX1_bestTaker 10 = .ok (.aload_n 0, 1) := by decide +kernel
theorem dX1_bestTaker_11 : decode cX1_bestTaker 11 = .ok (.getfield 24, 3) := by decide +kernel
theorem dX1_bestTaker_14 : decode cX1_bestTaker 14 = .ok (.getfield 66, 3) := by decide +kernel
theorem dX1_bestTaker_17 : decode cX1_bestTaker 17 = .ok (.if_icmp .ge 139, 3) := by decide +kernel
theorem dX1_bestTaker_20 : decode cX1_bestTaker 20 = .ok (.aload_n 0, 1) := by decide +kernel
theorem dX1_bestTaker_21 : decode cX1_bestTaker 21 = .ok (.getfield 24, 3) := by decide +kernel
theorem dX1_bestTaker_24 : decode cX1_bestTaker 24 = .ok (.getfield 69, 3) := by decide +kernel
theorem dX1_bestTaker_27 : decode cX1_bestTaker 27 = .ok (.iload 5, 2) := by decide +kernel
theorem dX1_bestTaker_29 : decode cX1_bestTaker 29 = .ok (.aaload, 1) := by decide +kernel
theorem dX1_bestTaker_30 : decode cX1_bestTaker 30 = .ok (.getfield 78, 3) := by decide +kernel
theorem dX1_bestTaker_33 : decode cX1_bestTaker 33 = .ok (.aload_n 1, 1) := by decide +kernel
theorem dX1_bestTaker_34 : decode cX1_bestTaker 34 = .ok (.getfield 90, 3) := by decide +kernel
theorem dX1_bestTaker_37 : decode cX1_bestTaker 37 = .ok (.if_icmp .gt 113, 3) := by decide +kernel
theorem dX1_bestTaker_40 : decode cX1_bestTaker 40 = .ok (.aload_n 0, 1) := by decide +kernel
theorem dX1_bestTaker_41 : decode cX1_bestTaker 41 = .ok (.iload 5, 2) := by decide +kernel
theorem dX1_bestTaker_43 : decode cX1_bestTaker 43 = .ok (.aload_n 1, 1) := by decide +kernel
theorem dX1_bestTaker_44 : decode cX1_bestTaker 44 = .ok (.invokevirtual 58, 3) := by decide +kernel
theorem dX1_bestTaker_47 : decode cX1_bestTaker 47 = .ok (.ifCond .ne 6, 3) := by decide +kernel
theorem dX1_bestTaker_50 : decode cX1_bestTaker 50 = .ok (.goto 100, 3) := by decide +kernel
theorem dX1_bestTaker_53 : decode cX1_bestTaker 53 = .ok (.aload_n 0, 1) := by decide +kernel
theorem dX1_bestTaker_54 : decode cX1_bestTaker 54 = .ok (.getfield 32, 3) := by decide +kernel
theorem dX1_bestTaker_57 : decode cX1_bestTaker 57 = .ok (.aload_n 0, 1) := by decide +kernel
theorem dX1_bestTaker_58 : decode cX1_bestTaker 58 = .ok (.getfield 24, 3) := by decide +kernel
theorem dX1_bestTaker_61 : decode cX1_bestTaker 61 = .ok (.getfield 93, 3) := by decide +kernel
theorem dX1_bestTaker_64 : decode cX1_bestTaker 64 = .ok (.aload_n 0, 1) := by decide +kernel
theorem dX1_bestTaker_65 : decode cX1_bestTaker 65 = .ok (.getfield 24, 3) := by decide +kernel
theorem dX1_bestTaker_68 : decode cX1_bestTaker 68 = .ok (.getfield 69, 3) := by decide +kernel
theorem dX1_bestTaker_71 : decode cX1_bestTaker 71 = .ok (.iload 5, 2) := by decide +kernel
theorem dX1_bestTaker_73 : decode cX1_bestTaker 73 = .ok (.aaload, 1) := by decide +kernel
theorem dX1_bestTaker_74 : decode cX1_bestTaker 74 = .ok (.getfield 97, 3) := by decide +kernel
theorem dX1_bestTaker_77 : decode cX1_bestTaker 77 = .ok (.aload_n 0, 1) := by decide +kernel
theorem dX1_bestTaker_78 : decode cX1_bestTaker 78 = .ok (.getfield 9, 3) := by decide +kernel
theorem dX1_bestTaker_81 : decode cX1_bestTaker 81 = .ok (.iload 5, 2) := by decide +kernel
theorem dX1_bestTaker_83 : decode cX1_bestTaker 83 = .ok (.iaload, 1) := by decide +kernel
theorem dX1_bestTaker_84 : decode cX1_bestTaker 84 = .ok (.aload_n 1, 1) := by decide +kernel
theorem dX1_bestTaker_85 : decode cX1_bestTaker 85 = .ok (.invokevirtual 100, 3) := by decide +kernel
theorem dX1_bestTaker_88 : decode cX1_bestTaker 88 = .ok (.aload_n 0, 1) := by decide +kernel
theorem dX1_bestTaker_89 : decode cX1_bestTaker 89 = .ok (.getfield 32, 3) := by decide +kernel
theorem dX1_bestTaker_92 : decode cX1_bestTaker 92 = .ok (.iload 5, 2) := by decide +kernel
theorem dX1_bestTaker_94 : decode cX1_bestTaker 94 = .ok (.aload_n 0, 1) := by decide +kernel
theorem dX1_bestTaker_95 : decode cX1_bestTaker 95 = .ok (.getfield 18, 3) := by decide +kernel
theorem dX1_bestTaker_98 : decode cX1_bestTaker 98 = .ok (.iload 5, 2) := by decide +kernel
theorem dX1_bestTaker_100 : decode cX1_bestTaker 100 = .ok (.iaload, 1) := by decide +kernel
theorem dX1_bestTaker_101 : decode cX1_bestTaker 101 = .ok (.bipush 25, 2) := by decide +kernel
theorem dX1_bestTaker_103 : decode cX1_bestTaker 103 = .ok (.invokevirtual 106, 3) := by decide +kernel
theorem dX1_bestTaker_106 : decode cX1_bestTaker 106 = .ok (.aload_n 0, 1) := by decide +kernel
theorem dX1_bestTaker_107 : decode cX1_bestTaker 107 = .ok (.getfield 32, 3) := by decide +kernel
theorem dX1_bestTaker_110 : decode cX1_bestTaker 110 = .ok (.iconst 0, 1) := by decide +kernel
theorem dX1_bestTaker_111 : decode cX1_bestTaker 111 = .ok (.aload_n 0, 1) := by decide +kernel
theorem dX1_bestTaker_112 : decode cX1_bestTaker 112 = .ok (.getfield 28, 3) := by decide +kernel
theorem dX1_bestTaker_115 : decode cX1_bestTaker 115 = .ok (.getfield 110, 3) := by decide +kernel
theorem dX1_bestTaker_118 : decode cX1_bestTaker 118 = .ok (.invokevirtual 113, 3) := by decide +kernel
theorem dX1_bestTaker_121 : decode cX1_bestTaker 121 = .ok (.aload_n 0, 1) := by decide +kernel
theorem dX1_bestTaker_122 : decode cX1_bestTaker 122 = .ok (.getfield 32, 3) := by decide +kernel
theorem dX1_bestTaker_125 : decode cX1_bestTaker 125 = .ok (.aload_n 2, 1) := by decide +kernel
theorem dX1_bestTaker_126 : decode cX1_bestTaker 126 = .ok (.invokevirtual 117, 3) := by decide +kernel
theorem dX1_bestTaker_129 : decode cX1_bestTaker 129 = .ok (.istore 6, 2) := by decide +kernel
theorem dX1_bestTaker_131 : decode cX1_bestTaker 131 = .ok (.iload_n 3, 1) := by decide +kernel
theorem dX1_bestTaker_132 : decode cX1_bestTaker 132 = .ok (.iconst (-1), 1) := by decide +kernel
theorem dX1_bestTaker_133 : decode cX1_bestTaker 133 = .ok (.if_icmp .eq 10, 3) := by decide +kernel
theorem dX1_bestTaker_136 : decode cX1_bestTaker 136 = .ok (.iload 6, 2) := by decide +kernel
theorem dX1_bestTaker_138 : decode cX1_bestTaker 138 = .ok (.iload 4, 2) := by decide +kernel
theorem dX1_bestTaker_140 : decode cX1_bestTaker 140 = .ok (.if_icmp .le 10, 3) := by decide +kernel
theorem dX1_bestTaker_143 : decode cX1_bestTaker 143 = .ok (.iload 5, 2) := by decide +kernel
theorem dX1_bestTaker_145 : decode cX1_bestTaker 145 = .ok (.istore_n 3, 1) := by decide +kernel
theorem dX1_bestTaker_146 : decode cX1_bestTaker 146 = .ok (.iload 6, 2) := by decide +kernel
theorem dX1_bestTaker_148 : decode cX1_bestTaker 148 = .ok (.istore 4, 2) := by decide +kernel
theorem dX1_bestTaker_150 : decode cX1_bestTaker 150 = .ok (.iinc 5 1, 3) := by decide +kernel
theorem dX1_bestTaker_153 : decode cX1_bestTaker 153 = .ok (.goto (-145), 3) := by decide +kernel
theorem dX1_bestTaker_156 : decode cX1_bestTaker 156 = .ok (.iload_n 3, 1) := by decide +kernel
theorem dX1_bestTaker_157 : decode cX1_bestTaker 157 = .ok (.ireturn, 1) := by decide +kernel
theorem dX1_planFor_0 : decode cX1_planFor 0 = .ok (.aload_n 0, 1) := by decide +kernel
theorem dX1_planFor_1 : decode cX1_planFor 1 = .ok (.getfield 15, 3) := by decide +kernel
theorem dX1_planFor_4 : decode cX1_planFor 4 = .ok (.iload_n 1, 1) := by decide +kernel
theorem dX1_planFor_5 : decode cX1_planFor 5 = .ok (.iaload, 1) := by decide +kernel
theorem dX1_planFor_6 : decode cX1_planFor 6 = .ok (.aload_n 2, 1) := by decide +kernel
theorem dX1_planFor_7 : decode cX1_planFor 7 = .ok (.getfield 90, 3) := by decide +kernel
theorem dX1_planFor_10 : decode cX1_planFor 10 = .ok (.invokestatic 121, 3) := by decide +kernel
theorem dX1_planFor_13 : decode cX1_planFor 13 = .ok (.istore_n 3, 1) := by decide +kernel
theorem dX1_planFor_14 : decode cX1_planFor 14 = .ok (.aload_n 0, 1) := by decide +kernel
theorem dX1_planFor_15 : decode cX1_planFor 15 = .ok (.getfield 28, 3) := by decide +kernel
theorem dX1_planFor_18 : decode cX1_planFor 18 = .ok (.aload_n 0, 1) := by decide +kernel
theorem dX1_planFor_19 : decode cX1_planFor 19 = .ok (.getfield 24, 3) := by decide +kernel
theorem dX1_planFor_22 : decode cX1_planFor 22 = .ok (.getfield 69, 3) := by decide +kernel
theorem dX1_planFor_25 : decode cX1_planFor 25 = .ok (.iload_n 1, 1) := by decide +kernel
theorem dX1_planFor_26 : decode cX1_planFor 26 = .ok (.aaload, 1) := by decide +kernel
theorem dX1_planFor_27 : decode cX1_planFor 27 = .ok (.getfield 97, 3) := by decide +kernel
theorem dX1_planFor_30 : decode cX1_planFor 30 = .ok (.aload_n 0, 1) := by decide +kernel
theorem dX1_planFor_31 : decode cX1_planFor 31 = .ok (.getfield 9, 3) := by decide +kernel
theorem dX1_planFor_34 : decode cX1_planFor 34 = .ok (.iload_n 1, 1) := by decide +kernel
theorem dX1_planFor_35 : decode cX1_planFor 35 = .ok (.iaload, 1) := by decide +kernel
theorem dX1_planFor_36 : decode cX1_planFor 36 = .ok (.iload_n 3, 1) := by decide +kernel
theorem dX1_planFor_37 : decode cX1_planFor 37 = .ok (.aload_n 2, 1) := by decide +kernel
theorem dX1_planFor_38 : decode cX1_planFor 38 = .ok (.invokevirtual 127, 3) := by decide +kernel
theorem dX1_planFor_41 : decode cX1_planFor 41 = .ok (.ireturn, 1) := by decide +kernel
theorem dX1_handTo_0 : decode cX1_handTo 0 = .ok (.aload_n 0, 1) := by decide +kernel
theorem dX1_handTo_1 : decode cX1_handTo 1 = .ok (.getfield 9, 3) := by decide +kernel
theorem dX1_handTo_4 : decode cX1_handTo 4 = .ok (.iload_n 1, 1) := by decide +kernel
theorem dX1_handTo_5 : decode cX1_handTo 5 = .ok (.aload_n 0, 1) := by decide +kernel
theorem dX1_handTo_6 : decode cX1_handTo 6 = .ok (.getfield 28, 3) := by decide +kernel
theorem dX1_handTo_9 : decode cX1_handTo 9 = .ok (.getfield 131, 3) := by decide +kernel
theorem dX1_handTo_12 : decode cX1_handTo 12 = .ok (.iastore, 1) := by decide +kernel
theorem dX1_handTo_13 : decode cX1_handTo 13 = .ok (.aload_n 0, 1) := by decide +kernel
theorem dX1_handTo_14 : decode cX1_handTo 14 = .ok (.getfield 15, 3) := by decide +kernel
theorem dX1_handTo_17 : decode cX1_handTo 17 = .ok (.iload_n 1, 1) := by decide +kernel
theorem dX1_handTo_18 : decode cX1_handTo 18 = .ok (.aload_n 0, 1) := by decide +kernel
theorem dX1_handTo_19 : decode cX1_handTo 19 = .ok (.getfield 28, 3) := by decide +kernel
theorem dX1_handTo_22 : decode cX1_handTo 22 = .ok (.getfield 134, 3) := by decide +kernel
theorem dX1_handTo_25 : decode cX1_handTo 25 = .ok (.iastore, 1) := by decide +kernel
theorem dX1_handTo_26 : decode cX1_handTo 26 = .ok (.aload_n 0, 1) := by decide +kernel
theorem dX1_handTo_27 : decode cX1_handTo 27 = .ok (.getfield 18, 3) := by decide +kernel
theorem dX1_handTo_30 : decode cX1_handTo 30 = .ok (.iload_n 1, 1) := by decide +kernel
theorem dX1_handTo_31 : decode cX1_handTo 31 = .ok (.dup2, 1) := by decide +kernel
theorem dX1_handTo_32 : decode cX1_handTo 32 = .ok (.iaload, 1) := by decide +kernel
theorem dX1_handTo_33 : decode cX1_handTo 33 = .ok (.iconst 1, 1) := by decide +kernel
theorem dX1_handTo_34 : decode cX1_handTo 34 = .ok (.iadd, 1) := by decide +kernel
theorem dX1_handTo_35 : decode cX1_handTo 35 = .ok (.iastore, 1) := by decide +kernel
theorem dX1_handTo_36 : decode cX1_handTo 36 = .ok (.aload_n 0, 1) := by decide +kernel
theorem dX1_handTo_37 : decode cX1_handTo 37 = .ok (.dup, 1) := by decide +kernel
theorem dX1_handTo_38 : decode cX1_handTo 38 = .ok (.getfield 81, 3) := by decide +kernel
theorem dX1_handTo_41 : decode cX1_handTo 41 = .ok (.iconst 1, 1) := by decide +kernel
theorem dX1_handTo_42 : decode cX1_handTo 42 = .ok (.iadd, 1) := by decide +kernel
theorem dX1_handTo_43 : decode cX1_handTo 43 = .ok (.putfield 81, 3) := by decide +kernel
theorem dX1_handTo_46 : decode cX1_handTo 46 = .ok (.aload_n 0, 1) := by decide +kernel
theorem dX1_handTo_47 : decode cX1_handTo 47 = .ok (.dup, 1) := by decide +kernel
theorem dX1_handTo_48 : decode cX1_handTo 48 = .ok (.getfield 84, 3) := by decide +kernel
theorem dX1_handTo_51 : decode cX1_handTo 51 = .ok (.aload_n 0, 1) := by decide +kernel
theorem dX1_handTo_52 : decode cX1_handTo 52 = .ok (.getfield 28, 3) := by decide +kernel
theorem dX1_handTo_55 : decode cX1_handTo 55 = .ok (.getfield 110, 3) := by decide +kernel
theorem dX1_handTo_58 : decode cX1_handTo 58 = .ok (.iadd, 1) := by decide +kernel
theorem dX1_handTo_59 : decode cX1_handTo 59 = .ok (.putfield 84, 3) := by decide +kernel
theorem dX1_handTo_62 : decode cX1_handTo 62 = .ok (.aload_n 0, 1) := by decide +kernel
theorem dX1_handTo_63 : decode cX1_handTo 63 = .ok (.aload_n 0, 1) := by decide +kernel
theorem dX1_handTo_64 : decode cX1_handTo 64 = .ok (.getfield 87, 3) := by decide +kernel
theorem dX1_handTo_67 : decode cX1_handTo 67 = .ok (.aload_n 0, 1) := by decide +kernel
theorem dX1_handTo_68 : decode cX1_handTo 68 = .ok (.getfield 28, 3) := by decide +kernel
theorem dX1_handTo_71 : decode cX1_handTo 71 = .ok (.getfield 134, 3) := by decide +kernel
theorem dX1_handTo_74 : decode cX1_handTo 74 = .ok (.invokestatic 121, 3) := by decide +kernel
theorem dX1_handTo_77 : decode cX1_handTo 77 = .ok (.putfield 87, 3) := by decide +kernel
theorem dX1_handTo_80 : decode cX1_handTo 80 = .ok (.return_, 1) := by decide +kernel
theorem dX1_mostGiven_0 : decode cX1_mostGiven 0 = .ok (.iconst 0, 1) := by decide +kernel
theorem dX1_mostGiven_1 : decode cX1_mostGiven 1 = .ok (.istore_n 1, 1) := by decide +kernel
theorem dX1_mostGiven_2 : decode cX1_mostGiven 2 = .ok (.iconst 0, 1) := by decide +kernel
theorem dX1_mostGiven_3 : decode cX1_mostGiven 3 = .ok (.istore_n 2, 1) := by decide +kernel
theorem dX1_mostGiven_4 : decode cX1_mostGiven 4 = .ok (.iload_n 2, 1) := by decide +kernel
theorem dX1_mostGiven_5 : decode cX1_mostGiven 5 = .ok (.aload_n 0, 1) := by decide +kernel
theorem dX1_mostGiven_6 : decode cX1_mostGiven 6 = .ok (.getfield 24, 3) := by decide +kernel
theorem dX1_mostGiven_9 : decode cX1_mostGiven 9 = .ok (.getfield 66, 3) := by decide +kernel
theorem dX1_mostGiven_12 : decode cX1_mostGiven 12 = .ok (.if_icmp .ge 20, 3) := by decide +kernel
theorem dX1_mostGiven_15 : decode cX1_mostGiven 15 = .ok (.iload_n 1, 1) := by decide +kernel
theorem dX1_mostGiven_16 : decode cX1_mostGiven 16 = .ok (.aload_n 0, 1) := by decide +kernel
theorem dX1_mostGiven_17 : decode cX1_mostGiven 17 = .ok (.getfield 18, 3) := by decide +kernel
theorem dX1_mostGiven_20 : decode cX1_mostGiven 20 = .ok (.iload_n 2, 1) := by decide +kernel
theorem dX1_mostGiven_21 : decode cX1_mostGiven 21 = .ok (.iaload, 1) := by decide +kernel
theorem dX1_mostGiven_22 : decode cX1_mostGiven 22 = .ok (.invokestatic 121, 3) := by decide +kernel
theorem dX1_mostGiven_25 : decode cX1_mostGiven 25 = .ok (.istore_n 1, 1) := by decide +kernel
theorem dX1_mostGiven_26 : decode cX1_mostGiven 26 = .ok (.iinc 2 1, 3) := by decide +kernel
theorem dX1_mostGiven_29 : decode cX1_mostGiven 29 = .ok (.goto (-25), 3) := by decide +kernel
theorem dX1_mostGiven_32 : decode cX1_mostGiven 32 = .ok (.iload_n 1, 1) := by decide +kernel
theorem dX1_mostGiven_33 : decode cX1_mostGiven 33 = .ok (.ireturn, 1) := by decide +kernel
theorem dX1_fewestGiven_0 : decode cX1_fewestGiven 0 = .ok (.aload_n 0, 1) := by decide +kernel
theorem dX1_fewestGiven_1 : decode cX1_fewestGiven 1 = .ok (.getfield 24, 3) := by decide +kernel
theorem dX1_fewestGiven_4 : decode cX1_fewestGiven 4 = .ok (.getfield 66, 3) := by decide +kernel
theorem dX1_fewestGiven_7 : decode cX1_fewestGiven 7 = .ok (.ifCond .ne 7, 3) := by decide +kernel
theorem dX1_fewestGiven_10 : decode cX1_fewestGiven 10 = .ok (.iconst 0, 1) := by decide +kernel
theorem dX1_fewestGiven_11 : decode cX1_fewestGiven 11 = .ok (.goto 5, 3) := by decide +kernel
theorem dX1_fewestGiven_14 : decode cX1_fewestGiven 14 = .ok (.bipush 24, 2) := by decide +kernel
theorem dX1_fewestGiven_16 : decode cX1_fewestGiven 16 = .ok (.istore_n 1, 1) := by decide +kernel
theorem dX1_fewestGiven_17 : decode cX1_fewestGiven 17 = .ok (.iconst 0, 1) := by decide +kernel
theorem dX1_fewestGiven_18 : decode cX1_fewestGiven 18 = .ok (.istore_n 2, 1) := by decide +kernel
theorem dX1_fewestGiven_19 : decode cX1_fewestGiven 19 = .ok (.iload_n 2, 1) := by decide +kernel
theorem dX1_fewestGiven_20 : decode cX1_fewestGiven 20 = .ok (.aload_n 0, 1) := by decide +kernel
theorem dX1_fewestGiven_21 : decode cX1_fewestGiven 21 = .ok (.getfield 24, 3) := by decide +kernel
theorem dX1_fewestGiven_24 : decode cX1_fewestGiven 24 = .ok (.getfield 66, 3) := by decide +kernel
theorem dX1_fewestGiven_27 : decode cX1_fewestGiven 27 = .ok (.if_icmp .ge 20, 3) := by decide +kernel
theorem dX1_fewestGiven_30 : decode cX1_fewestGiven 30 = .ok (.iload_n 1, 1) := by decide +kernel
theorem dX1_fewestGiven_31 : decode cX1_fewestGiven 31 = .ok (.aload_n 0, 1) := by decide +kernel
theorem dX1_fewestGiven_32 : decode cX1_fewestGiven 32 = .ok (.getfield 18, 3) := by decide +kernel
theorem dX1_fewestGiven_35 : decode cX1_fewestGiven 35 = .ok (.iload_n 2, 1) := by decide +kernel
theorem dX1_fewestGiven_36 : decode cX1_fewestGiven 36 = .ok (.iaload, 1) := by decide +kernel
theorem dX1_fewestGiven_37 : decode cX1_fewestGiven 37 = .ok (.invokestatic 137, 3) := by decide +kernel
theorem dX1_fewestGiven_40 : decode cX1_fewestGiven 40 = .ok (.istore_n 1, 1) := by decide +kernel
theorem dX1_fewestGiven_41 : decode cX1_fewestGiven 41 = .ok (.iinc 2 1, 3) := by decide +kernel
theorem dX1_fewestGiven_44 : decode cX1_fewestGiven 44 = .ok (.goto (-25), 3) := by decide +kernel
theorem dX1_fewestGiven_47 : decode cX1_fewestGiven 47 = .ok (.iload_n 1, 1) := by decide +kernel
theorem dX1_fewestGiven_48 : decode cX1_fewestGiven 48 = .ok (.ireturn, 1) := by decide +kernel
theorem dX2_init_0 : decode cX2_init 0 = .ok (.aload_n 0, 1) := by decide +kernel
theorem dX2_init_1 : decode cX2_init 1 = .ok (.invokespecial 3, 3) := by decide +kernel
theorem dX2_init_4 : decode cX2_init 4 = .ok (.return_, 1) := by decide +kernel
theorem dX2_becomeGiven_0 : decode cX2_becomeGiven 0 = .ok (.aload_n 0, 1) := by decide +kernel
theorem dX2_becomeGiven_1 : decode cX2_becomeGiven 1 = .ok (.iconst 1, 1) := by decide +kernel
theorem dX2_becomeGiven_2 : decode cX2_becomeGiven 2 = .ok (.putfield 9, 3) := by decide +kernel
theorem dX2_becomeGiven_5 : decode cX2_becomeGiven 5 = .ok (.aload_n 0, 1) := by decide +kernel
theorem dX2_becomeGiven_6 : decode cX2_becomeGiven 6 = .ok (.iload_n 1, 1) := by decide +kernel
theorem dX2_becomeGiven_7 : decode cX2_becomeGiven 7 = .ok (.putfield 15, 3) := by decide +kernel
theorem dX2_becomeGiven_10 : decode cX2_becomeGiven 10 = .ok (.aload_n 0, 1) := by decide +kernel
theorem dX2_becomeGiven_11 : decode cX2_becomeGiven 11 = .ok (.iload_n 2, 1) := by decide +kernel
theorem dX2_becomeGiven_12 : decode cX2_becomeGiven 12 = .ok (.putfield 18, 3) := by decide +kernel
theorem dX2_becomeGiven_15 : decode cX2_becomeGiven 15 = .ok (.aload_n 0, 1) := by decide +kernel
theorem dX2_becomeGiven_16 : decode cX2_becomeGiven 16 = .ok (.iload_n 3, 1) := by decide +kernel
theorem dX2_becomeGiven_17 : decode cX2_becomeGiven 17 = .ok (.putfield 21, 3) := by decide +kernel
theorem dX2_becomeGiven_20 : decode cX2_becomeGiven 20 = .ok (.aload_n 0, 1) := by decide +kernel
theorem dX2_becomeGiven_21 : decode cX2_becomeGiven 21 = .ok (.iload 4, 2) := by decide +kernel
theorem dX2_becomeGiven_23 : decode cX2_becomeGiven 23 = .ok (.putfield 24, 3) := by decide +kernel
theorem dX2_becomeGiven_26 : decode cX2_becomeGiven 26 = .ok (.aload_n 0, 1) := by decide +kernel
theorem dX2_becomeGiven_27 : decode cX2_becomeGiven 27 = .ok (.aload_n 0, 1) := by decide +kernel
theorem dX2_becomeGiven_28 : decode cX2_becomeGiven 28 = .ok (.iload_n 3, 1) := by decide +kernel
theorem dX2_becomeGiven_29 : decode cX2_becomeGiven 29 = .ok (.invokevirtual 27, 3) := by decide +kernel
theorem dX2_becomeGiven_32 : decode cX2_becomeGiven 32 = .ok (.putfield 31, 3) := by decide +kernel
theorem dX2_becomeGiven_35 : decode cX2_becomeGiven 35 = .ok (.aload_n 0, 1) := by decide +kernel
theorem dX2_becomeGiven_36 : decode cX2_becomeGiven 36 = .ok (.iconst 0, 1) := by decide +kernel
theorem dX2_becomeGiven_37 : decode cX2_becomeGiven 37 = .ok (.invokevirtual 34, 3) := by decide +kernel
theorem dX2_becomeGiven_40 : decode cX2_becomeGiven 40 = .ok (.aload_n 0, 1) := by decide +kernel
theorem dX2_becomeGiven_41 : decode cX2_becomeGiven 41 = .ok (.iconst 1, 1) := by decide +kernel
theorem dX2_becomeGiven_42 : decode cX2_becomeGiven 42 = .ok (.invokevirtual 34, 3) := by decide +kernel
theorem dX2_becomeGiven_45 : decode cX2_becomeGiven 45 = .ok (.iadd, 1) := by decide +kernel
theorem dX2_becomeGiven_46 : decode cX2_becomeGiven 46 = .ok (.aload_n 0, 1) := by decide +kernel
theorem dX2_becomeGiven_47 : decode cX2_becomeGiven 47 = .ok (.iconst 2, 1) := by decide +kernel
theorem dX2_becomeGiven_48 : decode cX2_becomeGiven 48 = .ok (.invokevirtual 34, 3) := by decide +kernel
theorem dX2_becomeGiven_51 : decode cX2_becomeGiven 51 = .ok (.iadd, 1) := by decide +kernel
theorem dX2_becomeGiven_52 : decode cX2_becomeGiven 52 = .ok (.istore 5, 2) := by decide +kernel
theorem dX2_becomeGiven_54 : decode cX2_becomeGiven 54 = .ok (.aload_n 0, 1) := by decide +kernel
theorem dX2_becomeGiven_55 : decode cX2_becomeGiven 55 = .ok (.iconst 0, 1) := by decide +kernel
theorem dX2_becomeGiven_56 : decode cX2_becomeGiven 56 = .ok (.bipush 50, 2) := by decide +kernel
theorem dX2_becomeGiven_58 : decode cX2_becomeGiven 58 = .ok (.iload 5, 2) := by decide +kernel
theorem dX2_becomeGiven_60 : decode cX2_becomeGiven 60 = .ok (.isub, 1) := by decide +kernel
theorem dX2_becomeGiven_61 : decode cX2_becomeGiven 61 = .ok (.invokestatic 37, 3) := by decide +kernel
theorem dX2_becomeGiven_64 : decode cX2_becomeGiven 64 = .ok (.putfield 43, 3) := by decide +kernel
theorem dX2_becomeGiven_67 : decode cX2_becomeGiven 67 = .ok (.return_, 1) := by decide +kernel
theorem dX2_isGivenTo_0 : decode cX2_isGivenTo 0 = .ok (.aload_n 0, 1) := by decide +kernel
theorem dX2_isGivenTo_1 : decode cX2_isGivenTo 1 = .ok (.getfield 9, 3) := by decide +kernel
theorem dX2_isGivenTo_4 : decode cX2_isGivenTo 4 = .ok (.iconst 1, 1) := by decide +kernel
theorem dX2_isGivenTo_5 : decode cX2_isGivenTo 5 = .ok (.if_icmp .ne 15, 3) := by decide +kernel
theorem dX2_isGivenTo_8 : decode cX2_isGivenTo 8 = .ok (.aload_n 0, 1) := by decide +kernel
theorem dX2_isGivenTo_9 : decode cX2_isGivenTo 9 = .ok (.getfield 15, 3) := by decide +kernel
theorem dX2_isGivenTo_12 : decode cX2_isGivenTo 12 = .ok (.iload_n 1, 1) := by decide +kernel
theorem dX2_isGivenTo_13 : decode cX2_isGivenTo 13 = .ok (.if_icmp .ne 7, 3) := by decide +kernel
theorem dX2_isGivenTo_16 : decode cX2_isGivenTo 16 = .ok (.iconst 1, 1) := by decide +kernel
theorem dX2_isGivenTo_17 : decode cX2_isGivenTo 17 = .ok (.goto 4, 3) := by decide +kernel
theorem dX2_isGivenTo_20 : decode cX2_isGivenTo 20 = .ok (.iconst 0, 1) := by decide +kernel
theorem dX2_isGivenTo_21 : decode cX2_isGivenTo 21 = .ok (.ireturn, 1) := by decide +kernel
theorem dX2_isRefusedBy_0 : decode cX2_isRefusedBy 0 = .ok (.aload_n 0, 1) := by decide +kernel
theorem dX2_isRefusedBy_1 : decode cX2_isRefusedBy 1 = .ok (.getfield 46, 3) := by decide +kernel
theorem dX2_isRefusedBy_4 : decode cX2_isRefusedBy 4 = .ok (.iload_n 1, 1) := by decide +kernel
theorem dX2_isRefusedBy_5 : decode cX2_isRefusedBy 5 = .ok (.ishr, 1) := by decide +kernel
theorem dX2_isRefusedBy_6 : decode cX2_isRefusedBy 6 = .ok (.iconst 1, 1) := by decide +kernel
theorem dX2_isRefusedBy_7 : decode cX2_isRefusedBy 7 = .ok (.iand, 1) := by decide +kernel
theorem dX2_isRefusedBy_8 : decode cX2_isRefusedBy 8 = .ok (.ifCond .eq 7, 3) := by decide +kernel
theorem dX2_isRefusedBy_11 : decode cX2_isRefusedBy 11 = .ok (.iconst 1, 1) := by decide +kernel
theorem dX2_isRefusedBy_12 : decode cX2_isRefusedBy 12 = .ok (.goto 4, 3) := by decide +kernel
theorem dX2_isRefusedBy_15 : decode cX2_isRefusedBy 15 = .ok (.iconst 0, 1) := by decide +kernel
theorem dX2_isRefusedBy_16 : decode cX2_isRefusedBy 16 = .ok (.ireturn, 1) := by decide +kernel
theorem dX2_lateAt_0 : decode cX2_lateAt 0 = .ok (.iconst 0, 1) := by decide +kernel
theorem dX2_lateAt_1 : decode cX2_lateAt 1 = .ok (.iload_n 1, 1) := by decide +kernel
theorem dX2_lateAt_2 : decode cX2_lateAt 2 = .ok (.aload_n 0, 1) := by decide +kernel
theorem dX2_lateAt_3 : decode cX2_lateAt 3 = .ok (.getfield 49, 3) := by decide +kernel
theorem dX2_lateAt_6 : decode cX2_lateAt 6 = .ok (.isub, 1) := by decide +kernel
theorem dX2_lateAt_7 : decode cX2_lateAt 7 = .ok (.invokestatic 37, 3) := by decide +kernel
theorem dX2_lateAt_10 : decode cX2_lateAt 10 = .ok (.ireturn, 1) := by decide +kernel
theorem dX2_lackBy_0 : decode cX2_lackBy 0 = .ok (.aload_n 0, 1) := by decide +kernel
theorem dX2_lackBy_1 : decode cX2_lackBy 1 = .ok (.getfield 52, 3) := by decide +kernel
theorem dX2_lackBy_4 : decode cX2_lackBy 4 = .ok (.iconst 5, 1) := by decide +kernel
theorem dX2_lackBy_5 : decode cX2_lackBy 5 = .ok (.idiv, 1) := by decide +kernel
theorem dX2_lackBy_6 : decode cX2_lackBy 6 = .ok (.istore_n 2, 1) := by decide +kernel
theorem dX2_lackBy_7 : decode cX2_lackBy 7 = .ok (.iload_n 1, 1) := by decide +kernel
theorem dX2_lackBy_8 : decode cX2_lackBy 8 = .ok (.lookupswitch 43 #[(0, 28), (1, 30)], 28) := by decide +kernel
theorem dX2_lackBy_36 : decode cX2_lackBy 36 = .ok (.iload_n 2, 1) := by decide +kernel
theorem dX2_lackBy_37 : decode cX2_lackBy 37 = .ok (.ireturn, 1) := by decide +kernel
theorem dX2_lackBy_38 : decode cX2_lackBy 38 = .ok (.iconst 0, 1) := by decide +kernel
theorem dX2_lackBy_39 : decode cX2_lackBy 39 = .ok (.aload_n 0, 1) := by decide +kernel
theorem dX2_lackBy_40 : decode cX2_lackBy 40 = .ok (.getfield 31, 3) := by decide +kernel
theorem dX2_lackBy_43 : decode cX2_lackBy 43 = .ok (.iconst 5, 1) := by decide +kernel
theorem dX2_lackBy_44 : decode cX2_lackBy 44 = .ok (.idiv, 1) := by decide +kernel
theorem dX2_lackBy_45 : decode cX2_lackBy 45 = .ok (.iload_n 2, 1) := by decide +kernel
theorem dX2_lackBy_46 : decode cX2_lackBy 46 = .ok (.isub, 1) := by decide +kernel
theorem dX2_lackBy_47 : decode cX2_lackBy 47 = .ok (.invokestatic 37, 3) := by decide +kernel
theorem dX2_lackBy_50 : decode cX2_lackBy 50 = .ok (.ireturn, 1) := by decide +kernel
theorem dX2_lackBy_51 : decode cX2_lackBy 51 = .ok (.aload_n 0, 1) := by decide +kernel
theorem dX2_lackBy_52 : decode cX2_lackBy 52 = .ok (.getfield 18, 3) := by decide +kernel
theorem dX2_lackBy_55 : decode cX2_lackBy 55 = .ok (.aload_n 0, 1) := by decide +kernel
theorem dX2_lackBy_56 : decode cX2_lackBy 56 = .ok (.getfield 55, 3) := by decide +kernel
theorem dX2_lackBy_59 : decode cX2_lackBy 59 = .ok (.isub, 1) := by decide +kernel
theorem dX2_lackBy_60 : decode cX2_lackBy 60 = .ok (.iconst 4, 1) := by decide +kernel
theorem dX2_lackBy_61 : decode cX2_lackBy 61 = .ok (.idiv, 1) := by decide +kernel
theorem dX2_lackBy_62 : decode cX2_lackBy 62 = .ok (.ireturn, 1) := by decide +kernel
theorem dX2_ownRating_0 : decode cX2_ownRating 0 = .ok (.iconst 0, 1) := by decide +kernel
theorem dX2_ownRating_1 : decode cX2_ownRating 1 = .ok (.bipush 50, 2) := by decide +kernel
theorem dX2_ownRating_3 : decode cX2_ownRating 3 = .ok (.aload_n 0, 1) := by decide +kernel
theorem dX2_ownRating_4 : decode cX2_ownRating 4 = .ok (.iconst 2, 1) := by decide +kernel
theorem dX2_ownRating_5 : decode cX2_ownRating 5 = .ok (.invokevirtual 34, 3) := by decide +kernel
theorem dX2_ownRating_8 : decode cX2_ownRating 8 = .ok (.isub, 1) := by decide +kernel
theorem dX2_ownRating_9 : decode cX2_ownRating 9 = .ok (.invokestatic 37, 3) := by decide +kernel
theorem dX2_ownRating_12 : decode cX2_ownRating 12 = .ok (.ireturn, 1) := by decide +kernel
theorem dX2_becomeLike_0 : decode cX2_becomeLike 0 = .ok (.aload_n 0, 1) := by decide +kernel
theorem dX2_becomeLike_1 : decode cX2_becomeLike 1 = .ok (.aload_n 1, 1) := by decide +kernel
theorem dX2_becomeLike_2 : decode cX2_becomeLike 2 = .ok (.getfield 58, 3) := by decide +kernel
theorem dX2_becomeLike_5 : decode cX2_becomeLike 5 = .ok (.putfield 58, 3) := by decide +kernel
theorem dX2_becomeLike_8 : decode cX2_becomeLike 8 = .ok (.aload_n 0, 1) := by decide +kernel
theorem dX2_becomeLike_9 : decode cX2_becomeLike 9 = .ok (.aload_n 1, 1) := by decide +kernel
theorem dX2_becomeLike_10 : decode cX2_becomeLike 10 = .ok (.getfield 61, 3) := by decide +kernel
theorem dX2_becomeLike_13 : decode cX2_becomeLike 13 = .ok (.putfield 61, 3) := by decide +kernel
theorem dX2_becomeLike_16 : decode cX2_becomeLike 16 = .ok (.aload_n 0, 1) := by decide +kernel
theorem dX2_becomeLike_17 : decode cX2_becomeLike 17 = .ok (.aload_n 1, 1) := by decide +kernel
theorem dX2_becomeLike_18 : decode cX2_becomeLike 18 = .ok (.getfield 64, 3) := by decide +kernel
theorem dX2_becomeLike_21 : decode cX2_becomeLike 21 = .ok (.putfield 64, 3) := by decide +kernel
theorem dX2_becomeLike_24 : decode cX2_becomeLike 24 = .ok (.aload_n 0, 1) := by decide +kernel
theorem dX2_becomeLike_25 : decode cX2_becomeLike 25 = .ok (.aload_n 1, 1) := by decide +kernel
theorem dX2_becomeLike_26 : decode cX2_becomeLike 26 = .ok (.getfield 67, 3) := by decide +kernel
theorem dX2_becomeLike_29 : decode cX2_becomeLike 29 = .ok (.putfield 67, 3) := by decide +kernel
theorem dX2_becomeLike_32 : decode cX2_becomeLike 32 = .ok (.aload_n 0, 1) := by decide +kernel
theorem dX2_becomeLike_33 : decode cX2_becomeLike 33 = .ok (.aload_n 1, 1) := by decide +kernel
theorem dX2_becomeLike_34 : decode cX2_becomeLike 34 = .ok (.getfield 49, 3) := by decide +kernel
theorem dX2_becomeLike_37 : decode cX2_becomeLike 37 = .ok (.putfield 49, 3) := by decide +kernel
theorem dX2_becomeLike_40 : decode cX2_becomeLike 40 = .ok (.aload_n 0, 1) := by decide +kernel
theorem dX2_becomeLike_41 : decode cX2_becomeLike 41 = .ok (.aload_n 1, 1) := by decide +kernel
theorem dX2_becomeLike_42 : decode cX2_becomeLike 42 = .ok (.getfield 52, 3) := by decide +kernel
theorem dX2_becomeLike_45 : decode cX2_becomeLike 45 = .ok (.putfield 52, 3) := by decide +kernel
theorem dX2_becomeLike_48 : decode cX2_becomeLike 48 = .ok (.aload_n 0, 1) := by decide +kernel
theorem dX2_becomeLike_49 : decode cX2_becomeLike 49 = .ok (.aload_n 1, 1) := by decide +kernel
theorem dX2_becomeLike_50 : decode cX2_becomeLike 50 = .ok (.getfield 55, 3) := by decide +kernel
theorem dX2_becomeLike_53 : decode cX2_becomeLike 53 = .ok (.putfield 55, 3) := by decide +kernel
theorem dX2_becomeLike_56 : decode cX2_becomeLike 56 = .ok (.aload_n 0, 1) := by decide +kernel
theorem dX2_becomeLike_57 : decode cX2_becomeLike 57 = .ok (.aload_n 1, 1) := by decide +kernel
theorem dX2_becomeLike_58 : decode cX2_becomeLike 58 = .ok (.getfield 9, 3) := by decide +kernel
theorem dX2_becomeLike_61 : decode cX2_becomeLike 61 = .ok (.putfield 9, 3) := by decide +kernel
theorem dX2_becomeLike_64 : decode cX2_becomeLike 64 = .ok (.aload_n 0, 1) := by decide +kernel
theorem dX2_becomeLike_65 : decode cX2_becomeLike 65 = .ok (.aload_n 1, 1) := by decide +kernel
theorem dX2_becomeLike_66 : decode cX2_becomeLike 66 = .ok (.getfield 15, 3) := by decide +kernel
theorem dX2_becomeLike_69 : decode cX2_becomeLike 69 = .ok (.putfield 15, 3) := by decide +kernel
theorem dX2_becomeLike_72 : decode cX2_becomeLike 72 = .ok (.aload_n 0, 1) := by decide +kernel
theorem dX2_becomeLike_73 : decode cX2_becomeLike 73 = .ok (.aload_n 1, 1) := by decide +kernel
theorem dX2_becomeLike_74 : decode cX2_becomeLike 74 = .ok (.getfield 18, 3) := by decide +kernel
theorem dX2_becomeLike_77 : decode cX2_becomeLike 77 = .ok (.putfield 18, 3) := by decide +kernel
theorem dX2_becomeLike_80 : decode cX2_becomeLike 80 = .ok (.aload_n 0, 1) := by decide +kernel
theorem dX2_becomeLike_81 : decode cX2_becomeLike 81 = .ok (.aload_n 1, 1) := by decide +kernel
theorem dX2_becomeLike_82 : decode cX2_becomeLike 82 = .ok (.getfield 21, 3) := by decide +kernel
theorem dX2_becomeLike_85 : decode cX2_becomeLike 85 = .ok (.putfield 21, 3) := by decide +kernel
theorem dX2_becomeLike_88 : decode cX2_becomeLike 88 = .ok (.aload_n 0, 1) := by decide +kernel
theorem dX2_becomeLike_89 : decode cX2_becomeLike 89 = .ok (.aload_n 1, 1) := by decide +kernel
theorem dX2_becomeLike_90 : decode cX2_becomeLike 90 = .ok (.getfield 31, 3) := by decide +kernel
theorem dX2_becomeLike_93 : decode cX2_becomeLike 93 = .ok (.putfield 31, 3) := by decide +kernel
theorem dX2_becomeLike_96 : decode cX2_becomeLike 96 = .ok (.aload_n 0, 1) := by decide +kernel
theorem dX2_becomeLike_97 : decode cX2_becomeLike 97 = .ok (.aload_n 1, 1) := by decide +kernel
theorem dX2_becomeLike_98 : decode cX2_becomeLike 98 = .ok (.getfield 43, 3) := by decide +kernel
theorem dX2_becomeLike_101 : decode cX2_becomeLike 101 = .ok (.putfield 43, 3) := by decide +kernel
theorem dX2_becomeLike_104 : decode cX2_becomeLike 104 = .ok (.aload_n 0, 1) := by decide +kernel
theorem dX2_becomeLike_105 : decode cX2_becomeLike 105 = .ok (.aload_n 1, 1) := by decide +kernel
theorem dX2_becomeLike_106 : decode cX2_becomeLike 106 = .ok (.getfield 24, 3) := by decide +kernel
theorem dX2_becomeLike_109 : decode cX2_becomeLike 109 = .ok (.putfield 24, 3) := by decide +kernel
theorem dX2_becomeLike_112 : decode cX2_becomeLike 112 = .ok (.aload_n 0, 1) := by decide +kernel
theorem dX2_becomeLike_113 : decode cX2_becomeLike 113 = .ok (.aload_n 1, 1) := by decide +kernel
theorem dX2_becomeLike_114 : decode cX2_becomeLike 114 = .ok (.getfield 46, 3) := by decide +kernel
theorem dX2_becomeLike_117 : decode cX2_becomeLike 117 = .ok (.putfield 46, 3) := by decide +kernel
theorem dX2_becomeLike_120 : decode cX2_becomeLike 120 = .ok (.return_, 1) := by decide +kernel
theorem dX3_init_0 : decode cX3_init 0 = .ok (.aload_n 0, 1) := by decide +kernel
theorem dX3_init_1 : decode cX3_init 1 = .ok (.invokespecial 3, 3) := by decide +kernel
theorem dX3_init_4 : decode cX3_init 4 = .ok (.aload_n 0, 1) := by decide +kernel
theorem dX3_init_5 : decode cX3_init 5 = .ok (.new 9, 3) := by decide +kernel
theorem dX3_init_8 : decode cX3_init 8 = .ok (.dup, 1) := by decide +kernel
theorem dX3_init_9 : decode cX3_init 9 = .ok (.iconst 4, 1) := by decide +kernel
theorem dX3_init_10 : decode cX3_init 10 = .ok (.invokespecial 11, 3) := by decide +kernel
theorem dX3_init_13 : decode cX3_init 13 = .ok (.putfield 14, 3) := by decide +kernel
theorem dX3_init_16 : decode cX3_init 16 = .ok (.aload_n 0, 1) := by decide +kernel
theorem dX3_init_17 : decode cX3_init 17 = .ok (.iload_n 1, 1) := by decide +kernel
theorem dX3_init_18 : decode cX3_init 18 = .ok (.putfield 20, 3) := by decide +kernel
theorem dX3_init_21 : decode cX3_init 21 = .ok (.return_, 1) := by decide +kernel
theorem dX3_comeOn_0 : decode cX3_comeOn 0 = .ok (.aload_n 0, 1) := by decide +kernel
theorem dX3_comeOn_1 : decode cX3_comeOn 1 = .ok (.iload_n 1, 1) := by decide +kernel
theorem dX3_comeOn_2 : decode cX3_comeOn 2 = .ok (.putfield 24, 3) := by decide +kernel
theorem dX3_comeOn_5 : decode cX3_comeOn 5 = .ok (.aload_n 0, 1) := by decide +kernel
theorem dX3_comeOn_6 : decode cX3_comeOn 6 = .ok (.iload_n 2, 1) := by decide +kernel
theorem dX3_comeOn_7 : decode cX3_comeOn 7 = .ok (.putfield 27, 3) := by decide +kernel
theorem dX3_comeOn_10 : decode cX3_comeOn 10 = .ok (.aload_n 0, 1) := by decide +kernel
theorem dX3_comeOn_11 : decode cX3_comeOn 11 = .ok (.iload_n 3, 1) := by decide +kernel
theorem dX3_comeOn_12 : decode cX3_comeOn 12 = .ok (.putfield 30, 3) := by decide +kernel
theorem dX3_comeOn_15 : decode cX3_comeOn 15 = .ok (.aload_n 0, 1) := by decide +kernel
theorem dX3_comeOn_16 : decode cX3_comeOn 16 = .ok (.iload_n 2, 1) := by decide +kernel
theorem dX3_comeOn_17 : decode cX3_comeOn 17 = .ok (.putfield 33, 3) := by decide +kernel
theorem dX3_comeOn_20 : decode cX3_comeOn 20 = .ok (.aload_n 0, 1) := by decide +kernel
theorem dX3_comeOn_21 : decode cX3_comeOn 21 = .ok (.iload_n 3, 1) := by decide +kernel
theorem dX3_comeOn_22 : decode cX3_comeOn 22 = .ok (.putfield 36, 3) := by decide +kernel
theorem dX3_comeOn_25 : decode cX3_comeOn 25 = .ok (.aload_n 0, 1) := by decide +kernel
theorem dX3_comeOn_26 : decode cX3_comeOn 26 = .ok (.iconst 0, 1) := by decide +kernel
theorem dX3_comeOn_27 : decode cX3_comeOn 27 = .ok (.putfield 39, 3) := by decide +kernel
theorem dX3_comeOn_30 : decode cX3_comeOn 30 = .ok (.aload_n 0, 1) := by decide +kernel
theorem dX3_comeOn_31 : decode cX3_comeOn 31 = .ok (.iconst 0, 1) := by decide +kernel
theorem dX3_comeOn_32 : decode cX3_comeOn 32 = .ok (.putfield 42, 3) := by decide +kernel
theorem dX3_comeOn_35 : decode cX3_comeOn 35 = .ok (.aload_n 0, 1) := by decide +kernel
theorem dX3_comeOn_36 : decode cX3_comeOn 36 = .ok (.getfield 14, 3) := by decide +kernel
theorem dX3_comeOn_39 : decode cX3_comeOn 39 = .ok (.iconst 0, 1) := by decide +kernel
theorem dX3_comeOn_40 : decode cX3_comeOn 40 = .ok (.putfield 45, 3) := by decide +kernel
theorem dX3_comeOn_43 : decode cX3_comeOn 43 = .ok (.return_, 1) := by decide +kernel
theorem dX3_startFrom_0 : decode cX3_startFrom 0 = .ok (.iload_n 1, 1) := by decide +kernel
theorem dX3_startFrom_1 : decode cX3_startFrom 1 = .ok (.aload_n 0, 1) := by decide +kernel
theorem dX3_startFrom_2 : decode cX3_startFrom 2 = .ok (.getfield 36, 3) := by decide +kernel
theorem dX3_startFrom_5 : decode cX3_startFrom 5 = .ok (.invokestatic 48, 3) := by decide +kernel
theorem dX3_startFrom_8 : decode cX3_startFrom 8 = .ok (.ireturn, 1) := by decide +kernel
theorem dX3_isInApp_0 : decode cX3_isInApp 0 = .ok (.iconst 0, 1) := by decide +kernel
theorem dX3_isInApp_1 : decode cX3_isInApp 1 = .ok (.istore_n 2, 1) := by decide +kernel
theorem dX3_isInApp_2 : decode cX3_isInApp 2 = .ok (.iload_n 2, 1) := by decide +kernel
theorem dX3_isInApp_3 : decode cX3_isInApp 3 = .ok (.aload_n 0, 1) := by decide +kernel
theorem dX3_isInApp_4 : decode cX3_isInApp 4 = .ok (.getfield 14, 3) := by decide +kernel
theorem dX3_isInApp_7 : decode cX3_isInApp 7 = .ok (.getfield 45, 3) := by decide +kernel
theorem dX3_isInApp_10 : decode cX3_isInApp 10 = .ok (.if_icmp .ge 36, 3) := by decide +kernel
theorem dX3_isInApp_13 : decode cX3_isInApp 13 = .ok (.aload_n 0, 1) := by decide +kernel
theorem dX3_isInApp_14 : decode cX3_isInApp 14 = .ok (.getfield 14, 3) := by decide +kernel
theorem dX3_isInApp_17 : decode cX3_isInApp 17 = .ok (.iload_n 2, 1) := by decide +kernel
theorem dX3_isInApp_18 : decode cX3_isInApp 18 = .ok (.iload_n 1, 1) := by decide +kernel
theorem dX3_isInApp_19 : decode cX3_isInApp 19 = .ok (.invokevirtual 54, 3) := by decide +kernel
theorem dX3_isInApp_22 : decode cX3_isInApp 22 = .ok (.ifCond .eq 18, 3) := by decide +kernel
theorem dX3_isInApp_25 : decode cX3_isInApp 25 = .ok (.iload_n 1, 1) := by decide +kernel
theorem dX3_isInApp_26 : decode cX3_isInApp 26 = .ok (.aload_n 0, 1) := by decide +kernel
theorem dX3_isInApp_27 : decode cX3_isInApp 27 = .ok (.getfield 14, 3) := by decide +kernel
theorem dX3_isInApp_30 : decode cX3_isInApp 30 = .ok (.iload_n 2, 1) := by decide +kernel
theorem dX3_isInApp_31 : decode cX3_isInApp 31 = .ok (.iconst 1, 1) := by decide +kernel
theorem dX3_isInApp_32 : decode cX3_isInApp 32 = .ok (.invokevirtual 58, 3) := by decide +kernel
theorem dX3_isInApp_35 : decode cX3_isInApp 35 = .ok (.if_icmp .eq 5, 3) := by decide +kernel
theorem dX3_isInApp_38 : decode cX3_isInApp 38 = .ok (.iconst 1, 1) := by decide +kernel
theorem dX3_isInApp_39 : decode cX3_isInApp 39 = .ok (.ireturn, 1) := by decide +kernel
theorem dX3_isInApp_40 : decode cX3_isInApp 40 = .ok (.iinc 2 1, 3) := by decide +kernel
theorem dX3_isInApp_43 : decode cX3_isInApp 43 = .ok (.goto (-41), 3) := by decide +kernel
theorem dX3_isInApp_46 : decode cX3_isInApp 46 = .ok (.iconst 0, 1) := by decide +kernel
theorem dX3_isInApp_47 : decode cX3_isInApp 47 = .ok (.ireturn, 1) := by decide +kernel
theorem dX3_becomeLike_0 : decode cX3_becomeLike 0 = .ok (.aload_n 0, 1) := by decide +kernel
theorem dX3_becomeLike_1 : decode cX3_becomeLike 1 = .ok (.aload_n 1, 1) := by decide +kernel
theorem dX3_becomeLike_2 : decode cX3_becomeLike 2 = .ok (.getfield 24, 3) := by decide +kernel
theorem dX3_becomeLike_5 : decode cX3_becomeLike 5 = .ok (.putfield 24, 3) := by decide +kernel
theorem dX3_becomeLike_8 : decode cX3_becomeLike 8 = .ok (.aload_n 0, 1) := by decide +kernel
theorem dX3_becomeLike_9 : decode cX3_becomeLike 9 = .ok (.aload_n 1, 1) := by decide +kernel
theorem dX3_becomeLike_10 : decode cX3_becomeLike 10 = .ok (.getfield 27, 3) := by decide +kernel
theorem dX3_becomeLike_13 : decode cX3_becomeLike 13 = .ok (.putfield 27, 3) := by decide +kernel
theorem dX3_becomeLike_16 : decode cX3_becomeLike 16 = .ok (.aload_n 0, 1) := by decide +kernel
theorem dX3_becomeLike_17 : decode cX3_becomeLike 17 = .ok (.aload_n 1, 1) := by decide +kernel
theorem dX3_becomeLike_18 : decode cX3_becomeLike 18 = .ok (.getfield 30, 3) := by decide +kernel
theorem dX3_becomeLike_21 : decode cX3_becomeLike 21 = .ok (.putfield 30, 3) := by decide +kernel
theorem dX3_becomeLike_24 : decode cX3_becomeLike 24 = .ok (.aload_n 0, 1) := by decide +kernel
theorem dX3_becomeLike_25 : decode cX3_becomeLike 25 = .ok (.aload_n 1, 1) := by decide +kernel
theorem dX3_becomeLike_26 : decode cX3_becomeLike 26 = .ok (.getfield 33, 3) := by decide +kernel
theorem dX3_becomeLike_29 : decode cX3_becomeLike 29 = .ok (.putfield 33, 3) := by decide +kernel
theorem dX3_becomeLike_32 : decode cX3_becomeLike 32 = .ok (.aload_n 0, 1) := by decide +kernel
theorem dX3_becomeLike_33 : decode cX3_becomeLike 33 = .ok (.aload_n 1, 1) := by decide +kernel
theorem dX3_becomeLike_34 : decode cX3_becomeLike 34 = .ok (.getfield 36, 3) := by decide +kernel
theorem dX3_becomeLike_37 : decode cX3_becomeLike 37 = .ok (.putfield 36, 3) := by decide +kernel
theorem dX3_becomeLike_40 : decode cX3_becomeLike 40 = .ok (.aload_n 0, 1) := by decide +kernel
theorem dX3_becomeLike_41 : decode cX3_becomeLike 41 = .ok (.aload_n 1, 1) := by decide +kernel
theorem dX3_becomeLike_42 : decode cX3_becomeLike 42 = .ok (.getfield 39, 3) := by decide +kernel
theorem dX3_becomeLike_45 : decode cX3_becomeLike 45 = .ok (.putfield 39, 3) := by decide +kernel
theorem dX3_becomeLike_48 : decode cX3_becomeLike 48 = .ok (.aload_n 0, 1) := by decide +kernel
theorem dX3_becomeLike_49 : decode cX3_becomeLike 49 = .ok (.aload_n 1, 1) := by decide +kernel
theorem dX3_becomeLike_50 : decode cX3_becomeLike 50 = .ok (.getfield 42, 3) := by decide +kernel
theorem dX3_becomeLike_53 : decode cX3_becomeLike 53 = .ok (.putfield 42, 3) := by decide +kernel
theorem dX3_becomeLike_56 : decode cX3_becomeLike 56 = .ok (.aload_n 0, 1) := by decide +kernel
theorem dX3_becomeLike_57 : decode cX3_becomeLike 57 = .ok (.getfield 14, 3) := by decide +kernel
theorem dX3_becomeLike_60 : decode cX3_becomeLike 60 = .ok (.aload_n 1, 1) := by decide +kernel
theorem dX3_becomeLike_61 : decode cX3_becomeLike 61 = .ok (.getfield 14, 3) := by decide +kernel
theorem dX3_becomeLike_64 : decode cX3_becomeLike 64 = .ok (.invokevirtual 61, 3) := by decide +kernel
theorem dX3_becomeLike_67 : decode cX3_becomeLike 67 = .ok (.return_, 1) := by decide +kernel
theorem dX4_init_0 : decode cX4_init 0 = .ok (.aload_n 0, 1) := by decide +kernel
theorem dX4_init_1 : decode cX4_init 1 = .ok (.invokespecial 3, 3) := by decide +kernel
theorem dX4_init_4 : decode cX4_init 4 = .ok (.aload_n 0, 1) := by decide +kernel
theorem dX4_init_5 : decode cX4_init 5 = .ok (.iconst 3, 1) := by decide +kernel
theorem dX4_init_6 : decode cX4_init 6 = .ok (.iload_n 1, 1) := by decide +kernel
theorem dX4_init_7 : decode cX4_init 7 = .ok (.imul, 1) := by decide +kernel
theorem dX4_init_8 : decode cX4_init 8 = .ok (.newarray .int, 2) := by decide +kernel
theorem dX4_init_10 : decode cX4_init 10 = .ok (.putfield 9, 3) := by decide +kernel
theorem dX4_init_13 : decode cX4_init 13 = .ok (.return_, 1) := by decide +kernel
theorem dX4_isFull_0 : decode cX4_isFull 0 = .ok (.iconst 3, 1) := by decide +kernel
theorem dX4_isFull_1 : decode cX4_isFull 1 = .ok (.aload_n 0, 1) := by decide +kernel
theorem dX4_isFull_2 : decode cX4_isFull 2 = .ok (.getfield 15, 3) := by decide +kernel
theorem dX4_isFull_5 : decode cX4_isFull 5 = .ok (.imul, 1) := by decide +kernel
theorem dX4_isFull_6 : decode cX4_isFull 6 = .ok (.iconst 2, 1) := by decide +kernel
theorem dX4_isFull_7 : decode cX4_isFull 7 = .ok (.iadd, 1) := by decide +kernel
theorem dX4_isFull_8 : decode cX4_isFull 8 = .ok (.aload_n 0, 1) := by decide +kernel
theorem dX4_isFull_9 : decode cX4_isFull 9 = .ok (.getfield 9, 3) := by decide +kernel
theorem dX4_isFull_12 : decode cX4_isFull 12 = .ok (.arraylength, 1) := by decide +kernel
theorem dX4_isFull_13 : decode cX4_isFull 13 = .ok (.if_icmp .lt 7, 3) := by decide +kernel
theorem dX4_isFull_16 : decode cX4_isFull 16 = .ok (.iconst 1, 1) := by decide +kernel
theorem dX4_isFull_17 : decode cX4_isFull 17 = .ok (.goto 4, 3) := by decide +kernel
theorem dX4_isFull_20 : decode cX4_isFull 20 = .ok (.iconst 0, 1) := by decide +kernel
theorem dX4_isFull_21 : decode cX4_isFull 21 = .ok (.ireturn, 1) := by decide +kernel
theorem dX4_add_0 : decode cX4_add 0 = .ok (.aload_n 0, 1) := by decide +kernel
theorem dX4_add_1 : decode cX4_add 1 = .ok (.invokevirtual 19, 3) := by decide +kernel
theorem dX4_add_4 : decode cX4_add 4 = .ok (.ifCond .ne 53, 3) := by decide +kernel
theorem dX4_add_7 : decode cX4_add 7 = .ok (.aload_n 0, 1) := by decide +kernel
theorem dX4_add_8 : decode cX4_add 8 = .ok (.getfield 9, 3) := by decide +kernel
theorem dX4_add_11 : decode cX4_add 11 = .ok (.iconst 3, 1) := by decide +kernel
theorem dX4_add_12 : decode cX4_add 12 = .ok (.aload_n 0, 1) := by decide +kernel
theorem dX4_add_13 : decode cX4_add 13 = .ok (.getfield 15, 3) := by decide +kernel
theorem dX4_add_16 : decode cX4_add 16 = .ok (.imul, 1) := by decide +kernel
theorem dX4_add_17 : decode cX4_add 17 = .ok (.iload_n 1, 1) := by decide +kernel
theorem dX4_add_18 : decode cX4_add 18 = .ok (.iastore, 1) := by decide +kernel
theorem dX4_add_19 : decode cX4_add 19 = .ok (.aload_n 0, 1) := by decide +kernel
theorem dX4_add_20 : decode cX4_add 20 = .ok (.getfield 9, 3) := by decide +kernel
theorem dX4_add_23 : decode cX4_add 23 = .ok (.iconst 3, 1) := by decide +kernel
theorem dX4_add_24 : decode cX4_add 24 = .ok (.aload_n 0, 1) := by decide +kernel
theorem dX4_add_25 : decode cX4_add 25 = .ok (.getfield 15, 3) := by decide +kernel
theorem dX4_add_28 : decode cX4_add 28 = .ok (.imul, 1) := by decide +kernel
theorem dX4_add_29 : decode cX4_add 29 = .ok (.iconst 1, 1) := by decide +kernel
theorem dX4_add_30 : decode cX4_add 30 = .ok (.iadd, 1) := by decide +kernel
theorem dX4_add_31 : decode cX4_add 31 = .ok (.iload_n 2, 1) := by decide +kernel
theorem dX4_add_32 : decode cX4_add 32 = .ok (.iastore, 1) := by decide +kernel
theorem dX4_add_33 : decode cX4_add 33 = .ok (.aload_n 0, 1) := by decide +kernel
theorem dX4_add_34 : decode cX4_add 34 = .ok (.getfield 9, 3) := by decide +kernel
theorem dX4_add_37 : decode cX4_add 37 = .ok (.iconst 3, 1) := by decide +kernel
theorem dX4_add_38 : decode cX4_add 38 = .ok (.aload_n 0, 1) := by decide +kernel
theorem dX4_add_39 : decode cX4_add 39 = .ok (.getfield 15, 3) := by decide +kernel
theorem dX4_add_42 : decode cX4_add 42 = .ok (.imul, 1) := by decide +kernel
theorem dX4_add_43 : decode cX4_add 43 = .ok (.iconst 2, 1) := by decide +kernel
theorem dX4_add_44 : decode cX4_add 44 = .ok (.iadd, 1) := by decide +kernel
theorem dX4_add_45 : decode cX4_add 45 = .ok (.iload_n 3, 1) := by decide +kernel
theorem dX4_add_46 : decode cX4_add 46 = .ok (.iastore, 1) := by decide +kernel
theorem dX4_add_47 : decode cX4_add 47 = .ok (.aload_n 0, 1) := by decide +kernel
theorem dX4_add_48 : decode cX4_add 48 = .ok (.dup, 1) := by decide +kernel
theorem dX4_add_49 : decode cX4_add 49 = .ok (.getfield 15, 3) := by decide +kernel
theorem dX4_add_52 : decode cX4_add 52 = .ok (.iconst 1, 1) := by decide +kernel
theorem dX4_add_53 : decode cX4_add 53 = .ok (.iadd, 1) := by decide +kernel
theorem dX4_add_54 : decode cX4_add 54 = .ok (.putfield 15, 3) := by decide +kernel
theorem dX4_add_57 : decode cX4_add 57 = .ok (.aload_n 0, 1) := by decide +kernel
theorem dX4_add_58 : decode cX4_add 58 = .ok (.getfield 15, 3) := by decide +kernel
theorem dX4_add_61 : decode cX4_add 61 = .ok (.ireturn, 1) := by decide +kernel
theorem dX4_cell_0 : decode cX4_cell 0 = .ok (.iconst 3, 1) := by decide +kernel
theorem dX4_cell_1 : decode cX4_cell 1 = .ok (.iload_n 1, 1) := by decide +kernel
theorem dX4_cell_2 : decode cX4_cell 2 = .ok (.imul, 1) := by decide +kernel
theorem dX4_cell_3 : decode cX4_cell 3 = .ok (.iload_n 2, 1) := by decide +kernel
theorem dX4_cell_4 : decode cX4_cell 4 = .ok (.iadd, 1) := by decide +kernel
theorem dX4_cell_5 : decode cX4_cell 5 = .ok (.istore_n 3, 1) := by decide +kernel
theorem dX4_cell_6 : decode cX4_cell 6 = .ok (.iload_n 3, 1) := by decide +kernel
theorem dX4_cell_7 : decode cX4_cell 7 = .ok (.iconst 0, 1) := by decide +kernel
theorem dX4_cell_8 : decode cX4_cell 8 = .ok (.aload_n 0, 1) := by decide +kernel
theorem dX4_cell_9 : decode cX4_cell 9 = .ok (.getfield 9, 3) := by decide +kernel
theorem dX4_cell_12 : decode cX4_cell 12 = .ok (.arraylength, 1) := by decide +kernel
theorem dX4_cell_13 : decode cX4_cell 13 = .ok (.iconst 1, 1) := by decide +kernel
theorem dX4_cell_14 : decode cX4_cell 14 = .ok (.isub, 1) := by decide +kernel
theorem dX4_cell_15 : decode cX4_cell 15 = .ok (.invokestatic 23, 3) := by decide +kernel
theorem dX4_cell_18 : decode cX4_cell 18 = .ok (.ifCond .eq 12, 3) := by decide +kernel
theorem dX4_cell_21 : decode cX4_cell 21 = .ok (.aload_n 0, 1) := by decide +kernel
theorem dX4_cell_22 : decode cX4_cell 22 = .ok (.getfield 9, 3) := by decide +kernel
theorem dX4_cell_25 : decode cX4_cell 25 = .ok (.iload_n 3, 1) := by decide +kernel
theorem dX4_cell_26 : decode cX4_cell 26 = .ok (.iaload, 1) := by decide +kernel
theorem dX4_cell_27 : decode cX4_cell 27 = .ok (.goto 4, 3) := by decide +kernel
theorem dX4_cell_30 : decode cX4_cell 30 = .ok (.iconst 0, 1) := by decide +kernel
theorem dX4_cell_31 : decode cX4_cell 31 = .ok (.ireturn, 1) := by decide +kernel
theorem dX4_spans_0 : decode cX4_spans 0 = .ok (.aload_n 0, 1) := by decide +kernel
theorem dX4_spans_1 : decode cX4_spans 1 = .ok (.iload_n 1, 1) := by decide +kernel
theorem dX4_spans_2 : decode cX4_spans 2 = .ok (.iconst 0, 1) := by decide +kernel
theorem dX4_spans_3 : decode cX4_spans 3 = .ok (.invokevirtual 27, 3) := by decide +kernel
theorem dX4_spans_6 : decode cX4_spans 6 = .ok (.iload_n 2, 1) := by decide +kernel
theorem dX4_spans_7 : decode cX4_spans 7 = .ok (.if_icmp .gt 17, 3) := by decide +kernel
theorem dX4_spans_10 : decode cX4_spans 10 = .ok (.iload_n 2, 1) := by decide +kernel
theorem dX4_spans_11 : decode cX4_spans 11 = .ok (.aload_n 0, 1) := by decide +kernel
theorem dX4_spans_12 : decode cX4_spans 12 = .ok (.iload_n 1, 1) := by decide +kernel
theorem dX4_spans_13 : decode cX4_spans 13 = .ok (.iconst 1, 1) := by decide +kernel
theorem dX4_spans_14 : decode cX4_spans 14 = .ok (.invokevirtual 27, 3) := by decide +kernel
theorem dX4_spans_17 : decode cX4_spans 17 = .ok (.if_icmp .gt 7, 3) := by decide +kernel
theorem dX4_spans_20 : decode cX4_spans 20 = .ok (.iconst 1, 1) := by decide +kernel
theorem dX4_spans_21 : decode cX4_spans 21 = .ok (.goto 4, 3) := by decide +kernel
theorem dX4_spans_24 : decode cX4_spans 24 = .ok (.iconst 0, 1) := by decide +kernel
theorem dX4_spans_25 : decode cX4_spans 25 = .ok (.ireturn, 1) := by decide +kernel
theorem dX4_becomeLike_0 : decode cX4_becomeLike 0 = .ok (.aload_n 1, 1) := by decide +kernel
theorem dX4_becomeLike_1 : decode cX4_becomeLike 1 = .ok (.getfield 9, 3) := by decide +kernel
theorem dX4_becomeLike_4 : decode cX4_becomeLike 4 = .ok (.iconst 0, 1) := by decide +kernel
theorem dX4_becomeLike_5 : decode cX4_becomeLike 5 = .ok (.aload_n 0, 1) := by decide +kernel
theorem dX4_becomeLike_6 : decode cX4_becomeLike 6 = .ok (.getfield 9, 3) := by decide +kernel
theorem dX4_becomeLike_9 : decode cX4_becomeLike 9 = .ok (.iconst 0, 1) := by decide +kernel
theorem dX4_becomeLike_10 : decode cX4_becomeLike 10 = .ok (.aload_n 0, 1) := by decide +kernel
theorem dX4_becomeLike_11 : decode cX4_becomeLike 11 = .ok (.getfield 9, 3) := by decide +kernel
theorem dX4_becomeLike_14 : decode cX4_becomeLike 14 = .ok (.arraylength, 1) := by decide +kernel
theorem dX4_becomeLike_15 : decode cX4_becomeLike 15 = .ok (.aload_n 1, 1) := by decide +kernel
theorem dX4_becomeLike_16 : decode cX4_becomeLike 16 = .ok (.getfield 9, 3) := by decide +kernel
theorem dX4_becomeLike_19 : decode cX4_becomeLike 19 = .ok (.arraylength, 1) := by decide +kernel
theorem dX4_becomeLike_20 : decode cX4_becomeLike 20 = .ok (.invokestatic 31, 3) := by decide +kernel
theorem dX4_becomeLike_23 : decode cX4_becomeLike 23 = .ok (.invokestatic 36, 3) := by decide +kernel
theorem dX4_becomeLike_26 : decode cX4_becomeLike 26 = .ok (.aload_n 0, 1) := by decide +kernel
theorem dX4_becomeLike_27 : decode cX4_becomeLike 27 = .ok (.aload_n 1, 1) := by decide +kernel
theorem dX4_becomeLike_28 : decode cX4_becomeLike 28 = .ok (.getfield 15, 3) := by decide +kernel
theorem dX4_becomeLike_31 : decode cX4_becomeLike 31 = .ok (.putfield 15, 3) := by decide +kernel
theorem dX4_becomeLike_34 : decode cX4_becomeLike 34 = .ok (.return_, 1) := by decide +kernel
theorem dX5_init_0 : decode cX5_init 0 = .ok (.aload_n 0, 1) := by decide +kernel
theorem dX5_init_1 : decode cX5_init 1 = .ok (.invokespecial 3, 3) := by decide +kernel
theorem dX5_init_4 : decode cX5_init 4 = .ok (.aload_n 0, 1) := by decide +kernel
theorem dX5_init_5 : decode cX5_init 5 = .ok (.bipush 60, 2) := by decide +kernel
theorem dX5_init_7 : decode cX5_init 7 = .ok (.newarray .int, 2) := by decide +kernel
theorem dX5_init_9 : decode cX5_init 9 = .ok (.putfield 9, 3) := by decide +kernel
theorem dX5_init_12 : decode cX5_init 12 = .ok (.return_, 1) := by decide +kernel
theorem dX5_isMissing_0 : decode cX5_isMissing 0 = .ok (.aload_n 0, 1) := by decide +kernel
theorem dX5_isMissing_1 : decode cX5_isMissing 1 = .ok (.getfield 15, 3) := by decide +kernel
theorem dX5_isMissing_4 : decode cX5_isMissing 4 = .ok (.ifCond .ne 7, 3) := by decide +kernel
theorem dX5_isMissing_7 : decode cX5_isMissing 7 = .ok (.iconst 1, 1) := by decide +kernel
theorem dX5_isMissing_8 : decode cX5_isMissing 8 = .ok (.goto 4, 3) := by decide +kernel
theorem dX5_isMissing_11 : decode cX5_isMissing 11 = .ok (.iconst 0, 1) := by decide +kernel
theorem dX5_isMissing_12 : decode cX5_isMissing 12 = .ok (.ireturn, 1) := by decide +kernel
theorem dX5_begin_0 : decode cX5_begin 0 = .ok (.aload_n 0, 1) := by decide +kernel
theorem dX5_begin_1 : decode cX5_begin 1 = .ok (.iload_n 1, 1) := by decide +kernel
theorem dX5_begin_2 : decode cX5_begin 2 = .ok (.putfield 15, 3) := by decide +kernel
theorem dX5_begin_5 : decode cX5_begin 5 = .ok (.aload_n 0, 1) := by decide +kernel
theorem dX5_begin_6 : decode cX5_begin 6 = .ok (.iload_n 1, 1) := by decide +kernel
theorem dX5_begin_7 : decode cX5_begin 7 = .ok (.ifCond .ne 7, 3) := by decide +kernel
theorem dX5_begin_10 : decode cX5_begin 10 = .ok (.iconst 0, 1) := by decide +kernel
theorem dX5_begin_11 : decode cX5_begin 11 = .ok (.goto 4, 3) := by decide +kernel
theorem dX5_begin_14 : decode cX5_begin 14 = .ok (.iload_n 2, 1) := by decide +kernel
theorem dX5_begin_15 : decode cX5_begin 15 = .ok (.putfield 19, 3) := by decide +kernel
theorem dX5_begin_18 : decode cX5_begin 18 = .ok (.aload_n 0, 1) := by decide +kernel
theorem dX5_begin_19 : decode cX5_begin 19 = .ok (.getfield 9, 3) := by decide +kernel
theorem dX5_begin_22 : decode cX5_begin 22 = .ok (.iconst 0, 1) := by decide +kernel
theorem dX5_begin_23 : decode cX5_begin 23 = .ok (.invokestatic 22, 3) := by decide +kernel
theorem dX5_begin_26 : decode cX5_begin 26 = .ok (.return_, 1) := by decide +kernel
theorem dX5_put_0 : decode cX5_put 0 = .ok (.aload_n 0, 1) := by decide +kernel
theorem dX5_put_1 : decode cX5_put 1 = .ok (.getfield 15, 3) := by decide +kernel
theorem dX5_put_4 : decode cX5_put 4 = .ok (.lookupswitch 50 #[(8, 28), (16, 39)], 28) := by decide +kernel
theorem dX5_put_32 : decode cX5_put 32 = .ok (.aload_n 0, 1) := by decide +kernel
theorem dX5_put_33 : decode cX5_put 33 = .ok (.getfield 9, 3) := by decide +kernel
theorem dX5_put_36 : decode cX5_put 36 = .ok (.iload_n 1, 1) := by decide +kernel
theorem dX5_put_37 : decode cX5_put 37 = .ok (.iload_n 2, 1) := by decide +kernel
theorem dX5_put_38 : decode cX5_put 38 = .ok (.i2b, 1) := by decide +kernel
theorem dX5_put_39 : decode cX5_put 39 = .ok (.iastore, 1) := by decide +kernel
theorem dX5_put_40 : decode cX5_put 40 = .ok (.goto 21, 3) := by decide +kernel
theorem dX5_put_43 : decode cX5_put 43 = .ok (.aload_n 0, 1) := by decide +kernel
theorem dX5_put_44 : decode cX5_put 44 = .ok (.getfield 9, 3) := by decide +kernel
theorem dX5_put_47 : decode cX5_put 47 = .ok (.iload_n 1, 1) := by decide +kernel
theorem dX5_put_48 : decode cX5_put 48 = .ok (.iload_n 2, 1) := by decide +kernel
theorem dX5_put_49 : decode cX5_put 49 = .ok (.i2s, 1) := by decide +kernel
theorem dX5_put_50 : decode cX5_put 50 = .ok (.iastore, 1) := by decide +kernel
theorem dX5_put_51 : decode cX5_put 51 = .ok (.goto 10, 3) := by decide +kernel
theorem dX5_put_54 : decode cX5_put 54 = .ok (.aload_n 0, 1) := by decide +kernel
theorem dX5_put_55 : decode cX5_put 55 = .ok (.getfield 9, 3) := by decide +kernel
theorem dX5_put_58 : decode cX5_put 58 = .ok (.iload_n 1, 1) := by decide +kernel
theorem dX5_put_59 : decode cX5_put 59 = .ok (.iload_n 2, 1) := by decide +kernel
theorem dX5_put_60 : decode cX5_put 60 = .ok (.iastore, 1) := by decide +kernel
theorem dX5_put_61 : decode cX5_put 61 = .ok (.return_, 1) := by decide +kernel
theorem dX5_hasRun_0 : decode cX5_hasRun 0 = .ok (.iload_n 1, 1) := by decide +kernel
theorem dX5_hasRun_1 : decode cX5_hasRun 1 = .ok (.ifCond .lt 29, 3) := by decide +kernel
theorem dX5_hasRun_4 : decode cX5_hasRun 4 = .ok (.iload_n 2, 1) := by decide +kernel
theorem dX5_hasRun_5 : decode cX5_hasRun 5 = .ok (.ifCond .lt 25, 3) := by decide +kernel
theorem dX5_hasRun_8 : decode cX5_hasRun 8 = .ok (.iload_n 2, 1) := by decide +kernel
theorem dX5_hasRun_9 : decode cX5_hasRun 9 = .ok (.aload_n 0, 1) := by decide +kernel
theorem dX5_hasRun_10 : decode cX5_hasRun 10 = .ok (.getfield 19, 3) := by decide +kernel
theorem dX5_hasRun_13 : decode cX5_hasRun 13 = .ok (.if_icmp .gt 17, 3) := by decide +kernel
theorem dX5_hasRun_16 : decode cX5_hasRun 16 = .ok (.iload_n 1, 1) := by decide +kernel
theorem dX5_hasRun_17 : decode cX5_hasRun 17 = .ok (.aload_n 0, 1) := by decide +kernel
theorem dX5_hasRun_18 : decode cX5_hasRun 18 = .ok (.getfield 19, 3) := by decide +kernel
theorem dX5_hasRun_21 : decode cX5_hasRun 21 = .ok (.iload_n 2, 1) := by decide +kernel
theorem dX5_hasRun_22 : decode cX5_hasRun 22 = .ok (.isub, 1) := by decide +kernel
theorem dX5_hasRun_23 : decode cX5_hasRun 23 = .ok (.if_icmp .gt 7, 3) := by decide +kernel
theorem dX5_hasRun_26 : decode cX5_hasRun 26 = .ok (.iconst 1, 1) := by decide +kernel
theorem dX5_hasRun_27 : decode cX5_hasRun 27 = .ok (.goto 4, 3) := by decide +kernel
theorem dX5_hasRun_30 : decode cX5_hasRun 30 = .ok (.iconst 0, 1) := by decide +kernel
theorem dX5_hasRun_31 : decode cX5_hasRun 31 = .ok (.ireturn, 1) := by decide +kernel
theorem dX6_init_0 : decode cX6_init 0 = .ok (.aload_n 0, 1) := by decide +kernel
theorem dX6_init_1 : decode cX6_init 1 = .ok (.invokespecial 3, 3) := by decide +kernel
theorem dX6_init_4 : decode cX6_init 4 = .ok (.aload_n 0, 1) := by decide +kernel
theorem dX6_init_5 : decode cX6_init 5 = .ok (.bipush 80, 2) := by decide +kernel
theorem dX6_init_7 : decode cX6_init 7 = .ok (.newarray .int, 2) := by decide +kernel
theorem dX6_init_9 : decode cX6_init 9 = .ok (.putfield 9, 3) := by decide +kernel
theorem dX6_init_12 : decode cX6_init 12 = .ok (.aload_n 0, 1) := by decide +kernel
theorem dX6_init_13 : decode cX6_init 13 = .ok (.bipush 80, 2) := by decide +kernel
theorem dX6_init_15 : decode cX6_init 15 = .ok (.newarray .int, 2) := by decide +kernel
theorem dX6_init_17 : decode cX6_init 17 = .ok (.putfield 15, 3) := by decide +kernel
theorem dX6_init_20 : decode cX6_init 20 = .ok (.return_, 1) := by decide +kernel
theorem dX6_addByte_0 : decode cX6_addByte 0 = .ok (.aload_n 0, 1) := by decide +kernel
theorem dX6_addByte_1 : decode cX6_addByte 1 = .ok (.getfield 18, 3) := by decide +kernel
theorem dX6_addByte_4 : decode cX6_addByte 4 = .ok (.bipush 80, 2) := by decide +kernel
theorem dX6_addByte_6 : decode cX6_addByte 6 = .ok (.if_icmp .ge 23, 3) := by decide +kernel
theorem dX6_addByte_9 : decode cX6_addByte 9 = .ok (.aload_n 0, 1) := by decide +kernel
theorem dX6_addByte_10 : decode cX6_addByte 10 = .ok (.getfield 9, 3) := by decide +kernel
theorem dX6_addByte_13 : decode cX6_addByte 13 = .ok (.aload_n 0, 1) := by decide +kernel
theorem dX6_addByte_14 : decode cX6_addByte 14 = .ok (.getfield 18, 3) := by decide +kernel
theorem dX6_addByte_17 : decode cX6_addByte 17 = .ok (.iload_n 1, 1) := by decide +kernel
theorem dX6_addByte_18 : decode cX6_addByte 18 = .ok (.iastore, 1) := by decide +kernel
theorem dX6_addByte_19 : decode cX6_addByte 19 = .ok (.aload_n 0, 1) := by decide +kernel
theorem dX6_addByte_20 : decode cX6_addByte 20 = .ok (.dup, 1) := by decide +kernel
theorem dX6_addByte_21 : decode cX6_addByte 21 = .ok (.getfield 18, 3) := by decide +kernel
theorem dX6_addByte_24 : decode cX6_addByte 24 = .ok (.iconst 1, 1) := by decide +kernel
theorem dX6_addByte_25 : decode cX6_addByte 25 = .ok (.iadd, 1) := by decide +kernel
theorem dX6_addByte_26 : decode cX6_addByte 26 = .ok (.putfield 18, 3) := by decide +kernel
theorem dX6_addByte_29 : decode cX6_addByte 29 = .ok (.return_, 1) := by decide +kernel
theorem dX6_readAll_0 : decode cX6_readAll 0 = .ok (.aload_n 0, 1) := by decide +kernel
theorem dX6_readAll_1 : decode cX6_readAll 1 = .ok (.iconst 0, 1) := by decide +kernel
theorem dX6_readAll_2 : decode cX6_readAll 2 = .ok (.putfield 22, 3) := by decide +kernel
theorem dX6_readAll_5 : decode cX6_readAll 5 = .ok (.aload_n 0, 1) := by decide +kernel
theorem dX6_readAll_6 : decode cX6_readAll 6 = .ok (.iconst 0, 1) := by decide +kernel
theorem dX6_readAll_7 : decode cX6_readAll 7 = .ok (.putfield 25, 3) := by decide +kernel
theorem dX6_readAll_10 : decode cX6_readAll 10 = .ok (.aload_n 0, 1) := by decide +kernel
theorem dX6_readAll_11 : decode cX6_readAll 11 = .ok (.invokevirtual 28, 3) := by decide +kernel
theorem dX6_readAll_14 : decode cX6_readAll 14 = .ok (.aload_n 0, 1) := by decide +kernel
theorem dX6_readAll_15 : decode cX6_readAll 15 = .ok (.iconst 0, 1) := by decide +kernel
theorem dX6_readAll_16 : decode cX6_readAll 16 = .ok (.invokevirtual 31, 3) := by decide +kernel
theorem dX6_readAll_19 : decode cX6_readAll 19 = .ok (.ifCond .eq 14, 3) := by decide +kernel
theorem dX6_readAll_22 : decode cX6_readAll 22 = .ok (.aload_n 0, 1) := by decide +kernel
theorem dX6_readAll_23 : decode cX6_readAll 23 = .ok (.getfield 35, 3) := by decide +kernel
theorem dX6_readAll_26 : decode cX6_readAll 26 = .ok (.ifCond .ne 7, 3) := by decide +kernel
theorem dX6_readAll_29 : decode cX6_readAll 29 = .ok (.iconst 1, 1) := by decide +kernel
theorem dX6_readAll_30 : decode cX6_readAll 30 = .ok (.goto 4, 3) := by decide +kernel
theorem dX6_readAll_33 : decode cX6_readAll 33 = .ok (.iconst 0, 1) := by decide +kernel
theorem dX6_readAll_34 : decode cX6_readAll 34 = .ok (.istore_n 1, 1) := by decide +kernel
theorem dX6_readAll_35 : decode cX6_readAll 35 = .ok (.iload_n 1, 1) := by decide +kernel
theorem dX6_readAll_36 : decode cX6_readAll 36 = .ok (.ifCond .eq 7, 3) := by decide +kernel
theorem dX6_readAll_39 : decode cX6_readAll 39 = .ok (.iconst (-1), 1) := by decide +kernel
theorem dX6_readAll_40 : decode cX6_readAll 40 = .ok (.goto 7, 3) := by decide +kernel
theorem dX6_readAll_43 : decode cX6_readAll 43 = .ok (.aload_n 0, 1) := by decide +kernel
theorem dX6_readAll_44 : decode cX6_readAll 44 = .ok (.getfield 38, 3) := by decide +kernel
theorem dX6_readAll_47 : decode cX6_readAll 47 = .ok (.ireturn, 1) := by decide +kernel
theorem dX6_readText_0 : decode cX6_readText 0 = .ok (.aload_n 0, 1) := by decide +kernel
theorem dX6_readText_1 : decode cX6_readText 1 = .ok (.iload_n 1, 1) := by decide +kernel
theorem dX6_readText_2 : decode cX6_readText 2 = .ok (.invokevirtual 41, 3) := by decide +kernel
theorem dX6_readText_5 : decode cX6_readText 5 = .ok (.ifCond .ne 5, 3) := by decide +kernel
theorem dX6_readText_8 : decode cX6_readText 8 = .ok (.iconst 0, 1) := by decide +kernel
theorem dX6_readText_9 : decode cX6_readText 9 = .ok (.ireturn, 1) := by decide +kernel
theorem dX6_readText_10 : decode cX6_readText 10 = .ok (.aload_n 0, 1) := by decide +kernel
theorem dX6_readText_11 : decode cX6_readText 11 = .ok (.getfield 35, 3) := by decide +kernel
theorem dX6_readText_14 : decode cX6_readText 14 = .ok (.istore_n 2, 1) := by decide +kernel
theorem dX6_readText_15 : decode cX6_readText 15 = .ok (.iload_n 2, 1) := by decide +kernel
theorem dX6_readText_16 : decode cX6_readText 16 = .ok (.bipush 60, 2) := by decide +kernel
theorem dX6_readText_18 : decode cX6_readText 18 = .ok (.if_icmp .eq 11, 3) := by decide +kernel
theorem dX6_readText_21 : decode cX6_readText 21 = .ok (.iload_n 2, 1) := by decide +kernel
theorem dX6_readText_22 : decode cX6_readText 22 = .ok (.bipush 61, 2) := by decide +kernel
theorem dX6_readText_24 : decode cX6_readText 24 = .ok (.if_icmp .eq 5, 3) := by decide +kernel
theorem dX6_readText_27 : decode cX6_readText 27 = .ok (.iconst 1, 1) := by decide +kernel
theorem dX6_readText_28 : decode cX6_readText 28 = .ok (.ireturn, 1) := by decide +kernel
theorem dX6_readText_29 : decode cX6_readText 29 = .ok (.aload_n 0, 1) := by decide +kernel
theorem dX6_readText_30 : decode cX6_readText 30 = .ok (.invokevirtual 28, 3) := by decide +kernel
theorem dX6_readText_33 : decode cX6_readText 33 = .ok (.aload_n 0, 1) := by decide +kernel
theorem dX6_readText_34 : decode cX6_readText 34 = .ok (.iload_n 1, 1) := by decide +kernel
theorem dX6_readText_35 : decode cX6_readText 35 = .ok (.invokevirtual 41, 3) := by decide +kernel
theorem dX6_readText_38 : decode cX6_readText 38 = .ok (.ifCond .eq 19, 3) := by decide +kernel
theorem dX6_readText_41 : decode cX6_readText 41 = .ok (.aload_n 0, 1) := by decide +kernel
theorem dX6_readText_42 : decode cX6_readText 42 = .ok (.sipush 10007, 3) := by decide +kernel
theorem dX6_readText_45 : decode cX6_readText 45 = .ok (.iload_n 2, 1) := by decide +kernel
theorem dX6_readText_46 : decode cX6_readText 46 = .ok (.iadd, 1) := by decide +kernel
theorem dX6_readText_47 : decode cX6_readText 47 = .ok (.invokevirtual 44, 3) := by decide +kernel
theorem dX6_readText_50 : decode cX6_readText 50 = .ok (.ifCond .eq 7, 3) := by decide +kernel
theorem dX6_readText_53 : decode cX6_readText 53 = .ok (.iconst 1, 1) := by decide +kernel
theorem dX6_readText_54 : decode cX6_readText 54 = .ok (.goto 4, 3) := by decide +kernel
theorem dX6_readText_57 : decode cX6_readText 57 = .ok (.iconst 0, 1) := by decide +kernel
theorem dX6_readText_58 : decode cX6_readText 58 = .ok (.ireturn, 1) := by decide +kernel
theorem dX6_readSum_0 : decode cX6_readSum 0 = .ok (.aload_n 0, 1) := by decide +kernel
theorem dX6_readSum_1 : decode cX6_readSum 1 = .ok (.iload_n 1, 1) := by decide +kernel
theorem dX6_readSum_2 : decode cX6_readSum 2 = .ok (.invokevirtual 47, 3) := by decide +kernel
theorem dX6_readSum_5 : decode cX6_readSum 5 = .ok (.istore_n 2, 1) := by decide +kernel
theorem dX6_readSum_6 : decode cX6_readSum 6 = .ok (.iconst 0, 1) := by decide +kernel
theorem dX6_readSum_7 : decode cX6_readSum 7 = .ok (.istore_n 3, 1) := by decide +kernel
theorem dX6_readSum_8 : decode cX6_readSum 8 = .ok (.iload_n 3, 1) := by decide +kernel
theorem dX6_readSum_9 : decode cX6_readSum 9 = .ok (.bipush 80, 2) := by decide +kernel
theorem dX6_readSum_11 : decode cX6_readSum 11 = .ok (.if_icmp .ge 68, 3) := by decide +kernel
theorem dX6_readSum_14 : decode cX6_readSum 14 = .ok (.iload_n 2, 1) := by decide +kernel
theorem dX6_readSum_15 : decode cX6_readSum 15 = .ok (.ifCond .eq 64, 3) := by decide +kernel
theorem dX6_readSum_18 : decode cX6_readSum 18 = .ok (.aload_n 0, 1) := by decide +kernel
theorem dX6_readSum_19 : decode cX6_readSum 19 = .ok (.getfield 35, 3) := by decide +kernel
theorem dX6_readSum_22 : decode cX6_readSum 22 = .ok (.bipush 43, 2) := by decide +kernel
theorem dX6_readSum_24 : decode cX6_readSum 24 = .ok (.if_icmp .eq 12, 3) := by decide +kernel
theorem dX6_readSum_27 : decode cX6_readSum 27 = .ok (.aload_n 0, 1) := by decide +kernel
theorem dX6_readSum_28 : decode cX6_readSum 28 = .ok (.getfield 35, 3) := by decide +kernel
theorem dX6_readSum_31 : decode cX6_readSum 31 = .ok (.bipush 45, 2) := by decide +kernel
theorem dX6_readSum_33 : decode cX6_readSum 33 = .ok (.if_icmp .ne 46, 3) := by decide +kernel
theorem dX6_readSum_36 : decode cX6_readSum 36 = .ok (.aload_n 0, 1) := by decide +kernel
theorem dX6_readSum_37 : decode cX6_readSum 37 = .ok (.getfield 35, 3) := by decide +kernel
theorem dX6_readSum_40 : decode cX6_readSum 40 = .ok (.istore 4, 2) := by decide +kernel
theorem dX6_readSum_42 : decode cX6_readSum 42 = .ok (.aload_n 0, 1) := by decide +kernel
theorem dX6_readSum_43 : decode cX6_readSum 43 = .ok (.invokevirtual 28, 3) := by decide +kernel
theorem dX6_readSum_46 : decode cX6_readSum 46 = .ok (.aload_n 0, 1) := by decide +kernel
theorem dX6_readSum_47 : decode cX6_readSum 47 = .ok (.iload_n 1, 1) := by decide +kernel
theorem dX6_readSum_48 : decode cX6_readSum 48 = .ok (.invokevirtual 47, 3) := by decide +kernel
theorem dX6_readSum_51 : decode cX6_readSum 51 = .ok (.ifCond .eq 20, 3) := by decide +kernel
theorem dX6_readSum_54 : decode cX6_readSum 54 = .ok (.aload_n 0, 1) := by decide +kernel
theorem dX6_readSum_55 : decode cX6_readSum 55 = .ok (.sipush 10007, 3) := by decide +kernel
theorem dX6_readSum_58 : decode cX6_readSum 58 = .ok (.iload 4, 2) := by decide +kernel
theorem dX6_readSum_60 : decode cX6_readSum 60 = .ok (.iadd, 1) := by decide +kernel
theorem dX6_readSum_61 : decode cX6_readSum 61 = .ok (.invokevirtual 44, 3) := by decide +kernel
theorem dX6_readSum_64 : decode cX6_readSum 64 = .ok (.ifCond .eq 7, 3) := by decide +kernel
theorem dX6_readSum_67 : decode cX6_readSum 67 = .ok (.iconst 1, 1) := by decide +kernel
theorem dX6_readSum_68 : decode cX6_readSum 68 = .ok (.goto 4, 3) := by decide +kernel
theorem dX6_readSum_71 : decode cX6_readSum 71 = .ok (.iconst 0, 1) := by decide +kernel
theorem dX6_readSum_72 : decode cX6_readSum 72 = .ok (.istore_n 2, 1) := by decide +kernel
theorem dX6_readSum_73 : decode cX6_readSum 73 = .ok (.iinc 3 1, 3) := by decide +kernel
theorem dX6_readSum_76 : decode cX6_readSum 76 = .ok (.goto (-68), 3) := by decide +kernel
theorem dX6_readSum_79 : decode cX6_readSum 79 = .ok (.iload_n 2, 1) := by decide +kernel
theorem dX6_readSum_80 : decode cX6_readSum 80 = .ok (.ireturn, 1) := by decide +kernel
theorem dX6_readTerm_0 : decode cX6_readTerm 0 = .ok (.aload_n 0, 1) := by decide +kernel
theorem dX6_readTerm_1 : decode cX6_readTerm 1 = .ok (.iload_n 1, 1) := by decide +kernel
theorem dX6_readTerm_2 : decode cX6_readTerm 2 = .ok (.invokevirtual 50, 3) := by decide +kernel
theorem dX6_readTerm_5 : decode cX6_readTerm 5 = .ok (.istore_n 2, 1) := by decide +kernel
theorem dX6_readTerm_6 : decode cX6_readTerm 6 = .ok (.iconst 0, 1) := by decide +kernel
theorem dX6_readTerm_7 : decode cX6_readTerm 7 = .ok (.istore_n 3, 1) := by decide +kernel
theorem dX6_readTerm_8 : decode cX6_readTerm 8 = .ok (.iload_n 3, 1) := by decide +kernel
theorem dX6_readTerm_9 : decode cX6_readTerm 9 = .ok (.bipush 80, 2) := by decide +kernel
theorem dX6_readTerm_11 : decode cX6_readTerm 11 = .ok (.if_icmp .ge 68, 3) := by decide +kernel
theorem dX6_readTerm_14 : decode cX6_readTerm 14 = .ok (.iload_n 2, 1) := by decide +kernel
theorem dX6_readTerm_15 : decode cX6_readTerm 15 = .ok (.ifCond .eq 64, 3) := by decide +kernel
theorem dX6_readTerm_18 : decode cX6_readTerm 18 = .ok (.aload_n 0, 1) := by decide +kernel
theorem dX6_readTerm_19 : decode cX6_readTerm 19 = .ok (.getfield 35, 3) := by decide +kernel
theorem dX6_readTerm_22 : decode cX6_readTerm 22 = .ok (.bipush 42, 2) := by decide +kernel
theorem dX6_readTerm_24 : decode cX6_readTerm 24 = .ok (.if_icmp .eq 12, 3) := by decide +kernel
theorem dX6_readTerm_27 : decode cX6_readTerm 27 = .ok (.aload_n 0, 1) := by decide +kernel
theorem dX6_readTerm_28 : decode cX6_readTerm 28 = .ok (.getfield 35, 3) := by decide +kernel
theorem dX6_readTerm_31 : decode cX6_readTerm 31 = .ok (.bipush 47, 2) := by decide +kernel
theorem dX6_readTerm_33 : decode cX6_readTerm 33 = .ok (.if_icmp .ne 46, 3) := by decide +kernel
theorem dX6_readTerm_36 : decode cX6_readTerm 36 = .ok (.aload_n 0, 1) := by decide +kernel
theorem dX6_readTerm_37 : decode cX6_readTerm 37 = .ok (.getfield 35, 3) := by decide +kernel
theorem dX6_readTerm_40 : decode cX6_readTerm 40 = .ok (.istore 4, 2) := by decide +kernel
theorem dX6_readTerm_42 : decode cX6_readTerm 42 = .ok (.aload_n 0, 1) := by decide +kernel
theorem dX6_readTerm_43 : decode cX6_readTerm 43 = .ok (.invokevirtual 28, 3) := by decide +kernel
theorem dX6_readTerm_46 : decode cX6_readTerm 46 = .ok (.aload_n 0, 1) := by decide +kernel
theorem dX6_readTerm_47 : decode cX6_readTerm 47 = .ok (.iload_n 1, 1) := by decide +kernel
theorem dX6_readTerm_48 : decode cX6_readTerm 48 = .ok (.invokevirtual 50, 3) := by decide +kernel
theorem dX6_readTerm_51 : decode cX6_readTerm 51 = .ok (.ifCond .eq 20, 3) := by decide +kernel
theorem dX6_readTerm_54 : decode cX6_readTerm 54 = .ok (.aload_n 0, 1) := by decide +kernel
theorem dX6_readTerm_55 : decode cX6_readTerm 55 = .ok (.sipush 10007, 3) := by decide +kernel
theorem dX6_readTerm_58 : decode cX6_readTerm 58 = .ok (.iload 4, 2) := by decide +kernel
theorem dX6_readTerm_60 : decode cX6_readTerm 60 = .ok (.iadd, 1) := by decide +kernel
theorem dX6_readTerm_61 : decode cX6_readTerm 61 = .ok (.invokevirtual 44, 3) := by decide +kernel
theorem dX6_readTerm_64 : decode cX6_readTerm 64 = .ok (.ifCond .eq 7, 3) := by decide +kernel
theorem dX6_readTerm_67 : decode cX6_readTerm 67 = .ok (.iconst 1, 1) := by decide +kernel
theorem dX6_readTerm_68 : decode cX6_readTerm 68 = .ok (.goto 4, 3) := by decide +kernel
theorem dX6_readTerm_71 : decode cX6_readTerm 71 = .ok (.iconst 0, 1) := by decide +kernel
theorem dX6_readTerm_72 : decode cX6_readTerm 72 = .ok (.istore_n 2, 1) := by decide +kernel
theorem dX6_readTerm_73 : decode cX6_readTerm 73 = .ok (.iinc 3 1, 3) := by decide +kernel
theorem dX6_readTerm_76 : decode cX6_readTerm 76 = .ok (.goto (-68), 3) := by decide +kernel
theorem dX6_readTerm_79 : decode cX6_readTerm 79 = .ok (.iload_n 2, 1) := by decide +kernel
theorem dX6_readTerm_80 : decode cX6_readTerm 80 = .ok (.ireturn, 1) := by decide +kernel
theorem dX6_readOne_0 : decode cX6_readOne 0 = .ok (.aload_n 0, 1) := by decide +kernel
theorem dX6_readOne_1 : decode cX6_readOne 1 = .ok (.getfield 35, 3) := by decide +kernel
theorem dX6_readOne_4 : decode cX6_readOne 4 = .ok (.istore_n 2, 1) := by decide +kernel
theorem dX6_readOne_5 : decode cX6_readOne 5 = .ok (.iload_n 2, 1) := by decide +kernel
theorem dX6_readOne_6 : decode cX6_readOne 6 = .ok (.iconst 2, 1) := by decide +kernel
theorem dX6_readOne_7 : decode cX6_readOne 7 = .ok (.if_icmp .eq 8, 3) := by decide +kernel
theorem dX6_readOne_10 : decode cX6_readOne 10 = .ok (.iload_n 2, 1) := by decide +kernel
theorem dX6_readOne_11 : decode cX6_readOne 11 = .ok (.iconst 3, 1) := by decide +kernel
theorem dX6_readOne_12 : decode cX6_readOne 12 = .ok (.if_icmp .ne 18, 3) := by decide +kernel
theorem dX6_readOne_15 : decode cX6_readOne 15 = .ok (.aload_n 0, 1) := by decide +kernel
theorem dX6_readOne_16 : decode cX6_readOne 16 = .ok (.aload_n 0, 1) := by decide +kernel
theorem dX6_readOne_17 : decode cX6_readOne 17 = .ok (.getfield 53, 3) := by decide +kernel
theorem dX6_readOne_20 : decode cX6_readOne 20 = .ok (.invokevirtual 44, 3) := by decide +kernel
theorem dX6_readOne_23 : decode cX6_readOne 23 = .ok (.pop, 1) := by decide +kernel
theorem dX6_readOne_24 : decode cX6_readOne 24 = .ok (.aload_n 0, 1) := by decide +kernel
theorem dX6_readOne_25 : decode cX6_readOne 25 = .ok (.invokevirtual 28, 3) := by decide +kernel
theorem dX6_readOne_28 : decode cX6_readOne 28 = .ok (.iconst 1, 1) := by decide +kernel
theorem dX6_readOne_29 : decode cX6_readOne 29 = .ok (.ireturn, 1) := by decide +kernel
theorem dX6_readOne_30 : decode cX6_readOne 30 = .ok (.iload_n 2, 1) := by decide +kernel
theorem dX6_readOne_31 : decode cX6_readOne 31 = .ok (.bipush 45, 2) := by decide +kernel
theorem dX6_readOne_33 : decode cX6_readOne 33 = .ok (.if_icmp .eq 9, 3) := by decide +kernel
theorem dX6_readOne_36 : decode cX6_readOne 36 = .ok (.iload_n 2, 1) := by decide +kernel
theorem dX6_readOne_37 : decode cX6_readOne 37 = .ok (.bipush 40, 2) := by decide +kernel
theorem dX6_readOne_39 : decode cX6_readOne 39 = .ok (.if_icmp .ne 9, 3) := by decide +kernel
theorem dX6_readOne_42 : decode cX6_readOne 42 = .ok (.iload_n 1, 1) := by decide +kernel
theorem dX6_readOne_43 : decode cX6_readOne 43 = .ok (.bipush 6, 2) := by decide +kernel
theorem dX6_readOne_45 : decode cX6_readOne 45 = .ok (.if_icmp .lt 5, 3) := by decide +kernel
theorem dX6_readOne_48 : decode cX6_readOne 48 = .ok (.iconst 0, 1) := by decide +kernel
theorem dX6_readOne_49 : decode cX6_readOne 49 = .ok (.ireturn, 1) := by decide +kernel
theorem dX6_readOne_50 : decode cX6_readOne 50 = .ok (.aload_n 0, 1) := by decide +kernel
theorem dX6_readOne_51 : decode cX6_readOne 51 = .ok (.invokevirtual 28, 3) := by decide +kernel
theorem dX6_readOne_54 : decode cX6_readOne 54 = .ok (.iload_n 2, 1) := by decide +kernel
theorem dX6_readOne_55 : decode cX6_readOne 55 = .ok (.bipush 45, 2) := by decide +kernel
theorem dX6_readOne_57 : decode cX6_readOne 57 = .ok (.if_icmp .ne 29, 3) := by decide +kernel
theorem dX6_readOne_60 : decode cX6_readOne 60 = .ok (.aload_n 0, 1) := by decide +kernel
theorem dX6_readOne_61 : decode cX6_readOne 61 = .ok (.iload_n 1, 1) := by decide +kernel
theorem dX6_readOne_62 : decode cX6_readOne 62 = .ok (.iconst 1, 1) := by decide +kernel
theorem dX6_readOne_63 : decode cX6_readOne 63 = .ok (.iadd, 1) := by decide +kernel
theorem dX6_readOne_64 : decode cX6_readOne 64 = .ok (.invokevirtual 50, 3) := by decide +kernel
theorem dX6_readOne_67 : decode cX6_readOne 67 = .ok (.ifCond .eq 17, 3) := by decide +kernel
theorem dX6_readOne_70 : decode cX6_readOne 70 = .ok (.aload_n 0, 1) := by decide +kernel
theorem dX6_readOne_71 : decode cX6_readOne 71 = .ok (.sipush 10263, 3) := by decide +kernel
theorem dX6_readOne_74 : decode cX6_readOne 74 = .ok (.invokevirtual 44, 3) := by decide +kernel
theorem dX6_readOne_77 : decode cX6_readOne 77 = .ok (.ifCond .eq 7, 3) := by decide +kernel
theorem dX6_readOne_80 : decode cX6_readOne 80 = .ok (.iconst 1, 1) := by decide +kernel
theorem dX6_readOne_81 : decode cX6_readOne 81 = .ok (.goto 4, 3) := by decide +kernel
theorem dX6_readOne_84 : decode cX6_readOne 84 = .ok (.iconst 0, 1) := by decide +kernel
theorem dX6_readOne_85 : decode cX6_readOne 85 = .ok (.ireturn, 1) := by decide +kernel
theorem dX6_readOne_86 : decode cX6_readOne 86 = .ok (.aload_n 0, 1) := by decide +kernel
theorem dX6_readOne_87 : decode cX6_readOne 87 = .ok (.iload_n 1, 1) := by decide +kernel
theorem dX6_readOne_88 : decode cX6_readOne 88 = .ok (.iconst 1, 1) := by decide +kernel
theorem dX6_readOne_89 : decode cX6_readOne 89 = .ok (.iadd, 1) := by decide +kernel
theorem dX6_readOne_90 : decode cX6_readOne 90 = .ok (.invokevirtual 31, 3) := by decide +kernel
theorem dX6_readOne_93 : decode cX6_readOne 93 = .ok (.ifCond .eq 12, 3) := by decide +kernel
theorem dX6_readOne_96 : decode cX6_readOne 96 = .ok (.aload_n 0, 1) := by decide +kernel
theorem dX6_readOne_97 : decode cX6_readOne 97 = .ok (.getfield 35, 3) := by decide +kernel
theorem dX6_readOne_100 : decode cX6_readOne 100 = .ok (.bipush 41, 2) := by decide +kernel
theorem dX6_readOne_102 : decode cX6_readOne 102 = .ok (.if_icmp .eq 5, 3) := by decide +kernel
theorem dX6_readOne_105 : decode cX6_readOne 105 = .ok (.iconst 0, 1) := by decide +kernel
theorem dX6_readOne_106 : decode cX6_readOne 106 = .ok (.ireturn, 1) := by decide +kernel
theorem dX6_readOne_107 : decode cX6_readOne 107 = .ok (.aload_n 0, 1) := by decide +kernel
theorem dX6_readOne_108 : decode cX6_readOne 108 = .ok (.invokevirtual 28, 3) := by decide +kernel
theorem dX6_readOne_111 : decode cX6_readOne 111 = .ok (.iconst 1, 1) := by decide +kernel
theorem dX6_readOne_112 : decode cX6_readOne 112 = .ok (.ireturn, 1) := by decide +kernel
theorem dX6_putStep_0 : decode cX6_putStep 0 = .ok (.aload_n 0, 1) := by decide +kernel
theorem dX6_putStep_1 : decode cX6_putStep 1 = .ok (.getfield 22, 3) := by decide +kernel
theorem dX6_putStep_4 : decode cX6_putStep 4 = .ok (.bipush 80, 2) := by decide +kernel
theorem dX6_putStep_6 : decode cX6_putStep 6 = .ok (.if_icmp .lt 5, 3) := by decide +kernel
theorem dX6_putStep_9 : decode cX6_putStep 9 = .ok (.iconst 0, 1) := by decide +kernel
theorem dX6_putStep_10 : decode cX6_putStep 10 = .ok (.ireturn, 1) := by decide +kernel
theorem dX6_putStep_11 : decode cX6_putStep 11 = .ok (.aload_n 0, 1) := by decide +kernel
theorem dX6_putStep_12 : decode cX6_putStep 12 = .ok (.getfield 15, 3) := by decide +kernel
theorem dX6_putStep_15 : decode cX6_putStep 15 = .ok (.aload_n 0, 1) := by decide +kernel
theorem dX6_putStep_16 : decode cX6_putStep 16 = .ok (.getfield 22, 3) := by decide +kernel
theorem dX6_putStep_19 : decode cX6_putStep 19 = .ok (.iload_n 1, 1) := by decide +kernel
theorem dX6_putStep_20 : decode cX6_putStep 20 = .ok (.iastore, 1) := by decide +kernel
theorem dX6_putStep_21 : decode cX6_putStep 21 = .ok (.aload_n 0, 1) := by decide +kernel
theorem dX6_putStep_22 : decode cX6_putStep 22 = .ok (.dup, 1) := by decide +kernel
theorem dX6_putStep_23 : decode cX6_putStep 23 = .ok (.getfield 22, 3) := by decide +kernel
theorem dX6_putStep_26 : decode cX6_putStep 26 = .ok (.iconst 1, 1) := by decide +kernel
theorem dX6_putStep_27 : decode cX6_putStep 27 = .ok (.iadd, 1) := by decide +kernel
theorem dX6_putStep_28 : decode cX6_putStep 28 = .ok (.putfield 22, 3) := by decide +kernel
theorem dX6_putStep_31 : decode cX6_putStep 31 = .ok (.iconst 1, 1) := by decide +kernel
theorem dX6_putStep_32 : decode cX6_putStep 32 = .ok (.ireturn, 1) := by decide +kernel
theorem dX6_advance_0 : decode cX6_advance 0 = .ok (.aload_n 0, 1) := by decide +kernel
theorem dX6_advance_1 : decode cX6_advance 1 = .ok (.getfield 25, 3) := by decide +kernel
theorem dX6_advance_4 : decode cX6_advance 4 = .ok (.aload_n 0, 1) := by decide +kernel
theorem dX6_advance_5 : decode cX6_advance 5 = .ok (.getfield 18, 3) := by decide +kernel
theorem dX6_advance_8 : decode cX6_advance 8 = .ok (.if_icmp .ge 30, 3) := by decide +kernel
theorem dX6_advance_11 : decode cX6_advance 11 = .ok (.aload_n 0, 1) := by decide +kernel
theorem dX6_advance_12 : decode cX6_advance 12 = .ok (.getfield 9, 3) := by decide +kernel
theorem dX6_advance_15 : decode cX6_advance 15 = .ok (.aload_n 0, 1) := by decide +kernel
theorem dX6_advance_16 : decode cX6_advance 16 = .ok (.getfield 25, 3) := by decide +kernel
theorem dX6_advance_19 : decode cX6_advance 19 = .ok (.iaload, 1) := by decide +kernel
theorem dX6_advance_20 : decode cX6_advance 20 = .ok (.bipush 32, 2) := by decide +kernel
theorem dX6_advance_22 : decode cX6_advance 22 = .ok (.if_icmp .ne 16, 3) := by decide +kernel
theorem dX6_advance_25 : decode cX6_advance 25 = .ok (.aload_n 0, 1) := by decide +kernel
theorem dX6_advance_26 : decode cX6_advance 26 = .ok (.dup, 1) := by decide +kernel
theorem dX6_advance_27 : decode cX6_advance 27 = .ok (.getfield 25, 3) := by decide +kernel
theorem dX6_advance_30 : decode cX6_advance 30 = .ok (.iconst 1, 1) := by decide +kernel
theorem dX6_advance_31 : decode cX6_advance 31 = .ok (.iadd, 1) := by decide +kernel
theorem dX6_advance_32 : decode cX6_advance 32 = .ok (.putfield 25, 3) := by decide +kernel
theorem dX6_advance_35 : decode cX6_advance 35 = .ok (.goto (-35), 3) := by decide +kernel
theorem dX6_advance_38 : decode cX6_advance 38 = .ok (.aload_n 0, 1) := by decide +kernel
theorem dX6_advance_39 : decode cX6_advance 39 = .ok (.aload_n 0, 1) := by decide +kernel
theorem dX6_advance_40 : decode cX6_advance 40 = .ok (.getfield 25, 3) := by decide +kernel
theorem dX6_advance_43 : decode cX6_advance 43 = .ok (.putfield 38, 3) := by decide +kernel
theorem dX6_advance_46 : decode cX6_advance 46 = .ok (.aload_n 0, 1) := by decide +kernel
theorem dX6_advance_47 : decode cX6_advance 47 = .ok (.getfield 25, 3) := by decide +kernel
theorem dX6_advance_50 : decode cX6_advance 50 = .ok (.aload_n 0, 1) := by decide +kernel
theorem dX6_advance_51 : decode cX6_advance 51 = .ok (.getfield 18, 3) := by decide +kernel
theorem dX6_advance_54 : decode cX6_advance 54 = .ok (.if_icmp .lt 9, 3) := by decide +kernel
theorem dX6_advance_57 : decode cX6_advance 57 = .ok (.aload_n 0, 1) := by decide +kernel
theorem dX6_advance_58 : decode cX6_advance 58 = .ok (.iconst 0, 1) := by decide +kernel
theorem dX6_advance_59 : decode cX6_advance 59 = .ok (.putfield 35, 3) := by decide +kernel
theorem dX6_advance_62 : decode cX6_advance 62 = .ok (.return_, 1) := by decide +kernel
theorem dX6_advance_63 : decode cX6_advance 63 = .ok (.aload_n 0, 1) := by decide +kernel
theorem dX6_advance_64 : decode cX6_advance 64 = .ok (.getfield 9, 3) := by decide +kernel
theorem dX6_advance_67 : decode cX6_advance 67 = .ok (.aload_n 0, 1) := by decide +kernel
theorem dX6_advance_68 : decode cX6_advance 68 = .ok (.getfield 25, 3) := by decide +kernel
theorem dX6_advance_71 : decode cX6_advance 71 = .ok (.iaload, 1) := by decide +kernel
theorem dX6_advance_72 : decode cX6_advance 72 = .ok (.istore_n 1, 1) := by decide +kernel
theorem dX6_advance_73 : decode cX6_advance 73 = .ok (.iload_n 1, 1) := by decide +kernel
theorem dX6_advance_74 : decode cX6_advance 74 = .ok (.bipush 48, 2) := by decide +kernel
theorem dX6_advance_76 : decode cX6_advance 76 = .ok (.if_icmp .lt 14, 3) := by decide +kernel
theorem dX6_advance_79 : decode cX6_advance 79 = .ok (.iload_n 1, 1) := by decide +kernel
theorem dX6_advance_80 : decode cX6_advance 80 = .ok (.bipush 57, 2) := by decide +kernel
theorem dX6_advance_82 : decode cX6_advance 82 = .ok (.if_icmp .gt 8, 3) := by decide +kernel
theorem dX6_advance_85 : decode cX6_advance 85 = .ok (.aload_n 0, 1) := by decide +kernel
theorem dX6_advance_86 : decode cX6_advance 86 = .ok (.invokevirtual 56, 3) := by decide +kernel
theorem dX6_advance_89 : decode cX6_advance 89 = .ok (.return_, 1) := by decide +kernel
theorem dX6_advance_90 : decode cX6_advance 90 = .ok (.aload_n 0, 1) := by decide +kernel
theorem dX6_advance_91 : decode cX6_advance 91 = .ok (.dup, 1) := by decide +kernel
theorem dX6_advance_92 : decode cX6_advance 92 = .ok (.getfield 25, 3) := by decide +kernel
theorem dX6_advance_95 : decode cX6_advance 95 = .ok (.iconst 1, 1) := by decide +kernel
theorem dX6_advance_96 : decode cX6_advance 96 = .ok (.iadd, 1) := by decide +kernel
theorem dX6_advance_97 : decode cX6_advance 97 = .ok (.putfield 25, 3) := by decide +kernel
theorem dX6_advance_100 : decode cX6_advance 100 = .ok (.ldc 59, 2) := by decide +kernel
theorem dX6_advance_102 : decode cX6_advance 102 = .ok (.iload_n 1, 1) := by decide +kernel
theorem dX6_advance_103 : decode cX6_advance 103 = .ok (.i2c, 1) := by decide +kernel
theorem dX6_advance_104 : decode cX6_advance 104 = .ok (.invokevirtual 61, 3) := by decide +kernel
theorem dX6_advance_107 : decode cX6_advance 107 = .ok (.istore_n 2, 1) := by decide +kernel
theorem dX6_advance_108 : decode cX6_advance 108 = .ok (.iload_n 2, 1) := by decide +kernel
theorem dX6_advance_109 : decode cX6_advance 109 = .ok (.ifCond .lt 20, 3) := by decide +kernel
theorem dX6_advance_112 : decode cX6_advance 112 = .ok (.aload_n 0, 1) := by decide +kernel
theorem dX6_advance_113 : decode cX6_advance 113 = .ok (.iconst 3, 1) := by decide +kernel
theorem dX6_advance_114 : decode cX6_advance 114 = .ok (.putfield 35, 3) := by decide +kernel
theorem dX6_advance_117 : decode cX6_advance 117 = .ok (.aload_n 0, 1) := by decide +kernel
theorem dX6_advance_118 : decode cX6_advance 118 = .ok (.sipush 10000, 3) := by decide +kernel
theorem dX6_advance_121 : decode cX6_advance 121 = .ok (.iload_n 2, 1) := by decide +kernel
theorem dX6_advance_122 : decode cX6_advance 122 = .ok (.iadd, 1) := by decide +kernel
theorem dX6_advance_123 : decode cX6_advance 123 = .ok (.putfield 53, 3) := by decide +kernel
theorem dX6_advance_126 : decode cX6_advance 126 = .ok (.goto 19, 3) := by decide +kernel
theorem dX6_advance_129 : decode cX6_advance 129 = .ok (.aload_n 0, 1) := by decide +kernel
theorem dX6_advance_130 : decode cX6_advance 130 = .ok (.iload_n 1, 1) := by decide +kernel
theorem dX6_advance_131 : decode cX6_advance 131 = .ok (.invokestatic 67, 3) := by decide +kernel
theorem dX6_advance_134 : decode cX6_advance 134 = .ok (.ifCond .eq 7, 3) := by decide +kernel
theorem dX6_advance_137 : decode cX6_advance 137 = .ok (.iload_n 1, 1) := by decide +kernel
theorem dX6_advance_138 : decode cX6_advance 138 = .ok (.goto 4, 3) := by decide +kernel
theorem dX6_advance_141 : decode cX6_advance 141 = .ok (.iconst 1, 1) := by decide +kernel
theorem dX6_advance_142 : decode cX6_advance 142 = .ok (.putfield 35, 3) := by decide +kernel
theorem dX6_advance_145 : decode cX6_advance 145 = .ok (.return_, 1) := by decide +kernel
theorem dX6_takeNumber_0 : decode cX6_takeNumber 0 = .ok (.aload_n 0, 1) := by decide +kernel
theorem dX6_takeNumber_1 : decode cX6_takeNumber 1 = .ok (.iconst 0, 1) := by decide +kernel
theorem dX6_takeNumber_2 : decode cX6_takeNumber 2 = .ok (.putfield 53, 3) := by decide +kernel
theorem dX6_takeNumber_5 : decode cX6_takeNumber 5 = .ok (.aload_n 0, 1) := by decide +kernel
theorem dX6_takeNumber_6 : decode cX6_takeNumber 6 = .ok (.getfield 25, 3) := by decide +kernel
theorem dX6_takeNumber_9 : decode cX6_takeNumber 9 = .ok (.aload_n 0, 1) := by decide +kernel
theorem dX6_takeNumber_10 : decode cX6_takeNumber 10 = .ok (.getfield 18, 3) := by decide +kernel
theorem dX6_takeNumber_13 : decode cX6_takeNumber 13 = .ok (.if_icmp .ge 78, 3) := by decide +kernel
theorem dX6_takeNumber_16 : decode cX6_takeNumber 16 = .ok (.aload_n 0, 1) := by decide +kernel
theorem dX6_takeNumber_17 : decode cX6_takeNumber 17 = .ok (.getfield 9, 3) := by decide +kernel
theorem dX6_takeNumber_20 : decode cX6_takeNumber 20 = .ok (.aload_n 0, 1) := by decide +kernel
theorem dX6_takeNumber_21 : decode cX6_takeNumber 21 = .ok (.getfield 25, 3) := by decide +kernel
theorem dX6_takeNumber_24 : decode cX6_takeNumber 24 = .ok (.iaload, 1) := by decide +kernel
theorem dX6_takeNumber_25 : decode cX6_takeNumber 25 = .ok (.bipush 48, 2) := by decide +kernel
theorem dX6_takeNumber_27 : decode cX6_takeNumber 27 = .ok (.if_icmp .lt 64, 3) := by decide +kernel
theorem dX6_takeNumber_30 : decode cX6_takeNumber 30 = .ok (.aload_n 0, 1) := by decide +kernel
theorem dX6_takeNumber_31 : decode cX6_takeNumber 31 = .ok (.getfield 9, 3) := by decide +kernel
theorem dX6_takeNumber_34 : decode cX6_takeNumber 34 = .ok (.aload_n 0, 1) := by decide +kernel
theorem dX6_takeNumber_35 : decode cX6_takeNumber 35 = .ok (.getfield 25, 3) := by decide +kernel
theorem dX6_takeNumber_38 : decode cX6_takeNumber 38 = .ok (.iaload, 1) := by decide +kernel
theorem dX6_takeNumber_39 : decode cX6_takeNumber 39 = .ok (.bipush 57, 2) := by decide +kernel
theorem dX6_takeNumber_41 : decode cX6_takeNumber 41 = .ok (.if_icmp .gt 50, 3) := by decide +kernel
theorem dX6_takeNumber_44 : decode cX6_takeNumber 44 = .ok (.aload_n 0, 1) := by decide +kernel
theorem dX6_takeNumber_45 : decode cX6_takeNumber 45 = .ok (.getfield 53, 3) := by decide +kernel
theorem dX6_takeNumber_48 : decode cX6_takeNumber 48 = .ok (.sipush 9999, 3) := by decide +kernel
theorem dX6_takeNumber_51 : decode cX6_takeNumber 51 = .ok (.if_icmp .gt 27, 3) := by decide +kernel
theorem dX6_takeNumber_54 : decode cX6_takeNumber 54 = .ok (.aload_n 0, 1) := by decide +kernel
theorem dX6_takeNumber_55 : decode cX6_takeNumber 55 = .ok (.bipush 10, 2) := by decide +kernel
theorem dX6_takeNumber_57 : decode cX6_takeNumber 57 = .ok (.aload_n 0, 1) := by decide +kernel
theorem dX6_takeNumber_58 : decode cX6_takeNumber 58 = .ok (.getfield 53, 3) := by decide +kernel
theorem dX6_takeNumber_61 : decode cX6_takeNumber 61 = .ok (.imul, 1) := by decide +kernel
theorem dX6_takeNumber_62 : decode cX6_takeNumber 62 = .ok (.aload_n 0, 1) := by decide +kernel
theorem dX6_takeNumber_63 : decode cX6_takeNumber 63 = .ok (.getfield 9, 3) := by decide +kernel
theorem dX6_takeNumber_66 : decode cX6_takeNumber 66 = .ok (.aload_n 0, 1) := by decide +kernel
theorem dX6_takeNumber_67 : decode cX6_takeNumber 67 = .ok (.getfield 25, 3) := by decide +kernel
theorem dX6_takeNumber_70 : decode cX6_takeNumber 70 = .ok (.iaload, 1) := by decide +kernel
theorem dX6_takeNumber_71 : decode cX6_takeNumber 71 = .ok (.iadd, 1) := by decide +kernel
theorem dX6_takeNumber_72 : decode cX6_takeNumber 72 = .ok (.bipush 48, 2) := by decide +kernel
theorem dX6_takeNumber_74 : decode cX6_takeNumber 74 = .ok (.isub, 1) := by decide +kernel
theorem dX6_takeNumber_75 : decode cX6_takeNumber 75 = .ok (.putfield 53, 3) := by decide +kernel
theorem dX6_takeNumber_78 : decode cX6_takeNumber 78 = .ok (.aload_n 0, 1) := by decide +kernel
theorem dX6_takeNumber_79 : decode cX6_takeNumber 79 = .ok (.dup, 1) := by decide +kernel
theorem dX6_takeNumber_80 : decode cX6_takeNumber 80 = .ok (.getfield 25, 3) := by decide +kernel
theorem dX6_takeNumber_83 : decode cX6_takeNumber 83 = .ok (.iconst 1, 1) := by decide +kernel
theorem dX6_takeNumber_84 : decode cX6_takeNumber 84 = .ok (.iadd, 1) := by decide +kernel
theorem dX6_takeNumber_85 : decode cX6_takeNumber 85 = .ok (.putfield 25, 3) := by decide +kernel
theorem dX6_takeNumber_88 : decode cX6_takeNumber 88 = .ok (.goto (-83), 3) := by decide +kernel
theorem dX6_takeNumber_91 : decode cX6_takeNumber 91 = .ok (.aload_n 0, 1) := by decide +kernel
theorem dX6_takeNumber_92 : decode cX6_takeNumber 92 = .ok (.aload_n 0, 1) := by decide +kernel
theorem dX6_takeNumber_93 : decode cX6_takeNumber 93 = .ok (.getfield 53, 3) := by decide +kernel
theorem dX6_takeNumber_96 : decode cX6_takeNumber 96 = .ok (.sipush 9999, 3) := by decide +kernel
theorem dX6_takeNumber_99 : decode cX6_takeNumber 99 = .ok (.if_icmp .le 7, 3) := by decide +kernel
theorem dX6_takeNumber_102 : decode cX6_takeNumber 102 = .ok (.iconst 1, 1) := by decide +kernel
theorem dX6_takeNumber_103 : decode cX6_takeNumber 103 = .ok (.goto 4, 3) := by decide +kernel
theorem dX6_takeNumber_106 : decode cX6_takeNumber 106 = .ok (.iconst 2, 1) := by decide +kernel
theorem dX6_takeNumber_107 : decode cX6_takeNumber 107 = .ok (.putfield 35, 3) := by decide +kernel
theorem dX6_takeNumber_110 : decode cX6_takeNumber 110 = .ok (.return_, 1) := by decide +kernel
theorem dX6_isSign_0 : decode cX6_isSign 0 = .ok (.iload_n 0, 1) := by decide +kernel
theorem dX6_isSign_1 : decode cX6_isSign 1 = .ok (.bipush 43, 2) := by decide +kernel
theorem dX6_isSign_3 : decode cX6_isSign 3 = .ok (.if_icmp .eq 45, 3) := by decide +kernel
theorem dX6_isSign_6 : decode cX6_isSign 6 = .ok (.iload_n 0, 1) := by decide +kernel
theorem dX6_isSign_7 : decode cX6_isSign 7 = .ok (.bipush 45, 2) := by decide +kernel
theorem dX6_isSign_9 : decode cX6_isSign 9 = .ok (.if_icmp .eq 39, 3) := by decide +kernel
theorem dX6_isSign_12 : decode cX6_isSign 12 = .ok (.iload_n 0, 1) := by decide +kernel
theorem dX6_isSign_13 : decode cX6_isSign 13 = .ok (.bipush 42, 2) := by decide +kernel
theorem dX6_isSign_15 : decode cX6_isSign 15 = .ok (.if_icmp .eq 33, 3) := by decide +kernel
theorem dX6_isSign_18 : decode cX6_isSign 18 = .ok (.iload_n 0, 1) := by decide +kernel
theorem dX6_isSign_19 : decode cX6_isSign 19 = .ok (.bipush 47, 2) := by decide +kernel
theorem dX6_isSign_21 : decode cX6_isSign 21 = .ok (.if_icmp .eq 27, 3) := by decide +kernel
theorem dX6_isSign_24 : decode cX6_isSign 24 = .ok (.iload_n 0, 1) := by decide +kernel
theorem dX6_isSign_25 : decode cX6_isSign 25 = .ok (.bipush 40, 2) := by decide +kernel
theorem dX6_isSign_27 : decode cX6_isSign 27 = .ok (.if_icmp .eq 21, 3) := by decide +kernel
theorem dX6_isSign_30 : decode cX6_isSign 30 = .ok (.iload_n 0, 1) := by decide +kernel
theorem dX6_isSign_31 : decode cX6_isSign 31 = .ok (.bipush 41, 2) := by decide +kernel
theorem dX6_isSign_33 : decode cX6_isSign 33 = .ok (.if_icmp .eq 15, 3) := by decide +kernel
theorem dX6_isSign_36 : decode cX6_isSign 36 = .ok (.iload_n 0, 1) := by decide +kernel
theorem dX6_isSign_37 : decode cX6_isSign 37 = .ok (.bipush 60, 2) := by decide +kernel
theorem dX6_isSign_39 : decode cX6_isSign 39 = .ok (.if_icmp .eq 9, 3) := by decide +kernel
theorem dX6_isSign_42 : decode cX6_isSign 42 = .ok (.iload_n 0, 1) := by decide +kernel
theorem dX6_isSign_43 : decode cX6_isSign 43 = .ok (.bipush 61, 2) := by decide +kernel
theorem dX6_isSign_45 : decode cX6_isSign 45 = .ok (.if_icmp .ne 7, 3) := by decide +kernel
theorem dX6_isSign_48 : decode cX6_isSign 48 = .ok (.iconst 1, 1) := by decide +kernel
theorem dX6_isSign_49 : decode cX6_isSign 49 = .ok (.goto 4, 3) := by decide +kernel
theorem dX6_isSign_52 : decode cX6_isSign 52 = .ok (.iconst 0, 1) := by decide +kernel
theorem dX6_isSign_53 : decode cX6_isSign 53 = .ok (.ireturn, 1) := by decide +kernel
theorem dX7_init_0 : decode cX7_init 0 = .ok (.aload_n 0, 1) := by decide +kernel
theorem dX7_init_1 : decode cX7_init 1 = .ok (.invokespecial 1, 3) := by decide +kernel
theorem dX7_init_4 : decode cX7_init 4 = .ok (.aload_n 0, 1) := by decide +kernel
theorem dX7_init_5 : decode cX7_init 5 = .ok (.aload_n 1, 1) := by decide +kernel
theorem dX7_init_6 : decode cX7_init 6 = .ok (.putfield 7, 3) := by decide +kernel
theorem dX7_init_9 : decode cX7_init 9 = .ok (.return_, 1) := by decide +kernel
theorem dX8_init_0 : decode cX8_init 0 = .ok (.aload_n 0, 1) := by decide +kernel
theorem dX8_init_1 : decode cX8_init 1 = .ok (.invokespecial 3, 3) := by decide +kernel
theorem dX8_init_4 : decode cX8_init 4 = .ok (.aload_n 0, 1) := by decide +kernel
theorem dX8_init_5 : decode cX8_init 5 = .ok (.bipush 16, 2) := by decide +kernel
theorem dX8_init_7 : decode cX8_init 7 = .ok (.newarray .int, 2) := by decide +kernel
theorem dX8_init_9 : decode cX8_init 9 = .ok (.putfield 9, 3) := by decide +kernel
theorem dX8_init_12 : decode cX8_init 12 = .ok (.aload_n 0, 1) := by decide +kernel
theorem dX8_init_13 : decode cX8_init 13 = .ok (.bipush 16, 2) := by decide +kernel
theorem dX8_init_15 : decode cX8_init 15 = .ok (.newarray .int, 2) := by decide +kernel
theorem dX8_init_17 : decode cX8_init 17 = .ok (.putfield 15, 3) := by decide +kernel
theorem dX8_init_20 : decode cX8_init 20 = .ok (.aload_n 0, 1) := by decide +kernel
theorem dX8_init_21 : decode cX8_init 21 = .ok (.sipush 256, 3) := by decide +kernel
theorem dX8_init_24 : decode cX8_init 24 = .ok (.newarray .int, 2) := by decide +kernel
theorem dX8_init_26 : decode cX8_init 26 = .ok (.putfield 18, 3) := by decide +kernel
theorem dX8_init_29 : decode cX8_init 29 = .ok (.aload_n 0, 1) := by decide +kernel
theorem dX8_init_30 : decode cX8_init 30 = .ok (.sipush 256, 3) := by decide +kernel
theorem dX8_init_33 : decode cX8_init 33 = .ok (.newarray .int, 2) := by decide +kernel
theorem dX8_init_35 : decode cX8_init 35 = .ok (.putfield 21, 3) := by decide +kernel
theorem dX8_init_38 : decode cX8_init 38 = .ok (.aload_n 0, 1) := by decide +kernel
theorem dX8_init_39 : decode cX8_init 39 = .ok (.getfield 21, 3) := by decide +kernel
theorem dX8_init_42 : decode cX8_init 42 = .ok (.iconst (-1), 1) := by decide +kernel
theorem dX8_init_43 : decode cX8_init 43 = .ok (.invokestatic 24, 3) := by decide +kernel
theorem dX8_init_46 : decode cX8_init 46 = .ok (.iconst 0, 1) := by decide +kernel
theorem dX8_init_47 : decode cX8_init 47 = .ok (.istore_n 1, 1) := by decide +kernel
theorem dX8_init_48 : decode cX8_init 48 = .ok (.iload_n 1, 1) := by decide +kernel
theorem dX8_init_49 : decode cX8_init 49 = .ok (.bipush 16, 2) := by decide +kernel
theorem dX8_init_51 : decode cX8_init 51 = .ok (.if_icmp .ge 21, 3) := by decide +kernel
theorem dX8_init_54 : decode cX8_init 54 = .ok (.aload_n 0, 1) := by decide +kernel
theorem dX8_init_55 : decode cX8_init 55 = .ok (.getfield 21, 3) := by decide +kernel
theorem dX8_init_58 : decode cX8_init 58 = .ok (.iload_n 1, 1) := by decide +kernel
theorem dX8_init_59 : decode cX8_init 59 = .ok (.bipush 16, 2) := by decide +kernel
theorem dX8_init_61 : decode cX8_init 61 = .ok (.imul, 1) := by decide +kernel
theorem dX8_init_62 : decode cX8_init 62 = .ok (.iload_n 1, 1) := by decide +kernel
theorem dX8_init_63 : decode cX8_init 63 = .ok (.iadd, 1) := by decide +kernel
theorem dX8_init_64 : decode cX8_init 64 = .ok (.iconst 0, 1) := by decide +kernel
theorem dX8_init_65 : decode cX8_init 65 = .ok (.iastore, 1) := by decide +kernel
theorem dX8_init_66 : decode cX8_init 66 = .ok (.iinc 1 1, 3) := by decide +kernel
theorem dX8_init_69 : decode cX8_init 69 = .ok (.goto (-21), 3) := by decide +kernel
theorem dX8_init_72 : decode cX8_init 72 = .ok (.return_, 1) := by decide +kernel
theorem dX8_putHeight_0 : decode cX8_putHeight 0 = .ok (.aload_n 0, 1) := by decide +kernel
theorem dX8_putHeight_1 : decode cX8_putHeight 1 = .ok (.getfield 9, 3) := by decide +kernel
theorem dX8_putHeight_4 : decode cX8_putHeight 4 = .ok (.iload_n 1, 1) := by decide +kernel
theorem dX8_putHeight_5 : decode cX8_putHeight 5 = .ok (.iaload, 1) := by decide +kernel
theorem dX8_putHeight_6 : decode cX8_putHeight 6 = .ok (.istore_n 3, 1) := by decide +kernel
theorem dX8_putHeight_7 : decode cX8_putHeight 7 = .ok (.aload_n 0, 1) := by decide +kernel
theorem dX8_putHeight_8 : decode cX8_putHeight 8 = .ok (.getfield 9, 3) := by decide +kernel
theorem dX8_putHeight_11 : decode cX8_putHeight 11 = .ok (.iload_n 1, 1) := by decide +kernel
theorem dX8_putHeight_12 : decode cX8_putHeight 12 = .ok (.iload_n 2, 1) := by decide +kernel
theorem dX8_putHeight_13 : decode cX8_putHeight 13 = .ok (.iastore, 1) := by decide +kernel
theorem dX8_putHeight_14 : decode cX8_putHeight 14 = .ok (.iload_n 3, 1) := by decide +kernel
theorem dX8_putHeight_15 : decode cX8_putHeight 15 = .ok (.iload_n 2, 1) := by decide +kernel
theorem dX8_putHeight_16 : decode cX8_putHeight 16 = .ok (.if_icmp .eq 7, 3) := by decide +kernel
theorem dX8_putHeight_19 : decode cX8_putHeight 19 = .ok (.aload_n 0, 1) := by decide +kernel
theorem dX8_putHeight_20 : decode cX8_putHeight 20 = .ok (.invokevirtual 30, 3) := by decide +kernel
theorem dX8_putHeight_23 : decode cX8_putHeight 23 = .ok (.iload_n 3, 1) := by decide +kernel
theorem dX8_putHeight_24 : decode cX8_putHeight 24 = .ok (.ireturn, 1) := by decide +kernel
theorem dX8_putZone_0 : decode cX8_putZone 0 = .ok (.aload_n 0, 1) := by decide +kernel
theorem dX8_putZone_1 : decode cX8_putZone 1 = .ok (.getfield 15, 3) := by decide +kernel
theorem dX8_putZone_4 : decode cX8_putZone 4 = .ok (.iload_n 1, 1) := by decide +kernel
theorem dX8_putZone_5 : decode cX8_putZone 5 = .ok (.iaload, 1) := by decide +kernel
theorem dX8_putZone_6 : decode cX8_putZone 6 = .ok (.istore_n 3, 1) := by decide +kernel
theorem dX8_putZone_7 : decode cX8_putZone 7 = .ok (.aload_n 0, 1) := by decide +kernel
theorem dX8_putZone_8 : decode cX8_putZone 8 = .ok (.getfield 15, 3) := by decide +kernel
theorem dX8_putZone_11 : decode cX8_putZone 11 = .ok (.iload_n 1, 1) := by decide +kernel
theorem dX8_putZone_12 : decode cX8_putZone 12 = .ok (.iload_n 2, 1) := by decide +kernel
theorem dX8_putZone_13 : decode cX8_putZone 13 = .ok (.iastore, 1) := by decide +kernel
theorem dX8_putZone_14 : decode cX8_putZone 14 = .ok (.iload_n 3, 1) := by decide +kernel
theorem dX8_putZone_15 : decode cX8_putZone 15 = .ok (.ireturn, 1) := by decide +kernel
theorem dX8_addRoad_0 : decode cX8_addRoad 0 = .ok (.aload_n 0, 1) := by decide +kernel
theorem dX8_addRoad_1 : decode cX8_addRoad 1 = .ok (.getfield 18, 3) := by decide +kernel
theorem dX8_addRoad_4 : decode cX8_addRoad 4 = .ok (.iload_n 1, 1) := by decide +kernel
theorem dX8_addRoad_5 : decode cX8_addRoad 5 = .ok (.bipush 16, 2) := by decide +kernel
theorem dX8_addRoad_7 : decode cX8_addRoad 7 = .ok (.imul, 1) := by decide +kernel
theorem dX8_addRoad_8 : decode cX8_addRoad 8 = .ok (.iload_n 2, 1) := by decide +kernel
theorem dX8_addRoad_9 : decode cX8_addRoad 9 = .ok (.iadd, 1) := by decide +kernel
theorem dX8_addRoad_10 : decode cX8_addRoad 10 = .ok (.iaload, 1) := by decide +kernel
theorem dX8_addRoad_11 : decode cX8_addRoad 11 = .ok (.istore 4, 2) := by decide +kernel
theorem dX8_addRoad_13 : decode cX8_addRoad 13 = .ok (.iload 4, 2) := by decide +kernel
theorem dX8_addRoad_15 : decode cX8_addRoad 15 = .ok (.ifCond .le 12, 3) := by decide +kernel
theorem dX8_addRoad_18 : decode cX8_addRoad 18 = .ok (.iload 4, 2) := by decide +kernel
theorem dX8_addRoad_20 : decode cX8_addRoad 20 = .ok (.iload_n 3, 1) := by decide +kernel
theorem dX8_addRoad_21 : decode cX8_addRoad 21 = .ok (.if_icmp .gt 6, 3) := by decide +kernel
theorem dX8_addRoad_24 : decode cX8_addRoad 24 = .ok (.iload 4, 2) := by decide +kernel
theorem dX8_addRoad_26 : decode cX8_addRoad 26 = .ok (.ireturn, 1) := by decide +kernel
theorem dX8_addRoad_27 : decode cX8_addRoad 27 = .ok (.aload_n 0, 1) := by decide +kernel
theorem dX8_addRoad_28 : decode cX8_addRoad 28 = .ok (.getfield 18, 3) := by decide +kernel
theorem dX8_addRoad_31 : decode cX8_addRoad 31 = .ok (.iload_n 1, 1) := by decide +kernel
theorem dX8_addRoad_32 : decode cX8_addRoad 32 = .ok (.bipush 16, 2) := by decide +kernel
theorem dX8_addRoad_34 : decode cX8_addRoad 34 = .ok (.imul, 1) := by decide +kernel
theorem dX8_addRoad_35 : decode cX8_addRoad 35 = .ok (.iload_n 2, 1) := by decide +kernel
theorem dX8_addRoad_36 : decode cX8_addRoad 36 = .ok (.iadd, 1) := by decide +kernel
theorem dX8_addRoad_37 : decode cX8_addRoad 37 = .ok (.iload_n 3, 1) := by decide +kernel
theorem dX8_addRoad_38 : decode cX8_addRoad 38 = .ok (.iastore, 1) := by decide +kernel
theorem dX8_addRoad_39 : decode cX8_addRoad 39 = .ok (.aload_n 0, 1) := by decide +kernel
theorem dX8_addRoad_40 : decode cX8_addRoad 40 = .ok (.getfield 18, 3) := by decide +kernel
theorem dX8_addRoad_43 : decode cX8_addRoad 43 = .ok (.iload_n 2, 1) := by decide +kernel
theorem dX8_addRoad_44 : decode cX8_addRoad 44 = .ok (.bipush 16, 2) := by decide +kernel
theorem dX8_addRoad_46 : decode cX8_addRoad 46 = .ok (.imul, 1) := by decide +kernel
theorem dX8_addRoad_47 : decode cX8_addRoad 47 = .ok (.iload_n 1, 1) := by decide +kernel
theorem dX8_addRoad_48 : decode cX8_addRoad 48 = .ok (.iadd, 1) := by decide +kernel
theorem dX8_addRoad_49 : decode cX8_addRoad 49 = .ok (.iload_n 3, 1) := by decide +kernel
theorem dX8_addRoad_50 : decode cX8_addRoad 50 = .ok (.iastore, 1) := by decide +kernel
theorem dX8_addRoad_51 : decode cX8_addRoad 51 = .ok (.aload_n 0, 1) := by decide +kernel
theorem dX8_addRoad_52 : decode cX8_addRoad 52 = .ok (.invokevirtual 30, 3) := by decide +kernel
theorem dX8_addRoad_55 : decode cX8_addRoad 55 = .ok (.iload_n 3, 1) := by decide +kernel
theorem dX8_addRoad_56 : decode cX8_addRoad 56 = .ok (.ireturn, 1) := by decide +kernel
theorem dX8_wayBetween_0 : decode cX8_wayBetween 0 = .ok (.aload_n 0, 1) := by decide +kernel
theorem dX8_wayBetween_1 : decode cX8_wayBetween 1 = .ok (.getfield 21, 3) := by decide +kernel
theorem dX8_wayBetween_4 : decode cX8_wayBetween 4 = .ok (.iload_n 1, 1) := by decide +kernel
theorem dX8_wayBetween_5 : decode cX8_wayBetween 5 = .ok (.bipush 16, 2) := by decide +kernel
theorem dX8_wayBetween_7 : decode cX8_wayBetween 7 = .ok (.imul, 1) := by decide +kernel
theorem dX8_wayBetween_8 : decode cX8_wayBetween 8 = .ok (.iload_n 2, 1) := by decide +kernel
theorem dX8_wayBetween_9 : decode cX8_wayBetween 9 = .ok (.iadd, 1) := by decide +kernel
theorem dX8_wayBetween_10 : decode cX8_wayBetween 10 = .ok (.iaload, 1) := by decide +kernel
theorem dX8_wayBetween_11 : decode cX8_wayBetween 11 = .ok (.ireturn, 1) := by decide +kernel
theorem dX8_measureWays_0 : decode cX8_measureWays 0 = .ok (.iconst 0, 1) := by decide +kernel
theorem dX8_measureWays_1 : decode cX8_measureWays 1 = .ok (.istore_n 1, 1) := by decide +kernel
theorem dX8_measureWays_2 : decode cX8_measureWays 2 = .ok (.iload_n 1, 1) := by decide +kernel
theorem dX8_measureWays_3 : decode cX8_measureWays 3 = .ok (.bipush 16, 2) := by decide +kernel
theorem dX8_measureWays_5 : decode cX8_measureWays 5 = .ok (.if_icmp .ge 40, 3) := by decide +kernel
theorem dX8_measureWays_8 : decode cX8_measureWays 8 = .ok (.iconst 0, 1) := by decide +kernel
theorem dX8_measureWays_9 : decode cX8_measureWays 9 = .ok (.istore_n 2, 1) := by decide +kernel
theorem dX8_measureWays_10 : decode cX8_measureWays 10 = .ok (.iload_n 2, 1) := by decide +kernel
theorem dX8_measureWays_11 : decode cX8_measureWays 11 = .ok (.bipush 16, 2) := by decide +kernel
theorem dX8_measureWays_13 : decode cX8_measureWays 13 = .ok (.if_icmp .ge 26, 3) := by decide +kernel
theorem dX8_measureWays_16 : decode cX8_measureWays 16 = .ok (.aload_n 0, 1) := by decide +kernel
theorem dX8_measureWays_17 : decode cX8_measureWays 17 = .ok (.getfield 21, 3) := by decide +kernel
theorem dX8_measureWays_20 : decode cX8_measureWays 20 = .ok (.iload_n 1, 1) := by decide +kernel
theorem dX8_measureWays_21 : decode cX8_measureWays 21 = .ok (.bipush 16, 2) := by decide +kernel
theorem dX8_measureWays_23 : decode cX8_measureWays 23 = .ok (.imul, 1) := by decide +kernel
theorem dX8_measureWays_24 : decode cX8_measureWays 24 = .ok (.iload_n 2, 1) := by decide +kernel
theorem dX8_measureWays_25 : decode cX8_measureWays 25 = .ok (.iadd, 1) := by decide +kernel
theorem dX8_measureWays_26 : decode cX8_measureWays 26 = .ok (.aload_n 0, 1) := by decide +kernel
theorem dX8_measureWays_27 : decode cX8_measureWays 27 = .ok (.iload_n 1, 1) := by decide +kernel
theorem dX8_measureWays_28 : decode cX8_measureWays 28 = .ok (.iload_n 2, 1) := by decide +kernel
theorem dX8_measureWays_29 : decode cX8_measureWays 29 = .ok (.invokevirtual 33, 3) := by decide +kernel
theorem dX8_measureWays_32 : decode cX8_measureWays 32 = .ok (.iastore, 1) := by decide +kernel
theorem dX8_measureWays_33 : decode cX8_measureWays 33 = .ok (.iinc 2 1, 3) := by decide +kernel
theorem dX8_measureWays_36 : decode cX8_measureWays 36 = .ok (.goto (-26), 3) := by decide +kernel
theorem dX8_measureWays_39 : decode cX8_measureWays 39 = .ok (.iinc 1 1, 3) := by decide +kernel
theorem dX8_measureWays_42 : decode cX8_measureWays 42 = .ok (.goto (-40), 3) := by decide +kernel
theorem dX8_measureWays_45 : decode cX8_measureWays 45 = .ok (.iconst 0, 1) := by decide +kernel
theorem dX8_measureWays_46 : decode cX8_measureWays 46 = .ok (.istore_n 1, 1) := by decide +kernel
theorem dX8_measureWays_47 : decode cX8_measureWays 47 = .ok (.iload_n 1, 1) := by decide +kernel
theorem dX8_measureWays_48 : decode cX8_measureWays 48 = .ok (.bipush 16, 2) := by decide +kernel
theorem dX8_measureWays_50 : decode cX8_measureWays 50 = .ok (.if_icmp .ge 39, 3) := by decide +kernel
theorem dX8_measureWays_53 : decode cX8_measureWays 53 = .ok (.iconst 0, 1) := by decide +kernel
theorem dX8_measureWays_54 : decode cX8_measureWays 54 = .ok (.istore_n 2, 1) := by decide +kernel
theorem dX8_measureWays_55 : decode cX8_measureWays 55 = .ok (.iload_n 2, 1) := by decide +kernel
theorem dX8_measureWays_56 : decode cX8_measureWays 56 = .ok (.bipush 16, 2) := by decide +kernel
theorem dX8_measureWays_58 : decode cX8_measureWays 58 = .ok (.if_icmp .ge 25, 3) := by decide +kernel
theorem dX8_measureWays_61 : decode cX8_measureWays 61 = .ok (.aload_n 0, 1) := by decide +kernel
theorem dX8_measureWays_62 : decode cX8_measureWays 62 = .ok (.iload_n 2, 1) := by decide +kernel
theorem dX8_measureWays_63 : decode cX8_measureWays 63 = .ok (.iload_n 1, 1) := by decide +kernel
theorem dX8_measureWays_64 : decode cX8_measureWays 64 = .ok (.invokevirtual 37, 3) := by decide +kernel
theorem dX8_measureWays_67 : decode cX8_measureWays 67 = .ok (.iconst (-1), 1) := by decide +kernel
theorem dX8_measureWays_68 : decode cX8_measureWays 68 = .ok (.if_icmp .eq 9, 3) := by decide +kernel
theorem dX8_measureWays_71 : decode cX8_measureWays 71 = .ok (.aload_n 0, 1) := by decide +kernel
theorem dX8_measureWays_72 : decode cX8_measureWays 72 = .ok (.iload_n 2, 1) := by decide +kernel
theorem dX8_measureWays_73 : decode cX8_measureWays 73 = .ok (.iload_n 1, 1) := by decide +kernel
theorem dX8_measureWays_74 : decode cX8_measureWays 74 = .ok (.invokevirtual 40, 3) := by decide +kernel
theorem dX8_measureWays_77 : decode cX8_measureWays 77 = .ok (.iinc 2 1, 3) := by decide +kernel
theorem dX8_measureWays_80 : decode cX8_measureWays 80 = .ok (.goto (-25), 3) := by decide +kernel
theorem dX8_measureWays_83 : decode cX8_measureWays 83 = .ok (.iinc 1 1, 3) := by decide +kernel
theorem dX8_measureWays_86 : decode cX8_measureWays 86 = .ok (.goto (-39), 3) := by decide +kernel
theorem dX8_measureWays_89 : decode cX8_measureWays 89 = .ok (.return_, 1) := by decide +kernel
theorem dX8_directWay_0 : decode cX8_directWay 0 = .ok (.iload_n 1, 1) := by decide +kernel
theorem dX8_directWay_1 : decode cX8_directWay 1 = .ok (.iload_n 2, 1) := by decide +kernel
theorem dX8_directWay_2 : decode cX8_directWay 2 = .ok (.if_icmp .ne 5, 3) := by decide +kernel
theorem dX8_directWay_5 : decode cX8_directWay 5 = .ok (.iconst 0, 1) := by decide +kernel
theorem dX8_directWay_6 : decode cX8_directWay 6 = .ok (.ireturn, 1) := by decide +kernel
theorem dX8_directWay_7 : decode cX8_directWay 7 = .ok (.aload_n 0, 1) := by decide +kernel
theorem dX8_directWay_8 : decode cX8_directWay 8 = .ok (.getfield 18, 3) := by decide +kernel
theorem dX8_directWay_11 : decode cX8_directWay 11 = .ok (.iload_n 1, 1) := by decide +kernel
theorem dX8_directWay_12 : decode cX8_directWay 12 = .ok (.bipush 16, 2) := by decide +kernel
theorem dX8_directWay_14 : decode cX8_directWay 14 = .ok (.imul, 1) := by decide +kernel
theorem dX8_directWay_15 : decode cX8_directWay 15 = .ok (.iload_n 2, 1) := by decide +kernel
theorem dX8_directWay_16 : decode cX8_directWay 16 = .ok (.iadd, 1) := by decide +kernel
theorem dX8_directWay_17 : decode cX8_directWay 17 = .ok (.iaload, 1) := by decide +kernel
theorem dX8_directWay_18 : decode cX8_directWay 18 = .ok (.istore_n 3, 1) := by decide +kernel
theorem dX8_directWay_19 : decode cX8_directWay 19 = .ok (.iload_n 3, 1) := by decide +kernel
theorem dX8_directWay_20 : decode cX8_directWay 20 = .ok (.ifCond .ne 7, 3) := by decide +kernel
theorem dX8_directWay_23 : decode cX8_directWay 23 = .ok (.iconst (-1), 1) := by decide +kernel
theorem dX8_directWay_24 : decode cX8_directWay 24 = .ok (.goto 22, 3) := by decide +kernel
theorem dX8_directWay_27 : decode cX8_directWay 27 = .ok (.iload_n 3, 1) := by decide +kernel
theorem dX8_directWay_28 : decode cX8_directWay 28 = .ok (.iconst 0, 1) := by decide +kernel
theorem dX8_directWay_29 : decode cX8_directWay 29 = .ok (.aload_n 0, 1) := by decide +kernel
theorem dX8_directWay_30 : decode cX8_directWay 30 = .ok (.getfield 9, 3) := by decide +kernel
theorem dX8_directWay_33 : decode cX8_directWay 33 = .ok (.iload_n 2, 1) := by decide +kernel
theorem dX8_directWay_34 : decode cX8_directWay 34 = .ok (.iaload, 1) := by decide +kernel
theorem dX8_directWay_35 : decode cX8_directWay 35 = .ok (.aload_n 0, 1) := by decide +kernel
theorem dX8_directWay_36 : decode cX8_directWay 36 = .ok (.getfield 9, 3) := by decide +kernel
theorem dX8_directWay_39 : decode cX8_directWay 39 = .ok (.iload_n 1, 1) := by decide +kernel
theorem dX8_directWay_40 : decode cX8_directWay 40 = .ok (.iaload, 1) := by decide +kernel
theorem dX8_directWay_41 : decode cX8_directWay 41 = .ok (.isub, 1) := by decide +kernel
theorem dX8_directWay_42 : decode cX8_directWay 42 = .ok (.invokestatic 44, 3) := by decide +kernel
theorem dX8_directWay_45 : decode cX8_directWay 45 = .ok (.iadd, 1) := by decide +kernel
theorem dX8_directWay_46 : decode cX8_directWay 46 = .ok (.ireturn, 1) := by decide +kernel
theorem dX8_shortenThrough_0 : decode cX8_shortenThrough 0 = .ok (.aload_n 0, 1) := by decide +kernel
theorem dX8_shortenThrough_1 : decode cX8_shortenThrough 1 = .ok (.iload_n 1, 1) := by decide +kernel
theorem dX8_shortenThrough_2 : decode cX8_shortenThrough 2 = .ok (.iload_n 2, 1) := by decide +kernel
theorem dX8_shortenThrough_3 : decode cX8_shortenThrough 3 = .ok (.invokevirtual 37, 3) := by decide +kernel
theorem dX8_shortenThrough_6 : decode cX8_shortenThrough 6 = .ok (.istore_n 3, 1) := by decide +kernel
theorem dX8_shortenThrough_7 : decode cX8_shortenThrough 7 = .ok (.iconst 0, 1) := by decide +kernel
theorem dX8_shortenThrough_8 : decode cX8_shortenThrough 8 = .ok (.istore 4, 2) := by decide +kernel
theorem dX8_shortenThrough_10 : decode cX8_shortenThrough 10 = .ok (.iload 4, 2) := by decide +kernel
theorem dX8_shortenThrough_12 : decode cX8_shortenThrough 12 = .ok (.bipush 16, 2) := by decide +kernel
theorem dX8_shortenThrough_14 : decode cX8_shortenThrough 14 = .ok (.if_icmp .ge 64, 3) := by decide +kernel
theorem dX8_shortenThrough_17 : decode cX8_shortenThrough 17 = .ok (.aload_n 0, 1) := by decide +kernel
theorem dX8_shortenThrough_18 : decode cX8_shortenThrough 18 = .ok (.iload_n 2, 1) := by decide +kernel
theorem dX8_shortenThrough_19 : decode cX8_shortenThrough 19 = .ok (.iload 4, 2) := by decide +kernel
theorem dX8_shortenThrough_21 : decode cX8_shortenThrough 21 = .ok (.invokevirtual 37, 3) := by decide +kernel
theorem dX8_shortenThrough_24 : decode cX8_shortenThrough 24 = .ok (.istore 5, 2) := by decide +kernel
theorem dX8_shortenThrough_26 : decode cX8_shortenThrough 26 = .ok (.aload_n 0, 1) := by decide +kernel
theorem dX8_shortenThrough_27 : decode cX8_shortenThrough 27 = .ok (.iload_n 1, 1) := by decide +kernel
theorem dX8_shortenThrough_28 : decode cX8_shortenThrough 28 = .ok (.iload 4, 2) := by decide +kernel
theorem dX8_shortenThrough_30 : decode cX8_shortenThrough 30 = .ok (.invokevirtual 37, 3) := by decide +kernel
theorem dX8_shortenThrough_33 : decode cX8_shortenThrough 33 = .ok (.istore 6, 2) := by decide +kernel
theorem dX8_shortenThrough_35 : decode cX8_shortenThrough 35 = .ok (.iload 5, 2) := by decide +kernel
theorem dX8_shortenThrough_37 : decode cX8_shortenThrough 37 = .ok (.iconst (-1), 1) := by decide +kernel
theorem dX8_shortenThrough_38 : decode cX8_shortenThrough 38 = .ok (.if_icmp .eq 34, 3) := by decide +kernel
theorem dX8_shortenThrough_41 : decode cX8_shortenThrough 41 = .ok (.iload 6, 2) := by decide +kernel
theorem dX8_shortenThrough_43 : decode cX8_shortenThrough 43 = .ok (.iconst (-1), 1) := by decide +kernel
theorem dX8_shortenThrough_44 : decode cX8_shortenThrough 44 = .ok (.if_icmp .eq 12, 3) := by decide +kernel
theorem dX8_shortenThrough_47 : decode cX8_shortenThrough 47 = .ok (.iload_n 3, 1) := by decide +kernel
theorem dX8_shortenThrough_48 : decode cX8_shortenThrough 48 = .ok (.iload 5, 2) := by decide +kernel
theorem dX8_shortenThrough_50 : decode cX8_shortenThrough 50 = .ok (.iadd, 1) := by decide +kernel
theorem dX8_shortenThrough_51 : decode cX8_shortenThrough 51 = .ok (.iload 6, 2) := by decide +kernel
theorem dX8_shortenThrough_53 : decode cX8_shortenThrough 53 = .ok (.if_icmp .ge 19, 3) := by decide +kernel
theorem dX8_shortenThrough_56 : decode cX8_shortenThrough 56 = .ok (.aload_n 0, 1) := by decide +kernel
theorem dX8_shortenThrough_57 : decode cX8_shortenThrough 57 = .ok (.getfield 21, 3) := by decide +kernel
theorem dX8_shortenThrough_60 : decode cX8_shortenThrough 60 = .ok (.iload_n 1, 1) := by decide +kernel
theorem dX8_shortenThrough_61 : decode cX8_shortenThrough 61 = .ok (.bipush 16, 2) := by decide +kernel
theorem dX8_shortenThrough_63 : decode cX8_shortenThrough 63 = .ok (.imul, 1) := by decide +kernel
theorem dX8_shortenThrough_64 : decode cX8_shortenThrough 64 = .ok (.iload 4, 2) := by decide +kernel
theorem dX8_shortenThrough_66 : decode cX8_shortenThrough 66 = .ok (.iadd, 1) := by decide +kernel
theorem dX8_shortenThrough_67 : decode cX8_shortenThrough 67 = .ok (.iload_n 3, 1) := by decide +kernel
theorem dX8_shortenThrough_68 : decode cX8_shortenThrough 68 = .ok (.iload 5, 2) := by decide +kernel
theorem dX8_shortenThrough_70 : decode cX8_shortenThrough 70 = .ok (.iadd, 1) := by decide +kernel
theorem dX8_shortenThrough_71 : decode cX8_shortenThrough 71 = .ok (.iastore, 1) := by decide +kernel
theorem dX8_shortenThrough_72 : decode cX8_shortenThrough 72 = .ok (.iinc 4 1, 3) := by decide +kernel
theorem dX8_shortenThrough_75 : decode cX8_shortenThrough 75 = .ok (.goto (-65), 3) := by decide +kernel
theorem dX8_shortenThrough_78 : decode cX8_shortenThrough 78 = .ok (.return_, 1) := by decide +kernel
theorem dX8_becomeLike_0 : decode cX8_becomeLike 0 = .ok (.aload_n 1, 1) := by decide +kernel
theorem dX8_becomeLike_1 : decode cX8_becomeLike 1 = .ok (.getfield 9, 3) := by decide +kernel
theorem dX8_becomeLike_4 : decode cX8_becomeLike 4 = .ok (.iconst 0, 1) := by decide +kernel
theorem dX8_becomeLike_5 : decode cX8_becomeLike 5 = .ok (.aload_n 0, 1) := by decide +kernel
theorem dX8_becomeLike_6 : decode cX8_becomeLike 6 = .ok (.getfield 9, 3) := by decide +kernel
theorem dX8_becomeLike_9 : decode cX8_becomeLike 9 = .ok (.iconst 0, 1) := by decide +kernel
theorem dX8_becomeLike_10 : decode cX8_becomeLike 10 = .ok (.bipush 16, 2) := by decide +kernel
theorem dX8_becomeLike_12 : decode cX8_becomeLike 12 = .ok (.invokestatic 49, 3) := by decide +kernel
theorem dX8_becomeLike_15 : decode cX8_becomeLike 15 = .ok (.aload_n 1, 1) := by decide +kernel
theorem dX8_becomeLike_16 : decode cX8_becomeLike 16 = .ok (.getfield 15, 3) := by decide +kernel
theorem dX8_becomeLike_19 : decode cX8_becomeLike 19 = .ok (.iconst 0, 1) := by decide +kernel
theorem dX8_becomeLike_20 : decode cX8_becomeLike 20 = .ok (.aload_n 0, 1) := by decide +kernel
theorem dX8_becomeLike_21 : decode cX8_becomeLike 21 = .ok (.getfield 15, 3) := by decide +kernel
theorem dX8_becomeLike_24 : decode cX8_becomeLike 24 = .ok (.iconst 0, 1) := by decide +kernel
theorem dX8_becomeLike_25 : decode cX8_becomeLike 25 = .ok (.bipush 16, 2) := by decide +kernel
theorem dX8_becomeLike_27 : decode cX8_becomeLike 27 = .ok (.invokestatic 49, 3) := by decide +kernel
theorem dX8_becomeLike_30 : decode cX8_becomeLike 30 = .ok (.aload_n 1, 1) := by decide +kernel
theorem dX8_becomeLike_31 : decode cX8_becomeLike 31 = .ok (.getfield 18, 3) := by decide +kernel
theorem dX8_becomeLike_34 : decode cX8_becomeLike 34 = .ok (.iconst 0, 1) := by decide +kernel
theorem dX8_becomeLike_35 : decode cX8_becomeLike 35 = .ok (.aload_n 0, 1) := by decide +kernel
theorem dX8_becomeLike_36 : decode cX8_becomeLike 36 = .ok (.getfield 18, 3) := by decide +kernel
theorem dX8_becomeLike_39 : decode cX8_becomeLike 39 = .ok (.iconst 0, 1) := by decide +kernel
theorem dX8_becomeLike_40 : decode cX8_becomeLike 40 = .ok (.sipush 256, 3) := by decide +kernel
theorem dX8_becomeLike_43 : decode cX8_becomeLike 43 = .ok (.invokestatic 49, 3) := by decide +kernel
theorem dX8_becomeLike_46 : decode cX8_becomeLike 46 = .ok (.aload_n 1, 1) := by decide +kernel
theorem dX8_becomeLike_47 : decode cX8_becomeLike 47 = .ok (.getfield 21, 3) := by decide +kernel
theorem dX8_becomeLike_50 : decode cX8_becomeLike 50 = .ok (.iconst 0, 1) := by decide +kernel
theorem dX8_becomeLike_51 : decode cX8_becomeLike 51 = .ok (.aload_n 0, 1) := by decide +kernel
theorem dX8_becomeLike_52 : decode cX8_becomeLike 52 = .ok (.getfield 21, 3) := by decide +kernel
theorem dX8_becomeLike_55 : decode cX8_becomeLike 55 = .ok (.iconst 0, 1) := by decide +kernel
theorem dX8_becomeLike_56 : decode cX8_becomeLike 56 = .ok (.sipush 256, 3) := by decide +kernel
theorem dX8_becomeLike_59 : decode cX8_becomeLike 59 = .ok (.invokestatic 49, 3) := by decide +kernel
theorem dX8_becomeLike_62 : decode cX8_becomeLike 62 = .ok (.return_, 1) := by decide +kernel
theorem dX9_init_0 : decode cX9_init 0 = .ok (.aload_n 0, 1) := by decide +kernel
theorem dX9_init_1 : decode cX9_init 1 = .ok (.invokespecial 3, 3) := by decide +kernel
theorem dX9_init_4 : decode cX9_init 4 = .ok (.aload_n 0, 1) := by decide +kernel
theorem dX9_init_5 : decode cX9_init 5 = .ok (.iconst 4, 1) := by decide +kernel
theorem dX9_init_6 : decode cX9_init 6 = .ok (.newarray .int, 2) := by decide +kernel
theorem dX9_init_8 : decode cX9_init 8 = .ok (.putfield 9, 3) := by decide +kernel
theorem dX9_init_11 : decode cX9_init 11 = .ok (.aload_n 0, 1) := by decide +kernel
theorem dX9_init_12 : decode cX9_init 12 = .ok (.iconst 4, 1) := by decide +kernel
theorem dX9_init_13 : decode cX9_init 13 = .ok (.newarray .int, 2) := by decide +kernel
theorem dX9_init_15 : decode cX9_init 15 = .ok (.putfield 15, 3) := by decide +kernel
theorem dX9_init_18 : decode cX9_init 18 = .ok (.aload_n 0, 1) := by decide +kernel
theorem dX9_init_19 : decode cX9_init 19 = .ok (.aload_n 1, 1) := by decide +kernel
theorem dX9_init_20 : decode cX9_init 20 = .ok (.putfield 18, 3) := by decide +kernel
theorem dX9_init_23 : decode cX9_init 23 = .ok (.return_, 1) := by decide +kernel
theorem dX9_setOut_0 : decode cX9_setOut 0 = .ok (.aload_n 0, 1) := by decide +kernel
theorem dX9_setOut_1 : decode cX9_setOut 1 = .ok (.iload_n 1, 1) := by decide +kernel
theorem dX9_setOut_2 : decode cX9_setOut 2 = .ok (.putfield 22, 3) := by decide +kernel
theorem dX9_setOut_5 : decode cX9_setOut 5 = .ok (.aload_n 0, 1) := by decide +kernel
theorem dX9_setOut_6 : decode cX9_setOut 6 = .ok (.iload_n 2, 1) := by decide +kernel
theorem dX9_setOut_7 : decode cX9_setOut 7 = .ok (.putfield 26, 3) := by decide +kernel
theorem dX9_setOut_10 : decode cX9_setOut 10 = .ok (.aload_n 0, 1) := by decide +kernel
theorem dX9_setOut_11 : decode cX9_setOut 11 = .ok (.iload_n 3, 1) := by decide +kernel
theorem dX9_setOut_12 : decode cX9_setOut 12 = .ok (.putfield 29, 3) := by decide +kernel
theorem dX9_setOut_15 : decode cX9_setOut 15 = .ok (.aload_n 0, 1) := by decide +kernel
theorem dX9_setOut_16 : decode cX9_setOut 16 = .ok (.iconst 0, 1) := by decide +kernel
theorem dX9_setOut_17 : decode cX9_setOut 17 = .ok (.putfield 32, 3) := by decide +kernel
theorem dX9_setOut_20 : decode cX9_setOut 20 = .ok (.return_, 1) := by decide +kernel
theorem dX9_planOne_0 : decode cX9_planOne 0 = .ok (.aload_n 0, 1) := by decide +kernel
theorem dX9_planOne_1 : decode cX9_planOne 1 = .ok (.iload_n 1, 1) := by decide +kernel
theorem dX9_planOne_2 : decode cX9_planOne 2 = .ok (.iload_n 2, 1) := by decide +kernel
theorem dX9_planOne_3 : decode cX9_planOne 3 = .ok (.iload_n 3, 1) := by decide +kernel
theorem dX9_planOne_4 : decode cX9_planOne 4 = .ok (.invokevirtual 36, 3) := by decide +kernel
theorem dX9_planOne_7 : decode cX9_planOne 7 = .ok (.aload_n 0, 1) := by decide +kernel
theorem dX9_planOne_8 : decode cX9_planOne 8 = .ok (.iconst 0, 1) := by decide +kernel
theorem dX9_planOne_9 : decode cX9_planOne 9 = .ok (.iconst 2, 1) := by decide +kernel
theorem dX9_planOne_10 : decode cX9_planOne 10 = .ok (.aload 4, 2) := by decide +kernel
theorem dX9_planOne_12 : decode cX9_planOne 12 = .ok (.aload 4, 2) := by decide +kernel
theorem dX9_planOne_14 : decode cX9_planOne 14 = .ok (.invokevirtual 40, 3) := by decide +kernel
theorem dX9_planOne_17 : decode cX9_planOne 17 = .ok (.iconst (-1), 1) := by decide +kernel
theorem dX9_planOne_18 : decode cX9_planOne 18 = .ok (.if_icmp .eq 30, 3) := by decide +kernel
theorem dX9_planOne_21 : decode cX9_planOne 21 = .ok (.aload_n 0, 1) := by decide +kernel
theorem dX9_planOne_22 : decode cX9_planOne 22 = .ok (.iconst 0, 1) := by decide +kernel
theorem dX9_planOne_23 : decode cX9_planOne 23 = .ok (.aload_n 0, 1) := by decide +kernel
theorem dX9_planOne_24 : decode cX9_planOne 24 = .ok (.getfield 15, 3) := by decide +kernel
theorem dX9_planOne_27 : decode cX9_planOne 27 = .ok (.iconst 1, 1) := by decide +kernel
theorem dX9_planOne_28 : decode cX9_planOne 28 = .ok (.iaload, 1) := by decide +kernel
theorem dX9_planOne_29 : decode cX9_planOne 29 = .ok (.aload 4, 2) := by decide +kernel
theorem dX9_planOne_31 : decode cX9_planOne 31 = .ok (.aload_n 0, 1) := by decide +kernel
theorem dX9_planOne_32 : decode cX9_planOne 32 = .ok (.getfield 15, 3) := by decide +kernel
theorem dX9_planOne_35 : decode cX9_planOne 35 = .ok (.iconst 1, 1) := by decide +kernel
theorem dX9_planOne_36 : decode cX9_planOne 36 = .ok (.iaload, 1) := by decide +kernel
theorem dX9_planOne_37 : decode cX9_planOne 37 = .ok (.invokevirtual 44, 3) := by decide +kernel
theorem dX9_planOne_40 : decode cX9_planOne 40 = .ok (.aload 4, 2) := by decide +kernel
theorem dX9_planOne_42 : decode cX9_planOne 42 = .ok (.getfield 50, 3) := by decide +kernel
theorem dX9_planOne_45 : decode cX9_planOne 45 = .ok (.invokevirtual 53, 3) := by decide +kernel
theorem dX9_planOne_48 : decode cX9_planOne 48 = .ok (.aload_n 0, 1) := by decide +kernel
theorem dX9_planOne_49 : decode cX9_planOne 49 = .ok (.getfield 32, 3) := by decide +kernel
theorem dX9_planOne_52 : decode cX9_planOne 52 = .ok (.ireturn, 1) := by decide +kernel
theorem dX9_planTwo_0 : decode cX9_planTwo 0 = .ok (.iconst 0, 1) := by decide +kernel
theorem dX9_planTwo_1 : decode cX9_planTwo 1 = .ok (.istore_n 3, 1) := by decide +kernel
theorem dX9_planTwo_2 : decode cX9_planTwo 2 = .ok (.iload_n 3, 1) := by decide +kernel
theorem dX9_planTwo_3 : decode cX9_planTwo 3 = .ok (.bipush 6, 2) := by decide +kernel
theorem dX9_planTwo_5 : decode cX9_planTwo 5 = .ok (.if_icmp .ge 141, 3) := by decide +kernel
theorem dX9_planTwo_8 : decode cX9_planTwo 8 = .ok (.aload_n 0, 1) := by decide +kernel
theorem dX9_planTwo_9 : decode cX9_planTwo 9 = .ok (.iload_n 3, 1) := by decide +kernel
theorem dX9_planTwo_10 : decode cX9_planTwo 10 = .ok (.iconst 4, 1) := by decide +kernel
theorem dX9_planTwo_11 : decode cX9_planTwo 11 = .ok (.aload_n 1, 1) := by decide +kernel
theorem dX9_planTwo_12 : decode cX9_planTwo 12 = .ok (.aload_n 2, 1) := by decide +kernel
theorem dX9_planTwo_13 : decode cX9_planTwo 13 = .ok (.invokevirtual 40, 3) := by decide +kernel
theorem dX9_planTwo_16 : decode cX9_planTwo 16 = .ok (.istore 4, 2) := by decide +kernel
theorem dX9_planTwo_18 : decode cX9_planTwo 18 = .ok (.aload_n 1, 1) := by decide +kernel
theorem dX9_planTwo_19 : decode cX9_planTwo 19 = .ok (.aload_n 0, 1) := by decide +kernel
theorem dX9_planTwo_20 : decode cX9_planTwo 20 = .ok (.getfield 15, 3) := by decide +kernel
theorem dX9_planTwo_23 : decode cX9_planTwo 23 = .ok (.iconst 1, 1) := by decide +kernel
theorem dX9_planTwo_24 : decode cX9_planTwo 24 = .ok (.iaload, 1) := by decide +kernel
theorem dX9_planTwo_25 : decode cX9_planTwo 25 = .ok (.invokevirtual 44, 3) := by decide +kernel
theorem dX9_planTwo_28 : decode cX9_planTwo 28 = .ok (.aload_n 2, 1) := by decide +kernel
theorem dX9_planTwo_29 : decode cX9_planTwo 29 = .ok (.aload_n 0, 1) := by decide +kernel
theorem dX9_planTwo_30 : decode cX9_planTwo 30 = .ok (.getfield 15, 3) := by decide +kernel
theorem dX9_planTwo_33 : decode cX9_planTwo 33 = .ok (.iconst 3, 1) := by decide +kernel
theorem dX9_planTwo_34 : decode cX9_planTwo 34 = .ok (.iaload, 1) := by decide +kernel
theorem dX9_planTwo_35 : decode cX9_planTwo 35 = .ok (.invokevirtual 44, 3) := by decide +kernel
theorem dX9_planTwo_38 : decode cX9_planTwo 38 = .ok (.iadd, 1) := by decide +kernel
theorem dX9_planTwo_39 : decode cX9_planTwo 39 = .ok (.istore 5, 2) := by decide +kernel
theorem dX9_planTwo_41 : decode cX9_planTwo 41 = .ok (.aload_n 0, 1) := by decide +kernel
theorem dX9_planTwo_42 : decode cX9_planTwo 42 = .ok (.getfield 32, 3) := by decide +kernel
theorem dX9_planTwo_45 : decode cX9_planTwo 45 = .ok (.ifCond .eq 30, 3) := by decide +kernel
theorem dX9_planTwo_48 : decode cX9_planTwo 48 = .ok (.iload 5, 2) := by decide +kernel
theorem dX9_planTwo_50 : decode cX9_planTwo 50 = .ok (.aload_n 0, 1) := by decide +kernel
theorem dX9_planTwo_51 : decode cX9_planTwo 51 = .ok (.getfield 57, 3) := by decide +kernel
theorem dX9_planTwo_54 : decode cX9_planTwo 54 = .ok (.if_icmp .lt 21, 3) := by decide +kernel
theorem dX9_planTwo_57 : decode cX9_planTwo 57 = .ok (.iload 5, 2) := by decide +kernel
theorem dX9_planTwo_59 : decode cX9_planTwo 59 = .ok (.aload_n 0, 1) := by decide +kernel
theorem dX9_planTwo_60 : decode cX9_planTwo 60 = .ok (.getfield 57, 3) := by decide +kernel
theorem dX9_planTwo_63 : decode cX9_planTwo 63 = .ok (.if_icmp .ne 16, 3) := by decide +kernel
theorem dX9_planTwo_66 : decode cX9_planTwo 66 = .ok (.iload 4, 2) := by decide +kernel
theorem dX9_planTwo_68 : decode cX9_planTwo 68 = .ok (.aload_n 0, 1) := by decide +kernel
theorem dX9_planTwo_69 : decode cX9_planTwo 69 = .ok (.getfield 60, 3) := by decide +kernel
theorem dX9_planTwo_72 : decode cX9_planTwo 72 = .ok (.if_icmp .ge 7, 3) := by decide +kernel
theorem dX9_planTwo_75 : decode cX9_planTwo 75 = .ok (.iconst 1, 1) := by decide +kernel
theorem dX9_planTwo_76 : decode cX9_planTwo 76 = .ok (.goto 4, 3) := by decide +kernel
theorem dX9_planTwo_79 : decode cX9_planTwo 79 = .ok (.iconst 0, 1) := by decide +kernel
theorem dX9_planTwo_80 : decode cX9_planTwo 80 = .ok (.istore 6, 2) := by decide +kernel
theorem dX9_planTwo_82 : decode cX9_planTwo 82 = .ok (.iload 4, 2) := by decide +kernel
theorem dX9_planTwo_84 : decode cX9_planTwo 84 = .ok (.iconst (-1), 1) := by decide +kernel
theorem dX9_planTwo_85 : decode cX9_planTwo 85 = .ok (.if_icmp .eq 55, 3) := by decide +kernel
theorem dX9_planTwo_88 : decode cX9_planTwo 88 = .ok (.iload 6, 2) := by decide +kernel
theorem dX9_planTwo_90 : decode cX9_planTwo 90 = .ok (.ifCond .eq 50, 3) := by decide +kernel
theorem dX9_planTwo_93 : decode cX9_planTwo 93 = .ok (.getstatic 63, 3) := by decide +kernel
theorem dX9_planTwo_96 : decode cX9_planTwo 96 = .ok (.iload_n 3, 1) := by decide +kernel
theorem dX9_planTwo_97 : decode cX9_planTwo 97 = .ok (.iconst 4, 1) := by decide +kernel
theorem dX9_planTwo_98 : decode cX9_planTwo 98 = .ok (.imul, 1) := by decide +kernel
theorem dX9_planTwo_99 : decode cX9_planTwo 99 = .ok (.iconst 4, 1) := by decide +kernel
theorem dX9_planTwo_100 : decode cX9_planTwo 100 = .ok (.iadd, 1) := by decide +kernel
theorem dX9_planTwo_101 : decode cX9_planTwo 101 = .ok (.iconst 1, 1) := by decide +kernel
theorem dX9_planTwo_102 : decode cX9_planTwo 102 = .ok (.isub, 1) := by decide +kernel
theorem dX9_planTwo_103 : decode cX9_planTwo 103 = .ok (.iaload, 1) := by decide +kernel
theorem dX9_planTwo_104 : decode cX9_planTwo 104 = .ok (.iconst 1, 1) := by decide +kernel
theorem dX9_planTwo_105 : decode cX9_planTwo 105 = .ok (.if_icmp .ne 7, 3) := by decide +kernel
theorem dX9_planTwo_108 : decode cX9_planTwo 108 = .ok (.iconst 1, 1) := by decide +kernel
theorem dX9_planTwo_109 : decode cX9_planTwo 109 = .ok (.goto 4, 3) := by decide +kernel
theorem dX9_planTwo_112 : decode cX9_planTwo 112 = .ok (.iconst 0, 1) := by decide +kernel
theorem dX9_planTwo_113 : decode cX9_planTwo 113 = .ok (.istore 7, 2) := by decide +kernel
theorem dX9_planTwo_115 : decode cX9_planTwo 115 = .ok (.aload_n 0, 1) := by decide +kernel
theorem dX9_planTwo_116 : decode cX9_planTwo 116 = .ok (.iload_n 3, 1) := by decide +kernel
theorem dX9_planTwo_117 : decode cX9_planTwo 117 = .ok (.iload 4, 2) := by decide +kernel
theorem dX9_planTwo_119 : decode cX9_planTwo 119 = .ok (.iload 5, 2) := by decide +kernel
theorem dX9_planTwo_121 : decode cX9_planTwo 121 = .ok (.iload 7, 2) := by decide +kernel
theorem dX9_planTwo_123 : decode cX9_planTwo 123 = .ok (.ifCond .eq 10, 3) := by decide +kernel
theorem dX9_planTwo_126 : decode cX9_planTwo 126 = .ok (.aload_n 1, 1) := by decide +kernel
theorem dX9_planTwo_127 : decode cX9_planTwo 127 = .ok (.getfield 50, 3) := by decide +kernel
theorem dX9_planTwo_130 : decode cX9_planTwo 130 = .ok (.goto 7, 3) := by decide +kernel
theorem dX9_planTwo_133 : decode cX9_planTwo 133 = .ok (.aload_n 2, 1) := by decide +kernel
theorem dX9_planTwo_134 : decode cX9_planTwo 134 = .ok (.getfield 50, 3) := by decide +kernel
theorem dX9_planTwo_137 : decode cX9_planTwo 137 = .ok (.invokevirtual 53, 3) := by decide +kernel
theorem dX9_planTwo_140 : decode cX9_planTwo 140 = .ok (.iinc 3 1, 3) := by decide +kernel
theorem dX9_planTwo_143 : decode cX9_planTwo 143 = .ok (.goto (-141), 3) := by decide +kernel
theorem dX9_planTwo_146 : decode cX9_planTwo 146 = .ok (.aload_n 0, 1) := by decide +kernel
theorem dX9_planTwo_147 : decode cX9_planTwo 147 = .ok (.getfield 32, 3) := by decide +kernel
theorem dX9_planTwo_150 : decode cX9_planTwo 150 = .ok (.ireturn, 1) := by decide +kernel
theorem dX9_takeTried_0 : decode cX9_takeTried 0 = .ok (.aload_n 0, 1) := by decide +kernel
theorem dX9_takeTried_1 : decode cX9_takeTried 1 = .ok (.iconst 1, 1) := by decide +kernel
theorem dX9_takeTried_2 : decode cX9_takeTried 2 = .ok (.putfield 32, 3) := by decide +kernel
theorem dX9_takeTried_5 : decode cX9_takeTried 5 = .ok (.aload_n 0, 1) := by decide +kernel
theorem dX9_takeTried_6 : decode cX9_takeTried 6 = .ok (.iload_n 1, 1) := by decide +kernel
theorem dX9_takeTried_7 : decode cX9_takeTried 7 = .ok (.putfield 66, 3) := by decide +kernel
theorem dX9_takeTried_10 : decode cX9_takeTried 10 = .ok (.aload_n 0, 1) := by decide +kernel
theorem dX9_takeTried_11 : decode cX9_takeTried 11 = .ok (.iload_n 2, 1) := by decide +kernel
theorem dX9_takeTried_12 : decode cX9_takeTried 12 = .ok (.putfield 60, 3) := by decide +kernel
theorem dX9_takeTried_15 : decode cX9_takeTried 15 = .ok (.aload_n 0, 1) := by decide +kernel
theorem dX9_takeTried_16 : decode cX9_takeTried 16 = .ok (.iload_n 3, 1) := by decide +kernel
theorem dX9_takeTried_17 : decode cX9_takeTried 17 = .ok (.putfield 57, 3) := by decide +kernel
theorem dX9_takeTried_20 : decode cX9_takeTried 20 = .ok (.aload_n 0, 1) := by decide +kernel
theorem dX9_takeTried_21 : decode cX9_takeTried 21 = .ok (.iload 4, 2) := by decide +kernel
theorem dX9_takeTried_23 : decode cX9_takeTried 23 = .ok (.putfield 69, 3) := by decide +kernel
theorem dX9_takeTried_26 : decode cX9_takeTried 26 = .ok (.aload_n 0, 1) := by decide +kernel
theorem dX9_takeTried_27 : decode cX9_takeTried 27 = .ok (.getfield 15, 3) := by decide +kernel
theorem dX9_takeTried_30 : decode cX9_takeTried 30 = .ok (.iconst 0, 1) := by decide +kernel
theorem dX9_takeTried_31 : decode cX9_takeTried 31 = .ok (.aload_n 0, 1) := by decide +kernel
theorem dX9_takeTried_32 : decode cX9_takeTried 32 = .ok (.getfield 9, 3) := by decide +kernel
theorem dX9_takeTried_35 : decode cX9_takeTried 35 = .ok (.iconst 0, 1) := by decide +kernel
theorem dX9_takeTried_36 : decode cX9_takeTried 36 = .ok (.iconst 4, 1) := by decide +kernel
theorem dX9_takeTried_37 : decode cX9_takeTried 37 = .ok (.invokestatic 72, 3) := by decide +kernel
theorem dX9_takeTried_40 : decode cX9_takeTried 40 = .ok (.return_, 1) := by decide +kernel
theorem dX9_follow_0 : decode cX9_follow 0 = .ok (.aload_n 0, 1) := by decide +kernel
theorem dX9_follow_1 : decode cX9_follow 1 = .ok (.getfield 29, 3) := by decide +kernel
theorem dX9_follow_4 : decode cX9_follow 4 = .ok (.istore 5, 2) := by decide +kernel
theorem dX9_follow_6 : decode cX9_follow 6 = .ok (.aload_n 0, 1) := by decide +kernel
theorem dX9_follow_7 : decode cX9_follow 7 = .ok (.getfield 26, 3) := by decide +kernel
theorem dX9_follow_10 : decode cX9_follow 10 = .ok (.istore 6, 2) := by decide +kernel
theorem dX9_follow_12 : decode cX9_follow 12 = .ok (.iconst 0, 1) := by decide +kernel
theorem dX9_follow_13 : decode cX9_follow 13 = .ok (.istore 7, 2) := by decide +kernel
theorem dX9_follow_15 : decode cX9_follow 15 = .ok (.iload 7, 2) := by decide +kernel
theorem dX9_follow_17 : decode cX9_follow 17 = .ok (.iload_n 2, 1) := by decide +kernel
theorem dX9_follow_18 : decode cX9_follow 18 = .ok (.if_icmp .ge 138, 3) := by decide +kernel
theorem dX9_follow_21 : decode cX9_follow 21 = .ok (.getstatic 63, 3) := by decide +kernel
theorem dX9_follow_24 : decode cX9_follow 24 = .ok (.iload_n 1, 1) := by decide +kernel
theorem dX9_follow_25 : decode cX9_follow 25 = .ok (.iconst 4, 1) := by decide +kernel
theorem dX9_follow_26 : decode cX9_follow 26 = .ok (.imul, 1) := by decide +kernel
theorem dX9_follow_27 : decode cX9_follow 27 = .ok (.iload 7, 2) := by decide +kernel
theorem dX9_follow_29 : decode cX9_follow 29 = .ok (.iadd, 1) := by decide +kernel
theorem dX9_follow_30 : decode cX9_follow 30 = .ok (.iaload, 1) := by decide +kernel
theorem dX9_follow_31 : decode cX9_follow 31 = .ok (.istore 8, 2) := by decide +kernel
theorem dX9_follow_33 : decode cX9_follow 33 = .ok (.iload 8, 2) := by decide +kernel
theorem dX9_follow_35 : decode cX9_follow 35 = .ok (.ifCond .eq 9, 3) := by decide +kernel
theorem dX9_follow_38 : decode cX9_follow 38 = .ok (.iload 8, 2) := by decide +kernel
theorem dX9_follow_40 : decode cX9_follow 40 = .ok (.iconst 2, 1) := by decide +kernel
theorem dX9_follow_41 : decode cX9_follow 41 = .ok (.if_icmp .ne 7, 3) := by decide +kernel
theorem dX9_follow_44 : decode cX9_follow 44 = .ok (.iconst 1, 1) := by decide +kernel
theorem dX9_follow_45 : decode cX9_follow 45 = .ok (.goto 4, 3) := by decide +kernel
theorem dX9_follow_48 : decode cX9_follow 48 = .ok (.iconst 0, 1) := by decide +kernel
theorem dX9_follow_49 : decode cX9_follow 49 = .ok (.istore 9, 2) := by decide +kernel
theorem dX9_follow_51 : decode cX9_follow 51 = .ok (.iload 8, 2) := by decide +kernel
theorem dX9_follow_53 : decode cX9_follow 53 = .ok (.iconst 1, 1) := by decide +kernel
theorem dX9_follow_54 : decode cX9_follow 54 = .ok (.if_icmp .gt 7, 3) := by decide +kernel
theorem dX9_follow_57 : decode cX9_follow 57 = .ok (.aload_n 3, 1) := by decide +kernel
theorem dX9_follow_58 : decode cX9_follow 58 = .ok (.goto 5, 3) := by decide +kernel
theorem dX9_follow_61 : decode cX9_follow 61 = .ok (.aload 4, 2) := by decide +kernel
theorem dX9_follow_63 : decode cX9_follow 63 = .ok (.astore 10, 2) := by decide +kernel
theorem dX9_follow_65 : decode cX9_follow 65 = .ok (.iload 9, 2) := by decide +kernel
theorem dX9_follow_67 : decode cX9_follow 67 = .ok (.ifCond .eq 11, 3) := by decide +kernel
theorem dX9_follow_70 : decode cX9_follow 70 = .ok (.aload 10, 2) := by decide +kernel
theorem dX9_follow_72 : decode cX9_follow 72 = .ok (.getfield 78, 3) := by decide +kernel
theorem dX9_follow_75 : decode cX9_follow 75 = .ok (.goto 8, 3) := by decide +kernel
theorem dX9_follow_78 : decode cX9_follow 78 = .ok (.aload 10, 2) := by decide +kernel
theorem dX9_follow_80 : decode cX9_follow 80 = .ok (.getfield 50, 3) := by decide +kernel
theorem dX9_follow_83 : decode cX9_follow 83 = .ok (.istore 11, 2) := by decide +kernel
theorem dX9_follow_85 : decode cX9_follow 85 = .ok (.aload_n 0, 1) := by decide +kernel
theorem dX9_follow_86 : decode cX9_follow 86 = .ok (.getfield 22, 3) := by decide +kernel
theorem dX9_follow_89 : decode cX9_follow 89 = .ok (.aload_n 0, 1) := by decide +kernel
theorem dX9_follow_90 : decode cX9_follow 90 = .ok (.getfield 18, 3) := by decide +kernel
theorem dX9_follow_93 : decode cX9_follow 93 = .ok (.iload 6, 2) := by decide +kernel
theorem dX9_follow_95 : decode cX9_follow 95 = .ok (.iload 11, 2) := by decide +kernel
theorem dX9_follow_97 : decode cX9_follow 97 = .ok (.invokevirtual 79, 3) := by decide +kernel
theorem dX9_follow_100 : decode cX9_follow 100 = .ok (.invokestatic 85, 3) := by decide +kernel
theorem dX9_follow_103 : decode cX9_follow 103 = .ok (.istore 12, 2) := by decide +kernel
theorem dX9_follow_105 : decode cX9_follow 105 = .ok (.iload 12, 2) := by decide +kernel
theorem dX9_follow_107 : decode cX9_follow 107 = .ok (.iconst (-1), 1) := by decide +kernel
theorem dX9_follow_108 : decode cX9_follow 108 = .ok (.if_icmp .ne 5, 3) := by decide +kernel
theorem dX9_follow_111 : decode cX9_follow 111 = .ok (.iconst (-1), 1) := by decide +kernel
theorem dX9_follow_112 : decode cX9_follow 112 = .ok (.ireturn, 1) := by decide +kernel
theorem dX9_follow_113 : decode cX9_follow 113 = .ok (.iload 5, 2) := by decide +kernel
theorem dX9_follow_115 : decode cX9_follow 115 = .ok (.iload 12, 2) := by decide +kernel
theorem dX9_follow_117 : decode cX9_follow 117 = .ok (.iadd, 1) := by decide +kernel
theorem dX9_follow_118 : decode cX9_follow 118 = .ok (.istore 5, 2) := by decide +kernel
theorem dX9_follow_120 : decode cX9_follow 120 = .ok (.iload 9, 2) := by decide +kernel
theorem dX9_follow_122 : decode cX9_follow 122 = .ok (.ifCond .eq 15, 3) := by decide +kernel
theorem dX9_follow_125 : decode cX9_follow 125 = .ok (.iload 5, 2) := by decide +kernel
theorem dX9_follow_127 : decode cX9_follow 127 = .ok (.aload 10, 2) := by decide +kernel
theorem dX9_follow_129 : decode cX9_follow 129 = .ok (.getfield 88, 3) := by decide +kernel
theorem dX9_follow_132 : decode cX9_follow 132 = .ok (.invokestatic 91, 3) := by decide +kernel
theorem dX9_follow_135 : decode cX9_follow 135 = .ok (.istore 5, 2) := by decide +kernel
theorem dX9_follow_137 : decode cX9_follow 137 = .ok (.aload_n 0, 1) := by decide +kernel
theorem dX9_follow_138 : decode cX9_follow 138 = .ok (.getfield 15, 3) := by decide +kernel
theorem dX9_follow_141 : decode cX9_follow 141 = .ok (.iload 8, 2) := by decide +kernel
theorem dX9_follow_143 : decode cX9_follow 143 = .ok (.iload 5, 2) := by decide +kernel
theorem dX9_follow_145 : decode cX9_follow 145 = .ok (.iastore, 1) := by decide +kernel
theorem dX9_follow_146 : decode cX9_follow 146 = .ok (.iload 11, 2) := by decide +kernel
theorem dX9_follow_148 : decode cX9_follow 148 = .ok (.istore 6, 2) := by decide +kernel
theorem dX9_follow_150 : decode cX9_follow 150 = .ok (.iinc 7 1, 3) := by decide +kernel
theorem dX9_follow_153 : decode cX9_follow 153 = .ok (.goto (-138), 3) := by decide +kernel
theorem dX9_follow_156 : decode cX9_follow 156 = .ok (.iload 5, 2) := by decide +kernel
theorem dX9_follow_158 : decode cX9_follow 158 = .ok (.sipush 1439, 3) := by decide +kernel
theorem dX9_follow_161 : decode cX9_follow 161 = .ok (.if_icmp .le 7, 3) := by decide +kernel
theorem dX9_follow_164 : decode cX9_follow 164 = .ok (.iconst (-1), 1) := by decide +kernel
theorem dX9_follow_165 : decode cX9_follow 165 = .ok (.goto 5, 3) := by decide +kernel
theorem dX9_follow_168 : decode cX9_follow 168 = .ok (.iload 5, 2) := by decide +kernel
theorem dX9_follow_170 : decode cX9_follow 170 = .ok (.ireturn, 1) := by decide +kernel
theorem dX10_init_0 : decode cX10_init 0 = .ok (.aload_n 0, 1) := by decide +kernel
theorem dX10_init_1 : decode cX10_init 1 = .ok (.invokespecial 3, 3) := by decide +kernel
theorem dX10_init_4 : decode cX10_init 4 = .ok (.aload_n 0, 1) := by decide +kernel
theorem dX10_init_5 : decode cX10_init 5 = .ok (.new 9, 3) := by decide +kernel
theorem dX10_init_8 : decode cX10_init 8 = .ok (.dup, 1) := by decide +kernel
theorem dX10_init_9 : decode cX10_init 9 = .ok (.invokespecial 11, 3) := by decide +kernel
theorem dX10_init_12 : decode cX10_init 12 = .ok (.putfield 12, 3) := by decide +kernel
theorem dX10_init_15 : decode cX10_init 15 = .ok (.aload_n 0, 1) := by decide +kernel
theorem dX10_init_16 : decode cX10_init 16 = .ok (.new 18, 3) := by decide +kernel
theorem dX10_init_19 : decode cX10_init 19 = .ok (.dup, 1) := by decide +kernel
theorem dX10_init_20 : decode cX10_init 20 = .ok (.bipush 6, 2) := by decide +kernel
theorem dX10_init_22 : decode cX10_init 22 = .ok (.invokespecial 20, 3) := by decide +kernel
theorem dX10_init_25 : decode cX10_init 25 = .ok (.putfield 23, 3) := by decide +kernel
theorem dX10_init_28 : decode cX10_init 28 = .ok (.aload_n 0, 1) := by decide +kernel
theorem dX10_init_29 : decode cX10_init 29 = .ok (.bipush 24, 2) := by decide +kernel
theorem dX10_init_31 : decode cX10_init 31 = .ok (.anewarray 27, 3) := by decide +kernel
theorem dX10_init_34 : decode cX10_init 34 = .ok (.putfield 29, 3) := by decide +kernel
theorem dX10_init_37 : decode cX10_init 37 = .ok (.aload_n 0, 1) := by decide +kernel
theorem dX10_init_38 : decode cX10_init 38 = .ok (.bipush 12, 2) := by decide +kernel
theorem dX10_init_40 : decode cX10_init 40 = .ok (.anewarray 33, 3) := by decide +kernel
theorem dX10_init_43 : decode cX10_init 43 = .ok (.putfield 35, 3) := by decide +kernel
theorem dX10_init_46 : decode cX10_init 46 = .ok (.aload_n 0, 1) := by decide +kernel
theorem dX10_init_47 : decode cX10_init 47 = .ok (.bipush 8, 2) := by decide +kernel
theorem dX10_init_49 : decode cX10_init 49 = .ok (.anewarray 39, 3) := by decide +kernel
theorem dX10_init_52 : decode cX10_init 52 = .ok (.putfield 41, 3) := by decide +kernel
theorem dX10_init_55 : decode cX10_init 55 = .ok (.aload_n 0, 1) := by decide +kernel
theorem dX10_init_56 : decode cX10_init 56 = .ok (.new 18, 3) := by decide +kernel
theorem dX10_init_59 : decode cX10_init 59 = .ok (.dup, 1) := by decide +kernel
theorem dX10_init_60 : decode cX10_init 60 = .ok (.bipush 24, 2) := by decide +kernel
theorem dX10_init_62 : decode cX10_init 62 = .ok (.invokespecial 20, 3) := by decide +kernel
theorem dX10_init_65 : decode cX10_init 65 = .ok (.putfield 45, 3) := by decide +kernel
theorem dX10_init_68 : decode cX10_init 68 = .ok (.aload_n 0, 1) := by decide +kernel
theorem dX10_init_69 : decode cX10_init 69 = .ok (.new 18, 3) := by decide +kernel
theorem dX10_init_72 : decode cX10_init 72 = .ok (.dup, 1) := by decide +kernel
theorem dX10_init_73 : decode cX10_init 73 = .ok (.bipush 6, 2) := by decide +kernel
theorem dX10_init_75 : decode cX10_init 75 = .ok (.invokespecial 20, 3) := by decide +kernel
theorem dX10_init_78 : decode cX10_init 78 = .ok (.putfield 48, 3) := by decide +kernel
theorem dX10_init_81 : decode cX10_init 81 = .ok (.aload_n 0, 1) := by decide +kernel
theorem dX10_init_82 : decode cX10_init 82 = .ok (.new 18, 3) := by decide +kernel
theorem dX10_init_85 : decode cX10_init 85 = .ok (.dup, 1) := by decide +kernel
theorem dX10_init_86 : decode cX10_init 86 = .ok (.bipush 20, 2) := by decide +kernel
theorem dX10_init_88 : decode cX10_init 88 = .ok (.invokespecial 20, 3) := by decide +kernel
theorem dX10_init_91 : decode cX10_init 91 = .ok (.putfield 51, 3) := by decide +kernel
theorem dX10_init_94 : decode cX10_init 94 = .ok (.aload_n 0, 1) := by decide +kernel
theorem dX10_init_95 : decode cX10_init 95 = .ok (.bipush 10, 2) := by decide +kernel
theorem dX10_init_97 : decode cX10_init 97 = .ok (.newarray .int, 2) := by decide +kernel
theorem dX10_init_99 : decode cX10_init 99 = .ok (.putfield 54, 3) := by decide +kernel
theorem dX10_init_102 : decode cX10_init 102 = .ok (.aload_n 0, 1) := by decide +kernel
theorem dX10_init_103 : decode cX10_init 103 = .ok (.iconst (-1), 1) := by decide +kernel
theorem dX10_init_104 : decode cX10_init 104 = .ok (.putfield 58, 3) := by decide +kernel
theorem dX10_init_107 : decode cX10_init 107 = .ok (.aload_n 0, 1) := by decide +kernel
theorem dX10_init_108 : decode cX10_init 108 = .ok (.iconst (-1), 1) := by decide +kernel
theorem dX10_init_109 : decode cX10_init 109 = .ok (.putfield 62, 3) := by decide +kernel
theorem dX10_init_112 : decode cX10_init 112 = .ok (.iconst 0, 1) := by decide +kernel
theorem dX10_init_113 : decode cX10_init 113 = .ok (.istore_n 1, 1) := by decide +kernel
theorem dX10_init_114 : decode cX10_init 114 = .ok (.iload_n 1, 1) := by decide +kernel
theorem dX10_init_115 : decode cX10_init 115 = .ok (.bipush 24, 2) := by decide +kernel
theorem dX10_init_117 : decode cX10_init 117 = .ok (.if_icmp .ge 22, 3) := by decide +kernel
theorem dX10_init_120 : decode cX10_init 120 = .ok (.aload_n 0, 1) := by decide +kernel
theorem dX10_init_121 : decode cX10_init 121 = .ok (.getfield 29, 3) := by decide +kernel
theorem dX10_init_124 : decode cX10_init 124 = .ok (.iload_n 1, 1) := by decide +kernel
theorem dX10_init_125 : decode cX10_init 125 = .ok (.new 27, 3) := by decide +kernel
theorem dX10_init_128 : decode cX10_init 128 = .ok (.dup, 1) := by decide +kernel
theorem dX10_init_129 : decode cX10_init 129 = .ok (.invokespecial 65, 3) := by decide +kernel
theorem dX10_init_132 : decode cX10_init 132 = .ok (.aastore, 1) := by decide +kernel
theorem dX10_init_133 : decode cX10_init 133 = .ok (.iinc 1 1, 3) := by decide +kernel
theorem dX10_init_136 : decode cX10_init 136 = .ok (.goto (-22), 3) := by decide +kernel
theorem dX10_init_139 : decode cX10_init 139 = .ok (.iconst 0, 1) := by decide +kernel
theorem dX10_init_140 : decode cX10_init 140 = .ok (.istore_n 1, 1) := by decide +kernel
theorem dX10_init_141 : decode cX10_init 141 = .ok (.iload_n 1, 1) := by decide +kernel
theorem dX10_init_142 : decode cX10_init 142 = .ok (.bipush 12, 2) := by decide +kernel
theorem dX10_init_144 : decode cX10_init 144 = .ok (.if_icmp .ge 23, 3) := by decide +kernel
theorem dX10_init_147 : decode cX10_init 147 = .ok (.aload_n 0, 1) := by decide +kernel
theorem dX10_init_148 : decode cX10_init 148 = .ok (.getfield 35, 3) := by decide +kernel
theorem dX10_init_151 : decode cX10_init 151 = .ok (.iload_n 1, 1) := by decide +kernel
theorem dX10_init_152 : decode cX10_init 152 = .ok (.new 33, 3) := by decide +kernel
theorem dX10_init_155 : decode cX10_init 155 = .ok (.dup, 1) := by decide +kernel
theorem dX10_init_156 : decode cX10_init 156 = .ok (.iload_n 1, 1) := by decide +kernel
theorem dX10_init_157 : decode cX10_init 157 = .ok (.invokespecial 66, 3) := by decide +kernel
theorem dX10_init_160 : decode cX10_init 160 = .ok (.aastore, 1) := by decide +kernel
theorem dX10_init_161 : decode cX10_init 161 = .ok (.iinc 1 1, 3) := by decide +kernel
theorem dX10_init_164 : decode cX10_init 164 = .ok (.goto (-23), 3) := by decide +kernel
theorem dX10_init_167 : decode cX10_init 167 = .ok (.aload_n 0, 1) := by decide +kernel
theorem dX10_init_168 : decode cX10_init 168 = .ok (.getfield 54, 3) := by decide +kernel
theorem dX10_init_171 : decode cX10_init 171 = .ok (.iconst (-1), 1) := by decide +kernel
theorem dX10_init_172 : decode cX10_init 172 = .ok (.invokestatic 67, 3) := by decide +kernel
theorem dX10_init_175 : decode cX10_init 175 = .ok (.return_, 1) := by decide +kernel
theorem dX10_orderAt_0 : decode cX10_orderAt 0 = .ok (.iload_n 1, 1) := by decide +kernel
theorem dX10_orderAt_1 : decode cX10_orderAt 1 = .ok (.iconst 0, 1) := by decide +kernel
theorem dX10_orderAt_2 : decode cX10_orderAt 2 = .ok (.aload_n 0, 1) := by decide +kernel
theorem dX10_orderAt_3 : decode cX10_orderAt 3 = .ok (.getfield 73, 3) := by decide +kernel
theorem dX10_orderAt_6 : decode cX10_orderAt 6 = .ok (.iconst 1, 1) := by decide +kernel
theorem dX10_orderAt_7 : decode cX10_orderAt 7 = .ok (.isub, 1) := by decide +kernel
theorem dX10_orderAt_8 : decode cX10_orderAt 8 = .ok (.invokestatic 76, 3) := by decide +kernel
theorem dX10_orderAt_11 : decode cX10_orderAt 11 = .ok (.ifCond .eq 12, 3) := by decide +kernel
theorem dX10_orderAt_14 : decode cX10_orderAt 14 = .ok (.aload_n 0, 1) := by decide +kernel
theorem dX10_orderAt_15 : decode cX10_orderAt 15 = .ok (.getfield 29, 3) := by decide +kernel
theorem dX10_orderAt_18 : decode cX10_orderAt 18 = .ok (.iload_n 1, 1) := by decide +kernel
theorem dX10_orderAt_19 : decode cX10_orderAt 19 = .ok (.aaload, 1) := by decide +kernel
theorem dX10_orderAt_20 : decode cX10_orderAt 20 = .ok (.goto 4, 3) := by decide +kernel
theorem dX10_orderAt_23 : decode cX10_orderAt 23 = .ok (.aconst_null, 1) := by decide +kernel
theorem dX10_orderAt_24 : decode cX10_orderAt 24 = .ok (.areturn, 1) := by decide +kernel
theorem dX10_riderAt_0 : decode cX10_riderAt 0 = .ok (.iload_n 1, 1) := by decide +kernel
theorem dX10_riderAt_1 : decode cX10_riderAt 1 = .ok (.iconst 0, 1) := by decide +kernel
theorem dX10_riderAt_2 : decode cX10_riderAt 2 = .ok (.aload_n 0, 1) := by decide +kernel
theorem dX10_riderAt_3 : decode cX10_riderAt 3 = .ok (.getfield 80, 3) := by decide +kernel
theorem dX10_riderAt_6 : decode cX10_riderAt 6 = .ok (.iconst 1, 1) := by decide +kernel
theorem dX10_riderAt_7 : decode cX10_riderAt 7 = .ok (.isub, 1) := by decide +kernel
theorem dX10_riderAt_8 : decode cX10_riderAt 8 = .ok (.invokestatic 76, 3) := by decide +kernel
theorem dX10_riderAt_11 : decode cX10_riderAt 11 = .ok (.ifCond .eq 12, 3) := by decide +kernel
theorem dX10_riderAt_14 : decode cX10_riderAt 14 = .ok (.aload_n 0, 1) := by decide +kernel
theorem dX10_riderAt_15 : decode cX10_riderAt 15 = .ok (.getfield 35, 3) := by decide +kernel
theorem dX10_riderAt_18 : decode cX10_riderAt 18 = .ok (.iload_n 1, 1) := by decide +kernel
theorem dX10_riderAt_19 : decode cX10_riderAt 19 = .ok (.aaload, 1) := by decide +kernel
theorem dX10_riderAt_20 : decode cX10_riderAt 20 = .ok (.goto 4, 3) := by decide +kernel
theorem dX10_riderAt_23 : decode cX10_riderAt 23 = .ok (.aconst_null, 1) := by decide +kernel
theorem dX10_riderAt_24 : decode cX10_riderAt 24 = .ok (.areturn, 1) := by decide +kernel
theorem dX10_textAt_0 : decode cX10_textAt 0 = .ok (.iload_n 1, 1) := by decide +kernel
theorem dX10_textAt_1 : decode cX10_textAt 1 = .ok (.iconst 0, 1) := by decide +kernel
theorem dX10_textAt_2 : decode cX10_textAt 2 = .ok (.aload_n 0, 1) := by decide +kernel
theorem dX10_textAt_3 : decode cX10_textAt 3 = .ok (.getfield 83, 3) := by decide +kernel
theorem dX10_textAt_6 : decode cX10_textAt 6 = .ok (.iconst 1, 1) := by decide +kernel
theorem dX10_textAt_7 : decode cX10_textAt 7 = .ok (.isub, 1) := by decide +kernel
theorem dX10_textAt_8 : decode cX10_textAt 8 = .ok (.invokestatic 76, 3) := by decide +kernel
theorem dX10_textAt_11 : decode cX10_textAt 11 = .ok (.ifCond .eq 12, 3) := by decide +kernel
theorem dX10_textAt_14 : decode cX10_textAt 14 = .ok (.aload_n 0, 1) := by decide +kernel
theorem dX10_textAt_15 : decode cX10_textAt 15 = .ok (.getfield 41, 3) := by decide +kernel
theorem dX10_textAt_18 : decode cX10_textAt 18 = .ok (.iload_n 1, 1) := by decide +kernel
theorem dX10_textAt_19 : decode cX10_textAt 19 = .ok (.aaload, 1) := by decide +kernel
theorem dX10_textAt_20 : decode cX10_textAt 20 = .ok (.goto 4, 3) := by decide +kernel
theorem dX10_textAt_23 : decode cX10_textAt 23 = .ok (.aconst_null, 1) := by decide +kernel
theorem dX10_textAt_24 : decode cX10_textAt 24 = .ok (.areturn, 1) := by decide +kernel
theorem dX10_addOrder_0 : decode cX10_addOrder 0 = .ok (.aload_n 0, 1) := by decide +kernel
theorem dX10_addOrder_1 : decode cX10_addOrder 1 = .ok (.getfield 29, 3) := by decide +kernel
theorem dX10_addOrder_4 : decode cX10_addOrder 4 = .ok (.aload_n 0, 1) := by decide +kernel
theorem dX10_addOrder_5 : decode cX10_addOrder 5 = .ok (.getfield 73, 3) := by decide +kernel
theorem dX10_addOrder_8 : decode cX10_addOrder 8 = .ok (.aaload, 1) := by decide +kernel
theorem dX10_addOrder_9 : decode cX10_addOrder 9 = .ok (.astore 5, 2) := by decide +kernel
theorem dX10_addOrder_11 : decode cX10_addOrder 11 = .ok (.aload 5, 2) := by decide +kernel
theorem dX10_addOrder_13 : decode cX10_addOrder 13 = .ok (.iload_n 1, 1) := by decide +kernel
theorem dX10_addOrder_14 : decode cX10_addOrder 14 = .ok (.putfield 86, 3) := by decide +kernel
theorem dX10_addOrder_17 : decode cX10_addOrder 17 = .ok (.aload 5, 2) := by decide +kernel
theorem dX10_addOrder_19 : decode cX10_addOrder 19 = .ok (.aload_n 0, 1) := by decide +kernel
theorem dX10_addOrder_20 : decode cX10_addOrder 20 = .ok (.getfield 23, 3) := by decide +kernel
theorem dX10_addOrder_23 : decode cX10_addOrder 23 = .ok (.iload_n 1, 1) := by decide +kernel
theorem dX10_addOrder_24 : decode cX10_addOrder 24 = .ok (.iconst 0, 1) := by decide +kernel
theorem dX10_addOrder_25 : decode cX10_addOrder 25 = .ok (.invokevirtual 89, 3) := by decide +kernel
theorem dX10_addOrder_28 : decode cX10_addOrder 28 = .ok (.putfield 93, 3) := by decide +kernel
theorem dX10_addOrder_31 : decode cX10_addOrder 31 = .ok (.aload 5, 2) := by decide +kernel
theorem dX10_addOrder_33 : decode cX10_addOrder 33 = .ok (.iload_n 2, 1) := by decide +kernel
theorem dX10_addOrder_34 : decode cX10_addOrder 34 = .ok (.putfield 96, 3) := by decide +kernel
theorem dX10_addOrder_37 : decode cX10_addOrder 37 = .ok (.aload 5, 2) := by decide +kernel
theorem dX10_addOrder_39 : decode cX10_addOrder 39 = .ok (.aload_n 0, 1) := by decide +kernel
theorem dX10_addOrder_40 : decode cX10_addOrder 40 = .ok (.getfield 99, 3) := by decide +kernel
theorem dX10_addOrder_43 : decode cX10_addOrder 43 = .ok (.putfield 102, 3) := by decide +kernel
theorem dX10_addOrder_46 : decode cX10_addOrder 46 = .ok (.aload 5, 2) := by decide +kernel
theorem dX10_addOrder_48 : decode cX10_addOrder 48 = .ok (.aload_n 0, 1) := by decide +kernel
theorem dX10_addOrder_49 : decode cX10_addOrder 49 = .ok (.getfield 99, 3) := by decide +kernel
theorem dX10_addOrder_52 : decode cX10_addOrder 52 = .ok (.iload_n 3, 1) := by decide +kernel
theorem dX10_addOrder_53 : decode cX10_addOrder 53 = .ok (.iadd, 1) := by decide +kernel
theorem dX10_addOrder_54 : decode cX10_addOrder 54 = .ok (.putfield 105, 3) := by decide +kernel
theorem dX10_addOrder_57 : decode cX10_addOrder 57 = .ok (.aload 5, 2) := by decide +kernel
theorem dX10_addOrder_59 : decode cX10_addOrder 59 = .ok (.iload 4, 2) := by decide +kernel
theorem dX10_addOrder_61 : decode cX10_addOrder 61 = .ok (.putfield 108, 3) := by decide +kernel
theorem dX10_addOrder_64 : decode cX10_addOrder 64 = .ok (.aload 5, 2) := by decide +kernel
theorem dX10_addOrder_66 : decode cX10_addOrder 66 = .ok (.aload_n 0, 1) := by decide +kernel
theorem dX10_addOrder_67 : decode cX10_addOrder 67 = .ok (.getfield 99, 3) := by decide +kernel
theorem dX10_addOrder_70 : decode cX10_addOrder 70 = .ok (.aload_n 0, 1) := by decide +kernel
theorem dX10_addOrder_71 : decode cX10_addOrder 71 = .ok (.getfield 23, 3) := by decide +kernel
theorem dX10_addOrder_74 : decode cX10_addOrder 74 = .ok (.iload_n 1, 1) := by decide +kernel
theorem dX10_addOrder_75 : decode cX10_addOrder 75 = .ok (.iconst 1, 1) := by decide +kernel
theorem dX10_addOrder_76 : decode cX10_addOrder 76 = .ok (.invokevirtual 89, 3) := by decide +kernel
theorem dX10_addOrder_79 : decode cX10_addOrder 79 = .ok (.iadd, 1) := by decide +kernel
theorem dX10_addOrder_80 : decode cX10_addOrder 80 = .ok (.iload 4, 2) := by decide +kernel
theorem dX10_addOrder_82 : decode cX10_addOrder 82 = .ok (.iadd, 1) := by decide +kernel
theorem dX10_addOrder_83 : decode cX10_addOrder 83 = .ok (.putfield 111, 3) := by decide +kernel
theorem dX10_addOrder_86 : decode cX10_addOrder 86 = .ok (.aload 5, 2) := by decide +kernel
theorem dX10_addOrder_88 : decode cX10_addOrder 88 = .ok (.iconst 0, 1) := by decide +kernel
theorem dX10_addOrder_89 : decode cX10_addOrder 89 = .ok (.putfield 114, 3) := by decide +kernel
theorem dX10_addOrder_92 : decode cX10_addOrder 92 = .ok (.aload 5, 2) := by decide +kernel
theorem dX10_addOrder_94 : decode cX10_addOrder 94 = .ok (.iconst 0, 1) := by decide +kernel
theorem dX10_addOrder_95 : decode cX10_addOrder 95 = .ok (.putfield 117, 3) := by decide +kernel
theorem dX10_addOrder_98 : decode cX10_addOrder 98 = .ok (.aload_n 0, 1) := by decide +kernel
theorem dX10_addOrder_99 : decode cX10_addOrder 99 = .ok (.dup, 1) := by decide +kernel
theorem dX10_addOrder_100 : decode cX10_addOrder 100 = .ok (.getfield 73, 3) := by decide +kernel
theorem dX10_addOrder_103 : decode cX10_addOrder 103 = .ok (.iconst 1, 1) := by decide +kernel
theorem dX10_addOrder_104 : decode cX10_addOrder 104 = .ok (.iadd, 1) := by decide +kernel
theorem dX10_addOrder_105 : decode cX10_addOrder 105 = .ok (.putfield 73, 3) := by decide +kernel
theorem dX10_addOrder_108 : decode cX10_addOrder 108 = .ok (.return_, 1) := by decide +kernel
theorem dX10_addRider_0 : decode cX10_addRider 0 = .ok (.aload_n 0, 1) := by decide +kernel
theorem dX10_addRider_1 : decode cX10_addRider 1 = .ok (.getfield 35, 3) := by decide +kernel
theorem dX10_addRider_4 : decode cX10_addRider 4 = .ok (.aload_n 0, 1) := by decide +kernel
theorem dX10_addRider_5 : decode cX10_addRider 5 = .ok (.getfield 80, 3) := by decide +kernel
theorem dX10_addRider_8 : decode cX10_addRider 8 = .ok (.aaload, 1) := by decide +kernel
theorem dX10_addRider_9 : decode cX10_addRider 9 = .ok (.iload_n 1, 1) := by decide +kernel
theorem dX10_addRider_10 : decode cX10_addRider 10 = .ok (.iload_n 2, 1) := by decide +kernel
theorem dX10_addRider_11 : decode cX10_addRider 11 = .ok (.aload_n 0, 1) := by decide +kernel
theorem dX10_addRider_12 : decode cX10_addRider 12 = .ok (.getfield 99, 3) := by decide +kernel
theorem dX10_addRider_15 : decode cX10_addRider 15 = .ok (.invokevirtual 120, 3) := by decide +kernel
theorem dX10_addRider_18 : decode cX10_addRider 18 = .ok (.aload_n 0, 1) := by decide +kernel
theorem dX10_addRider_19 : decode cX10_addRider 19 = .ok (.dup, 1) := by decide +kernel
theorem dX10_addRider_20 : decode cX10_addRider 20 = .ok (.getfield 80, 3) := by decide +kernel
theorem dX10_addRider_23 : decode cX10_addRider 23 = .ok (.iconst 1, 1) := by decide +kernel
theorem dX10_addRider_24 : decode cX10_addRider 24 = .ok (.iadd, 1) := by decide +kernel
theorem dX10_addRider_25 : decode cX10_addRider 25 = .ok (.putfield 80, 3) := by decide +kernel
theorem dX10_addRider_28 : decode cX10_addRider 28 = .ok (.return_, 1) := by decide +kernel
theorem dX10_addText_0 : decode cX10_addText 0 = .ok (.aload_n 0, 1) := by decide +kernel
theorem dX10_addText_1 : decode cX10_addText 1 = .ok (.getfield 41, 3) := by decide +kernel
theorem dX10_addText_4 : decode cX10_addText 4 = .ok (.aload_n 0, 1) := by decide +kernel
theorem dX10_addText_5 : decode cX10_addText 5 = .ok (.getfield 83, 3) := by decide +kernel
theorem dX10_addText_8 : decode cX10_addText 8 = .ok (.aload_n 1, 1) := by decide +kernel
theorem dX10_addText_9 : decode cX10_addText 9 = .ok (.aastore, 1) := by decide +kernel
theorem dX10_addText_10 : decode cX10_addText 10 = .ok (.aload_n 0, 1) := by decide +kernel
theorem dX10_addText_11 : decode cX10_addText 11 = .ok (.dup, 1) := by decide +kernel
theorem dX10_addText_12 : decode cX10_addText 12 = .ok (.getfield 83, 3) := by decide +kernel
theorem dX10_addText_15 : decode cX10_addText 15 = .ok (.iconst 1, 1) := by decide +kernel
theorem dX10_addText_16 : decode cX10_addText 16 = .ok (.iadd, 1) := by decide +kernel
theorem dX10_addText_17 : decode cX10_addText 17 = .ok (.putfield 83, 3) := by decide +kernel
theorem dX10_addText_20 : decode cX10_addText 20 = .ok (.return_, 1) := by decide +kernel
theorem dX10_nameRider_0 : decode cX10_nameRider 0 = .ok (.aload_n 0, 1) := by decide +kernel
theorem dX10_nameRider_1 : decode cX10_nameRider 1 = .ok (.getfield 35, 3) := by decide +kernel
theorem dX10_nameRider_4 : decode cX10_nameRider 4 = .ok (.iload_n 2, 1) := by decide +kernel
theorem dX10_nameRider_5 : decode cX10_nameRider 5 = .ok (.aaload, 1) := by decide +kernel
theorem dX10_nameRider_6 : decode cX10_nameRider 6 = .ok (.astore 4, 2) := by decide +kernel
theorem dX10_nameRider_8 : decode cX10_nameRider 8 = .ok (.aload_n 1, 1) := by decide +kernel
theorem dX10_nameRider_9 : decode cX10_nameRider 9 = .ok (.aload_n 0, 1) := by decide +kernel
theorem dX10_nameRider_10 : decode cX10_nameRider 10 = .ok (.getfield 12, 3) := by decide +kernel
theorem dX10_nameRider_13 : decode cX10_nameRider 13 = .ok (.aload 4, 2) := by decide +kernel
theorem dX10_nameRider_15 : decode cX10_nameRider 15 = .ok (.getfield 124, 3) := by decide +kernel
theorem dX10_nameRider_18 : decode cX10_nameRider 18 = .ok (.aload 4, 2) := by decide +kernel
theorem dX10_nameRider_20 : decode cX10_nameRider 20 = .ok (.getfield 127, 3) := by decide +kernel
theorem dX10_nameRider_23 : decode cX10_nameRider 23 = .ok (.aload_n 3, 1) := by decide +kernel
theorem dX10_nameRider_24 : decode cX10_nameRider 24 = .ok (.invokevirtual 130, 3) := by decide +kernel
theorem dX10_nameRider_27 : decode cX10_nameRider 27 = .ok (.aload_n 1, 1) := by decide +kernel
theorem dX10_nameRider_28 : decode cX10_nameRider 28 = .ok (.iload_n 2, 1) := by decide +kernel
theorem dX10_nameRider_29 : decode cX10_nameRider 29 = .ok (.aload 4, 2) := by decide +kernel
theorem dX10_nameRider_31 : decode cX10_nameRider 31 = .ok (.getfield 136, 3) := by decide +kernel
theorem dX10_nameRider_34 : decode cX10_nameRider 34 = .ok (.aload_n 0, 1) := by decide +kernel
theorem dX10_nameRider_35 : decode cX10_nameRider 35 = .ok (.iload_n 2, 1) := by decide +kernel
theorem dX10_nameRider_36 : decode cX10_nameRider 36 = .ok (.invokevirtual 139, 3) := by decide +kernel
theorem dX10_nameRider_39 : decode cX10_nameRider 39 = .ok (.invokevirtual 143, 3) := by decide +kernel
theorem dX10_nameRider_42 : decode cX10_nameRider 42 = .ok (.return_, 1) := by decide +kernel
theorem dX10_engage_0 : decode cX10_engage 0 = .ok (.aload_n 0, 1) := by decide +kernel
theorem dX10_engage_1 : decode cX10_engage 1 = .ok (.getfield 35, 3) := by decide +kernel
theorem dX10_engage_4 : decode cX10_engage 4 = .ok (.iload_n 1, 1) := by decide +kernel
theorem dX10_engage_5 : decode cX10_engage 5 = .ok (.aaload, 1) := by decide +kernel
theorem dX10_engage_6 : decode cX10_engage 6 = .ok (.astore 4, 2) := by decide +kernel
theorem dX10_engage_8 : decode cX10_engage 8 = .ok (.aload_n 0, 1) := by decide +kernel
theorem dX10_engage_9 : decode cX10_engage 9 = .ok (.getfield 45, 3) := by decide +kernel
theorem dX10_engage_12 : decode cX10_engage 12 = .ok (.iload_n 1, 1) := by decide +kernel
theorem dX10_engage_13 : decode cX10_engage 13 = .ok (.aload_n 2, 1) := by decide +kernel
theorem dX10_engage_14 : decode cX10_engage 14 = .ok (.getfield 146, 3) := by decide +kernel
theorem dX10_engage_17 : decode cX10_engage 17 = .ok (.aload_n 2, 1) := by decide +kernel
theorem dX10_engage_18 : decode cX10_engage 18 = .ok (.getfield 151, 3) := by decide +kernel
theorem dX10_engage_21 : decode cX10_engage 21 = .ok (.invokevirtual 154, 3) := by decide +kernel
theorem dX10_engage_24 : decode cX10_engage 24 = .ok (.pop, 1) := by decide +kernel
theorem dX10_engage_25 : decode cX10_engage 25 = .ok (.aload 4, 2) := by decide +kernel
theorem dX10_engage_27 : decode cX10_engage 27 = .ok (.aload_n 2, 1) := by decide +kernel
theorem dX10_engage_28 : decode cX10_engage 28 = .ok (.getfield 158, 3) := by decide +kernel
theorem dX10_engage_31 : decode cX10_engage 31 = .ok (.putfield 127, 3) := by decide +kernel
theorem dX10_engage_34 : decode cX10_engage 34 = .ok (.aload 4, 2) := by decide +kernel
theorem dX10_engage_36 : decode cX10_engage 36 = .ok (.aload_n 2, 1) := by decide +kernel
theorem dX10_engage_37 : decode cX10_engage 37 = .ok (.getfield 151, 3) := by decide +kernel
theorem dX10_engage_40 : decode cX10_engage 40 = .ok (.putfield 161, 3) := by decide +kernel
theorem dX10_engage_43 : decode cX10_engage 43 = .ok (.aload 4, 2) := by decide +kernel
theorem dX10_engage_45 : decode cX10_engage 45 = .ok (.dup, 1) := by decide +kernel
theorem dX10_engage_46 : decode cX10_engage 46 = .ok (.getfield 136, 3) := by decide +kernel
theorem dX10_engage_49 : decode cX10_engage 49 = .ok (.iload_n 3, 1) := by decide +kernel
theorem dX10_engage_50 : decode cX10_engage 50 = .ok (.iadd, 1) := by decide +kernel
theorem dX10_engage_51 : decode cX10_engage 51 = .ok (.putfield 136, 3) := by decide +kernel
theorem dX10_engage_54 : decode cX10_engage 54 = .ok (.return_, 1) := by decide +kernel
theorem dX10_payFor_0 : decode cX10_payFor 0 = .ok (.iconst 0, 1) := by decide +kernel
theorem dX10_payFor_1 : decode cX10_payFor 1 = .ok (.istore_n 2, 1) := by decide +kernel
theorem dX10_payFor_2 : decode cX10_payFor 2 = .ok (.iconst 0, 1) := by decide +kernel
theorem dX10_payFor_3 : decode cX10_payFor 3 = .ok (.istore_n 3, 1) := by decide +kernel
theorem dX10_payFor_4 : decode cX10_payFor 4 = .ok (.iload_n 3, 1) := by decide +kernel
theorem dX10_payFor_5 : decode cX10_payFor 5 = .ok (.aload_n 0, 1) := by decide +kernel
theorem dX10_payFor_6 : decode cX10_payFor 6 = .ok (.getfield 48, 3) := by decide +kernel
theorem dX10_payFor_9 : decode cX10_payFor 9 = .ok (.getfield 164, 3) := by decide +kernel
theorem dX10_payFor_12 : decode cX10_payFor 12 = .ok (.if_icmp .ge 36, 3) := by decide +kernel
theorem dX10_payFor_15 : decode cX10_payFor 15 = .ok (.aload_n 0, 1) := by decide +kernel
theorem dX10_payFor_16 : decode cX10_payFor 16 = .ok (.getfield 48, 3) := by decide +kernel
theorem dX10_payFor_19 : decode cX10_payFor 19 = .ok (.iload_n 3, 1) := by decide +kernel
theorem dX10_payFor_20 : decode cX10_payFor 20 = .ok (.aload_n 1, 1) := by decide +kernel
theorem dX10_payFor_21 : decode cX10_payFor 21 = .ok (.getfield 167, 3) := by decide +kernel
theorem dX10_payFor_24 : decode cX10_payFor 24 = .ok (.invokevirtual 170, 3) := by decide +kernel
theorem dX10_payFor_27 : decode cX10_payFor 27 = .ok (.ifCond .eq 15, 3) := by decide +kernel
theorem dX10_payFor_30 : decode cX10_payFor 30 = .ok (.iload_n 2, 1) := by decide +kernel
theorem dX10_payFor_31 : decode cX10_payFor 31 = .ok (.aload_n 0, 1) := by decide +kernel
theorem dX10_payFor_32 : decode cX10_payFor 32 = .ok (.getfield 48, 3) := by decide +kernel
theorem dX10_payFor_35 : decode cX10_payFor 35 = .ok (.iload_n 3, 1) := by decide +kernel
theorem dX10_payFor_36 : decode cX10_payFor 36 = .ok (.iconst 2, 1) := by decide +kernel
theorem dX10_payFor_37 : decode cX10_payFor 37 = .ok (.invokevirtual 89, 3) := by decide +kernel
theorem dX10_payFor_40 : decode cX10_payFor 40 = .ok (.iadd, 1) := by decide +kernel
theorem dX10_payFor_41 : decode cX10_payFor 41 = .ok (.istore_n 2, 1) := by decide +kernel
theorem dX10_payFor_42 : decode cX10_payFor 42 = .ok (.iinc 3 1, 3) := by decide +kernel
theorem dX10_payFor_45 : decode cX10_payFor 45 = .ok (.goto (-41), 3) := by decide +kernel
theorem dX10_payFor_48 : decode cX10_payFor 48 = .ok (.aload_n 1, 1) := by decide +kernel
theorem dX10_payFor_49 : decode cX10_payFor 49 = .ok (.getfield 174, 3) := by decide +kernel
theorem dX10_payFor_52 : decode cX10_payFor 52 = .ok (.aload_n 1, 1) := by decide +kernel
theorem dX10_payFor_53 : decode cX10_payFor 53 = .ok (.getfield 174, 3) := by decide +kernel
theorem dX10_payFor_56 : decode cX10_payFor 56 = .ok (.iload_n 2, 1) := by decide +kernel
theorem dX10_payFor_57 : decode cX10_payFor 57 = .ok (.imul, 1) := by decide +kernel
theorem dX10_payFor_58 : decode cX10_payFor 58 = .ok (.bipush 100, 2) := by decide +kernel
theorem dX10_payFor_60 : decode cX10_payFor 60 = .ok (.idiv, 1) := by decide +kernel
theorem dX10_payFor_61 : decode cX10_payFor 61 = .ok (.iadd, 1) := by decide +kernel
theorem dX10_payFor_62 : decode cX10_payFor 62 = .ok (.ireturn, 1) := by decide +kernel
theorem dX10_payOfRider_0 : decode cX10_payOfRider 0 = .ok (.iconst 0, 1) := by decide +kernel
theorem dX10_payOfRider_1 : decode cX10_payOfRider 1 = .ok (.istore_n 2, 1) := by decide +kernel
theorem dX10_payOfRider_2 : decode cX10_payOfRider 2 = .ok (.iconst 0, 1) := by decide +kernel
theorem dX10_payOfRider_3 : decode cX10_payOfRider 3 = .ok (.istore_n 3, 1) := by decide +kernel
theorem dX10_payOfRider_4 : decode cX10_payOfRider 4 = .ok (.iload_n 3, 1) := by decide +kernel
theorem dX10_payOfRider_5 : decode cX10_payOfRider 5 = .ok (.aload_n 0, 1) := by decide +kernel
theorem dX10_payOfRider_6 : decode cX10_payOfRider 6 = .ok (.getfield 73, 3) := by decide +kernel
theorem dX10_payOfRider_9 : decode cX10_payOfRider 9 = .ok (.if_icmp .ge 35, 3) := by decide +kernel
theorem dX10_payOfRider_12 : decode cX10_payOfRider 12 = .ok (.aload_n 0, 1) := by decide +kernel
theorem dX10_payOfRider_13 : decode cX10_payOfRider 13 = .ok (.getfield 29, 3) := by decide +kernel
theorem dX10_payOfRider_16 : decode cX10_payOfRider 16 = .ok (.iload_n 3, 1) := by decide +kernel
theorem dX10_payOfRider_17 : decode cX10_payOfRider 17 = .ok (.aaload, 1) := by decide +kernel
theorem dX10_payOfRider_18 : decode cX10_payOfRider 18 = .ok (.iload_n 1, 1) := by decide +kernel
theorem dX10_payOfRider_19 : decode cX10_payOfRider 19 = .ok (.invokevirtual 177, 3) := by decide +kernel
theorem dX10_payOfRider_22 : decode cX10_payOfRider 22 = .ok (.ifCond .eq 16, 3) := by decide +kernel
theorem dX10_payOfRider_25 : decode cX10_payOfRider 25 = .ok (.iload_n 2, 1) := by decide +kernel
theorem dX10_payOfRider_26 : decode cX10_payOfRider 26 = .ok (.aload_n 0, 1) := by decide +kernel
theorem dX10_payOfRider_27 : decode cX10_payOfRider 27 = .ok (.aload_n 0, 1) := by decide +kernel
theorem dX10_payOfRider_28 : decode cX10_payOfRider 28 = .ok (.getfield 29, 3) := by decide +kernel
theorem dX10_payOfRider_31 : decode cX10_payOfRider 31 = .ok (.iload_n 3, 1) := by decide +kernel
theorem dX10_payOfRider_32 : decode cX10_payOfRider 32 = .ok (.aaload, 1) := by decide +kernel
theorem dX10_payOfRider_33 : decode cX10_payOfRider 33 = .ok (.invokevirtual 181, 3) := by decide +kernel
theorem dX10_payOfRider_36 : decode cX10_payOfRider 36 = .ok (.iadd, 1) := by decide +kernel
theorem dX10_payOfRider_37 : decode cX10_payOfRider 37 = .ok (.istore_n 2, 1) := by decide +kernel
theorem dX10_payOfRider_38 : decode cX10_payOfRider 38 = .ok (.iinc 3 1, 3) := by decide +kernel
theorem dX10_payOfRider_41 : decode cX10_payOfRider 41 = .ok (.goto (-37), 3) := by decide +kernel
theorem dX10_payOfRider_44 : decode cX10_payOfRider 44 = .ok (.iload_n 2, 1) := by decide +kernel
theorem dX10_payOfRider_45 : decode cX10_payOfRider 45 = .ok (.ireturn, 1) := by decide +kernel
theorem dX10_ratingOfRider_0 : decode cX10_ratingOfRider 0 = .ok (.iconst 0, 1) := by decide +kernel
theorem dX10_ratingOfRider_1 : decode cX10_ratingOfRider 1 = .ok (.istore_n 2, 1) := by decide +kernel
theorem dX10_ratingOfRider_2 : decode cX10_ratingOfRider 2 = .ok (.iconst 0, 1) := by decide +kernel
theorem dX10_ratingOfRider_3 : decode cX10_ratingOfRider 3 = .ok (.istore_n 3, 1) := by decide +kernel
theorem dX10_ratingOfRider_4 : decode cX10_ratingOfRider 4 = .ok (.iconst 0, 1) := by decide +kernel
theorem dX10_ratingOfRider_5 : decode cX10_ratingOfRider 5 = .ok (.istore 4, 2) := by decide +kernel
theorem dX10_ratingOfRider_7 : decode cX10_ratingOfRider 7 = .ok (.iload 4, 2) := by decide +kernel
theorem dX10_ratingOfRider_9 : decode cX10_ratingOfRider 9 = .ok (.aload_n 0, 1) := by decide +kernel
theorem dX10_ratingOfRider_10 : decode cX10_ratingOfRider 10 = .ok (.getfield 73, 3) := by decide +kernel
theorem dX10_ratingOfRider_13 : decode cX10_ratingOfRider 13 = .ok (.if_icmp .ge 39, 3) := by decide +kernel
theorem dX10_ratingOfRider_16 : decode cX10_ratingOfRider 16 = .ok (.aload_n 0, 1) := by decide +kernel
theorem dX10_ratingOfRider_17 : decode cX10_ratingOfRider 17 = .ok (.getfield 29, 3) := by decide +kernel
theorem dX10_ratingOfRider_20 : decode cX10_ratingOfRider 20 = .ok (.iload 4, 2) := by decide +kernel
theorem dX10_ratingOfRider_22 : decode cX10_ratingOfRider 22 = .ok (.aaload, 1) := by decide +kernel
theorem dX10_ratingOfRider_23 : decode cX10_ratingOfRider 23 = .ok (.iload_n 1, 1) := by decide +kernel
theorem dX10_ratingOfRider_24 : decode cX10_ratingOfRider 24 = .ok (.invokevirtual 177, 3) := by decide +kernel
theorem dX10_ratingOfRider_27 : decode cX10_ratingOfRider 27 = .ok (.ifCond .eq 19, 3) := by decide +kernel
theorem dX10_ratingOfRider_30 : decode cX10_ratingOfRider 30 = .ok (.iload_n 2, 1) := by decide +kernel
theorem dX10_ratingOfRider_31 : decode cX10_ratingOfRider 31 = .ok (.aload_n 0, 1) := by decide +kernel
theorem dX10_ratingOfRider_32 : decode cX10_ratingOfRider 32 = .ok (.getfield 29, 3) := by decide +kernel
theorem dX10_ratingOfRider_35 : decode cX10_ratingOfRider 35 = .ok (.iload 4, 2) := by decide +kernel
theorem dX10_ratingOfRider_37 : decode cX10_ratingOfRider 37 = .ok (.aaload, 1) := by decide +kernel
theorem dX10_ratingOfRider_38 : decode cX10_ratingOfRider 38 = .ok (.getfield 185, 3) := by decide +kernel
theorem dX10_ratingOfRider_41 : decode cX10_ratingOfRider 41 = .ok (.iadd, 1) := by decide +kernel
theorem dX10_ratingOfRider_42 : decode cX10_ratingOfRider 42 = .ok (.istore_n 2, 1) := by decide +kernel
theorem dX10_ratingOfRider_43 : decode cX10_ratingOfRider 43 = .ok (.iinc 3 1, 3) := by decide +kernel
theorem dX10_ratingOfRider_46 : decode cX10_ratingOfRider 46 = .ok (.iinc 4 1, 3) := by decide +kernel
theorem dX10_ratingOfRider_49 : decode cX10_ratingOfRider 49 = .ok (.goto (-42), 3) := by decide +kernel
theorem dX10_ratingOfRider_52 : decode cX10_ratingOfRider 52 = .ok (.iload_n 3, 1) := by decide +kernel
theorem dX10_ratingOfRider_53 : decode cX10_ratingOfRider 53 = .ok (.ifCond .ne 8, 3) := by decide +kernel
theorem dX10_ratingOfRider_56 : decode cX10_ratingOfRider 56 = .ok (.bipush 25, 2) := by decide +kernel
theorem dX10_ratingOfRider_58 : decode cX10_ratingOfRider 58 = .ok (.goto 6, 3) := by decide +kernel
theorem dX10_ratingOfRider_61 : decode cX10_ratingOfRider 61 = .ok (.iload_n 2, 1) := by decide +kernel
theorem dX10_ratingOfRider_62 : decode cX10_ratingOfRider 62 = .ok (.iload_n 3, 1) := by decide +kernel
theorem dX10_ratingOfRider_63 : decode cX10_ratingOfRider 63 = .ok (.idiv, 1) := by decide +kernel
theorem dX10_ratingOfRider_64 : decode cX10_ratingOfRider 64 = .ok (.ireturn, 1) := by decide +kernel
theorem dX10_ownRatingOf_0 : decode cX10_ownRatingOf 0 = .ok (.iconst 0, 1) := by decide +kernel
theorem dX10_ownRatingOf_1 : decode cX10_ownRatingOf 1 = .ok (.istore_n 2, 1) := by decide +kernel
theorem dX10_ownRatingOf_2 : decode cX10_ownRatingOf 2 = .ok (.iconst 0, 1) := by decide +kernel
theorem dX10_ownRatingOf_3 : decode cX10_ownRatingOf 3 = .ok (.istore_n 3, 1) := by decide +kernel
theorem dX10_ownRatingOf_4 : decode cX10_ownRatingOf 4 = .ok (.iconst 0, 1) := by decide +kernel
theorem dX10_ownRatingOf_5 : decode cX10_ownRatingOf 5 = .ok (.istore 4, 2) := by decide +kernel
theorem dX10_ownRatingOf_7 : decode cX10_ownRatingOf 7 = .ok (.iload 4, 2) := by decide +kernel
theorem dX10_ownRatingOf_9 : decode cX10_ownRatingOf 9 = .ok (.aload_n 0, 1) := by decide +kernel
theorem dX10_ownRatingOf_10 : decode cX10_ownRatingOf 10 = .ok (.getfield 73, 3) := by decide +kernel
theorem dX10_ownRatingOf_13 : decode cX10_ownRatingOf 13 = .ok (.if_icmp .ge 39, 3) := by decide +kernel
theorem dX10_ownRatingOf_16 : decode cX10_ownRatingOf 16 = .ok (.aload_n 0, 1) := by decide +kernel
theorem dX10_ownRatingOf_17 : decode cX10_ownRatingOf 17 = .ok (.getfield 29, 3) := by decide +kernel
theorem dX10_ownRatingOf_20 : decode cX10_ownRatingOf 20 = .ok (.iload 4, 2) := by decide +kernel
theorem dX10_ownRatingOf_22 : decode cX10_ownRatingOf 22 = .ok (.aaload, 1) := by decide +kernel
theorem dX10_ownRatingOf_23 : decode cX10_ownRatingOf 23 = .ok (.iload_n 1, 1) := by decide +kernel
theorem dX10_ownRatingOf_24 : decode cX10_ownRatingOf 24 = .ok (.invokevirtual 177, 3) := by decide +kernel
theorem dX10_ownRatingOf_27 : decode cX10_ownRatingOf 27 = .ok (.ifCond .eq 19, 3) := by decide +kernel
theorem dX10_ownRatingOf_30 : decode cX10_ownRatingOf 30 = .ok (.iload_n 2, 1) := by decide +kernel
theorem dX10_ownRatingOf_31 : decode cX10_ownRatingOf 31 = .ok (.aload_n 0, 1) := by decide +kernel
theorem dX10_ownRatingOf_32 : decode cX10_ownRatingOf 32 = .ok (.getfield 29, 3) := by decide +kernel
theorem dX10_ownRatingOf_35 : decode cX10_ownRatingOf 35 = .ok (.iload 4, 2) := by decide +kernel
theorem dX10_ownRatingOf_37 : decode cX10_ownRatingOf 37 = .ok (.aaload, 1) := by decide +kernel
theorem dX10_ownRatingOf_38 : decode cX10_ownRatingOf 38 = .ok (.invokevirtual 188, 3) := by decide +kernel
theorem dX10_ownRatingOf_41 : decode cX10_ownRatingOf 41 = .ok (.iadd, 1) := by decide +kernel
theorem dX10_ownRatingOf_42 : decode cX10_ownRatingOf 42 = .ok (.istore_n 2, 1) := by decide +kernel
theorem dX10_ownRatingOf_43 : decode cX10_ownRatingOf 43 = .ok (.iinc 3 1, 3) := by decide +kernel
theorem dX10_ownRatingOf_46 : decode cX10_ownRatingOf 46 = .ok (.iinc 4 1, 3) := by decide +kernel
theorem dX10_ownRatingOf_49 : decode cX10_ownRatingOf 49 = .ok (.goto (-42), 3) := by decide +kernel
theorem dX10_ownRatingOf_52 : decode cX10_ownRatingOf 52 = .ok (.iload_n 3, 1) := by decide +kernel
theorem dX10_ownRatingOf_53 : decode cX10_ownRatingOf 53 = .ok (.ifCond .ne 8, 3) := by decide +kernel
theorem dX10_ownRatingOf_56 : decode cX10_ownRatingOf 56 = .ok (.bipush 50, 2) := by decide +kernel
theorem dX10_ownRatingOf_58 : decode cX10_ownRatingOf 58 = .ok (.goto 6, 3) := by decide +kernel
theorem dX10_ownRatingOf_61 : decode cX10_ownRatingOf 61 = .ok (.iload_n 2, 1) := by decide +kernel
theorem dX10_ownRatingOf_62 : decode cX10_ownRatingOf 62 = .ok (.iload_n 3, 1) := by decide +kernel
theorem dX10_ownRatingOf_63 : decode cX10_ownRatingOf 63 = .ok (.idiv, 1) := by decide +kernel
theorem dX10_ownRatingOf_64 : decode cX10_ownRatingOf 64 = .ok (.ireturn, 1) := by decide +kernel
theorem dX10_engagedOf_0 : decode cX10_engagedOf 0 = .ok (.iconst 0, 1) := by decide +kernel
theorem dX10_engagedOf_1 : decode cX10_engagedOf 1 = .ok (.istore_n 2, 1) := by decide +kernel
theorem dX10_engagedOf_2 : decode cX10_engagedOf 2 = .ok (.iconst 0, 1) := by decide +kernel
theorem dX10_engagedOf_3 : decode cX10_engagedOf 3 = .ok (.istore_n 3, 1) := by decide +kernel
theorem dX10_engagedOf_4 : decode cX10_engagedOf 4 = .ok (.iload_n 3, 1) := by decide +kernel
theorem dX10_engagedOf_5 : decode cX10_engagedOf 5 = .ok (.aload_n 0, 1) := by decide +kernel
theorem dX10_engagedOf_6 : decode cX10_engagedOf 6 = .ok (.getfield 45, 3) := by decide +kernel
theorem dX10_engagedOf_9 : decode cX10_engagedOf 9 = .ok (.getfield 164, 3) := by decide +kernel
theorem dX10_engagedOf_12 : decode cX10_engagedOf 12 = .ok (.if_icmp .ge 44, 3) := by decide +kernel
theorem dX10_engagedOf_15 : decode cX10_engagedOf 15 = .ok (.aload_n 0, 1) := by decide +kernel
theorem dX10_engagedOf_16 : decode cX10_engagedOf 16 = .ok (.getfield 45, 3) := by decide +kernel
theorem dX10_engagedOf_19 : decode cX10_engagedOf 19 = .ok (.iload_n 3, 1) := by decide +kernel
theorem dX10_engagedOf_20 : decode cX10_engagedOf 20 = .ok (.iconst 0, 1) := by decide +kernel
theorem dX10_engagedOf_21 : decode cX10_engagedOf 21 = .ok (.invokevirtual 89, 3) := by decide +kernel
theorem dX10_engagedOf_24 : decode cX10_engagedOf 24 = .ok (.iload_n 1, 1) := by decide +kernel
theorem dX10_engagedOf_25 : decode cX10_engagedOf 25 = .ok (.if_icmp .ne 25, 3) := by decide +kernel
theorem dX10_engagedOf_28 : decode cX10_engagedOf 28 = .ok (.iload_n 2, 1) := by decide +kernel
theorem dX10_engagedOf_29 : decode cX10_engagedOf 29 = .ok (.aload_n 0, 1) := by decide +kernel
theorem dX10_engagedOf_30 : decode cX10_engagedOf 30 = .ok (.getfield 45, 3) := by decide +kernel
theorem dX10_engagedOf_33 : decode cX10_engagedOf 33 = .ok (.iload_n 3, 1) := by decide +kernel
theorem dX10_engagedOf_34 : decode cX10_engagedOf 34 = .ok (.iconst 2, 1) := by decide +kernel
theorem dX10_engagedOf_35 : decode cX10_engagedOf 35 = .ok (.invokevirtual 89, 3) := by decide +kernel
theorem dX10_engagedOf_38 : decode cX10_engagedOf 38 = .ok (.aload_n 0, 1) := by decide +kernel
theorem dX10_engagedOf_39 : decode cX10_engagedOf 39 = .ok (.getfield 45, 3) := by decide +kernel
theorem dX10_engagedOf_42 : decode cX10_engagedOf 42 = .ok (.iload_n 3, 1) := by decide +kernel
theorem dX10_engagedOf_43 : decode cX10_engagedOf 43 = .ok (.iconst 1, 1) := by decide +kernel
theorem dX10_engagedOf_44 : decode cX10_engagedOf 44 = .ok (.invokevirtual 89, 3) := by decide +kernel
theorem dX10_engagedOf_47 : decode cX10_engagedOf 47 = .ok (.isub, 1) := by decide +kernel
theorem dX10_engagedOf_48 : decode cX10_engagedOf 48 = .ok (.iadd, 1) := by decide +kernel
theorem dX10_engagedOf_49 : decode cX10_engagedOf 49 = .ok (.istore_n 2, 1) := by decide +kernel
theorem dX10_engagedOf_50 : decode cX10_engagedOf 50 = .ok (.iinc 3 1, 3) := by decide +kernel
theorem dX10_engagedOf_53 : decode cX10_engagedOf 53 = .ok (.goto (-49), 3) := by decide +kernel
theorem dX10_engagedOf_56 : decode cX10_engagedOf 56 = .ok (.iload_n 2, 1) := by decide +kernel
theorem dX10_engagedOf_57 : decode cX10_engagedOf 57 = .ok (.ireturn, 1) := by decide +kernel
theorem dX10_countingOf_0 : decode cX10_countingOf 0 = .ok (.iconst 0, 1) := by decide +kernel
theorem dX10_countingOf_1 : decode cX10_countingOf 1 = .ok (.istore_n 2, 1) := by decide +kernel
theorem dX10_countingOf_2 : decode cX10_countingOf 2 = .ok (.iconst 0, 1) := by decide +kernel
theorem dX10_countingOf_3 : decode cX10_countingOf 3 = .ok (.istore_n 3, 1) := by decide +kernel
theorem dX10_countingOf_4 : decode cX10_countingOf 4 = .ok (.iload_n 3, 1) := by decide +kernel
theorem dX10_countingOf_5 : decode cX10_countingOf 5 = .ok (.aload_n 0, 1) := by decide +kernel
theorem dX10_countingOf_6 : decode cX10_countingOf 6 = .ok (.getfield 45, 3) := by decide +kernel
theorem dX10_countingOf_9 : decode cX10_countingOf 9 = .ok (.getfield 164, 3) := by decide +kernel
theorem dX10_countingOf_12 : decode cX10_countingOf 12 = .ok (.if_icmp .ge 75, 3) := by decide +kernel
theorem dX10_countingOf_15 : decode cX10_countingOf 15 = .ok (.aload_n 0, 1) := by decide +kernel
theorem dX10_countingOf_16 : decode cX10_countingOf 16 = .ok (.getfield 45, 3) := by decide +kernel
theorem dX10_countingOf_19 : decode cX10_countingOf 19 = .ok (.iload_n 3, 1) := by decide +kernel
theorem dX10_countingOf_20 : decode cX10_countingOf 20 = .ok (.iconst 0, 1) := by decide +kernel
theorem dX10_countingOf_21 : decode cX10_countingOf 21 = .ok (.invokevirtual 89, 3) := by decide +kernel
theorem dX10_countingOf_24 : decode cX10_countingOf 24 = .ok (.aload_n 1, 1) := by decide +kernel
theorem dX10_countingOf_25 : decode cX10_countingOf 25 = .ok (.getfield 192, 3) := by decide +kernel
theorem dX10_countingOf_28 : decode cX10_countingOf 28 = .ok (.if_icmp .eq 6, 3) := by decide +kernel
theorem dX10_countingOf_31 : decode cX10_countingOf 31 = .ok (.goto 50, 3) := by decide +kernel
theorem dX10_countingOf_34 : decode cX10_countingOf 34 = .ok (.aload_n 0, 1) := by decide +kernel
theorem dX10_countingOf_35 : decode cX10_countingOf 35 = .ok (.getfield 45, 3) := by decide +kernel
theorem dX10_countingOf_38 : decode cX10_countingOf 38 = .ok (.iload_n 3, 1) := by decide +kernel
theorem dX10_countingOf_39 : decode cX10_countingOf 39 = .ok (.iconst 2, 1) := by decide +kernel
theorem dX10_countingOf_40 : decode cX10_countingOf 40 = .ok (.invokevirtual 89, 3) := by decide +kernel
theorem dX10_countingOf_43 : decode cX10_countingOf 43 = .ok (.istore 4, 2) := by decide +kernel
theorem dX10_countingOf_45 : decode cX10_countingOf 45 = .ok (.aload_n 0, 1) := by decide +kernel
theorem dX10_countingOf_46 : decode cX10_countingOf 46 = .ok (.getfield 45, 3) := by decide +kernel
theorem dX10_countingOf_49 : decode cX10_countingOf 49 = .ok (.iload_n 3, 1) := by decide +kernel
theorem dX10_countingOf_50 : decode cX10_countingOf 50 = .ok (.iconst 1, 1) := by decide +kernel
theorem dX10_countingOf_51 : decode cX10_countingOf 51 = .ok (.invokevirtual 89, 3) := by decide +kernel
theorem dX10_countingOf_54 : decode cX10_countingOf 54 = .ok (.istore 5, 2) := by decide +kernel
theorem dX10_countingOf_56 : decode cX10_countingOf 56 = .ok (.iload 5, 2) := by decide +kernel
theorem dX10_countingOf_58 : decode cX10_countingOf 58 = .ok (.iload 4, 2) := by decide +kernel
theorem dX10_countingOf_60 : decode cX10_countingOf 60 = .ok (.if_icmp .ge 21, 3) := by decide +kernel
theorem dX10_countingOf_63 : decode cX10_countingOf 63 = .ok (.aload_n 1, 1) := by decide +kernel
theorem dX10_countingOf_64 : decode cX10_countingOf 64 = .ok (.iload 5, 2) := by decide +kernel
theorem dX10_countingOf_66 : decode cX10_countingOf 66 = .ok (.invokevirtual 195, 3) := by decide +kernel
theorem dX10_countingOf_69 : decode cX10_countingOf 69 = .ok (.ifCond .eq 6, 3) := by decide +kernel
theorem dX10_countingOf_72 : decode cX10_countingOf 72 = .ok (.iinc 2 1, 3) := by decide +kernel
theorem dX10_countingOf_75 : decode cX10_countingOf 75 = .ok (.iinc 5 1, 3) := by decide +kernel
theorem dX10_countingOf_78 : decode cX10_countingOf 78 = .ok (.goto (-22), 3) := by decide +kernel
theorem dX10_countingOf_81 : decode cX10_countingOf 81 = .ok (.iinc 3 1, 3) := by decide +kernel
theorem dX10_countingOf_84 : decode cX10_countingOf 84 = .ok (.goto (-80), 3) := by decide +kernel
theorem dX10_countingOf_87 : decode cX10_countingOf 87 = .ok (.aload_n 0, 1) := by decide +kernel
theorem dX10_countingOf_88 : decode cX10_countingOf 88 = .ok (.aload_n 1, 1) := by decide +kernel
theorem dX10_countingOf_89 : decode cX10_countingOf 89 = .ok (.getfield 192, 3) := by decide +kernel
theorem dX10_countingOf_92 : decode cX10_countingOf 92 = .ok (.invokevirtual 198, 3) := by decide +kernel
theorem dX10_countingOf_95 : decode cX10_countingOf 95 = .ok (.iload_n 2, 1) := by decide +kernel
theorem dX10_countingOf_96 : decode cX10_countingOf 96 = .ok (.isub, 1) := by decide +kernel
theorem dX10_countingOf_97 : decode cX10_countingOf 97 = .ok (.iload_n 2, 1) := by decide +kernel
theorem dX10_countingOf_98 : decode cX10_countingOf 98 = .ok (.iconst 2, 1) := by decide +kernel
theorem dX10_countingOf_99 : decode cX10_countingOf 99 = .ok (.idiv, 1) := by decide +kernel
theorem dX10_countingOf_100 : decode cX10_countingOf 100 = .ok (.iadd, 1) := by decide +kernel
theorem dX10_countingOf_101 : decode cX10_countingOf 101 = .ok (.ireturn, 1) := by decide +kernel
theorem dX10_isDouble_0 : decode cX10_isDouble 0 = .ok (.aload_n 0, 1) := by decide +kernel
theorem dX10_isDouble_1 : decode cX10_isDouble 1 = .ok (.getfield 51, 3) := by decide +kernel
theorem dX10_isDouble_4 : decode cX10_isDouble 4 = .ok (.iload_n 2, 1) := by decide +kernel
theorem dX10_isDouble_5 : decode cX10_isDouble 5 = .ok (.iconst 0, 1) := by decide +kernel
theorem dX10_isDouble_6 : decode cX10_isDouble 6 = .ok (.invokevirtual 89, 3) := by decide +kernel
theorem dX10_isDouble_9 : decode cX10_isDouble 9 = .ok (.iload_n 1, 1) := by decide +kernel
theorem dX10_isDouble_10 : decode cX10_isDouble 10 = .ok (.if_icmp .ne 16, 3) := by decide +kernel
theorem dX10_isDouble_13 : decode cX10_isDouble 13 = .ok (.aload_n 0, 1) := by decide +kernel
theorem dX10_isDouble_14 : decode cX10_isDouble 14 = .ok (.getfield 51, 3) := by decide +kernel
theorem dX10_isDouble_17 : decode cX10_isDouble 17 = .ok (.iload_n 3, 1) := by decide +kernel
theorem dX10_isDouble_18 : decode cX10_isDouble 18 = .ok (.iconst 0, 1) := by decide +kernel
theorem dX10_isDouble_19 : decode cX10_isDouble 19 = .ok (.invokevirtual 89, 3) := by decide +kernel
theorem dX10_isDouble_22 : decode cX10_isDouble 22 = .ok (.iload_n 1, 1) := by decide +kernel
theorem dX10_isDouble_23 : decode cX10_isDouble 23 = .ok (.if_icmp .eq 5, 3) := by decide +kernel
theorem dX10_isDouble_26 : decode cX10_isDouble 26 = .ok (.iconst 0, 1) := by decide +kernel
theorem dX10_isDouble_27 : decode cX10_isDouble 27 = .ok (.ireturn, 1) := by decide +kernel
theorem dX10_isDouble_28 : decode cX10_isDouble 28 = .ok (.aload_n 0, 1) := by decide +kernel
theorem dX10_isDouble_29 : decode cX10_isDouble 29 = .ok (.getfield 51, 3) := by decide +kernel
theorem dX10_isDouble_32 : decode cX10_isDouble 32 = .ok (.iload_n 3, 1) := by decide +kernel
theorem dX10_isDouble_33 : decode cX10_isDouble 33 = .ok (.iconst 2, 1) := by decide +kernel
theorem dX10_isDouble_34 : decode cX10_isDouble 34 = .ok (.invokevirtual 89, 3) := by decide +kernel
theorem dX10_isDouble_37 : decode cX10_isDouble 37 = .ok (.aload_n 0, 1) := by decide +kernel
theorem dX10_isDouble_38 : decode cX10_isDouble 38 = .ok (.getfield 51, 3) := by decide +kernel
theorem dX10_isDouble_41 : decode cX10_isDouble 41 = .ok (.iload_n 2, 1) := by decide +kernel
theorem dX10_isDouble_42 : decode cX10_isDouble 42 = .ok (.iconst 2, 1) := by decide +kernel
theorem dX10_isDouble_43 : decode cX10_isDouble 43 = .ok (.invokevirtual 89, 3) := by decide +kernel
theorem dX10_isDouble_46 : decode cX10_isDouble 46 = .ok (.isub, 1) := by decide +kernel
theorem dX10_isDouble_47 : decode cX10_isDouble 47 = .ok (.istore 4, 2) := by decide +kernel
theorem dX10_isDouble_49 : decode cX10_isDouble 49 = .ok (.iload 4, 2) := by decide +kernel
theorem dX10_isDouble_51 : decode cX10_isDouble 51 = .ok (.ifCond .ge 7, 3) := by decide +kernel
theorem dX10_isDouble_54 : decode cX10_isDouble 54 = .ok (.iload_n 3, 1) := by decide +kernel
theorem dX10_isDouble_55 : decode cX10_isDouble 55 = .ok (.goto 4, 3) := by decide +kernel
theorem dX10_isDouble_58 : decode cX10_isDouble 58 = .ok (.iload_n 2, 1) := by decide +kernel
theorem dX10_isDouble_59 : decode cX10_isDouble 59 = .ok (.istore 5, 2) := by decide +kernel
theorem dX10_isDouble_61 : decode cX10_isDouble 61 = .ok (.iload 4, 2) := by decide +kernel
theorem dX10_isDouble_63 : decode cX10_isDouble 63 = .ok (.ifCond .ge 7, 3) := by decide +kernel
theorem dX10_isDouble_66 : decode cX10_isDouble 66 = .ok (.iload_n 2, 1) := by decide +kernel
theorem dX10_isDouble_67 : decode cX10_isDouble 67 = .ok (.goto 4, 3) := by decide +kernel
theorem dX10_isDouble_70 : decode cX10_isDouble 70 = .ok (.iload_n 3, 1) := by decide +kernel
theorem dX10_isDouble_71 : decode cX10_isDouble 71 = .ok (.istore 6, 2) := by decide +kernel
theorem dX10_isDouble_73 : decode cX10_isDouble 73 = .ok (.aload_n 0, 1) := by decide +kernel
theorem dX10_isDouble_74 : decode cX10_isDouble 74 = .ok (.getfield 12, 3) := by decide +kernel
theorem dX10_isDouble_77 : decode cX10_isDouble 77 = .ok (.aload_n 0, 1) := by decide +kernel
theorem dX10_isDouble_78 : decode cX10_isDouble 78 = .ok (.getfield 51, 3) := by decide +kernel
theorem dX10_isDouble_81 : decode cX10_isDouble 81 = .ok (.iload 5, 2) := by decide +kernel
theorem dX10_isDouble_83 : decode cX10_isDouble 83 = .ok (.iconst 1, 1) := by decide +kernel
theorem dX10_isDouble_84 : decode cX10_isDouble 84 = .ok (.invokevirtual 89, 3) := by decide +kernel
theorem dX10_isDouble_87 : decode cX10_isDouble 87 = .ok (.aload_n 0, 1) := by decide +kernel
theorem dX10_isDouble_88 : decode cX10_isDouble 88 = .ok (.getfield 51, 3) := by decide +kernel
theorem dX10_isDouble_91 : decode cX10_isDouble 91 = .ok (.iload 6, 2) := by decide +kernel
theorem dX10_isDouble_93 : decode cX10_isDouble 93 = .ok (.iconst 1, 1) := by decide +kernel
theorem dX10_isDouble_94 : decode cX10_isDouble 94 = .ok (.invokevirtual 89, 3) := by decide +kernel
theorem dX10_isDouble_97 : decode cX10_isDouble 97 = .ok (.invokevirtual 201, 3) := by decide +kernel
theorem dX10_isDouble_100 : decode cX10_isDouble 100 = .ok (.istore 7, 2) := by decide +kernel
theorem dX10_isDouble_102 : decode cX10_isDouble 102 = .ok (.iload 7, 2) := by decide +kernel
theorem dX10_isDouble_104 : decode cX10_isDouble 104 = .ok (.iconst (-1), 1) := by decide +kernel
theorem dX10_isDouble_105 : decode cX10_isDouble 105 = .ok (.if_icmp .eq 13, 3) := by decide +kernel
theorem dX10_isDouble_108 : decode cX10_isDouble 108 = .ok (.iload 7, 2) := by decide +kernel
theorem dX10_isDouble_110 : decode cX10_isDouble 110 = .ok (.iload 4, 2) := by decide +kernel
theorem dX10_isDouble_112 : decode cX10_isDouble 112 = .ok (.invokestatic 204, 3) := by decide +kernel
theorem dX10_isDouble_115 : decode cX10_isDouble 115 = .ok (.if_icmp .le 7, 3) := by decide +kernel
theorem dX10_isDouble_118 : decode cX10_isDouble 118 = .ok (.iconst 1, 1) := by decide +kernel
theorem dX10_isDouble_119 : decode cX10_isDouble 119 = .ok (.goto 4, 3) := by decide +kernel
theorem dX10_isDouble_122 : decode cX10_isDouble 122 = .ok (.iconst 0, 1) := by decide +kernel
theorem dX10_isDouble_123 : decode cX10_isDouble 123 = .ok (.ireturn, 1) := by decide +kernel
theorem dX10_waitingOrders_0 : decode cX10_waitingOrders 0 = .ok (.iconst 0, 1) := by decide +kernel
theorem dX10_waitingOrders_1 : decode cX10_waitingOrders 1 = .ok (.istore_n 1, 1) := by decide +kernel
theorem dX10_waitingOrders_2 : decode cX10_waitingOrders 2 = .ok (.iconst 0, 1) := by decide +kernel
theorem dX10_waitingOrders_3 : decode cX10_waitingOrders 3 = .ok (.istore_n 2, 1) := by decide +kernel
theorem dX10_waitingOrders_4 : decode cX10_waitingOrders 4 = .ok (.iload_n 2, 1) := by decide +kernel
theorem dX10_waitingOrders_5 : decode cX10_waitingOrders 5 = .ok (.aload_n 0, 1) := by decide +kernel
theorem dX10_waitingOrders_6 : decode cX10_waitingOrders 6 = .ok (.getfield 73, 3) := by decide +kernel
theorem dX10_waitingOrders_9 : decode cX10_waitingOrders 9 = .ok (.if_icmp .ge 24, 3) := by decide +kernel
theorem dX10_waitingOrders_12 : decode cX10_waitingOrders 12 = .ok (.aload_n 0, 1) := by decide +kernel
theorem dX10_waitingOrders_13 : decode cX10_waitingOrders 13 = .ok (.getfield 29, 3) := by decide +kernel
theorem dX10_waitingOrders_16 : decode cX10_waitingOrders 16 = .ok (.iload_n 2, 1) := by decide +kernel
theorem dX10_waitingOrders_17 : decode cX10_waitingOrders 17 = .ok (.aaload, 1) := by decide +kernel
theorem dX10_waitingOrders_18 : decode cX10_waitingOrders 18 = .ok (.getfield 114, 3) := by decide +kernel
theorem dX10_waitingOrders_21 : decode cX10_waitingOrders 21 = .ok (.ifCond .ne 6, 3) := by decide +kernel
theorem dX10_waitingOrders_24 : decode cX10_waitingOrders 24 = .ok (.iinc 1 1, 3) := by decide +kernel
theorem dX10_waitingOrders_27 : decode cX10_waitingOrders 27 = .ok (.iinc 2 1, 3) := by decide +kernel
theorem dX10_waitingOrders_30 : decode cX10_waitingOrders 30 = .ok (.goto (-26), 3) := by decide +kernel
theorem dX10_waitingOrders_33 : decode cX10_waitingOrders 33 = .ok (.iload_n 1, 1) := by decide +kernel
theorem dX10_waitingOrders_34 : decode cX10_waitingOrders 34 = .ok (.ireturn, 1) := by decide +kernel
theorem dX10_waitingIn_0 : decode cX10_waitingIn 0 = .ok (.iconst 0, 1) := by decide +kernel
theorem dX10_waitingIn_1 : decode cX10_waitingIn 1 = .ok (.istore_n 3, 1) := by decide +kernel
theorem dX10_waitingIn_2 : decode cX10_waitingIn 2 = .ok (.iconst 0, 1) := by decide +kernel
theorem dX10_waitingIn_3 : decode cX10_waitingIn 3 = .ok (.istore 4, 2) := by decide +kernel
theorem dX10_waitingIn_5 : decode cX10_waitingIn 5 = .ok (.iload 4, 2) := by decide +kernel
theorem dX10_waitingIn_7 : decode cX10_waitingIn 7 = .ok (.aload_n 0, 1) := by decide +kernel
theorem dX10_waitingIn_8 : decode cX10_waitingIn 8 = .ok (.getfield 73, 3) := by decide +kernel
theorem dX10_waitingIn_11 : decode cX10_waitingIn 11 = .ok (.if_icmp .ge 60, 3) := by decide +kernel
theorem dX10_waitingIn_14 : decode cX10_waitingIn 14 = .ok (.aload_n 0, 1) := by decide +kernel
theorem dX10_waitingIn_15 : decode cX10_waitingIn 15 = .ok (.getfield 29, 3) := by decide +kernel
theorem dX10_waitingIn_18 : decode cX10_waitingIn 18 = .ok (.iload 4, 2) := by decide +kernel
theorem dX10_waitingIn_20 : decode cX10_waitingIn 20 = .ok (.aaload, 1) := by decide +kernel
theorem dX10_waitingIn_21 : decode cX10_waitingIn 21 = .ok (.astore 5, 2) := by decide +kernel
theorem dX10_waitingIn_23 : decode cX10_waitingIn 23 = .ok (.aload 5, 2) := by decide +kernel
theorem dX10_waitingIn_25 : decode cX10_waitingIn 25 = .ok (.getfield 114, 3) := by decide +kernel
theorem dX10_waitingIn_28 : decode cX10_waitingIn 28 = .ok (.ifCond .ne 37, 3) := by decide +kernel
theorem dX10_waitingIn_31 : decode cX10_waitingIn 31 = .ok (.aload_n 0, 1) := by decide +kernel
theorem dX10_waitingIn_32 : decode cX10_waitingIn 32 = .ok (.getfield 12, 3) := by decide +kernel
theorem dX10_waitingIn_35 : decode cX10_waitingIn 35 = .ok (.getfield 209, 3) := by decide +kernel
theorem dX10_waitingIn_38 : decode cX10_waitingIn 38 = .ok (.aload 5, 2) := by decide +kernel
theorem dX10_waitingIn_40 : decode cX10_waitingIn 40 = .ok (.getfield 96, 3) := by decide +kernel
theorem dX10_waitingIn_43 : decode cX10_waitingIn 43 = .ok (.iaload, 1) := by decide +kernel
theorem dX10_waitingIn_44 : decode cX10_waitingIn 44 = .ok (.iload_n 1, 1) := by decide +kernel
theorem dX10_waitingIn_45 : decode cX10_waitingIn 45 = .ok (.if_icmp .ne 20, 3) := by decide +kernel
theorem dX10_waitingIn_48 : decode cX10_waitingIn 48 = .ok (.aload_n 0, 1) := by decide +kernel
theorem dX10_waitingIn_49 : decode cX10_waitingIn 49 = .ok (.getfield 99, 3) := by decide +kernel
theorem dX10_waitingIn_52 : decode cX10_waitingIn 52 = .ok (.aload 5, 2) := by decide +kernel
theorem dX10_waitingIn_54 : decode cX10_waitingIn 54 = .ok (.getfield 102, 3) := by decide +kernel
theorem dX10_waitingIn_57 : decode cX10_waitingIn 57 = .ok (.isub, 1) := by decide +kernel
theorem dX10_waitingIn_58 : decode cX10_waitingIn 58 = .ok (.iload_n 2, 1) := by decide +kernel
theorem dX10_waitingIn_59 : decode cX10_waitingIn 59 = .ok (.if_icmp .le 6, 3) := by decide +kernel
theorem dX10_waitingIn_62 : decode cX10_waitingIn 62 = .ok (.iinc 3 1, 3) := by decide +kernel
theorem dX10_waitingIn_65 : decode cX10_waitingIn 65 = .ok (.iinc 4 1, 3) := by decide +kernel
theorem dX10_waitingIn_68 : decode cX10_waitingIn 68 = .ok (.goto (-63), 3) := by decide +kernel
theorem dX10_waitingIn_71 : decode cX10_waitingIn 71 = .ok (.iload_n 3, 1) := by decide +kernel
theorem dX10_waitingIn_72 : decode cX10_waitingIn 72 = .ok (.ireturn, 1) := by decide +kernel
theorem dX10_becomeLike_0 : decode cX10_becomeLike 0 = .ok (.aload_n 0, 1) := by decide +kernel
theorem dX10_becomeLike_1 : decode cX10_becomeLike 1 = .ok (.getfield 12, 3) := by decide +kernel
theorem dX10_becomeLike_4 : decode cX10_becomeLike 4 = .ok (.aload_n 1, 1) := by decide +kernel
theorem dX10_becomeLike_5 : decode cX10_becomeLike 5 = .ok (.getfield 12, 3) := by decide +kernel
theorem dX10_becomeLike_8 : decode cX10_becomeLike 8 = .ok (.invokevirtual 212, 3) := by decide +kernel
theorem dX10_becomeLike_11 : decode cX10_becomeLike 11 = .ok (.aload_n 0, 1) := by decide +kernel
theorem dX10_becomeLike_12 : decode cX10_becomeLike 12 = .ok (.getfield 23, 3) := by decide +kernel
theorem dX10_becomeLike_15 : decode cX10_becomeLike 15 = .ok (.aload_n 1, 1) := by decide +kernel
theorem dX10_becomeLike_16 : decode cX10_becomeLike 16 = .ok (.getfield 23, 3) := by decide +kernel
theorem dX10_becomeLike_19 : decode cX10_becomeLike 19 = .ok (.invokevirtual 216, 3) := by decide +kernel
theorem dX10_becomeLike_22 : decode cX10_becomeLike 22 = .ok (.iconst 0, 1) := by decide +kernel
theorem dX10_becomeLike_23 : decode cX10_becomeLike 23 = .ok (.istore_n 2, 1) := by decide +kernel
theorem dX10_becomeLike_24 : decode cX10_becomeLike 24 = .ok (.iload_n 2, 1) := by decide +kernel
theorem dX10_becomeLike_25 : decode cX10_becomeLike 25 = .ok (.bipush 24, 2) := by decide +kernel
theorem dX10_becomeLike_27 : decode cX10_becomeLike 27 = .ok (.if_icmp .ge 24, 3) := by decide +kernel
theorem dX10_becomeLike_30 : decode cX10_becomeLike 30 = .ok (.aload_n 0, 1) := by decide +kernel
theorem dX10_becomeLike_31 : decode cX10_becomeLike 31 = .ok (.getfield 29, 3) := by decide +kernel
theorem dX10_becomeLike_34 : decode cX10_becomeLike 34 = .ok (.iload_n 2, 1) := by decide +kernel
theorem dX10_becomeLike_35 : decode cX10_becomeLike 35 = .ok (.aaload, 1) := by decide +kernel
theorem dX10_becomeLike_36 : decode cX10_becomeLike 36 = .ok (.aload_n 1, 1) := by decide +kernel
theorem dX10_becomeLike_37 : decode cX10_becomeLike 37 = .ok (.getfield 29, 3) := by decide +kernel
theorem dX10_becomeLike_40 : decode cX10_becomeLike 40 = .ok (.iload_n 2, 1) := by decide +kernel
theorem dX10_becomeLike_41 : decode cX10_becomeLike 41 = .ok (.aaload, 1) := by decide +kernel
theorem dX10_becomeLike_42 : decode cX10_becomeLike 42 = .ok (.invokevirtual 219, 3) := by decide +kernel
theorem dX10_becomeLike_45 : decode cX10_becomeLike 45 = .ok (.iinc 2 1, 3) := by decide +kernel
theorem dX10_becomeLike_48 : decode cX10_becomeLike 48 = .ok (.goto (-24), 3) := by decide +kernel
theorem dX10_becomeLike_51 : decode cX10_becomeLike 51 = .ok (.iconst 0, 1) := by decide +kernel
theorem dX10_becomeLike_52 : decode cX10_becomeLike 52 = .ok (.istore_n 2, 1) := by decide +kernel
theorem dX10_becomeLike_53 : decode cX10_becomeLike 53 = .ok (.iload_n 2, 1) := by decide +kernel
theorem dX10_becomeLike_54 : decode cX10_becomeLike 54 = .ok (.bipush 12, 2) := by decide +kernel
theorem dX10_becomeLike_56 : decode cX10_becomeLike 56 = .ok (.if_icmp .ge 24, 3) := by decide +kernel
theorem dX10_becomeLike_59 : decode cX10_becomeLike 59 = .ok (.aload_n 0, 1) := by decide +kernel
theorem dX10_becomeLike_60 : decode cX10_becomeLike 60 = .ok (.getfield 35, 3) := by decide +kernel
theorem dX10_becomeLike_63 : decode cX10_becomeLike 63 = .ok (.iload_n 2, 1) := by decide +kernel
theorem dX10_becomeLike_64 : decode cX10_becomeLike 64 = .ok (.aaload, 1) := by decide +kernel
theorem dX10_becomeLike_65 : decode cX10_becomeLike 65 = .ok (.aload_n 1, 1) := by decide +kernel
theorem dX10_becomeLike_66 : decode cX10_becomeLike 66 = .ok (.getfield 35, 3) := by decide +kernel
theorem dX10_becomeLike_69 : decode cX10_becomeLike 69 = .ok (.iload_n 2, 1) := by decide +kernel
theorem dX10_becomeLike_70 : decode cX10_becomeLike 70 = .ok (.aaload, 1) := by decide +kernel
theorem dX10_becomeLike_71 : decode cX10_becomeLike 71 = .ok (.invokevirtual 222, 3) := by decide +kernel
theorem dX10_becomeLike_74 : decode cX10_becomeLike 74 = .ok (.iinc 2 1, 3) := by decide +kernel
theorem dX10_becomeLike_77 : decode cX10_becomeLike 77 = .ok (.goto (-24), 3) := by decide +kernel
theorem dX10_becomeLike_80 : decode cX10_becomeLike 80 = .ok (.iconst 0, 1) := by decide +kernel
theorem dX10_becomeLike_81 : decode cX10_becomeLike 81 = .ok (.istore_n 2, 1) := by decide +kernel
theorem dX10_becomeLike_82 : decode cX10_becomeLike 82 = .ok (.iload_n 2, 1) := by decide +kernel
theorem dX10_becomeLike_83 : decode cX10_becomeLike 83 = .ok (.bipush 8, 2) := by decide +kernel
theorem dX10_becomeLike_85 : decode cX10_becomeLike 85 = .ok (.if_icmp .ge 21, 3) := by decide +kernel
theorem dX10_becomeLike_88 : decode cX10_becomeLike 88 = .ok (.aload_n 0, 1) := by decide +kernel
theorem dX10_becomeLike_89 : decode cX10_becomeLike 89 = .ok (.getfield 41, 3) := by decide +kernel
theorem dX10_becomeLike_92 : decode cX10_becomeLike 92 = .ok (.iload_n 2, 1) := by decide +kernel
theorem dX10_becomeLike_93 : decode cX10_becomeLike 93 = .ok (.aload_n 1, 1) := by decide +kernel
theorem dX10_becomeLike_94 : decode cX10_becomeLike 94 = .ok (.getfield 41, 3) := by decide +kernel
theorem dX10_becomeLike_97 : decode cX10_becomeLike 97 = .ok (.iload_n 2, 1) := by decide +kernel
theorem dX10_becomeLike_98 : decode cX10_becomeLike 98 = .ok (.aaload, 1) := by decide +kernel
theorem dX10_becomeLike_99 : decode cX10_becomeLike 99 = .ok (.aastore, 1) := by decide +kernel
theorem dX10_becomeLike_100 : decode cX10_becomeLike 100 = .ok (.iinc 2 1, 3) := by decide +kernel
theorem dX10_becomeLike_103 : decode cX10_becomeLike 103 = .ok (.goto (-21), 3) := by decide +kernel
theorem dX10_becomeLike_106 : decode cX10_becomeLike 106 = .ok (.aload_n 0, 1) := by decide +kernel
theorem dX10_becomeLike_107 : decode cX10_becomeLike 107 = .ok (.getfield 45, 3) := by decide +kernel
theorem dX10_becomeLike_110 : decode cX10_becomeLike 110 = .ok (.aload_n 1, 1) := by decide +kernel
theorem dX10_becomeLike_111 : decode cX10_becomeLike 111 = .ok (.getfield 45, 3) := by decide +kernel
theorem dX10_becomeLike_114 : decode cX10_becomeLike 114 = .ok (.invokevirtual 216, 3) := by decide +kernel
theorem dX10_becomeLike_117 : decode cX10_becomeLike 117 = .ok (.aload_n 0, 1) := by decide +kernel
theorem dX10_becomeLike_118 : decode cX10_becomeLike 118 = .ok (.getfield 48, 3) := by decide +kernel
theorem dX10_becomeLike_121 : decode cX10_becomeLike 121 = .ok (.aload_n 1, 1) := by decide +kernel
theorem dX10_becomeLike_122 : decode cX10_becomeLike 122 = .ok (.getfield 48, 3) := by decide +kernel
theorem dX10_becomeLike_125 : decode cX10_becomeLike 125 = .ok (.invokevirtual 216, 3) := by decide +kernel
